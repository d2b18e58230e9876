def F_X12_in (p1 : Int32) (p2 : Int32) (p3 : Int32) : Int32 := (if p1 < p2 then 0 else (if p3 < p1 then 0 else 1))
set_option maxHeartbeats 4000000 in
theorem ok_X12_in {E : GE} {T : TM} {I : IM} {J : JM} {P : PM} {p1 : Int32} {p2 : Int32} {p3 : Int32} (hL : LOK T P) : Ctr E mX12_in 0 0 0 [.int p1, .int p2, .int p3] T I J P (some (.int (F_X12_in p1 p2 p3))) T I J P := by
  generalize hF : F_X12_in p1 p2 p3 = r
  unfold F_X12_in at hF
  refine ctr_intro rfl (by decide) (Nat.le_of_ble_eq_true rfl) ?_
  refine r_sub (ls' := [(2, .int p3), (1, .int p2), (0, .int p1)]) [2, 1, 0] rfl ?_
  refine r_iload_n dX12_in_0 rfl rfl ?_
  refine r_iload_n dX12_in_1 rfl rfl ?_
  refine r_icmp_lt (tgt := 14) dX12_in_2 (by decide) (fun h1 => ?_) (fun h1 => ?_)
  · have hF := tw hF h1
    refine r_iconst (v := 0) dX12_in_14 (by decide) ?_
    obtain rfl := hF
    exact r_ireturn rfl rfl dX12_in_15 (Nat.le_of_ble_eq_true rfl) (Nat.le_of_ble_eq_true rfl)
  · have hF := fw hF h1
    refine r_iload_n dX12_in_5 rfl rfl ?_
    refine r_iload_n dX12_in_6 rfl rfl ?_
    refine r_icmp_gt (tgt := 14) dX12_in_7 (by decide) (fun h2 => ?_) (fun h2 => ?_)
    · have hF := tw hF h2
      refine r_iconst (v := 0) dX12_in_14 (by decide) ?_
      obtain rfl := hF
      exact r_ireturn rfl rfl dX12_in_15 (Nat.le_of_ble_eq_true rfl) (Nat.le_of_ble_eq_true rfl)
    · have hF := fw hF h2
      refine r_iconst (v := 1) dX12_in_10 (by decide) ?_
      refine r_goto (tgt := 15) dX12_in_11 (by decide) ?_
      obtain rfl := hF
      exact r_ireturn rfl rfl dX12_in_15 (Nat.le_of_ble_eq_true rfl) (Nat.le_of_ble_eq_true rfl)
theorem nz_X12_in (p1 : Int32) (p2 : Int32) (p3 : Int32) : narrow .boolean (.int (F_X12_in p1 p2 p3)) = .int (F_X12_in p1 p2 p3) := by
  unfold F_X12_in
  repeat' split
  all_goals first | rfl
def F_X12_isCard (I : IM) (p1 : Int32) : Int32 := (F_X12_in p1 0 ((I 101 0) - 1))
set_option maxHeartbeats 4000000 in
theorem ok_X12_isCard {E : GE} {T : TM} {I : IM} {J : JM} {P : PM} {p1 : Int32} (hL : LOK T P) : Ctr E mX12_isCard 1 0 0 [.ref 101, .int p1] T I J P (some (.int (F_X12_isCard I p1))) T I J P := by
  generalize hF : F_X12_isCard I p1 = r
  unfold F_X12_isCard at hF
  refine ctr_intro rfl (by decide) (Nat.le_of_ble_eq_true rfl) ?_
  refine r_sub (ls' := [(1, .int p1), (0, .ref 101)]) [1, 0] rfl ?_
  refine r_iload_n dX12_isCard_0 rfl rfl ?_
  refine r_iconst (v := 0) dX12_isCard_1 (by decide) ?_
  refine r_aload_n dX12_isCard_2 rfl rfl ?_
  refine r_getI lk_X12_81 (ln_101 hL) dX12_isCard_3 ?_
  refine r_iconst (v := 1) dX12_isCard_6 (by decide) ?_
  refine r_isub dX12_isCard_7 ?_
  refine c_static_i (As := [.int p1, .int 0, .int ((I 101 0) - 1)]) mi_X12_in kw_1085 kw_1084 (ok_X12_in hL  (p1 := p1) (p2 := 0) (p3 := ((I 101 0) - 1))) rfl rfl (Nat.le_of_ble_eq_true rfl) ⟨Nat.le_of_ble_eq_true rfl, Nat.le_of_ble_eq_true rfl⟩ ⟨Nat.le_of_ble_eq_true rfl, Nat.le_of_ble_eq_true rfl⟩ dX12_isCard_8 ?_
  obtain rfl := hF
  exact r_ireturn rfl (nz_X12_in p1 0 ((I 101 0) - 1)) dX12_isCard_11 (Nat.le_of_ble_eq_true rfl) (Nat.le_of_ble_eq_true rfl)
theorem nz_X12_isCard (I : IM) (p1 : Int32) : narrow .boolean (.int (F_X12_isCard I p1)) = .int (F_X12_isCard I p1) := by
  unfold F_X12_isCard
  repeat' split
  all_goals first | (with_reducible exact nz_X12_in ..) | rfl
def F_X12_isSide (p1 : Int32) : Int32 := (F_X12_in p1 0 1)
set_option maxHeartbeats 4000000 in
theorem ok_X12_isSide {E : GE} {T : TM} {I : IM} {J : JM} {P : PM} {p1 : Int32} (hL : LOK T P) : Ctr E mX12_isSide 1 0 0 [.int p1] T I J P (some (.int (F_X12_isSide p1))) T I J P := by
  generalize hF : F_X12_isSide p1 = r
  unfold F_X12_isSide at hF
  refine ctr_intro rfl (by decide) (Nat.le_of_ble_eq_true rfl) ?_
  refine r_sub (ls' := [(0, .int p1)]) [0] rfl ?_
  refine r_iload_n dX12_isSide_0 rfl rfl ?_
  refine r_iconst (v := 0) dX12_isSide_1 (by decide) ?_
  refine r_iconst (v := 1) dX12_isSide_2 (by decide) ?_
  refine c_static_i (As := [.int p1, .int 0, .int 1]) mi_X12_in kw_1085 kw_1084 (ok_X12_in hL  (p1 := p1) (p2 := 0) (p3 := 1)) rfl rfl (Nat.le_of_ble_eq_true rfl) ⟨Nat.le_of_ble_eq_true rfl, Nat.le_of_ble_eq_true rfl⟩ ⟨Nat.le_of_ble_eq_true rfl, Nat.le_of_ble_eq_true rfl⟩ dX12_isSide_3 ?_
  obtain rfl := hF
  exact r_ireturn rfl (nz_X12_in p1 0 1) dX12_isSide_6 (Nat.le_of_ble_eq_true rfl) (Nat.le_of_ble_eq_true rfl)
theorem nz_X12_isSide (p1 : Int32) : narrow .boolean (.int (F_X12_isSide p1)) = .int (F_X12_isSide p1) := by
  unfold F_X12_isSide
  repeat' split
  all_goals first | (with_reducible exact nz_X12_in ..) | rfl
def F_X12_its (I : IM) (p1 : Int32) (p2 : Int32) : Option (Int32) := (if inb ((4 * p1) + p2) 24 = true then (some (I 102 ((4 * p1) + p2).toNatClampNeg)) else none)
set_option maxHeartbeats 4000000 in
theorem ok_X12_its {E : GE} {T : TM} {I : IM} {J : JM} {P : PM} {p1 : Int32} {p2 : Int32} {x : Int32} (hL : LOK T P) (hF : F_X12_its I p1 p2 = some x) : Ctr E mX12_its 0 0 0 [.ref 101, .int p1, .int p2] T I J P (some (.int x)) T I J P := by
  unfold F_X12_its at hF
  refine ctr_intro rfl (by decide) (Nat.le_of_ble_eq_true rfl) ?_
  refine r_sub (ls' := [(2, .int p2), (1, .int p1), (0, .ref 101)]) [2, 1, 0] rfl ?_
  refine r_aload_n dX12_its_0 rfl rfl ?_
  refine r_getP lk_X12_7 (ln_101 hL) (pp_101_1 hL) dX12_its_1 ?_
  refine r_iconst (v := 4) dX12_its_4 (by decide) ?_
  refine r_iload_n dX12_its_5 rfl rfl ?_
  refine r_imul dX12_its_6 ?_
  refine r_iload_n dX12_its_7 rfl rfl ?_
  refine r_iadd dX12_its_8 ?_
  obtain ⟨g1, hF⟩ := gd hF
  refine r_iald (ln_102 hL) (by rw [(nl_102 hL)]; exact g1) dX12_its_9 ?_
  obtain rfl := Option.some.inj hF
  exact r_ireturn rfl rfl dX12_its_10 (Nat.le_of_ble_eq_true rfl) (Nat.le_of_ble_eq_true rfl)
def F_X12_bare (p1 : Int32) : Int32 := (if 0 ≤ p1 then p1 else (-p1))
set_option maxHeartbeats 4000000 in
theorem ok_X12_bare {E : GE} {T : TM} {I : IM} {J : JM} {P : PM} {p1 : Int32} (hL : LOK T P) : Ctr E mX12_bare 0 0 0 [.int p1] T I J P (some (.int (F_X12_bare p1))) T I J P := by
  generalize hF : F_X12_bare p1 = r
  unfold F_X12_bare at hF
  refine ctr_intro rfl (by decide) (Nat.le_of_ble_eq_true rfl) ?_
  refine r_sub (ls' := [(0, .int p1)]) [0] rfl ?_
  refine r_iload_n dX12_bare_0 rfl rfl ?_
  refine r_if_ge (tgt := 9) dX12_bare_1 (by decide) (fun h1 => ?_) (fun h1 => ?_)
  · have hF := tw hF h1
    refine r_iload_n dX12_bare_9 rfl rfl ?_
    obtain rfl := hF
    exact r_ireturn rfl rfl dX12_bare_10 (Nat.le_of_ble_eq_true rfl) (Nat.le_of_ble_eq_true rfl)
  · have hF := fw hF h1
    refine r_iload_n dX12_bare_4 rfl rfl ?_
    refine r_ineg dX12_bare_5 ?_
    refine r_goto (tgt := 10) dX12_bare_6 (by decide) ?_
    obtain rfl := hF
    exact r_ireturn rfl rfl dX12_bare_10 (Nat.le_of_ble_eq_true rfl) (Nat.le_of_ble_eq_true rfl)
def F_X12_kept (p1 : Int32) (p2 : Int32) : Int32 := (if (-p2) ≤ p1 then (if p1 ≤ p2 then p1 else p2) else (-p2))
set_option maxHeartbeats 4000000 in
theorem ok_X12_kept {E : GE} {T : TM} {I : IM} {J : JM} {P : PM} {p1 : Int32} {p2 : Int32} (hL : LOK T P) : Ctr E mX12_kept 0 0 0 [.int p1, .int p2] T I J P (some (.int (F_X12_kept p1 p2))) T I J P := by
  generalize hF : F_X12_kept p1 p2 = r
  unfold F_X12_kept at hF
  refine ctr_intro rfl (by decide) (Nat.le_of_ble_eq_true rfl) ?_
  refine r_sub (ls' := [(1, .int p2), (0, .int p1)]) [1, 0] rfl ?_
  refine r_iload_n dX12_kept_0 rfl rfl ?_
  refine r_iload_n dX12_kept_1 rfl rfl ?_
  refine r_ineg dX12_kept_2 ?_
  refine r_icmp_ge (tgt := 11) dX12_kept_3 (by decide) (fun h1 => ?_) (fun h1 => ?_)
  · have hF := tw hF h1
    refine r_iload_n dX12_kept_11 rfl rfl ?_
    refine r_iload_n dX12_kept_12 rfl rfl ?_
    refine r_icmp_le (tgt := 20) dX12_kept_13 (by decide) (fun h2 => ?_) (fun h2 => ?_)
    · have hF := tw hF h2
      refine r_iload_n dX12_kept_20 rfl rfl ?_
      obtain rfl := hF
      exact r_ireturn rfl rfl dX12_kept_21 (Nat.le_of_ble_eq_true rfl) (Nat.le_of_ble_eq_true rfl)
    · have hF := fw hF h2
      refine r_iload_n dX12_kept_16 rfl rfl ?_
      refine r_goto (tgt := 21) dX12_kept_17 (by decide) ?_
      obtain rfl := hF
      exact r_ireturn rfl rfl dX12_kept_21 (Nat.le_of_ble_eq_true rfl) (Nat.le_of_ble_eq_true rfl)
  · have hF := fw hF h1
    refine r_iload_n dX12_kept_6 rfl rfl ?_
    refine r_ineg dX12_kept_7 ?_
    refine r_goto (tgt := 21) dX12_kept_8 (by decide) ?_
    obtain rfl := hF
    exact r_ireturn rfl rfl dX12_kept_21 (Nat.le_of_ble_eq_true rfl) (Nat.le_of_ble_eq_true rfl)
def F_X12_isLike (p1 : Int32) (p2 : Int32) (p3 : Int32) (p4 : Int32) : Int32 := (if (F_X12_in p1 0 5) = 0 then 0 else (if (F_X12_in p2 1 99) = 0 then 0 else (if (F_X12_in p3 1 9) = 0 then 0 else (if (F_X12_in p4 (-4) 4) = 0 then 0 else 1))))
set_option maxHeartbeats 4000000 in
theorem ok_X12_isLike {E : GE} {T : TM} {I : IM} {J : JM} {P : PM} {p1 : Int32} {p2 : Int32} {p3 : Int32} {p4 : Int32} (hL : LOK T P) : Ctr E mX12_isLike 1 0 0 [.int p1, .int p2, .int p3, .int p4] T I J P (some (.int (F_X12_isLike p1 p2 p3 p4))) T I J P := by
  generalize hF : F_X12_isLike p1 p2 p3 p4 = r
  unfold F_X12_isLike at hF
  refine ctr_intro rfl (by decide) (Nat.le_of_ble_eq_true rfl) ?_
  refine r_sub (ls' := [(3, .int p4), (2, .int p3), (1, .int p2), (0, .int p1)]) [3, 2, 1, 0] rfl ?_
  refine r_iload_n dX12_isLike_0 rfl rfl ?_
  refine r_iconst (v := 0) dX12_isLike_1 (by decide) ?_
  refine r_iconst (v := 5) dX12_isLike_2 (by decide) ?_
  refine c_static_i (As := [.int p1, .int 0, .int 5]) mi_X12_in kw_1085 kw_1084 (ok_X12_in hL  (p1 := p1) (p2 := 0) (p3 := 5)) rfl rfl (Nat.le_of_ble_eq_true rfl) ⟨Nat.le_of_ble_eq_true rfl, Nat.le_of_ble_eq_true rfl⟩ ⟨Nat.le_of_ble_eq_true rfl, Nat.le_of_ble_eq_true rfl⟩ dX12_isLike_3 ?_
  refine r_if_eq (tgt := 43) dX12_isLike_6 (by decide) (fun h1 => ?_) (fun h1 => ?_)
  · have hF := tw hF h1
    refine r_iconst (v := 0) dX12_isLike_43 (by decide) ?_
    obtain rfl := hF
    exact r_ireturn rfl rfl dX12_isLike_44 (Nat.le_of_ble_eq_true rfl) (Nat.le_of_ble_eq_true rfl)
  · have hF := fw hF h1
    refine r_iload_n dX12_isLike_9 rfl rfl ?_
    refine r_iconst (v := 1) dX12_isLike_10 (by decide) ?_
    refine r_bipush (v := 99) dX12_isLike_11 (by decide) ?_
    refine c_static_i (As := [.int p2, .int 1, .int 99]) mi_X12_in kw_1085 kw_1084 (ok_X12_in hL  (p1 := p2) (p2 := 1) (p3 := 99)) rfl rfl (Nat.le_of_ble_eq_true rfl) ⟨Nat.le_of_ble_eq_true rfl, Nat.le_of_ble_eq_true rfl⟩ ⟨Nat.le_of_ble_eq_true rfl, Nat.le_of_ble_eq_true rfl⟩ dX12_isLike_13 ?_
    refine r_if_eq (tgt := 43) dX12_isLike_16 (by decide) (fun h2 => ?_) (fun h2 => ?_)
    · have hF := tw hF h2
      refine r_iconst (v := 0) dX12_isLike_43 (by decide) ?_
      obtain rfl := hF
      exact r_ireturn rfl rfl dX12_isLike_44 (Nat.le_of_ble_eq_true rfl) (Nat.le_of_ble_eq_true rfl)
    · have hF := fw hF h2
      refine r_iload_n dX12_isLike_19 rfl rfl ?_
      refine r_iconst (v := 1) dX12_isLike_20 (by decide) ?_
      refine r_bipush (v := 9) dX12_isLike_21 (by decide) ?_
      refine c_static_i (As := [.int p3, .int 1, .int 9]) mi_X12_in kw_1085 kw_1084 (ok_X12_in hL  (p1 := p3) (p2 := 1) (p3 := 9)) rfl rfl (Nat.le_of_ble_eq_true rfl) ⟨Nat.le_of_ble_eq_true rfl, Nat.le_of_ble_eq_true rfl⟩ ⟨Nat.le_of_ble_eq_true rfl, Nat.le_of_ble_eq_true rfl⟩ dX12_isLike_23 ?_
      refine r_if_eq (tgt := 43) dX12_isLike_26 (by decide) (fun h3 => ?_) (fun h3 => ?_)
      · have hF := tw hF h3
        refine r_iconst (v := 0) dX12_isLike_43 (by decide) ?_
        obtain rfl := hF
        exact r_ireturn rfl rfl dX12_isLike_44 (Nat.le_of_ble_eq_true rfl) (Nat.le_of_ble_eq_true rfl)
      · have hF := fw hF h3
        refine r_iload_n dX12_isLike_29 rfl rfl ?_
        refine r_bipush (v := (-4)) dX12_isLike_30 (by decide) ?_
        refine r_iconst (v := 4) dX12_isLike_32 (by decide) ?_
        refine c_static_i (As := [.int p4, .int (-4), .int 4]) mi_X12_in kw_1085 kw_1084 (ok_X12_in hL  (p1 := p4) (p2 := (-4)) (p3 := 4)) rfl rfl (Nat.le_of_ble_eq_true rfl) ⟨Nat.le_of_ble_eq_true rfl, Nat.le_of_ble_eq_true rfl⟩ ⟨Nat.le_of_ble_eq_true rfl, Nat.le_of_ble_eq_true rfl⟩ dX12_isLike_33 ?_
        refine r_if_eq (tgt := 43) dX12_isLike_36 (by decide) (fun h4 => ?_) (fun h4 => ?_)
        · have hF := tw hF h4
          refine r_iconst (v := 0) dX12_isLike_43 (by decide) ?_
          obtain rfl := hF
          exact r_ireturn rfl rfl dX12_isLike_44 (Nat.le_of_ble_eq_true rfl) (Nat.le_of_ble_eq_true rfl)
        · have hF := fw hF h4
          refine r_iconst (v := 1) dX12_isLike_39 (by decide) ?_
          refine r_goto (tgt := 44) dX12_isLike_40 (by decide) ?_
          obtain rfl := hF
          exact r_ireturn rfl rfl dX12_isLike_44 (Nat.le_of_ble_eq_true rfl) (Nat.le_of_ble_eq_true rfl)
theorem nz_X12_isLike (p1 : Int32) (p2 : Int32) (p3 : Int32) (p4 : Int32) : narrow .boolean (.int (F_X12_isLike p1 p2 p3 p4)) = .int (F_X12_isLike p1 p2 p3 p4) := by
  unfold F_X12_isLike
  repeat' split
  all_goals first | rfl
def G_X12_feed_30 (N : Nat) (u1 : Int64) (u3 : Int32) : Nat → Int32 → IM → Option (Int32 × IM)
  | 0, _, _ => none
  | n + 1, u4, Iv => (if u3 ≤ u4 then (some ((Iv 101 8), Iv)) else (if inb (Iv 101 8) 200 = true then (letb (up2 Iv 107 (Iv 101 8).toNatClampNeg (Int64.toInt32 ((u1 >>> (Int32.toInt64 (8 * u4) &&& 63)) &&& 255))) (fun I6 : IM => (letb (up2 I6 101 8 ((I6 101 8) + 1)) (fun I7 : IM => (G_X12_feed_30 N u1 u3 n (u4 + 1) I7))))) else none))
set_option maxHeartbeats 4000000 in
theorem okG_X12_feed_30 {E : GE} {T : TM} {J : JM} {P : PM} {N : Nat} {u1 : Int64} {u3 : Int32} {x : Int32 × IM} (hL : LOK T P) : ∀ (n : Nat) (u4 : Int32) (Iv : IM), G_X12_feed_30 N u1 u3 n u4 Iv = some x → WW E mX12_feed (RM 1 0 0) (ZM E 0 0 (some (.int x.1)) T x.2 J P) 0 0 T Iv J P 30 [(0, .ref 101), (1, .long u1), (3, .int u3), (4, .int u4)] [] := by
  intro n
  induction n with
  | zero =>
    intro u4 Iv hF
    cases hF
  | succ n ih =>
    intro u4 Iv hF
    rw [G_X12_feed_30] at hF
    refine r_iload dX12_feed_30 rfl ?_
    refine r_iload_n dX12_feed_32 rfl rfl ?_
    refine r_icmp_ge (tgt := 73) dX12_feed_33 (by decide) (fun h4 => ?_) (fun h4 => ?_)
    · have hF := tw hF h4
      refine r_aload_n dX12_feed_73 rfl rfl ?_
      refine r_getI lk_X12_88 (ln_101 hL) dX12_feed_74 ?_
      obtain rfl := Option.some.inj hF
      exact r_ireturn rfl rfl dX12_feed_77 (Nat.le_of_ble_eq_true rfl) (Nat.le_of_ble_eq_true rfl)
    · have hF := fw hF h4
      refine r_aload_n dX12_feed_36 rfl rfl ?_
      refine r_getP lk_X12_29 (ln_101 hL) (pp_101_7 hL) dX12_feed_37 ?_
      refine r_aload_n dX12_feed_40 rfl rfl ?_
      refine r_getI lk_X12_88 (ln_101 hL) dX12_feed_41 ?_
      refine r_lload_n dX12_feed_44 rfl rfl ?_
      refine r_bipush (v := 8) dX12_feed_45 (by decide) ?_
      refine r_iload dX12_feed_47 rfl ?_
      refine r_imul dX12_feed_49 ?_
      refine r_lshr dX12_feed_50 ?_
      refine r_ldc2 dX12_feed_51 kw_1087 ?_
      refine r_land dX12_feed_54 ?_
      refine r_l2i dX12_feed_55 ?_
      obtain ⟨g5, hF⟩ := gd hF
      refine r_iast (ln_107 hL) (by rw [(nl_107 hL)]; exact g5) dX12_feed_56 ?_
      refine r_letI hF (fun I6 hF => ?_)
      refine r_aload_n dX12_feed_57 rfl rfl ?_
      refine r_dup dX12_feed_58 rfl ?_
      refine r_getI lk_X12_88 (ln_101 hL) dX12_feed_59 ?_
      refine r_iconst (v := 1) dX12_feed_62 (by decide) ?_
      refine r_iadd dX12_feed_63 ?_
      refine r_putI lk_X12_88 (Or.inl rfl) (ln_101 hL) rfl rfl dX12_feed_64 ?_
      refine r_letI hF (fun I7 hF => ?_)
      refine r_iinc (v := (u4 + 1)) (ls' := [(4, .int (u4 + 1)), (0, .ref 101), (1, .long u1), (3, .int u3)]) dX12_feed_67 rfl rfl (by decide) rfl ?_
      refine r_goto (tgt := 30) dX12_feed_70 (by decide) ?_
      refine r_sub (ls' := [(0, .ref 101), (1, .long u1), (3, .int u3), (4, .int (u4 + 1))]) [1, 2, 3, 0] rfl ?_
      exact ih (u4 + 1) I7 hF
def F_X12_feed (N : Nat) (I : IM) (p1 : Int64) (p2 : Int32) : Option (Int32 × IM) := (if (F_X12_in p2 1 8) = 0 then (some ((-1), I)) else (if ((I 101 8) + p2) ≤ 200 then (G_X12_feed_30 N p1 p2 N 0 I) else (some ((-2), I))))
set_option maxHeartbeats 4000000 in
theorem ok_X12_feed {E : GE} {T : TM} {I : IM} {J : JM} {P : PM} {p1 : Int64} {p2 : Int32} {N : Nat} {x : Int32 × IM} (hL : LOK T P) (hF : F_X12_feed N I p1 p2 = some x) : Ctr E mX12_feed 1 0 0 [.ref 101, .long p1, .int p2] T I J P (some (.int x.1)) T x.2 J P := by
  unfold F_X12_feed at hF
  refine ctr_intro rfl (by decide) (Nat.le_of_ble_eq_true rfl) ?_
  refine r_sub (ls' := [(3, .int p2), (1, .long p1), (0, .ref 101)]) [2, 1, 0] rfl ?_
  refine r_iload_n dX12_feed_0 rfl rfl ?_
  refine r_iconst (v := 1) dX12_feed_1 (by decide) ?_
  refine r_bipush (v := 8) dX12_feed_2 (by decide) ?_
  refine c_static_i (As := [.int p2, .int 1, .int 8]) mi_X12_in kw_1085 kw_1084 (ok_X12_in hL  (p1 := p2) (p2 := 1) (p3 := 8)) rfl rfl (Nat.le_of_ble_eq_true rfl) ⟨Nat.le_of_ble_eq_true rfl, Nat.le_of_ble_eq_true rfl⟩ ⟨Nat.le_of_ble_eq_true rfl, Nat.le_of_ble_eq_true rfl⟩ dX12_feed_4 ?_
  refine r_if_ne (tgt := 12) dX12_feed_7 (by decide) (fun h1 => ?_) (fun h1 => ?_)
  · have hF := fw hF h1
    refine r_aload_n dX12_feed_12 rfl rfl ?_
    refine r_getI lk_X12_88 (ln_101 hL) dX12_feed_13 ?_
    refine r_iload_n dX12_feed_16 rfl rfl ?_
    refine r_iadd dX12_feed_17 ?_
    refine r_sipush (v := 200) dX12_feed_18 (by decide) ?_
    refine r_icmp_le (tgt := 27) dX12_feed_21 (by decide) (fun h2 => ?_) (fun h2 => ?_)
    · have hF := tw hF h2
      refine r_iconst (v := 0) dX12_feed_27 (by decide) ?_
      refine r_istore (ls' := [(4, .int 0), (3, .int p2), (1, .long p1), (0, .ref 101)]) dX12_feed_28 (by decide) rfl ?_
      refine r_sub (ls' := [(0, .ref 101), (1, .long p1), (3, .int p2), (4, .int 0)]) [3, 2, 1, 0] rfl ?_
      exact okG_X12_feed_30 hL   N 0 I hF
    · have hF := fw hF h2
      refine r_bipush (v := (-2)) dX12_feed_24 (by decide) ?_
      obtain rfl := Option.some.inj hF
      exact r_ireturn rfl rfl dX12_feed_26 (Nat.le_of_ble_eq_true rfl) (Nat.le_of_ble_eq_true rfl)
  · have hF := tw hF h1
    refine r_iconst (v := (-1)) dX12_feed_10 (by decide) ?_
    obtain rfl := Option.some.inj hF
    exact r_ireturn rfl rfl dX12_feed_11 (Nat.le_of_ble_eq_true rfl) (Nat.le_of_ble_eq_true rfl)
def F_X12_byteAt (I : IM) (p1 : Int32) : Option (Int32) := (if (I 101 8) ≤ p1 then (some (-1)) else (if inb p1 200 = true then (some (I 107 p1.toNatClampNeg)) else none))
set_option maxHeartbeats 4000000 in
theorem ok_X12_byteAt {E : GE} {T : TM} {I : IM} {J : JM} {P : PM} {p1 : Int32} {x : Int32} (hL : LOK T P) (hF : F_X12_byteAt I p1 = some x) : Ctr E mX12_byteAt 0 0 0 [.ref 101, .int p1] T I J P (some (.int x)) T I J P := by
  unfold F_X12_byteAt at hF
  refine ctr_intro rfl (by decide) (Nat.le_of_ble_eq_true rfl) ?_
  refine r_sub (ls' := [(1, .int p1), (0, .ref 101)]) [1, 0] rfl ?_
  refine r_iload_n dX12_byteAt_0 rfl rfl ?_
  refine r_aload_n dX12_byteAt_1 rfl rfl ?_
  refine r_getI lk_X12_88 (ln_101 hL) dX12_byteAt_2 ?_
  refine r_icmp_ge (tgt := 17) dX12_byteAt_5 (by decide) (fun h1 => ?_) (fun h1 => ?_)
  · have hF := tw hF h1
    refine r_iconst (v := (-1)) dX12_byteAt_17 (by decide) ?_
    obtain rfl := Option.some.inj hF
    exact r_ireturn rfl rfl dX12_byteAt_18 (Nat.le_of_ble_eq_true rfl) (Nat.le_of_ble_eq_true rfl)
  · have hF := fw hF h1
    refine r_aload_n dX12_byteAt_8 rfl rfl ?_
    refine r_getP lk_X12_29 (ln_101 hL) (pp_101_7 hL) dX12_byteAt_9 ?_
    refine r_iload_n dX12_byteAt_12 rfl rfl ?_
    obtain ⟨g2, hF⟩ := gd hF
    refine r_iald (ln_107 hL) (by rw [(nl_107 hL)]; exact g2) dX12_byteAt_13 ?_
    refine r_goto (tgt := 18) dX12_byteAt_14 (by decide) ?_
    obtain rfl := Option.some.inj hF
    exact r_ireturn rfl rfl dX12_byteAt_18 (Nat.le_of_ble_eq_true rfl) (Nat.le_of_ble_eq_true rfl)
def F_X12_isLetter (p1 : Int32) : Int32 := (F_X12_in p1 97 122)
set_option maxHeartbeats 4000000 in
theorem ok_X12_isLetter {E : GE} {T : TM} {I : IM} {J : JM} {P : PM} {p1 : Int32} (hL : LOK T P) : Ctr E mX12_isLetter 1 0 0 [.int p1] T I J P (some (.int (F_X12_isLetter p1))) T I J P := by
  generalize hF : F_X12_isLetter p1 = r
  unfold F_X12_isLetter at hF
  refine ctr_intro rfl (by decide) (Nat.le_of_ble_eq_true rfl) ?_
  refine r_sub (ls' := [(0, .int p1)]) [0] rfl ?_
  refine r_iload_n dX12_isLetter_0 rfl rfl ?_
  refine r_bipush (v := 97) dX12_isLetter_1 (by decide) ?_
  refine r_bipush (v := 122) dX12_isLetter_3 (by decide) ?_
  refine c_static_i (As := [.int p1, .int 97, .int 122]) mi_X12_in kw_1085 kw_1084 (ok_X12_in hL  (p1 := p1) (p2 := 97) (p3 := 122)) rfl rfl (Nat.le_of_ble_eq_true rfl) ⟨Nat.le_of_ble_eq_true rfl, Nat.le_of_ble_eq_true rfl⟩ ⟨Nat.le_of_ble_eq_true rfl, Nat.le_of_ble_eq_true rfl⟩ dX12_isLetter_5 ?_
  obtain rfl := hF
  exact r_ireturn rfl (nz_X12_in p1 97 122) dX12_isLetter_8 (Nat.le_of_ble_eq_true rfl) (Nat.le_of_ble_eq_true rfl)
theorem nz_X12_isLetter (p1 : Int32) : narrow .boolean (.int (F_X12_isLetter p1)) = .int (F_X12_isLetter p1) := by
  unfold F_X12_isLetter
  repeat' split
  all_goals first | (with_reducible exact nz_X12_in ..) | rfl
def F_X12_isDigit (p1 : Int32) : Int32 := (F_X12_in p1 48 57)
set_option maxHeartbeats 4000000 in
theorem ok_X12_isDigit {E : GE} {T : TM} {I : IM} {J : JM} {P : PM} {p1 : Int32} (hL : LOK T P) : Ctr E mX12_isDigit 1 0 0 [.int p1] T I J P (some (.int (F_X12_isDigit p1))) T I J P := by
  generalize hF : F_X12_isDigit p1 = r
  unfold F_X12_isDigit at hF
  refine ctr_intro rfl (by decide) (Nat.le_of_ble_eq_true rfl) ?_
  refine r_sub (ls' := [(0, .int p1)]) [0] rfl ?_
  refine r_iload_n dX12_isDigit_0 rfl rfl ?_
  refine r_bipush (v := 48) dX12_isDigit_1 (by decide) ?_
  refine r_bipush (v := 57) dX12_isDigit_3 (by decide) ?_
  refine c_static_i (As := [.int p1, .int 48, .int 57]) mi_X12_in kw_1085 kw_1084 (ok_X12_in hL  (p1 := p1) (p2 := 48) (p3 := 57)) rfl rfl (Nat.le_of_ble_eq_true rfl) ⟨Nat.le_of_ble_eq_true rfl, Nat.le_of_ble_eq_true rfl⟩ ⟨Nat.le_of_ble_eq_true rfl, Nat.le_of_ble_eq_true rfl⟩ dX12_isDigit_5 ?_
  obtain rfl := hF
  exact r_ireturn rfl (nz_X12_in p1 48 57) dX12_isDigit_8 (Nat.le_of_ble_eq_true rfl) (Nat.le_of_ble_eq_true rfl)
theorem nz_X12_isDigit (p1 : Int32) : narrow .boolean (.int (F_X12_isDigit p1)) = .int (F_X12_isDigit p1) := by
  unfold F_X12_isDigit
  repeat' split
  all_goals first | (with_reducible exact nz_X12_in ..) | rfl
def G_X12_advance_207 (N : Nat) (J : JM) : Nat → IM → Option (IM × JM)
  | 0, _ => none
  | n + 1, Iv => (if (Iv 101 9) = 2 then ((F_X12_byteAt Iv (Iv 101 11)).bind (fun x22 => (if (F_X12_isDigit x22) = 0 then (some (Iv, J)) else (if 2 ≤ ((Iv 101 11) - (Iv 101 10)) then (letb (up2 Iv 101 13 (-1)) (fun I27 : IM => (letb (up2 I27 101 11 ((I27 101 11) + 1)) (fun I28 : IM => (G_X12_advance_207 N J n I28))))) else ((F_X12_byteAt Iv (Iv 101 11)).bind (fun x29 => (letb (up2 Iv 101 13 (((10 * (Iv 101 13)) + x29) - 48)) (fun I30 : IM => (letb (up2 I30 101 11 ((I30 101 11) + 1)) (fun I31 : IM => (G_X12_advance_207 N J n I31))))))))))) else (some (Iv, J)))
def G_X12_advance_126 (N : Nat) : Nat → IM → JM → Option (IM × JM)
  | 0, _, _ => none
  | n + 1, Iv, Jv => (if (Iv 101 9) = 1 then ((F_X12_byteAt Iv (Iv 101 11)).bind (fun x32 => (if (F_X12_isLetter x32) = 0 then (G_X12_advance_207 N Jv N Iv) else (if 8 ≤ ((Iv 101 11) - (Iv 101 10)) then (letb (up2 Jv 101 12 (-1)) (fun J37 : JM => (letb (up2 Iv 101 11 ((Iv 101 11) + 1)) (fun I38 : IM => (G_X12_advance_126 N n I38 J37))))) else ((F_X12_byteAt Iv (Iv 101 11)).bind (fun x39 => (letb (up2 Jv 101 12 (((27 * (Jv 101 12)) + (Int32.toInt64 x39)) - 96)) (fun J40 : JM => (letb (up2 Iv 101 11 ((Iv 101 11) + 1)) (fun I41 : IM => (G_X12_advance_126 N n I41 J40))))))))))) else (G_X12_advance_207 N Jv N Iv))
def G_X12_advance_8 (N : Nat) (J : JM) : Nat → IM → Option (IM × JM)
  | 0, _ => none
  | n + 1, Iv => ((F_X12_byteAt Iv (Iv 101 10)).bind (fun x2 => (if x2 = 32 then (letb (up2 Iv 101 10 ((Iv 101 10) + 1)) (fun I43 : IM => (G_X12_advance_8 N J n I43))) else (letb (up2 Iv 101 11 (Iv 101 10)) (fun I5 : IM => ((F_X12_byteAt I5 (I5 101 10)).bind (fun x6 => (letb (if 0 ≤ x6 then (if (F_X12_isLetter x6) = 0 then (if (F_X12_isDigit x6) = 0 then 3 else 2) else 1) else 0) (fun y10 : Int32 => (letb (up2 I5 101 9 y10) (fun I11 : IM => (letb (up2 J 101 12 0) (fun J12 : JM => (letb (if (I11 101 9) = 2 then 0 else x6) (fun y14 : Int32 => (letb (up2 I11 101 13 y14) (fun I15 : IM => (if (I15 101 9) = 3 then (letb (up2 I15 101 11 ((I15 101 11) + 1)) (fun I42 : IM => (G_X12_advance_126 N N I42 J12))) else (G_X12_advance_126 N N I15 J12)))))))))))))))))))
set_option maxHeartbeats 4000000 in
theorem okG_X12_advance_207 {E : GE} {T : TM} {J : JM} {P : PM} {N : Nat} {x : IM × JM} (hL : LOK T P) : ∀ (n : Nat) (Iv : IM), G_X12_advance_207 N J n Iv = some x → WW E mX12_advance (RM 2 0 0) (ZM E 0 0 none T x.1 x.2 P) 0 0 T Iv J P 207 [(0, .ref 101)] [] := by
  intro n
  induction n with
  | zero =>
    intro Iv hF
    cases hF
  | succ n ih =>
    intro Iv hF
    rw [G_X12_advance_207] at hF
    refine r_aload_n dX12_advance_207 rfl rfl ?_
    refine r_getI lk_X12_110 (ln_101 hL) dX12_advance_208 ?_
    refine r_iconst (v := 2) dX12_advance_211 (by decide) ?_
    refine r_icmp_ne (tgt := 282) dX12_advance_212 (by decide) (fun h21 => ?_) (fun h21 => ?_)
    · have hF := fw hF h21
      obtain rfl := Option.some.inj hF
      exact r_return rfl dX12_advance_282 (Nat.le_of_ble_eq_true rfl) (Nat.le_of_ble_eq_true rfl)
    · have hF := tw hF h21
      refine r_aload_n dX12_advance_215 rfl rfl ?_
      refine r_aload_n dX12_advance_216 rfl rfl ?_
      refine r_getI lk_X12_93 (ln_101 hL) dX12_advance_217 ?_
      obtain ⟨x22, hx22, hF⟩ := bnd hF
      refine c_virt_i (As := [.int (Iv 101 11)]) mi_X12_byteAt kw_1098 ks_25 kw_1096 rfl (by decide) (ln_101 hL) (ok_X12_byteAt hL  hx22) rfl rfl (Nat.le_of_ble_eq_true rfl) ⟨Nat.le_of_ble_eq_true rfl, Nat.le_of_ble_eq_true rfl⟩ ⟨Nat.le_of_ble_eq_true rfl, Nat.le_of_ble_eq_true rfl⟩ dX12_advance_220 ?_
      refine c_static_i (As := [.int x22]) mi_X12_isDigit kw_1104 kw_1103 (ok_X12_isDigit hL  (p1 := x22)) rfl rfl (Nat.le_of_ble_eq_true rfl) ⟨Nat.le_of_ble_eq_true rfl, Nat.le_of_ble_eq_true rfl⟩ ⟨Nat.le_of_ble_eq_true rfl, Nat.le_of_ble_eq_true rfl⟩ dX12_advance_223 ?_
      refine r_if_eq (tgt := 282) dX12_advance_226 (by decide) (fun h24 => ?_) (fun h24 => ?_)
      · have hF := tw hF h24
        obtain rfl := Option.some.inj hF
        exact r_return rfl dX12_advance_282 (Nat.le_of_ble_eq_true rfl) (Nat.le_of_ble_eq_true rfl)
      · have hF := fw hF h24
        refine r_aload_n dX12_advance_229 rfl rfl ?_
        refine r_aload_n dX12_advance_230 rfl rfl ?_
        refine r_getI lk_X12_93 (ln_101 hL) dX12_advance_231 ?_
        refine r_aload_n dX12_advance_234 rfl rfl ?_
        refine r_getI lk_X12_96 (ln_101 hL) dX12_advance_235 ?_
        refine r_isub dX12_advance_238 ?_
        refine r_iconst (v := 2) dX12_advance_239 (by decide) ?_
        refine r_icmp_ge (tgt := 265) dX12_advance_240 (by decide) (fun h26 => ?_) (fun h26 => ?_)
        · have hF := tw hF h26
          refine r_iconst (v := (-1)) dX12_advance_265 (by decide) ?_
          refine r_putI lk_X12_117 (Or.inl rfl) (ln_101 hL) rfl rfl dX12_advance_266 ?_
          refine r_letI hF (fun I27 hF => ?_)
          refine r_aload_n dX12_advance_269 rfl rfl ?_
          refine r_dup dX12_advance_270 rfl ?_
          refine r_getI lk_X12_93 (ln_101 hL) dX12_advance_271 ?_
          refine r_iconst (v := 1) dX12_advance_274 (by decide) ?_
          refine r_iadd dX12_advance_275 ?_
          refine r_putI lk_X12_93 (Or.inl rfl) (ln_101 hL) rfl rfl dX12_advance_276 ?_
          refine r_letI hF (fun I28 hF => ?_)
          refine r_goto (tgt := 207) dX12_advance_279 (by decide) ?_
          refine r_sub (ls' := [(0, .ref 101)]) [0] rfl ?_
          exact ih I28 hF
        · have hF := fw hF h26
          refine r_bipush (v := 10) dX12_advance_243 (by decide) ?_
          refine r_aload_n dX12_advance_245 rfl rfl ?_
          refine r_getI lk_X12_117 (ln_101 hL) dX12_advance_246 ?_
          refine r_imul dX12_advance_249 ?_
          refine r_aload_n dX12_advance_250 rfl rfl ?_
          refine r_aload_n dX12_advance_251 rfl rfl ?_
          refine r_getI lk_X12_93 (ln_101 hL) dX12_advance_252 ?_
          obtain ⟨x29, hx29, hF⟩ := bnd hF
          refine c_virt_i (As := [.int (Iv 101 11)]) mi_X12_byteAt kw_1098 ks_25 kw_1096 rfl (by decide) (ln_101 hL) (ok_X12_byteAt hL  hx29) rfl rfl (Nat.le_of_ble_eq_true rfl) ⟨Nat.le_of_ble_eq_true rfl, Nat.le_of_ble_eq_true rfl⟩ ⟨Nat.le_of_ble_eq_true rfl, Nat.le_of_ble_eq_true rfl⟩ dX12_advance_255 ?_
          refine r_iadd dX12_advance_258 ?_
          refine r_bipush (v := 48) dX12_advance_259 (by decide) ?_
          refine r_isub dX12_advance_261 ?_
          refine r_goto (tgt := 266) dX12_advance_262 (by decide) ?_
          refine r_putI lk_X12_117 (Or.inl rfl) (ln_101 hL) rfl rfl dX12_advance_266 ?_
          refine r_letI hF (fun I30 hF => ?_)
          refine r_aload_n dX12_advance_269 rfl rfl ?_
          refine r_dup dX12_advance_270 rfl ?_
          refine r_getI lk_X12_93 (ln_101 hL) dX12_advance_271 ?_
          refine r_iconst (v := 1) dX12_advance_274 (by decide) ?_
          refine r_iadd dX12_advance_275 ?_
          refine r_putI lk_X12_93 (Or.inl rfl) (ln_101 hL) rfl rfl dX12_advance_276 ?_
          refine r_letI hF (fun I31 hF => ?_)
          refine r_goto (tgt := 207) dX12_advance_279 (by decide) ?_
          refine r_sub (ls' := [(0, .ref 101)]) [0] rfl ?_
          exact ih I31 hF
set_option maxHeartbeats 4000000 in
theorem okG_X12_advance_126 {E : GE} {T : TM} {P : PM} {N : Nat} {x : IM × JM} (hL : LOK T P) : ∀ (n : Nat) (Iv : IM) (Jv : JM), G_X12_advance_126 N n Iv Jv = some x → WW E mX12_advance (RM 2 0 0) (ZM E 0 0 none T x.1 x.2 P) 0 0 T Iv Jv P 126 [(0, .ref 101)] [] := by
  intro n
  induction n with
  | zero =>
    intro Iv Jv hF
    cases hF
  | succ n ih =>
    intro Iv Jv hF
    rw [G_X12_advance_126] at hF
    refine r_aload_n dX12_advance_126 rfl rfl ?_
    refine r_getI lk_X12_110 (ln_101 hL) dX12_advance_127 ?_
    refine r_iconst (v := 1) dX12_advance_130 (by decide) ?_
    refine r_icmp_ne (tgt := 207) dX12_advance_131 (by decide) (fun h19 => ?_) (fun h19 => ?_)
    · have hF := fw hF h19
      refine r_sub (ls' := [(0, .ref 101)]) [0] rfl ?_
      exact okG_X12_advance_207 hL   N Iv hF
    · have hF := tw hF h19
      refine r_aload_n dX12_advance_134 rfl rfl ?_
      refine r_aload_n dX12_advance_135 rfl rfl ?_
      refine r_getI lk_X12_93 (ln_101 hL) dX12_advance_136 ?_
      obtain ⟨x32, hx32, hF⟩ := bnd hF
      refine c_virt_i (As := [.int (Iv 101 11)]) mi_X12_byteAt kw_1098 ks_25 kw_1096 rfl (by decide) (ln_101 hL) (ok_X12_byteAt hL  hx32) rfl rfl (Nat.le_of_ble_eq_true rfl) ⟨Nat.le_of_ble_eq_true rfl, Nat.le_of_ble_eq_true rfl⟩ ⟨Nat.le_of_ble_eq_true rfl, Nat.le_of_ble_eq_true rfl⟩ dX12_advance_139 ?_
      refine c_static_i (As := [.int x32]) mi_X12_isLetter kw_1101 kw_1100 (ok_X12_isLetter hL  (p1 := x32)) rfl rfl (Nat.le_of_ble_eq_true rfl) ⟨Nat.le_of_ble_eq_true rfl, Nat.le_of_ble_eq_true rfl⟩ ⟨Nat.le_of_ble_eq_true rfl, Nat.le_of_ble_eq_true rfl⟩ dX12_advance_142 ?_
      refine r_if_eq (tgt := 207) dX12_advance_145 (by decide) (fun h34 => ?_) (fun h34 => ?_)
      · have hF := tw hF h34
        refine r_sub (ls' := [(0, .ref 101)]) [0] rfl ?_
        exact okG_X12_advance_207 hL   N Iv hF
      · have hF := fw hF h34
        refine r_aload_n dX12_advance_148 rfl rfl ?_
        refine r_aload_n dX12_advance_149 rfl rfl ?_
        refine r_getI lk_X12_93 (ln_101 hL) dX12_advance_150 ?_
        refine r_aload_n dX12_advance_153 rfl rfl ?_
        refine r_getI lk_X12_96 (ln_101 hL) dX12_advance_154 ?_
        refine r_isub dX12_advance_157 ?_
        refine r_bipush (v := 8) dX12_advance_158 (by decide) ?_
        refine r_icmp_ge (tgt := 188) dX12_advance_160 (by decide) (fun h36 => ?_) (fun h36 => ?_)
        · have hF := tw hF h36
          refine r_ldc2 dX12_advance_188 kw_1108 ?_
          refine r_putJ lk_X12_113 (Or.inl rfl) (ln_101 hL) dX12_advance_191 ?_
          refine r_letJ hF (fun J37 hF => ?_)
          refine r_aload_n dX12_advance_194 rfl rfl ?_
          refine r_dup dX12_advance_195 rfl ?_
          refine r_getI lk_X12_93 (ln_101 hL) dX12_advance_196 ?_
          refine r_iconst (v := 1) dX12_advance_199 (by decide) ?_
          refine r_iadd dX12_advance_200 ?_
          refine r_putI lk_X12_93 (Or.inl rfl) (ln_101 hL) rfl rfl dX12_advance_201 ?_
          refine r_letI hF (fun I38 hF => ?_)
          refine r_goto (tgt := 126) dX12_advance_204 (by decide) ?_
          refine r_sub (ls' := [(0, .ref 101)]) [0] rfl ?_
          exact ih I38 J37 hF
        · have hF := fw hF h36
          refine r_ldc2 dX12_advance_163 kw_1106 ?_
          refine r_aload_n dX12_advance_166 rfl rfl ?_
          refine r_getJ lk_X12_113 (ln_101 hL) dX12_advance_167 ?_
          refine r_lmul dX12_advance_170 ?_
          refine r_aload_n dX12_advance_171 rfl rfl ?_
          refine r_aload_n dX12_advance_172 rfl rfl ?_
          refine r_getI lk_X12_93 (ln_101 hL) dX12_advance_173 ?_
          obtain ⟨x39, hx39, hF⟩ := bnd hF
          refine c_virt_i (As := [.int (Iv 101 11)]) mi_X12_byteAt kw_1098 ks_25 kw_1096 rfl (by decide) (ln_101 hL) (ok_X12_byteAt hL  hx39) rfl rfl (Nat.le_of_ble_eq_true rfl) ⟨Nat.le_of_ble_eq_true rfl, Nat.le_of_ble_eq_true rfl⟩ ⟨Nat.le_of_ble_eq_true rfl, Nat.le_of_ble_eq_true rfl⟩ dX12_advance_176 ?_
          refine r_i2l dX12_advance_179 ?_
          refine r_ladd dX12_advance_180 ?_
          refine r_ldc2 dX12_advance_181 kw_1107 ?_
          refine r_lsub dX12_advance_184 ?_
          refine r_goto (tgt := 191) dX12_advance_185 (by decide) ?_
          refine r_putJ lk_X12_113 (Or.inl rfl) (ln_101 hL) dX12_advance_191 ?_
          refine r_letJ hF (fun J40 hF => ?_)
          refine r_aload_n dX12_advance_194 rfl rfl ?_
          refine r_dup dX12_advance_195 rfl ?_
          refine r_getI lk_X12_93 (ln_101 hL) dX12_advance_196 ?_
          refine r_iconst (v := 1) dX12_advance_199 (by decide) ?_
          refine r_iadd dX12_advance_200 ?_
          refine r_putI lk_X12_93 (Or.inl rfl) (ln_101 hL) rfl rfl dX12_advance_201 ?_
          refine r_letI hF (fun I41 hF => ?_)
          refine r_goto (tgt := 126) dX12_advance_204 (by decide) ?_
          refine r_sub (ls' := [(0, .ref 101)]) [0] rfl ?_
          exact ih I41 J40 hF
set_option maxHeartbeats 4000000 in
theorem okG_X12_advance_8 {E : GE} {T : TM} {J : JM} {P : PM} {N : Nat} {x : IM × JM} (hL : LOK T P) : ∀ (n : Nat) (Iv : IM), G_X12_advance_8 N J n Iv = some x → WW E mX12_advance (RM 2 0 0) (ZM E 0 0 none T x.1 x.2 P) 0 0 T Iv J P 8 [(0, .ref 101)] [] := by
  intro n
  induction n with
  | zero =>
    intro Iv hF
    cases hF
  | succ n ih =>
    intro Iv hF
    rw [G_X12_advance_8] at hF
    refine r_aload_n dX12_advance_8 rfl rfl ?_
    refine r_aload_n dX12_advance_9 rfl rfl ?_
    refine r_getI lk_X12_96 (ln_101 hL) dX12_advance_10 ?_
    obtain ⟨x2, hx2, hF⟩ := bnd hF
    refine c_virt_i (As := [.int (Iv 101 10)]) mi_X12_byteAt kw_1098 ks_25 kw_1096 rfl (by decide) (ln_101 hL) (ok_X12_byteAt hL  hx2) rfl rfl (Nat.le_of_ble_eq_true rfl) ⟨Nat.le_of_ble_eq_true rfl, Nat.le_of_ble_eq_true rfl⟩ ⟨Nat.le_of_ble_eq_true rfl, Nat.le_of_ble_eq_true rfl⟩ dX12_advance_13 ?_
    refine r_bipush (v := 32) dX12_advance_16 (by decide) ?_
    refine r_icmp_ne (tgt := 34) dX12_advance_18 (by decide) (fun h4 => ?_) (fun h4 => ?_)
    · have hF := fw hF h4
      refine r_aload_n dX12_advance_34 rfl rfl ?_
      refine r_aload_n dX12_advance_35 rfl rfl ?_
      refine r_getI lk_X12_96 (ln_101 hL) dX12_advance_36 ?_
      refine r_putI lk_X12_93 (Or.inl rfl) (ln_101 hL) rfl rfl dX12_advance_39 ?_
      refine r_letI hF (fun I5 hF => ?_)
      refine r_aload_n dX12_advance_42 rfl rfl ?_
      refine r_aload_n dX12_advance_43 rfl rfl ?_
      refine r_getI lk_X12_96 (ln_101 hL) dX12_advance_44 ?_
      obtain ⟨x6, hx6, hF⟩ := bnd hF
      refine c_virt_i (As := [.int (I5 101 10)]) mi_X12_byteAt kw_1098 ks_25 kw_1096 rfl (by decide) (ln_101 hL) (ok_X12_byteAt hL  hx6) rfl rfl (Nat.le_of_ble_eq_true rfl) ⟨Nat.le_of_ble_eq_true rfl, Nat.le_of_ble_eq_true rfl⟩ ⟨Nat.le_of_ble_eq_true rfl, Nat.le_of_ble_eq_true rfl⟩ dX12_advance_47 ?_
      refine r_istore_n (ls' := [(1, .int x6), (0, .ref 101)]) dX12_advance_50 rfl (by decide) rfl ?_
      refine r_aload_n dX12_advance_51 rfl rfl ?_
      refine r_iload_n dX12_advance_52 rfl rfl ?_
      refine r_join (G1 := fun y10 : Int32 => WW E mX12_advance (RM 2 0 0) (ZM E 0 0 none T x.1 x.2 P) 0 0 T I5 J P 83 [(1, .int x6), (0, .ref 101)] [.int y10, .ref 101]) hF (fun y10 hF => ?_) (fun y10 hv hJ => ?_)
      · refine r_putI lk_X12_110 (Or.inl rfl) (ln_101 hL) rfl rfl dX12_advance_83 ?_
        refine r_letI hF (fun I11 hF => ?_)
        refine r_aload_n dX12_advance_86 rfl rfl ?_
        refine r_lconst (v := 0) dX12_advance_87 (by decide) ?_
        refine r_putJ lk_X12_113 (Or.inl rfl) (ln_101 hL) dX12_advance_88 ?_
        refine r_letJ hF (fun J12 hF => ?_)
        refine r_aload_n dX12_advance_91 rfl rfl ?_
        refine r_aload_n dX12_advance_92 rfl rfl ?_
        refine r_getI lk_X12_110 (ln_101 hL) dX12_advance_93 ?_
        refine r_iconst (v := 2) dX12_advance_96 (by decide) ?_
        refine r_join (G1 := fun y14 : Int32 => WW E mX12_advance (RM 2 0 0) (ZM E 0 0 none T x.1 x.2 P) 0 0 T I11 J12 P 105 [(1, .int x6), (0, .ref 101)] [.int y14, .ref 101]) hF (fun y14 hF => ?_) (fun y14 hv hJ => ?_)
        · refine r_putI lk_X12_117 (Or.inl rfl) (ln_101 hL) rfl rfl dX12_advance_105 ?_
          refine r_letI hF (fun I15 hF => ?_)
          refine r_aload_n dX12_advance_108 rfl rfl ?_
          refine r_getI lk_X12_110 (ln_101 hL) dX12_advance_109 ?_
          refine r_iconst (v := 3) dX12_advance_112 (by decide) ?_
          refine r_icmp_ne (tgt := 126) dX12_advance_113 (by decide) (fun h17 => ?_) (fun h17 => ?_)
          · have hF := fw hF h17
            refine r_sub (ls' := [(0, .ref 101)]) [1] rfl ?_
            exact okG_X12_advance_126 hL   N I15 J12 hF
          · have hF := tw hF h17
            refine r_aload_n dX12_advance_116 rfl rfl ?_
            refine r_dup dX12_advance_117 rfl ?_
            refine r_getI lk_X12_93 (ln_101 hL) dX12_advance_118 ?_
            refine r_iconst (v := 1) dX12_advance_121 (by decide) ?_
            refine r_iadd dX12_advance_122 ?_
            refine r_putI lk_X12_93 (Or.inl rfl) (ln_101 hL) rfl rfl dX12_advance_123 ?_
            refine r_letI hF (fun I42 hF => ?_)
            refine r_sub (ls' := [(0, .ref 101)]) [1] rfl ?_
            exact okG_X12_advance_126 hL   N I42 J12 hF
        · refine r_icmp_ne (tgt := 104) dX12_advance_97 (by decide) (fun h13 => ?_) (fun h13 => ?_)
          · have hv := fw hv h13
            refine r_iload_n dX12_advance_104 rfl rfl ?_
            obtain rfl := hv
            exact hJ
          · have hv := tw hv h13
            refine r_iconst (v := 0) dX12_advance_100 (by decide) ?_
            refine r_goto (tgt := 105) dX12_advance_101 (by decide) ?_
            obtain rfl := hv
            exact hJ
      · refine r_if_ge (tgt := 60) dX12_advance_53 (by decide) (fun h7 => ?_) (fun h7 => ?_)
        · have hv := tw hv h7
          refine r_iload_n dX12_advance_60 rfl rfl ?_
          refine c_static_i (As := [.int x6]) mi_X12_isLetter kw_1101 kw_1100 (ok_X12_isLetter hL  (p1 := x6)) rfl rfl (Nat.le_of_ble_eq_true rfl) ⟨Nat.le_of_ble_eq_true rfl, Nat.le_of_ble_eq_true rfl⟩ ⟨Nat.le_of_ble_eq_true rfl, Nat.le_of_ble_eq_true rfl⟩ dX12_advance_61 ?_
          refine r_if_eq (tgt := 71) dX12_advance_64 (by decide) (fun h8 => ?_) (fun h8 => ?_)
          · have hv := tw hv h8
            refine r_iload_n dX12_advance_71 rfl rfl ?_
            refine c_static_i (As := [.int x6]) mi_X12_isDigit kw_1104 kw_1103 (ok_X12_isDigit hL  (p1 := x6)) rfl rfl (Nat.le_of_ble_eq_true rfl) ⟨Nat.le_of_ble_eq_true rfl, Nat.le_of_ble_eq_true rfl⟩ ⟨Nat.le_of_ble_eq_true rfl, Nat.le_of_ble_eq_true rfl⟩ dX12_advance_72 ?_
            refine r_if_eq (tgt := 82) dX12_advance_75 (by decide) (fun h9 => ?_) (fun h9 => ?_)
            · have hv := tw hv h9
              refine r_iconst (v := 3) dX12_advance_82 (by decide) ?_
              obtain rfl := hv
              exact hJ
            · have hv := fw hv h9
              refine r_iconst (v := 2) dX12_advance_78 (by decide) ?_
              refine r_goto (tgt := 83) dX12_advance_79 (by decide) ?_
              obtain rfl := hv
              exact hJ
          · have hv := fw hv h8
            refine r_iconst (v := 1) dX12_advance_67 (by decide) ?_
            refine r_goto (tgt := 83) dX12_advance_68 (by decide) ?_
            obtain rfl := hv
            exact hJ
        · have hv := fw hv h7
          refine r_iconst (v := 0) dX12_advance_56 (by decide) ?_
          refine r_goto (tgt := 83) dX12_advance_57 (by decide) ?_
          obtain rfl := hv
          exact hJ
    · have hF := tw hF h4
      refine r_aload_n dX12_advance_21 rfl rfl ?_
      refine r_dup dX12_advance_22 rfl ?_
      refine r_getI lk_X12_96 (ln_101 hL) dX12_advance_23 ?_
      refine r_iconst (v := 1) dX12_advance_26 (by decide) ?_
      refine r_iadd dX12_advance_27 ?_
      refine r_putI lk_X12_96 (Or.inl rfl) (ln_101 hL) rfl rfl dX12_advance_28 ?_
      refine r_letI hF (fun I43 hF => ?_)
      refine r_goto (tgt := 8) dX12_advance_31 (by decide) ?_
      refine r_sub (ls' := [(0, .ref 101)]) [0] rfl ?_
      exact ih I43 hF
def F_X12_advance (N : Nat) (I : IM) (J : JM) : Option (IM × JM) := (letb (up2 I 101 10 (I 101 11)) (fun I1 : IM => (G_X12_advance_8 N J N I1)))
set_option maxHeartbeats 4000000 in
theorem ok_X12_advance {E : GE} {T : TM} {I : IM} {J : JM} {P : PM} {N : Nat} {x : IM × JM} (hL : LOK T P) (hF : F_X12_advance N I J = some x) : Ctr E mX12_advance 2 0 0 [.ref 101] T I J P none T x.1 x.2 P := by
  unfold F_X12_advance at hF
  refine ctr_intro rfl (by decide) (Nat.le_of_ble_eq_true rfl) ?_
  refine r_sub (ls' := [(0, .ref 101)]) [0] rfl ?_
  refine r_aload_n dX12_advance_0 rfl rfl ?_
  refine r_aload_n dX12_advance_1 rfl rfl ?_
  refine r_getI lk_X12_93 (ln_101 hL) dX12_advance_2 ?_
  refine r_putI lk_X12_96 (Or.inl rfl) (ln_101 hL) rfl rfl dX12_advance_5 ?_
  refine r_letI hF (fun I1 hF => ?_)
  refine r_sub (ls' := [(0, .ref 101)]) [0] rfl ?_
  exact okG_X12_advance_8 hL   N I1 hF
def F_X12_isWord (I : IM) (J : JM) (p1 : Int64) : Int32 := (if (I 101 9) = 1 then (if (lg_cmp (J 101 12) p1) = 0 then 1 else 0) else 0)
set_option maxHeartbeats 4000000 in
theorem ok_X12_isWord {E : GE} {T : TM} {I : IM} {J : JM} {P : PM} {p1 : Int64} (hL : LOK T P) : Ctr E mX12_isWord 0 0 0 [.ref 101, .long p1] T I J P (some (.int (F_X12_isWord I J p1))) T I J P := by
  generalize hF : F_X12_isWord I J p1 = r
  unfold F_X12_isWord at hF
  refine ctr_intro rfl (by decide) (Nat.le_of_ble_eq_true rfl) ?_
  refine r_sub (ls' := [(1, .long p1), (0, .ref 101)]) [1, 0] rfl ?_
  refine r_aload_n dX12_isWord_0 rfl rfl ?_
  refine r_getI lk_X12_110 (ln_101 hL) dX12_isWord_1 ?_
  refine r_iconst (v := 1) dX12_isWord_4 (by decide) ?_
  refine r_icmp_ne (tgt := 21) dX12_isWord_5 (by decide) (fun h1 => ?_) (fun h1 => ?_)
  · have hF := fw hF h1
    refine r_iconst (v := 0) dX12_isWord_21 (by decide) ?_
    obtain rfl := hF
    exact r_ireturn rfl rfl dX12_isWord_22 (Nat.le_of_ble_eq_true rfl) (Nat.le_of_ble_eq_true rfl)
  · have hF := tw hF h1
    refine r_aload_n dX12_isWord_8 rfl rfl ?_
    refine r_getJ lk_X12_113 (ln_101 hL) dX12_isWord_9 ?_
    refine r_lload_n dX12_isWord_12 rfl rfl ?_
    refine r_lcmp dX12_isWord_13 ?_
    refine r_if_ne (tgt := 21) dX12_isWord_14 (by decide) (fun h2 => ?_) (fun h2 => ?_)
    · have hF := fw hF h2
      refine r_iconst (v := 0) dX12_isWord_21 (by decide) ?_
      obtain rfl := hF
      exact r_ireturn rfl rfl dX12_isWord_22 (Nat.le_of_ble_eq_true rfl) (Nat.le_of_ble_eq_true rfl)
    · have hF := tw hF h2
      refine r_iconst (v := 1) dX12_isWord_17 (by decide) ?_
      refine r_goto (tgt := 22) dX12_isWord_18 (by decide) ?_
      obtain rfl := hF
      exact r_ireturn rfl rfl dX12_isWord_22 (Nat.le_of_ble_eq_true rfl) (Nat.le_of_ble_eq_true rfl)
theorem nz_X12_isWord (I : IM) (J : JM) (p1 : Int64) : narrow .boolean (.int (F_X12_isWord I J p1)) = .int (F_X12_isWord I J p1) := by
  unfold F_X12_isWord
  repeat' split
  all_goals first | rfl
def F_X12_isMark (I : IM) (p1 : Int32) : Int32 := (if (I 101 9) = 3 then (if (I 101 13) = p1 then 1 else 0) else 0)
set_option maxHeartbeats 4000000 in
theorem ok_X12_isMark {E : GE} {T : TM} {I : IM} {J : JM} {P : PM} {p1 : Int32} (hL : LOK T P) : Ctr E mX12_isMark 0 0 0 [.ref 101, .int p1] T I J P (some (.int (F_X12_isMark I p1))) T I J P := by
  generalize hF : F_X12_isMark I p1 = r
  unfold F_X12_isMark at hF
  refine ctr_intro rfl (by decide) (Nat.le_of_ble_eq_true rfl) ?_
  refine r_sub (ls' := [(1, .int p1), (0, .ref 101)]) [1, 0] rfl ?_
  refine r_aload_n dX12_isMark_0 rfl rfl ?_
  refine r_getI lk_X12_110 (ln_101 hL) dX12_isMark_1 ?_
  refine r_iconst (v := 3) dX12_isMark_4 (by decide) ?_
  refine r_icmp_ne (tgt := 20) dX12_isMark_5 (by decide) (fun h1 => ?_) (fun h1 => ?_)
  · have hF := fw hF h1
    refine r_iconst (v := 0) dX12_isMark_20 (by decide) ?_
    obtain rfl := hF
    exact r_ireturn rfl rfl dX12_isMark_21 (Nat.le_of_ble_eq_true rfl) (Nat.le_of_ble_eq_true rfl)
  · have hF := tw hF h1
    refine r_aload_n dX12_isMark_8 rfl rfl ?_
    refine r_getI lk_X12_117 (ln_101 hL) dX12_isMark_9 ?_
    refine r_iload_n dX12_isMark_12 rfl rfl ?_
    refine r_icmp_ne (tgt := 20) dX12_isMark_13 (by decide) (fun h2 => ?_) (fun h2 => ?_)
    · have hF := fw hF h2
      refine r_iconst (v := 0) dX12_isMark_20 (by decide) ?_
      obtain rfl := hF
      exact r_ireturn rfl rfl dX12_isMark_21 (Nat.le_of_ble_eq_true rfl) (Nat.le_of_ble_eq_true rfl)
    · have hF := tw hF h2
      refine r_iconst (v := 1) dX12_isMark_16 (by decide) ?_
      refine r_goto (tgt := 21) dX12_isMark_17 (by decide) ?_
      obtain rfl := hF
      exact r_ireturn rfl rfl dX12_isMark_21 (Nat.le_of_ble_eq_true rfl) (Nat.le_of_ble_eq_true rfl)
theorem nz_X12_isMark (I : IM) (p1 : Int32) : narrow .boolean (.int (F_X12_isMark I p1)) = .int (F_X12_isMark I p1) := by
  unfold F_X12_isMark
  repeat' split
  all_goals first | rfl
def F_X12_kindHere (I : IM) (J : JM) : Int32 := (if (F_X12_isWord I J 119163) = 0 then (if (F_X12_isWord I J 283357330) = 0 then (if (F_X12_isWord I J 207794107168) = 0 then (if (F_X12_isWord I J 8059585273) = 0 then (if (F_X12_isWord I J 7106601235) = 0 then (if (F_X12_isWord I J 335088634) = 0 then (-1) else 5) else 4) else 3) else 2) else 1) else 0)
set_option maxHeartbeats 4000000 in
theorem ok_X12_kindHere {E : GE} {T : TM} {I : IM} {J : JM} {P : PM} (hL : LOK T P) : Ctr E mX12_kindHere 1 0 0 [.ref 101] T I J P (some (.int (F_X12_kindHere I J))) T I J P := by
  generalize hF : F_X12_kindHere I J = r
  unfold F_X12_kindHere at hF
  refine ctr_intro rfl (by decide) (Nat.le_of_ble_eq_true rfl) ?_
  refine r_sub (ls' := [(0, .ref 101)]) [0] rfl ?_
  refine r_aload_n dX12_kindHere_0 rfl rfl ?_
  refine r_ldc2 dX12_kindHere_1 kw_1113 ?_
  refine c_virt_i (As := [.long 119163]) mi_X12_isWord kw_1116 ks_27 kw_1114 rfl (by decide) (ln_101 hL) (ok_X12_isWord hL  (p1 := 119163)) rfl rfl (Nat.le_of_ble_eq_true rfl) ⟨Nat.le_of_ble_eq_true rfl, Nat.le_of_ble_eq_true rfl⟩ ⟨Nat.le_of_ble_eq_true rfl, Nat.le_of_ble_eq_true rfl⟩ dX12_kindHere_4 ?_
  refine r_if_eq (tgt := 14) dX12_kindHere_7 (by decide) (fun h1 => ?_) (fun h1 => ?_)
  · have hF := tw hF h1
    refine r_aload_n dX12_kindHere_14 rfl rfl ?_
    refine r_ldc2 dX12_kindHere_15 kw_1118 ?_
    refine c_virt_i (As := [.long 283357330]) mi_X12_isWord kw_1116 ks_27 kw_1114 rfl (by decide) (ln_101 hL) (ok_X12_isWord hL  (p1 := 283357330)) rfl rfl (Nat.le_of_ble_eq_true rfl) ⟨Nat.le_of_ble_eq_true rfl, Nat.le_of_ble_eq_true rfl⟩ ⟨Nat.le_of_ble_eq_true rfl, Nat.le_of_ble_eq_true rfl⟩ dX12_kindHere_18 ?_
    refine r_if_eq (tgt := 28) dX12_kindHere_21 (by decide) (fun h2 => ?_) (fun h2 => ?_)
    · have hF := tw hF h2
      refine r_aload_n dX12_kindHere_28 rfl rfl ?_
      refine r_ldc2 dX12_kindHere_29 kw_1119 ?_
      refine c_virt_i (As := [.long 207794107168]) mi_X12_isWord kw_1116 ks_27 kw_1114 rfl (by decide) (ln_101 hL) (ok_X12_isWord hL  (p1 := 207794107168)) rfl rfl (Nat.le_of_ble_eq_true rfl) ⟨Nat.le_of_ble_eq_true rfl, Nat.le_of_ble_eq_true rfl⟩ ⟨Nat.le_of_ble_eq_true rfl, Nat.le_of_ble_eq_true rfl⟩ dX12_kindHere_32 ?_
      refine r_if_eq (tgt := 42) dX12_kindHere_35 (by decide) (fun h3 => ?_) (fun h3 => ?_)
      · have hF := tw hF h3
        refine r_aload_n dX12_kindHere_42 rfl rfl ?_
        refine r_ldc2 dX12_kindHere_43 kw_1120 ?_
        refine c_virt_i (As := [.long 8059585273]) mi_X12_isWord kw_1116 ks_27 kw_1114 rfl (by decide) (ln_101 hL) (ok_X12_isWord hL  (p1 := 8059585273)) rfl rfl (Nat.le_of_ble_eq_true rfl) ⟨Nat.le_of_ble_eq_true rfl, Nat.le_of_ble_eq_true rfl⟩ ⟨Nat.le_of_ble_eq_true rfl, Nat.le_of_ble_eq_true rfl⟩ dX12_kindHere_46 ?_
        refine r_if_eq (tgt := 56) dX12_kindHere_49 (by decide) (fun h4 => ?_) (fun h4 => ?_)
        · have hF := tw hF h4
          refine r_aload_n dX12_kindHere_56 rfl rfl ?_
          refine r_ldc2 dX12_kindHere_57 kw_1121 ?_
          refine c_virt_i (As := [.long 7106601235]) mi_X12_isWord kw_1116 ks_27 kw_1114 rfl (by decide) (ln_101 hL) (ok_X12_isWord hL  (p1 := 7106601235)) rfl rfl (Nat.le_of_ble_eq_true rfl) ⟨Nat.le_of_ble_eq_true rfl, Nat.le_of_ble_eq_true rfl⟩ ⟨Nat.le_of_ble_eq_true rfl, Nat.le_of_ble_eq_true rfl⟩ dX12_kindHere_60 ?_
          refine r_if_eq (tgt := 70) dX12_kindHere_63 (by decide) (fun h5 => ?_) (fun h5 => ?_)
          · have hF := tw hF h5
            refine r_aload_n dX12_kindHere_70 rfl rfl ?_
            refine r_ldc2 dX12_kindHere_71 kw_1122 ?_
            refine c_virt_i (As := [.long 335088634]) mi_X12_isWord kw_1116 ks_27 kw_1114 rfl (by decide) (ln_101 hL) (ok_X12_isWord hL  (p1 := 335088634)) rfl rfl (Nat.le_of_ble_eq_true rfl) ⟨Nat.le_of_ble_eq_true rfl, Nat.le_of_ble_eq_true rfl⟩ ⟨Nat.le_of_ble_eq_true rfl, Nat.le_of_ble_eq_true rfl⟩ dX12_kindHere_74 ?_
            refine r_if_eq (tgt := 84) dX12_kindHere_77 (by decide) (fun h6 => ?_) (fun h6 => ?_)
            · have hF := tw hF h6
              refine r_iconst (v := (-1)) dX12_kindHere_84 (by decide) ?_
              obtain rfl := hF
              exact r_ireturn rfl rfl dX12_kindHere_85 (Nat.le_of_ble_eq_true rfl) (Nat.le_of_ble_eq_true rfl)
            · have hF := fw hF h6
              refine r_iconst (v := 5) dX12_kindHere_80 (by decide) ?_
              refine r_goto (tgt := 85) dX12_kindHere_81 (by decide) ?_
              obtain rfl := hF
              exact r_ireturn rfl rfl dX12_kindHere_85 (Nat.le_of_ble_eq_true rfl) (Nat.le_of_ble_eq_true rfl)
          · have hF := fw hF h5
            refine r_iconst (v := 4) dX12_kindHere_66 (by decide) ?_
            refine r_goto (tgt := 85) dX12_kindHere_67 (by decide) ?_
            obtain rfl := hF
            exact r_ireturn rfl rfl dX12_kindHere_85 (Nat.le_of_ble_eq_true rfl) (Nat.le_of_ble_eq_true rfl)
        · have hF := fw hF h4
          refine r_iconst (v := 3) dX12_kindHere_52 (by decide) ?_
          refine r_goto (tgt := 85) dX12_kindHere_53 (by decide) ?_
          obtain rfl := hF
          exact r_ireturn rfl rfl dX12_kindHere_85 (Nat.le_of_ble_eq_true rfl) (Nat.le_of_ble_eq_true rfl)
      · have hF := fw hF h3
        refine r_iconst (v := 2) dX12_kindHere_38 (by decide) ?_
        refine r_goto (tgt := 85) dX12_kindHere_39 (by decide) ?_
        obtain rfl := hF
        exact r_ireturn rfl rfl dX12_kindHere_85 (Nat.le_of_ble_eq_true rfl) (Nat.le_of_ble_eq_true rfl)
    · have hF := fw hF h2
      refine r_iconst (v := 1) dX12_kindHere_24 (by decide) ?_
      refine r_goto (tgt := 85) dX12_kindHere_25 (by decide) ?_
      obtain rfl := hF
      exact r_ireturn rfl rfl dX12_kindHere_85 (Nat.le_of_ble_eq_true rfl) (Nat.le_of_ble_eq_true rfl)
  · have hF := fw hF h1
    refine r_iconst (v := 0) dX12_kindHere_10 (by decide) ?_
    refine r_goto (tgt := 85) dX12_kindHere_11 (by decide) ?_
    obtain rfl := hF
    exact r_ireturn rfl rfl dX12_kindHere_85 (Nat.le_of_ble_eq_true rfl) (Nat.le_of_ble_eq_true rfl)
def F_X12_lawHere (I : IM) (J : JM) : Int32 := (if (F_X12_isWord I J 242939) = 0 then (if (F_X12_isWord I J 91888) = 0 then (if (F_X12_isWord I J 101525) = 0 then (if (F_X12_isWord I J 385898) = 0 then (if (F_X12_isWord I J 79828) = 0 then (if (F_X12_isWord I J 459652) = 0 then (-1) else 5) else 4) else 3) else 2) else 1) else 0)
set_option maxHeartbeats 4000000 in
theorem ok_X12_lawHere {E : GE} {T : TM} {I : IM} {J : JM} {P : PM} (hL : LOK T P) : Ctr E mX12_lawHere 1 0 0 [.ref 101] T I J P (some (.int (F_X12_lawHere I J))) T I J P := by
  generalize hF : F_X12_lawHere I J = r
  unfold F_X12_lawHere at hF
  refine ctr_intro rfl (by decide) (Nat.le_of_ble_eq_true rfl) ?_
  refine r_sub (ls' := [(0, .ref 101)]) [0] rfl ?_
  refine r_aload_n dX12_lawHere_0 rfl rfl ?_
  refine r_ldc2 dX12_lawHere_1 kw_1149 ?_
  refine c_virt_i (As := [.long 242939]) mi_X12_isWord kw_1116 ks_27 kw_1114 rfl (by decide) (ln_101 hL) (ok_X12_isWord hL  (p1 := 242939)) rfl rfl (Nat.le_of_ble_eq_true rfl) ⟨Nat.le_of_ble_eq_true rfl, Nat.le_of_ble_eq_true rfl⟩ ⟨Nat.le_of_ble_eq_true rfl, Nat.le_of_ble_eq_true rfl⟩ dX12_lawHere_4 ?_
  refine r_if_eq (tgt := 14) dX12_lawHere_7 (by decide) (fun h1 => ?_) (fun h1 => ?_)
  · have hF := tw hF h1
    refine r_aload_n dX12_lawHere_14 rfl rfl ?_
    refine r_ldc2 dX12_lawHere_15 kw_1150 ?_
    refine c_virt_i (As := [.long 91888]) mi_X12_isWord kw_1116 ks_27 kw_1114 rfl (by decide) (ln_101 hL) (ok_X12_isWord hL  (p1 := 91888)) rfl rfl (Nat.le_of_ble_eq_true rfl) ⟨Nat.le_of_ble_eq_true rfl, Nat.le_of_ble_eq_true rfl⟩ ⟨Nat.le_of_ble_eq_true rfl, Nat.le_of_ble_eq_true rfl⟩ dX12_lawHere_18 ?_
    refine r_if_eq (tgt := 28) dX12_lawHere_21 (by decide) (fun h2 => ?_) (fun h2 => ?_)
    · have hF := tw hF h2
      refine r_aload_n dX12_lawHere_28 rfl rfl ?_
      refine r_ldc2 dX12_lawHere_29 kw_1151 ?_
      refine c_virt_i (As := [.long 101525]) mi_X12_isWord kw_1116 ks_27 kw_1114 rfl (by decide) (ln_101 hL) (ok_X12_isWord hL  (p1 := 101525)) rfl rfl (Nat.le_of_ble_eq_true rfl) ⟨Nat.le_of_ble_eq_true rfl, Nat.le_of_ble_eq_true rfl⟩ ⟨Nat.le_of_ble_eq_true rfl, Nat.le_of_ble_eq_true rfl⟩ dX12_lawHere_32 ?_
      refine r_if_eq (tgt := 42) dX12_lawHere_35 (by decide) (fun h3 => ?_) (fun h3 => ?_)
      · have hF := tw hF h3
        refine r_aload_n dX12_lawHere_42 rfl rfl ?_
        refine r_ldc2 dX12_lawHere_43 kw_1152 ?_
        refine c_virt_i (As := [.long 385898]) mi_X12_isWord kw_1116 ks_27 kw_1114 rfl (by decide) (ln_101 hL) (ok_X12_isWord hL  (p1 := 385898)) rfl rfl (Nat.le_of_ble_eq_true rfl) ⟨Nat.le_of_ble_eq_true rfl, Nat.le_of_ble_eq_true rfl⟩ ⟨Nat.le_of_ble_eq_true rfl, Nat.le_of_ble_eq_true rfl⟩ dX12_lawHere_46 ?_
        refine r_if_eq (tgt := 56) dX12_lawHere_49 (by decide) (fun h4 => ?_) (fun h4 => ?_)
        · have hF := tw hF h4
          refine r_aload_n dX12_lawHere_56 rfl rfl ?_
          refine r_ldc2 dX12_lawHere_57 kw_1153 ?_
          refine c_virt_i (As := [.long 79828]) mi_X12_isWord kw_1116 ks_27 kw_1114 rfl (by decide) (ln_101 hL) (ok_X12_isWord hL  (p1 := 79828)) rfl rfl (Nat.le_of_ble_eq_true rfl) ⟨Nat.le_of_ble_eq_true rfl, Nat.le_of_ble_eq_true rfl⟩ ⟨Nat.le_of_ble_eq_true rfl, Nat.le_of_ble_eq_true rfl⟩ dX12_lawHere_60 ?_
          refine r_if_eq (tgt := 70) dX12_lawHere_63 (by decide) (fun h5 => ?_) (fun h5 => ?_)
          · have hF := tw hF h5
            refine r_aload_n dX12_lawHere_70 rfl rfl ?_
            refine r_ldc2 dX12_lawHere_71 kw_1154 ?_
            refine c_virt_i (As := [.long 459652]) mi_X12_isWord kw_1116 ks_27 kw_1114 rfl (by decide) (ln_101 hL) (ok_X12_isWord hL  (p1 := 459652)) rfl rfl (Nat.le_of_ble_eq_true rfl) ⟨Nat.le_of_ble_eq_true rfl, Nat.le_of_ble_eq_true rfl⟩ ⟨Nat.le_of_ble_eq_true rfl, Nat.le_of_ble_eq_true rfl⟩ dX12_lawHere_74 ?_
            refine r_if_eq (tgt := 84) dX12_lawHere_77 (by decide) (fun h6 => ?_) (fun h6 => ?_)
            · have hF := tw hF h6
              refine r_iconst (v := (-1)) dX12_lawHere_84 (by decide) ?_
              obtain rfl := hF
              exact r_ireturn rfl rfl dX12_lawHere_85 (Nat.le_of_ble_eq_true rfl) (Nat.le_of_ble_eq_true rfl)
            · have hF := fw hF h6
              refine r_iconst (v := 5) dX12_lawHere_80 (by decide) ?_
              refine r_goto (tgt := 85) dX12_lawHere_81 (by decide) ?_
              obtain rfl := hF
              exact r_ireturn rfl rfl dX12_lawHere_85 (Nat.le_of_ble_eq_true rfl) (Nat.le_of_ble_eq_true rfl)
          · have hF := fw hF h5
            refine r_iconst (v := 4) dX12_lawHere_66 (by decide) ?_
            refine r_goto (tgt := 85) dX12_lawHere_67 (by decide) ?_
            obtain rfl := hF
            exact r_ireturn rfl rfl dX12_lawHere_85 (Nat.le_of_ble_eq_true rfl) (Nat.le_of_ble_eq_true rfl)
        · have hF := fw hF h4
          refine r_iconst (v := 3) dX12_lawHere_52 (by decide) ?_
          refine r_goto (tgt := 85) dX12_lawHere_53 (by decide) ?_
          obtain rfl := hF
          exact r_ireturn rfl rfl dX12_lawHere_85 (Nat.le_of_ble_eq_true rfl) (Nat.le_of_ble_eq_true rfl)
      · have hF := fw hF h3
        refine r_iconst (v := 2) dX12_lawHere_38 (by decide) ?_
        refine r_goto (tgt := 85) dX12_lawHere_39 (by decide) ?_
        obtain rfl := hF
        exact r_ireturn rfl rfl dX12_lawHere_85 (Nat.le_of_ble_eq_true rfl) (Nat.le_of_ble_eq_true rfl)
    · have hF := fw hF h2
      refine r_iconst (v := 1) dX12_lawHere_24 (by decide) ?_
      refine r_goto (tgt := 85) dX12_lawHere_25 (by decide) ?_
      obtain rfl := hF
      exact r_ireturn rfl rfl dX12_lawHere_85 (Nat.le_of_ble_eq_true rfl) (Nat.le_of_ble_eq_true rfl)
  · have hF := fw hF h1
    refine r_iconst (v := 0) dX12_lawHere_10 (by decide) ?_
    refine r_goto (tgt := 85) dX12_lawHere_11 (by decide) ?_
    obtain rfl := hF
    exact r_ireturn rfl rfl dX12_lawHere_85 (Nat.le_of_ble_eq_true rfl) (Nat.le_of_ble_eq_true rfl)
def F_X12_wantNumber (N : Nat) (I : IM) (J : JM) (p1 : Int32) (p2 : Int32) : Option (Int32 × IM × JM) := (letb (I 101 13) (fun y1 : Int32 => (letb (if (I 101 14) = 0 then 0 else (if (I 101 9) = 2 then (if (F_X12_in y1 p1 p2) = 0 then 0 else 1) else 0)) (fun y5 : Int32 => (letb (up2 I 101 14 y5) (fun I6 : IM => (if (I6 101 14) = 0 then (some (y1, I6, J)) else ((F_X12_advance N I6 J).bind (fun x9 => (some (y1, x9.1, x9.2)))))))))))
set_option maxHeartbeats 4000000 in
theorem ok_X12_wantNumber {E : GE} {T : TM} {I : IM} {J : JM} {P : PM} {p1 : Int32} {p2 : Int32} {N : Nat} {x : Int32 × IM × JM} (hL : LOK T P) (hF : F_X12_wantNumber N I J p1 p2 = some x) : Ctr E mX12_wantNumber 3 0 0 [.ref 101, .int p1, .int p2] T I J P (some (.int x.1)) T x.2.1 x.2.2 P := by
  unfold F_X12_wantNumber at hF
  refine ctr_intro rfl (by decide) (Nat.le_of_ble_eq_true rfl) ?_
  refine r_sub (ls' := [(2, .int p2), (1, .int p1), (0, .ref 101)]) [2, 1, 0] rfl ?_
  refine r_aload_n dX12_wantNumber_0 rfl rfl ?_
  refine r_getI lk_X12_117 (ln_101 hL) dX12_wantNumber_1 ?_
  refine r_letV hF (fun y1 hF => ?_)
  refine r_istore_n (ls' := [(3, .int y1), (2, .int p2), (1, .int p1), (0, .ref 101)]) dX12_wantNumber_4 rfl (by decide) rfl ?_
  refine r_aload_n dX12_wantNumber_5 rfl rfl ?_
  refine r_aload_n dX12_wantNumber_6 rfl rfl ?_
  refine r_getI lk_X12_154 (ln_101 hL) dX12_wantNumber_7 ?_
  refine r_joinB (G1 := fun y5 : Int32 => WW E mX12_wantNumber (RM 3 0 0) (ZM E 0 0 (some (.int x.1)) T x.2.1 x.2.2 P) 0 0 T I J P 35 [(3, .int y1), (2, .int p2), (1, .int p1), (0, .ref 101)] [.int y5, .ref 101]) hF (fun y5 ny5 hF => ?_) (fun y5 hv hJ => ?_)
  · refine r_putI lk_X12_154 (Or.inl rfl) (ln_101 hL) ny5.1 ny5.2 dX12_wantNumber_35 ?_
    refine r_letI hF (fun I6 hF => ?_)
    refine r_aload_n dX12_wantNumber_38 rfl rfl ?_
    refine r_getI lk_X12_154 (ln_101 hL) dX12_wantNumber_39 ?_
    refine r_if_eq (tgt := 49) dX12_wantNumber_42 (by decide) (fun h8 => ?_) (fun h8 => ?_)
    · have hF := tw hF h8
      refine r_iload_n dX12_wantNumber_49 rfl rfl ?_
      obtain rfl := Option.some.inj hF
      exact r_ireturn rfl rfl dX12_wantNumber_50 (Nat.le_of_ble_eq_true rfl) (Nat.le_of_ble_eq_true rfl)
    · have hF := fw hF h8
      refine r_aload_n dX12_wantNumber_45 rfl rfl ?_
      obtain ⟨x9, hx9, hF⟩ := bnd hF
      refine c_virt_v (As := []) mi_X12_advance kw_1094 ks_24 kw_1092 rfl (by decide) (ln_101 hL) (ok_X12_advance hL  hx9) rfl rfl (Nat.le_of_ble_eq_true rfl) ⟨Nat.le_of_ble_eq_true rfl, Nat.le_of_ble_eq_true rfl⟩ ⟨Nat.le_of_ble_eq_true rfl, Nat.le_of_ble_eq_true rfl⟩ dX12_wantNumber_46 ?_
      refine r_iload_n dX12_wantNumber_49 rfl rfl ?_
      obtain rfl := Option.some.inj hF
      exact r_ireturn rfl rfl dX12_wantNumber_50 (Nat.le_of_ble_eq_true rfl) (Nat.le_of_ble_eq_true rfl)
  · refine r_if_eq (tgt := 34) dX12_wantNumber_10 (by decide) (fun h2 => ?_) (fun h2 => ?_)
    · have hv := tw hv h2
      refine r_iconst (v := 0) dX12_wantNumber_34 (by decide) ?_
      obtain rfl := hv
      exact hJ (by first | exact nbz0 | exact nbz1)
    · have hv := fw hv h2
      refine r_aload_n dX12_wantNumber_13 rfl rfl ?_
      refine r_getI lk_X12_110 (ln_101 hL) dX12_wantNumber_14 ?_
      refine r_iconst (v := 2) dX12_wantNumber_17 (by decide) ?_
      refine r_icmp_ne (tgt := 34) dX12_wantNumber_18 (by decide) (fun h3 => ?_) (fun h3 => ?_)
      · have hv := fw hv h3
        refine r_iconst (v := 0) dX12_wantNumber_34 (by decide) ?_
        obtain rfl := hv
        exact hJ (by first | exact nbz0 | exact nbz1)
      · have hv := tw hv h3
        refine r_iload_n dX12_wantNumber_21 rfl rfl ?_
        refine r_iload_n dX12_wantNumber_22 rfl rfl ?_
        refine r_iload_n dX12_wantNumber_23 rfl rfl ?_
        refine c_static_i (As := [.int y1, .int p1, .int p2]) mi_X12_in kw_1085 kw_1084 (ok_X12_in hL  (p1 := y1) (p2 := p1) (p3 := p2)) rfl rfl (Nat.le_of_ble_eq_true rfl) ⟨Nat.le_of_ble_eq_true rfl, Nat.le_of_ble_eq_true rfl⟩ ⟨Nat.le_of_ble_eq_true rfl, Nat.le_of_ble_eq_true rfl⟩ dX12_wantNumber_24 ?_
        refine r_if_eq (tgt := 34) dX12_wantNumber_27 (by decide) (fun h4 => ?_) (fun h4 => ?_)
        · have hv := tw hv h4
          refine r_iconst (v := 0) dX12_wantNumber_34 (by decide) ?_
          obtain rfl := hv
          exact hJ (by first | exact nbz0 | exact nbz1)
        · have hv := fw hv h4
          refine r_iconst (v := 1) dX12_wantNumber_30 (by decide) ?_
          refine r_goto (tgt := 35) dX12_wantNumber_31 (by decide) ?_
          obtain rfl := hv
          exact hJ (by first | exact nbz0 | exact nbz1)
def F_X12_wantWord (N : Nat) (I : IM) (J : JM) (p1 : Int64) : Option (IM × JM) := (letb (if (I 101 14) = 0 then 0 else (if (F_X12_isWord I J p1) = 0 then 0 else 1)) (fun y3 : Int32 => (letb (up2 I 101 14 y3) (fun I4 : IM => (if (I4 101 14) = 0 then (some (I4, J)) else ((F_X12_advance N I4 J).bind (fun x7 => (some (x7.1, x7.2)))))))))
set_option maxHeartbeats 4000000 in
theorem ok_X12_wantWord {E : GE} {T : TM} {I : IM} {J : JM} {P : PM} {p1 : Int64} {N : Nat} {x : IM × JM} (hL : LOK T P) (hF : F_X12_wantWord N I J p1 = some x) : Ctr E mX12_wantWord 3 0 0 [.ref 101, .long p1] T I J P none T x.1 x.2 P := by
  unfold F_X12_wantWord at hF
  refine ctr_intro rfl (by decide) (Nat.le_of_ble_eq_true rfl) ?_
  refine r_sub (ls' := [(1, .long p1), (0, .ref 101)]) [1, 0] rfl ?_
  refine r_aload_n dX12_wantWord_0 rfl rfl ?_
  refine r_aload_n dX12_wantWord_1 rfl rfl ?_
  refine r_getI lk_X12_154 (ln_101 hL) dX12_wantWord_2 ?_
  refine r_joinB (G1 := fun y3 : Int32 => WW E mX12_wantWord (RM 3 0 0) (ZM E 0 0 none T x.1 x.2 P) 0 0 T I J P 21 [(1, .long p1), (0, .ref 101)] [.int y3, .ref 101]) hF (fun y3 ny3 hF => ?_) (fun y3 hv hJ => ?_)
  · refine r_putI lk_X12_154 (Or.inl rfl) (ln_101 hL) ny3.1 ny3.2 dX12_wantWord_21 ?_
    refine r_letI hF (fun I4 hF => ?_)
    refine r_aload_n dX12_wantWord_24 rfl rfl ?_
    refine r_getI lk_X12_154 (ln_101 hL) dX12_wantWord_25 ?_
    refine r_if_eq (tgt := 35) dX12_wantWord_28 (by decide) (fun h6 => ?_) (fun h6 => ?_)
    · have hF := tw hF h6
      obtain rfl := Option.some.inj hF
      exact r_return rfl dX12_wantWord_35 (Nat.le_of_ble_eq_true rfl) (Nat.le_of_ble_eq_true rfl)
    · have hF := fw hF h6
      refine r_aload_n dX12_wantWord_31 rfl rfl ?_
      obtain ⟨x7, hx7, hF⟩ := bnd hF
      refine c_virt_v (As := []) mi_X12_advance kw_1094 ks_24 kw_1092 rfl (by decide) (ln_101 hL) (ok_X12_advance hL  hx7) rfl rfl (Nat.le_of_ble_eq_true rfl) ⟨Nat.le_of_ble_eq_true rfl, Nat.le_of_ble_eq_true rfl⟩ ⟨Nat.le_of_ble_eq_true rfl, Nat.le_of_ble_eq_true rfl⟩ dX12_wantWord_32 ?_
      obtain rfl := Option.some.inj hF
      exact r_return rfl dX12_wantWord_35 (Nat.le_of_ble_eq_true rfl) (Nat.le_of_ble_eq_true rfl)
  · refine r_if_eq (tgt := 20) dX12_wantWord_5 (by decide) (fun h1 => ?_) (fun h1 => ?_)
    · have hv := tw hv h1
      refine r_iconst (v := 0) dX12_wantWord_20 (by decide) ?_
      obtain rfl := hv
      exact hJ (by first | exact nbz0 | exact nbz1)
    · have hv := fw hv h1
      refine r_aload_n dX12_wantWord_8 rfl rfl ?_
      refine r_lload_n dX12_wantWord_9 rfl rfl ?_
      refine c_virt_i (As := [.long p1]) mi_X12_isWord kw_1116 ks_27 kw_1114 rfl (by decide) (ln_101 hL) (ok_X12_isWord hL  (p1 := p1)) rfl rfl (Nat.le_of_ble_eq_true rfl) ⟨Nat.le_of_ble_eq_true rfl, Nat.le_of_ble_eq_true rfl⟩ ⟨Nat.le_of_ble_eq_true rfl, Nat.le_of_ble_eq_true rfl⟩ dX12_wantWord_10 ?_
      refine r_if_eq (tgt := 20) dX12_wantWord_13 (by decide) (fun h2 => ?_) (fun h2 => ?_)
      · have hv := tw hv h2
        refine r_iconst (v := 0) dX12_wantWord_20 (by decide) ?_
        obtain rfl := hv
        exact hJ (by first | exact nbz0 | exact nbz1)
      · have hv := fw hv h2
        refine r_iconst (v := 1) dX12_wantWord_16 (by decide) ?_
        refine r_goto (tgt := 21) dX12_wantWord_17 (by decide) ?_
        obtain rfl := hv
        exact hJ (by first | exact nbz0 | exact nbz1)
def F_X12_wantEnd (N : Nat) (I : IM) (J : JM) : Option (IM × JM) := (letb (if (I 101 14) = 0 then 0 else (if (F_X12_isMark I 59) = 0 then 0 else 1)) (fun y3 : Int32 => (letb (up2 I 101 14 y3) (fun I4 : IM => (if (I4 101 14) = 0 then (some (I4, J)) else ((F_X12_advance N I4 J).bind (fun x7 => (some (x7.1, x7.2)))))))))
set_option maxHeartbeats 4000000 in
theorem ok_X12_wantEnd {E : GE} {T : TM} {I : IM} {J : JM} {P : PM} {N : Nat} {x : IM × JM} (hL : LOK T P) (hF : F_X12_wantEnd N I J = some x) : Ctr E mX12_wantEnd 3 0 0 [.ref 101] T I J P none T x.1 x.2 P := by
  unfold F_X12_wantEnd at hF
  refine ctr_intro rfl (by decide) (Nat.le_of_ble_eq_true rfl) ?_
  refine r_sub (ls' := [(0, .ref 101)]) [0] rfl ?_
  refine r_aload_n dX12_wantEnd_0 rfl rfl ?_
  refine r_aload_n dX12_wantEnd_1 rfl rfl ?_
  refine r_getI lk_X12_154 (ln_101 hL) dX12_wantEnd_2 ?_
  refine r_joinB (G1 := fun y3 : Int32 => WW E mX12_wantEnd (RM 3 0 0) (ZM E 0 0 none T x.1 x.2 P) 0 0 T I J P 22 [(0, .ref 101)] [.int y3, .ref 101]) hF (fun y3 ny3 hF => ?_) (fun y3 hv hJ => ?_)
  · refine r_putI lk_X12_154 (Or.inl rfl) (ln_101 hL) ny3.1 ny3.2 dX12_wantEnd_22 ?_
    refine r_letI hF (fun I4 hF => ?_)
    refine r_aload_n dX12_wantEnd_25 rfl rfl ?_
    refine r_getI lk_X12_154 (ln_101 hL) dX12_wantEnd_26 ?_
    refine r_if_eq (tgt := 36) dX12_wantEnd_29 (by decide) (fun h6 => ?_) (fun h6 => ?_)
    · have hF := tw hF h6
      obtain rfl := Option.some.inj hF
      exact r_return rfl dX12_wantEnd_36 (Nat.le_of_ble_eq_true rfl) (Nat.le_of_ble_eq_true rfl)
    · have hF := fw hF h6
      refine r_aload_n dX12_wantEnd_32 rfl rfl ?_
      obtain ⟨x7, hx7, hF⟩ := bnd hF
      refine c_virt_v (As := []) mi_X12_advance kw_1094 ks_24 kw_1092 rfl (by decide) (ln_101 hL) (ok_X12_advance hL  hx7) rfl rfl (Nat.le_of_ble_eq_true rfl) ⟨Nat.le_of_ble_eq_true rfl, Nat.le_of_ble_eq_true rfl⟩ ⟨Nat.le_of_ble_eq_true rfl, Nat.le_of_ble_eq_true rfl⟩ dX12_wantEnd_33 ?_
      obtain rfl := Option.some.inj hF
      exact r_return rfl dX12_wantEnd_36 (Nat.le_of_ble_eq_true rfl) (Nat.le_of_ble_eq_true rfl)
  · refine r_if_eq (tgt := 21) dX12_wantEnd_5 (by decide) (fun h1 => ?_) (fun h1 => ?_)
    · have hv := tw hv h1
      refine r_iconst (v := 0) dX12_wantEnd_21 (by decide) ?_
      obtain rfl := hv
      exact hJ (by first | exact nbz0 | exact nbz1)
    · have hv := fw hv h1
      refine r_aload_n dX12_wantEnd_8 rfl rfl ?_
      refine r_bipush (v := 59) dX12_wantEnd_9 (by decide) ?_
      refine c_virt_i (As := [.int 59]) mi_X12_isMark kw_1139 ks_31 kw_1137 rfl (by decide) (ln_101 hL) (ok_X12_isMark hL  (p1 := 59)) rfl rfl (Nat.le_of_ble_eq_true rfl) ⟨Nat.le_of_ble_eq_true rfl, Nat.le_of_ble_eq_true rfl⟩ ⟨Nat.le_of_ble_eq_true rfl, Nat.le_of_ble_eq_true rfl⟩ dX12_wantEnd_11 ?_
      refine r_if_eq (tgt := 21) dX12_wantEnd_14 (by decide) (fun h2 => ?_) (fun h2 => ?_)
      · have hv := tw hv h2
        refine r_iconst (v := 0) dX12_wantEnd_21 (by decide) ?_
        obtain rfl := hv
        exact hJ (by first | exact nbz0 | exact nbz1)
      · have hv := fw hv h2
        refine r_iconst (v := 1) dX12_wantEnd_17 (by decide) ?_
        refine r_goto (tgt := 22) dX12_wantEnd_18 (by decide) ?_
        obtain rfl := hv
        exact hJ (by first | exact nbz0 | exact nbz1)
def F_X12_wantCard (N : Nat) (I : IM) (J : JM) (p1 : Int32) : Option (IM × JM) := (letb (if 6 ≤ (I 101 15) then 0 else 1) (fun y2 : Int32 => (letb (up2 I 101 14 y2) (fun I3 : IM => (if (I3 101 14) = 0 then ((F_X12_wantNumber N I3 J 1 99).bind (fun x6 => ((F_X12_wantWord N x6.2.1 x6.2.2 459383).bind (fun x7 => ((F_X12_wantNumber N x7.1 x7.2 1 9).bind (fun x8 => (if (x8.2.1 101 14) = 0 then ((F_X12_wantEnd N x8.2.1 x8.2.2).bind (fun x11 => (if (x11.1 101 14) = 0 then (some (x11.1, x11.2)) else (if inb (4 * (x11.1 101 15)) 24 = true then (letb (up2 x11.1 108 (4 * (x11.1 101 15)).toNatClampNeg p1) (fun I15 : IM => (if inb ((4 * (I15 101 15)) + 1) 24 = true then (letb (up2 I15 108 ((4 * (I15 101 15)) + 1).toNatClampNeg x6.1) (fun I17 : IM => (if inb ((4 * (I17 101 15)) + 2) 24 = true then (letb (up2 I17 108 ((4 * (I17 101 15)) + 2).toNatClampNeg x8.1) (fun I19 : IM => (if inb ((4 * (I19 101 15)) + 3) 24 = true then (letb (up2 I19 108 ((4 * (I19 101 15)) + 3).toNatClampNeg 0) (fun I21 : IM => (letb (up2 I21 101 15 ((I21 101 15) + 1)) (fun I22 : IM => (some (I22, x11.2)))))) else none))) else none))) else none))) else none)))) else (if (F_X12_isWord x8.2.1 x8.2.2 68056) = 0 then ((F_X12_wantEnd N x8.2.1 x8.2.2).bind (fun x25 => (if (x25.1 101 14) = 0 then (some (x25.1, x25.2)) else (if inb (4 * (x25.1 101 15)) 24 = true then (letb (up2 x25.1 108 (4 * (x25.1 101 15)).toNatClampNeg p1) (fun I29 : IM => (if inb ((4 * (I29 101 15)) + 1) 24 = true then (letb (up2 I29 108 ((4 * (I29 101 15)) + 1).toNatClampNeg x6.1) (fun I31 : IM => (if inb ((4 * (I31 101 15)) + 2) 24 = true then (letb (up2 I31 108 ((4 * (I31 101 15)) + 2).toNatClampNeg x8.1) (fun I33 : IM => (if inb ((4 * (I33 101 15)) + 3) 24 = true then (letb (up2 I33 108 ((4 * (I33 101 15)) + 3).toNatClampNeg 0) (fun I35 : IM => (letb (up2 I35 101 15 ((I35 101 15) + 1)) (fun I36 : IM => (some (I36, x25.2)))))) else none))) else none))) else none))) else none)))) else ((F_X12_advance N x8.2.1 x8.2.2).bind (fun x37 => (letb (F_X12_isMark x37.1 45) (fun y38 : Int32 => (if y38 = 0 then ((F_X12_wantNumber N x37.1 x37.2 0 4).bind (fun x41 => (letb (if y38 = 0 then x41.1 else (-x41.1)) (fun y43 : Int32 => ((F_X12_wantEnd N x41.2.1 x41.2.2).bind (fun x44 => (if (x44.1 101 14) = 0 then (some (x44.1, x44.2)) else (if inb (4 * (x44.1 101 15)) 24 = true then (letb (up2 x44.1 108 (4 * (x44.1 101 15)).toNatClampNeg p1) (fun I48 : IM => (if inb ((4 * (I48 101 15)) + 1) 24 = true then (letb (up2 I48 108 ((4 * (I48 101 15)) + 1).toNatClampNeg x6.1) (fun I50 : IM => (if inb ((4 * (I50 101 15)) + 2) 24 = true then (letb (up2 I50 108 ((4 * (I50 101 15)) + 2).toNatClampNeg x8.1) (fun I52 : IM => (if inb ((4 * (I52 101 15)) + 3) 24 = true then (letb (up2 I52 108 ((4 * (I52 101 15)) + 3).toNatClampNeg y43) (fun I54 : IM => (letb (up2 I54 101 15 ((I54 101 15) + 1)) (fun I55 : IM => (some (I55, x44.2)))))) else none))) else none))) else none))) else none)))))))) else ((F_X12_advance N x37.1 x37.2).bind (fun x56 => ((F_X12_wantNumber N x56.1 x56.2 0 4).bind (fun x57 => (letb (if y38 = 0 then x57.1 else (-x57.1)) (fun y59 : Int32 => ((F_X12_wantEnd N x57.2.1 x57.2.2).bind (fun x60 => (if (x60.1 101 14) = 0 then (some (x60.1, x60.2)) else (if inb (4 * (x60.1 101 15)) 24 = true then (letb (up2 x60.1 108 (4 * (x60.1 101 15)).toNatClampNeg p1) (fun I64 : IM => (if inb ((4 * (I64 101 15)) + 1) 24 = true then (letb (up2 I64 108 ((4 * (I64 101 15)) + 1).toNatClampNeg x6.1) (fun I66 : IM => (if inb ((4 * (I66 101 15)) + 2) 24 = true then (letb (up2 I66 108 ((4 * (I66 101 15)) + 2).toNatClampNeg x8.1) (fun I68 : IM => (if inb ((4 * (I68 101 15)) + 3) 24 = true then (letb (up2 I68 108 ((4 * (I68 101 15)) + 3).toNatClampNeg y59) (fun I70 : IM => (letb (up2 I70 101 15 ((I70 101 15) + 1)) (fun I71 : IM => (some (I71, x60.2)))))) else none))) else none))) else none))) else none))))))))))))))))))))))) else ((F_X12_advance N I3 J).bind (fun x72 => ((F_X12_wantNumber N x72.1 x72.2 1 99).bind (fun x73 => ((F_X12_wantWord N x73.2.1 x73.2.2 459383).bind (fun x74 => ((F_X12_wantNumber N x74.1 x74.2 1 9).bind (fun x75 => (if (x75.2.1 101 14) = 0 then ((F_X12_wantEnd N x75.2.1 x75.2.2).bind (fun x78 => (if (x78.1 101 14) = 0 then (some (x78.1, x78.2)) else (if inb (4 * (x78.1 101 15)) 24 = true then (letb (up2 x78.1 108 (4 * (x78.1 101 15)).toNatClampNeg p1) (fun I82 : IM => (if inb ((4 * (I82 101 15)) + 1) 24 = true then (letb (up2 I82 108 ((4 * (I82 101 15)) + 1).toNatClampNeg x73.1) (fun I84 : IM => (if inb ((4 * (I84 101 15)) + 2) 24 = true then (letb (up2 I84 108 ((4 * (I84 101 15)) + 2).toNatClampNeg x75.1) (fun I86 : IM => (if inb ((4 * (I86 101 15)) + 3) 24 = true then (letb (up2 I86 108 ((4 * (I86 101 15)) + 3).toNatClampNeg 0) (fun I88 : IM => (letb (up2 I88 101 15 ((I88 101 15) + 1)) (fun I89 : IM => (some (I89, x78.2)))))) else none))) else none))) else none))) else none)))) else (if (F_X12_isWord x75.2.1 x75.2.2 68056) = 0 then ((F_X12_wantEnd N x75.2.1 x75.2.2).bind (fun x92 => (if (x92.1 101 14) = 0 then (some (x92.1, x92.2)) else (if inb (4 * (x92.1 101 15)) 24 = true then (letb (up2 x92.1 108 (4 * (x92.1 101 15)).toNatClampNeg p1) (fun I96 : IM => (if inb ((4 * (I96 101 15)) + 1) 24 = true then (letb (up2 I96 108 ((4 * (I96 101 15)) + 1).toNatClampNeg x73.1) (fun I98 : IM => (if inb ((4 * (I98 101 15)) + 2) 24 = true then (letb (up2 I98 108 ((4 * (I98 101 15)) + 2).toNatClampNeg x75.1) (fun I100 : IM => (if inb ((4 * (I100 101 15)) + 3) 24 = true then (letb (up2 I100 108 ((4 * (I100 101 15)) + 3).toNatClampNeg 0) (fun I102 : IM => (letb (up2 I102 101 15 ((I102 101 15) + 1)) (fun I103 : IM => (some (I103, x92.2)))))) else none))) else none))) else none))) else none)))) else ((F_X12_advance N x75.2.1 x75.2.2).bind (fun x104 => (letb (F_X12_isMark x104.1 45) (fun y105 : Int32 => (if y105 = 0 then ((F_X12_wantNumber N x104.1 x104.2 0 4).bind (fun x108 => (letb (if y105 = 0 then x108.1 else (-x108.1)) (fun y110 : Int32 => ((F_X12_wantEnd N x108.2.1 x108.2.2).bind (fun x111 => (if (x111.1 101 14) = 0 then (some (x111.1, x111.2)) else (if inb (4 * (x111.1 101 15)) 24 = true then (letb (up2 x111.1 108 (4 * (x111.1 101 15)).toNatClampNeg p1) (fun I115 : IM => (if inb ((4 * (I115 101 15)) + 1) 24 = true then (letb (up2 I115 108 ((4 * (I115 101 15)) + 1).toNatClampNeg x73.1) (fun I117 : IM => (if inb ((4 * (I117 101 15)) + 2) 24 = true then (letb (up2 I117 108 ((4 * (I117 101 15)) + 2).toNatClampNeg x75.1) (fun I119 : IM => (if inb ((4 * (I119 101 15)) + 3) 24 = true then (letb (up2 I119 108 ((4 * (I119 101 15)) + 3).toNatClampNeg y110) (fun I121 : IM => (letb (up2 I121 101 15 ((I121 101 15) + 1)) (fun I122 : IM => (some (I122, x111.2)))))) else none))) else none))) else none))) else none)))))))) else ((F_X12_advance N x104.1 x104.2).bind (fun x123 => ((F_X12_wantNumber N x123.1 x123.2 0 4).bind (fun x124 => (letb (if y105 = 0 then x124.1 else (-x124.1)) (fun y126 : Int32 => ((F_X12_wantEnd N x124.2.1 x124.2.2).bind (fun x127 => (if (x127.1 101 14) = 0 then (some (x127.1, x127.2)) else (if inb (4 * (x127.1 101 15)) 24 = true then (letb (up2 x127.1 108 (4 * (x127.1 101 15)).toNatClampNeg p1) (fun I131 : IM => (if inb ((4 * (I131 101 15)) + 1) 24 = true then (letb (up2 I131 108 ((4 * (I131 101 15)) + 1).toNatClampNeg x73.1) (fun I133 : IM => (if inb ((4 * (I133 101 15)) + 2) 24 = true then (letb (up2 I133 108 ((4 * (I133 101 15)) + 2).toNatClampNeg x75.1) (fun I135 : IM => (if inb ((4 * (I135 101 15)) + 3) 24 = true then (letb (up2 I135 108 ((4 * (I135 101 15)) + 3).toNatClampNeg y126) (fun I137 : IM => (letb (up2 I137 101 15 ((I137 101 15) + 1)) (fun I138 : IM => (some (I138, x127.2)))))) else none))) else none))) else none))) else none))))))))))))))))))))))))))))))
set_option maxHeartbeats 4000000 in
theorem ok_X12_wantCard {E : GE} {T : TM} {I : IM} {J : JM} {P : PM} {p1 : Int32} {N : Nat} {x : IM × JM} (hL : LOK T P) (hF : F_X12_wantCard N I J p1 = some x) : Ctr E mX12_wantCard 4 0 0 [.ref 101, .int p1] T I J P none T x.1 x.2 P := by
  unfold F_X12_wantCard at hF
  refine ctr_intro rfl (by decide) (Nat.le_of_ble_eq_true rfl) ?_
  refine r_sub (ls' := [(1, .int p1), (0, .ref 101)]) [1, 0] rfl ?_
  refine r_aload_n dX12_wantCard_0 rfl rfl ?_
  refine r_aload_n dX12_wantCard_1 rfl rfl ?_
  refine r_getI lk_X12_164 (ln_101 hL) dX12_wantCard_2 ?_
  refine r_bipush (v := 6) dX12_wantCard_5 (by decide) ?_
  refine r_joinB (G1 := fun y2 : Int32 => WW E mX12_wantCard (RM 4 0 0) (ZM E 0 0 none T x.1 x.2 P) 0 0 T I J P 15 [(1, .int p1), (0, .ref 101)] [.int y2, .ref 101]) hF (fun y2 ny2 hF => ?_) (fun y2 hv hJ => ?_)
  · refine r_putI lk_X12_154 (Or.inl rfl) (ln_101 hL) ny2.1 ny2.2 dX12_wantCard_15 ?_
    refine r_letI hF (fun I3 hF => ?_)
    refine r_aload_n dX12_wantCard_18 rfl rfl ?_
    refine r_getI lk_X12_154 (ln_101 hL) dX12_wantCard_19 ?_
    refine r_if_eq (tgt := 29) dX12_wantCard_22 (by decide) (fun h5 => ?_) (fun h5 => ?_)
    · have hF := tw hF h5
      refine r_aload_n dX12_wantCard_29 rfl rfl ?_
      refine r_iconst (v := 1) dX12_wantCard_30 (by decide) ?_
      refine r_bipush (v := 99) dX12_wantCard_31 (by decide) ?_
      obtain ⟨x6, hx6, hF⟩ := bnd hF
      refine c_virt_i (As := [.int 1, .int 99]) mi_X12_wantNumber kw_1129 ks_29 kw_1127 rfl (by decide) (ln_101 hL) (ok_X12_wantNumber hL  hx6) rfl rfl (Nat.le_of_ble_eq_true rfl) ⟨Nat.le_of_ble_eq_true rfl, Nat.le_of_ble_eq_true rfl⟩ ⟨Nat.le_of_ble_eq_true rfl, Nat.le_of_ble_eq_true rfl⟩ dX12_wantCard_33 ?_
      refine r_istore_n (ls' := [(2, .int x6.1), (1, .int p1), (0, .ref 101)]) dX12_wantCard_36 rfl (by decide) rfl ?_
      refine r_aload_n dX12_wantCard_37 rfl rfl ?_
      refine r_ldc2 dX12_wantCard_38 kw_1131 ?_
      obtain ⟨x7, hx7, hF⟩ := bnd hF
      refine c_virt_v (As := [.long 459383]) mi_X12_wantWord kw_1134 ks_30 kw_1132 rfl (by decide) (ln_101 hL) (ok_X12_wantWord hL  hx7) rfl rfl (Nat.le_of_ble_eq_true rfl) ⟨Nat.le_of_ble_eq_true rfl, Nat.le_of_ble_eq_true rfl⟩ ⟨Nat.le_of_ble_eq_true rfl, Nat.le_of_ble_eq_true rfl⟩ dX12_wantCard_41 ?_
      refine r_aload_n dX12_wantCard_44 rfl rfl ?_
      refine r_iconst (v := 1) dX12_wantCard_45 (by decide) ?_
      refine r_bipush (v := 9) dX12_wantCard_46 (by decide) ?_
      obtain ⟨x8, hx8, hF⟩ := bnd hF
      refine c_virt_i (As := [.int 1, .int 9]) mi_X12_wantNumber kw_1129 ks_29 kw_1127 rfl (by decide) (ln_101 hL) (ok_X12_wantNumber hL  hx8) rfl rfl (Nat.le_of_ble_eq_true rfl) ⟨Nat.le_of_ble_eq_true rfl, Nat.le_of_ble_eq_true rfl⟩ ⟨Nat.le_of_ble_eq_true rfl, Nat.le_of_ble_eq_true rfl⟩ dX12_wantCard_48 ?_
      refine r_istore_n (ls' := [(3, .int x8.1), (2, .int x6.1), (1, .int p1), (0, .ref 101)]) dX12_wantCard_51 rfl (by decide) rfl ?_
      refine r_iconst (v := 0) dX12_wantCard_52 (by decide) ?_
      refine r_istore (ls' := [(4, .int 0), (3, .int x8.1), (2, .int x6.1), (1, .int p1), (0, .ref 101)]) dX12_wantCard_53 (by decide) rfl ?_
      refine r_aload_n dX12_wantCard_55 rfl rfl ?_
      refine r_getI lk_X12_154 (ln_101 hL) dX12_wantCard_56 ?_
      refine r_if_eq (tgt := 116) dX12_wantCard_59 (by decide) (fun h10 => ?_) (fun h10 => ?_)
      · have hF := tw hF h10
        refine r_aload_n dX12_wantCard_116 rfl rfl ?_
        obtain ⟨x11, hx11, hF⟩ := bnd hF
        refine c_virt_v (As := []) mi_X12_wantEnd kw_1143 ks_32 kw_1141 rfl (by decide) (ln_101 hL) (ok_X12_wantEnd hL  hx11) rfl rfl (Nat.le_of_ble_eq_true rfl) ⟨Nat.le_of_ble_eq_true rfl, Nat.le_of_ble_eq_true rfl⟩ ⟨Nat.le_of_ble_eq_true rfl, Nat.le_of_ble_eq_true rfl⟩ dX12_wantCard_117 ?_
        refine r_aload_n dX12_wantCard_120 rfl rfl ?_
        refine r_getI lk_X12_154 (ln_101 hL) dX12_wantCard_121 ?_
        refine r_if_eq (tgt := 192) dX12_wantCard_124 (by decide) (fun h13 => ?_) (fun h13 => ?_)
        · have hF := tw hF h13
          obtain rfl := Option.some.inj hF
          exact r_return rfl dX12_wantCard_192 (Nat.le_of_ble_eq_true rfl) (Nat.le_of_ble_eq_true rfl)
        · have hF := fw hF h13
          refine r_aload_n dX12_wantCard_127 rfl rfl ?_
          refine r_getP lk_X12_32 (ln_101 hL) (pp_101_16 hL) dX12_wantCard_128 ?_
          refine r_iconst (v := 4) dX12_wantCard_131 (by decide) ?_
          refine r_aload_n dX12_wantCard_132 rfl rfl ?_
          refine r_getI lk_X12_164 (ln_101 hL) dX12_wantCard_133 ?_
          refine r_imul dX12_wantCard_136 ?_
          refine r_iload_n dX12_wantCard_137 rfl rfl ?_
          obtain ⟨g14, hF⟩ := gd hF
          refine r_iast (ln_108 hL) (by rw [(nl_108 hL)]; exact g14) dX12_wantCard_138 ?_
          refine r_letI hF (fun I15 hF => ?_)
          refine r_aload_n dX12_wantCard_139 rfl rfl ?_
          refine r_getP lk_X12_32 (ln_101 hL) (pp_101_16 hL) dX12_wantCard_140 ?_
          refine r_iconst (v := 4) dX12_wantCard_143 (by decide) ?_
          refine r_aload_n dX12_wantCard_144 rfl rfl ?_
          refine r_getI lk_X12_164 (ln_101 hL) dX12_wantCard_145 ?_
          refine r_imul dX12_wantCard_148 ?_
          refine r_iconst (v := 1) dX12_wantCard_149 (by decide) ?_
          refine r_iadd dX12_wantCard_150 ?_
          refine r_iload_n dX12_wantCard_151 rfl rfl ?_
          obtain ⟨g16, hF⟩ := gd hF
          refine r_iast (ln_108 hL) (by rw [(nl_108 hL)]; exact g16) dX12_wantCard_152 ?_
          refine r_letI hF (fun I17 hF => ?_)
          refine r_aload_n dX12_wantCard_153 rfl rfl ?_
          refine r_getP lk_X12_32 (ln_101 hL) (pp_101_16 hL) dX12_wantCard_154 ?_
          refine r_iconst (v := 4) dX12_wantCard_157 (by decide) ?_
          refine r_aload_n dX12_wantCard_158 rfl rfl ?_
          refine r_getI lk_X12_164 (ln_101 hL) dX12_wantCard_159 ?_
          refine r_imul dX12_wantCard_162 ?_
          refine r_iconst (v := 2) dX12_wantCard_163 (by decide) ?_
          refine r_iadd dX12_wantCard_164 ?_
          refine r_iload_n dX12_wantCard_165 rfl rfl ?_
          obtain ⟨g18, hF⟩ := gd hF
          refine r_iast (ln_108 hL) (by rw [(nl_108 hL)]; exact g18) dX12_wantCard_166 ?_
          refine r_letI hF (fun I19 hF => ?_)
          refine r_aload_n dX12_wantCard_167 rfl rfl ?_
          refine r_getP lk_X12_32 (ln_101 hL) (pp_101_16 hL) dX12_wantCard_168 ?_
          refine r_iconst (v := 4) dX12_wantCard_171 (by decide) ?_
          refine r_aload_n dX12_wantCard_172 rfl rfl ?_
          refine r_getI lk_X12_164 (ln_101 hL) dX12_wantCard_173 ?_
          refine r_imul dX12_wantCard_176 ?_
          refine r_iconst (v := 3) dX12_wantCard_177 (by decide) ?_
          refine r_iadd dX12_wantCard_178 ?_
          refine r_iload dX12_wantCard_179 rfl ?_
          obtain ⟨g20, hF⟩ := gd hF
          refine r_iast (ln_108 hL) (by rw [(nl_108 hL)]; exact g20) dX12_wantCard_181 ?_
          refine r_letI hF (fun I21 hF => ?_)
          refine r_aload_n dX12_wantCard_182 rfl rfl ?_
          refine r_dup dX12_wantCard_183 rfl ?_
          refine r_getI lk_X12_164 (ln_101 hL) dX12_wantCard_184 ?_
          refine r_iconst (v := 1) dX12_wantCard_187 (by decide) ?_
          refine r_iadd dX12_wantCard_188 ?_
          refine r_putI lk_X12_164 (Or.inl rfl) (ln_101 hL) rfl rfl dX12_wantCard_189 ?_
          refine r_letI hF (fun I22 hF => ?_)
          obtain rfl := Option.some.inj hF
          exact r_return rfl dX12_wantCard_192 (Nat.le_of_ble_eq_true rfl) (Nat.le_of_ble_eq_true rfl)
      · have hF := fw hF h10
        refine r_aload_n dX12_wantCard_62 rfl rfl ?_
        refine r_ldc2 dX12_wantCard_63 kw_1136 ?_
        refine c_virt_i (As := [.long 68056]) mi_X12_isWord kw_1116 ks_27 kw_1114 rfl (by decide) (ln_101 hL) (ok_X12_isWord hL  (p1 := 68056)) rfl rfl (Nat.le_of_ble_eq_true rfl) ⟨Nat.le_of_ble_eq_true rfl, Nat.le_of_ble_eq_true rfl⟩ ⟨Nat.le_of_ble_eq_true rfl, Nat.le_of_ble_eq_true rfl⟩ dX12_wantCard_66 ?_
        refine r_if_eq (tgt := 116) dX12_wantCard_69 (by decide) (fun h24 => ?_) (fun h24 => ?_)
        · have hF := tw hF h24
          refine r_aload_n dX12_wantCard_116 rfl rfl ?_
          obtain ⟨x25, hx25, hF⟩ := bnd hF
          refine c_virt_v (As := []) mi_X12_wantEnd kw_1143 ks_32 kw_1141 rfl (by decide) (ln_101 hL) (ok_X12_wantEnd hL  hx25) rfl rfl (Nat.le_of_ble_eq_true rfl) ⟨Nat.le_of_ble_eq_true rfl, Nat.le_of_ble_eq_true rfl⟩ ⟨Nat.le_of_ble_eq_true rfl, Nat.le_of_ble_eq_true rfl⟩ dX12_wantCard_117 ?_
          refine r_aload_n dX12_wantCard_120 rfl rfl ?_
          refine r_getI lk_X12_154 (ln_101 hL) dX12_wantCard_121 ?_
          refine r_if_eq (tgt := 192) dX12_wantCard_124 (by decide) (fun h27 => ?_) (fun h27 => ?_)
          · have hF := tw hF h27
            obtain rfl := Option.some.inj hF
            exact r_return rfl dX12_wantCard_192 (Nat.le_of_ble_eq_true rfl) (Nat.le_of_ble_eq_true rfl)
          · have hF := fw hF h27
            refine r_aload_n dX12_wantCard_127 rfl rfl ?_
            refine r_getP lk_X12_32 (ln_101 hL) (pp_101_16 hL) dX12_wantCard_128 ?_
            refine r_iconst (v := 4) dX12_wantCard_131 (by decide) ?_
            refine r_aload_n dX12_wantCard_132 rfl rfl ?_
            refine r_getI lk_X12_164 (ln_101 hL) dX12_wantCard_133 ?_
            refine r_imul dX12_wantCard_136 ?_
            refine r_iload_n dX12_wantCard_137 rfl rfl ?_
            obtain ⟨g28, hF⟩ := gd hF
            refine r_iast (ln_108 hL) (by rw [(nl_108 hL)]; exact g28) dX12_wantCard_138 ?_
            refine r_letI hF (fun I29 hF => ?_)
            refine r_aload_n dX12_wantCard_139 rfl rfl ?_
            refine r_getP lk_X12_32 (ln_101 hL) (pp_101_16 hL) dX12_wantCard_140 ?_
            refine r_iconst (v := 4) dX12_wantCard_143 (by decide) ?_
            refine r_aload_n dX12_wantCard_144 rfl rfl ?_
            refine r_getI lk_X12_164 (ln_101 hL) dX12_wantCard_145 ?_
            refine r_imul dX12_wantCard_148 ?_
            refine r_iconst (v := 1) dX12_wantCard_149 (by decide) ?_
            refine r_iadd dX12_wantCard_150 ?_
            refine r_iload_n dX12_wantCard_151 rfl rfl ?_
            obtain ⟨g30, hF⟩ := gd hF
            refine r_iast (ln_108 hL) (by rw [(nl_108 hL)]; exact g30) dX12_wantCard_152 ?_
            refine r_letI hF (fun I31 hF => ?_)
            refine r_aload_n dX12_wantCard_153 rfl rfl ?_
            refine r_getP lk_X12_32 (ln_101 hL) (pp_101_16 hL) dX12_wantCard_154 ?_
            refine r_iconst (v := 4) dX12_wantCard_157 (by decide) ?_
            refine r_aload_n dX12_wantCard_158 rfl rfl ?_
            refine r_getI lk_X12_164 (ln_101 hL) dX12_wantCard_159 ?_
            refine r_imul dX12_wantCard_162 ?_
            refine r_iconst (v := 2) dX12_wantCard_163 (by decide) ?_
            refine r_iadd dX12_wantCard_164 ?_
            refine r_iload_n dX12_wantCard_165 rfl rfl ?_
            obtain ⟨g32, hF⟩ := gd hF
            refine r_iast (ln_108 hL) (by rw [(nl_108 hL)]; exact g32) dX12_wantCard_166 ?_
            refine r_letI hF (fun I33 hF => ?_)
            refine r_aload_n dX12_wantCard_167 rfl rfl ?_
            refine r_getP lk_X12_32 (ln_101 hL) (pp_101_16 hL) dX12_wantCard_168 ?_
            refine r_iconst (v := 4) dX12_wantCard_171 (by decide) ?_
            refine r_aload_n dX12_wantCard_172 rfl rfl ?_
            refine r_getI lk_X12_164 (ln_101 hL) dX12_wantCard_173 ?_
            refine r_imul dX12_wantCard_176 ?_
            refine r_iconst (v := 3) dX12_wantCard_177 (by decide) ?_
            refine r_iadd dX12_wantCard_178 ?_
            refine r_iload dX12_wantCard_179 rfl ?_
            obtain ⟨g34, hF⟩ := gd hF
            refine r_iast (ln_108 hL) (by rw [(nl_108 hL)]; exact g34) dX12_wantCard_181 ?_
            refine r_letI hF (fun I35 hF => ?_)
            refine r_aload_n dX12_wantCard_182 rfl rfl ?_
            refine r_dup dX12_wantCard_183 rfl ?_
            refine r_getI lk_X12_164 (ln_101 hL) dX12_wantCard_184 ?_
            refine r_iconst (v := 1) dX12_wantCard_187 (by decide) ?_
            refine r_iadd dX12_wantCard_188 ?_
            refine r_putI lk_X12_164 (Or.inl rfl) (ln_101 hL) rfl rfl dX12_wantCard_189 ?_
            refine r_letI hF (fun I36 hF => ?_)
            obtain rfl := Option.some.inj hF
            exact r_return rfl dX12_wantCard_192 (Nat.le_of_ble_eq_true rfl) (Nat.le_of_ble_eq_true rfl)
        · have hF := fw hF h24
          refine r_aload_n dX12_wantCard_72 rfl rfl ?_
          obtain ⟨x37, hx37, hF⟩ := bnd hF
          refine c_virt_v (As := []) mi_X12_advance kw_1094 ks_24 kw_1092 rfl (by decide) (ln_101 hL) (ok_X12_advance hL  hx37) rfl rfl (Nat.le_of_ble_eq_true rfl) ⟨Nat.le_of_ble_eq_true rfl, Nat.le_of_ble_eq_true rfl⟩ ⟨Nat.le_of_ble_eq_true rfl, Nat.le_of_ble_eq_true rfl⟩ dX12_wantCard_73 ?_
          refine r_aload_n dX12_wantCard_76 rfl rfl ?_
          refine r_bipush (v := 45) dX12_wantCard_77 (by decide) ?_
          refine c_virt_i (As := [.int 45]) mi_X12_isMark kw_1139 ks_31 kw_1137 rfl (by decide) (ln_101 hL) (ok_X12_isMark hL  (p1 := 45)) rfl rfl (Nat.le_of_ble_eq_true rfl) ⟨Nat.le_of_ble_eq_true rfl, Nat.le_of_ble_eq_true rfl⟩ ⟨Nat.le_of_ble_eq_true rfl, Nat.le_of_ble_eq_true rfl⟩ dX12_wantCard_79 ?_
          refine r_letV hF (fun y38 hF => ?_)
          refine r_istore (ls' := [(5, .int y38), (4, .int 0), (3, .int x8.1), (2, .int x6.1), (1, .int p1), (0, .ref 101)]) dX12_wantCard_82 (by decide) rfl ?_
          refine r_iload dX12_wantCard_84 rfl ?_
          refine r_if_eq (tgt := 93) dX12_wantCard_86 (by decide) (fun h40 => ?_) (fun h40 => ?_)
          · have hF := tw hF h40
            refine r_aload_n dX12_wantCard_93 rfl rfl ?_
            refine r_iconst (v := 0) dX12_wantCard_94 (by decide) ?_
            refine r_iconst (v := 4) dX12_wantCard_95 (by decide) ?_
            obtain ⟨x41, hx41, hF⟩ := bnd hF
            refine c_virt_i (As := [.int 0, .int 4]) mi_X12_wantNumber kw_1129 ks_29 kw_1127 rfl (by decide) (ln_101 hL) (ok_X12_wantNumber hL  hx41) rfl rfl (Nat.le_of_ble_eq_true rfl) ⟨Nat.le_of_ble_eq_true rfl, Nat.le_of_ble_eq_true rfl⟩ ⟨Nat.le_of_ble_eq_true rfl, Nat.le_of_ble_eq_true rfl⟩ dX12_wantCard_96 ?_
            refine r_istore (ls' := [(4, .int x41.1), (5, .int y38), (3, .int x8.1), (2, .int x6.1), (1, .int p1), (0, .ref 101)]) dX12_wantCard_99 (by decide) rfl ?_
            refine r_iload dX12_wantCard_101 rfl ?_
            refine r_join (G1 := fun y43 : Int32 => WW E mX12_wantCard (RM 4 0 0) (ZM E 0 0 none T x.1 x.2 P) 0 0 T x41.2.1 x41.2.2 P 114 [(4, .int x41.1), (5, .int y38), (3, .int x8.1), (2, .int x6.1), (1, .int p1), (0, .ref 101)] [.int y43]) hF (fun y43 hF => ?_) (fun y43 hv hJ => ?_)
            · refine r_istore (ls' := [(4, .int y43), (5, .int y38), (3, .int x8.1), (2, .int x6.1), (1, .int p1), (0, .ref 101)]) dX12_wantCard_114 (by decide) rfl ?_
              refine r_aload_n dX12_wantCard_116 rfl rfl ?_
              obtain ⟨x44, hx44, hF⟩ := bnd hF
              refine c_virt_v (As := []) mi_X12_wantEnd kw_1143 ks_32 kw_1141 rfl (by decide) (ln_101 hL) (ok_X12_wantEnd hL  hx44) rfl rfl (Nat.le_of_ble_eq_true rfl) ⟨Nat.le_of_ble_eq_true rfl, Nat.le_of_ble_eq_true rfl⟩ ⟨Nat.le_of_ble_eq_true rfl, Nat.le_of_ble_eq_true rfl⟩ dX12_wantCard_117 ?_
              refine r_aload_n dX12_wantCard_120 rfl rfl ?_
              refine r_getI lk_X12_154 (ln_101 hL) dX12_wantCard_121 ?_
              refine r_if_eq (tgt := 192) dX12_wantCard_124 (by decide) (fun h46 => ?_) (fun h46 => ?_)
              · have hF := tw hF h46
                obtain rfl := Option.some.inj hF
                exact r_return rfl dX12_wantCard_192 (Nat.le_of_ble_eq_true rfl) (Nat.le_of_ble_eq_true rfl)
              · have hF := fw hF h46
                refine r_aload_n dX12_wantCard_127 rfl rfl ?_
                refine r_getP lk_X12_32 (ln_101 hL) (pp_101_16 hL) dX12_wantCard_128 ?_
                refine r_iconst (v := 4) dX12_wantCard_131 (by decide) ?_
                refine r_aload_n dX12_wantCard_132 rfl rfl ?_
                refine r_getI lk_X12_164 (ln_101 hL) dX12_wantCard_133 ?_
                refine r_imul dX12_wantCard_136 ?_
                refine r_iload_n dX12_wantCard_137 rfl rfl ?_
                obtain ⟨g47, hF⟩ := gd hF
                refine r_iast (ln_108 hL) (by rw [(nl_108 hL)]; exact g47) dX12_wantCard_138 ?_
                refine r_letI hF (fun I48 hF => ?_)
                refine r_aload_n dX12_wantCard_139 rfl rfl ?_
                refine r_getP lk_X12_32 (ln_101 hL) (pp_101_16 hL) dX12_wantCard_140 ?_
                refine r_iconst (v := 4) dX12_wantCard_143 (by decide) ?_
                refine r_aload_n dX12_wantCard_144 rfl rfl ?_
                refine r_getI lk_X12_164 (ln_101 hL) dX12_wantCard_145 ?_
                refine r_imul dX12_wantCard_148 ?_
                refine r_iconst (v := 1) dX12_wantCard_149 (by decide) ?_
                refine r_iadd dX12_wantCard_150 ?_
                refine r_iload_n dX12_wantCard_151 rfl rfl ?_
                obtain ⟨g49, hF⟩ := gd hF
                refine r_iast (ln_108 hL) (by rw [(nl_108 hL)]; exact g49) dX12_wantCard_152 ?_
                refine r_letI hF (fun I50 hF => ?_)
                refine r_aload_n dX12_wantCard_153 rfl rfl ?_
                refine r_getP lk_X12_32 (ln_101 hL) (pp_101_16 hL) dX12_wantCard_154 ?_
                refine r_iconst (v := 4) dX12_wantCard_157 (by decide) ?_
                refine r_aload_n dX12_wantCard_158 rfl rfl ?_
                refine r_getI lk_X12_164 (ln_101 hL) dX12_wantCard_159 ?_
                refine r_imul dX12_wantCard_162 ?_
                refine r_iconst (v := 2) dX12_wantCard_163 (by decide) ?_
                refine r_iadd dX12_wantCard_164 ?_
                refine r_iload_n dX12_wantCard_165 rfl rfl ?_
                obtain ⟨g51, hF⟩ := gd hF
                refine r_iast (ln_108 hL) (by rw [(nl_108 hL)]; exact g51) dX12_wantCard_166 ?_
                refine r_letI hF (fun I52 hF => ?_)
                refine r_aload_n dX12_wantCard_167 rfl rfl ?_
                refine r_getP lk_X12_32 (ln_101 hL) (pp_101_16 hL) dX12_wantCard_168 ?_
                refine r_iconst (v := 4) dX12_wantCard_171 (by decide) ?_
                refine r_aload_n dX12_wantCard_172 rfl rfl ?_
                refine r_getI lk_X12_164 (ln_101 hL) dX12_wantCard_173 ?_
                refine r_imul dX12_wantCard_176 ?_
                refine r_iconst (v := 3) dX12_wantCard_177 (by decide) ?_
                refine r_iadd dX12_wantCard_178 ?_
                refine r_iload dX12_wantCard_179 rfl ?_
                obtain ⟨g53, hF⟩ := gd hF
                refine r_iast (ln_108 hL) (by rw [(nl_108 hL)]; exact g53) dX12_wantCard_181 ?_
                refine r_letI hF (fun I54 hF => ?_)
                refine r_aload_n dX12_wantCard_182 rfl rfl ?_
                refine r_dup dX12_wantCard_183 rfl ?_
                refine r_getI lk_X12_164 (ln_101 hL) dX12_wantCard_184 ?_
                refine r_iconst (v := 1) dX12_wantCard_187 (by decide) ?_
                refine r_iadd dX12_wantCard_188 ?_
                refine r_putI lk_X12_164 (Or.inl rfl) (ln_101 hL) rfl rfl dX12_wantCard_189 ?_
                refine r_letI hF (fun I55 hF => ?_)
                obtain rfl := Option.some.inj hF
                exact r_return rfl dX12_wantCard_192 (Nat.le_of_ble_eq_true rfl) (Nat.le_of_ble_eq_true rfl)
            · refine r_if_eq (tgt := 112) dX12_wantCard_103 (by decide) (fun h42 => ?_) (fun h42 => ?_)
              · have hv := tw hv h42
                refine r_iload dX12_wantCard_112 rfl ?_
                obtain rfl := hv
                exact hJ
              · have hv := fw hv h42
                refine r_iload dX12_wantCard_106 rfl ?_
                refine r_ineg dX12_wantCard_108 ?_
                refine r_goto (tgt := 114) dX12_wantCard_109 (by decide) ?_
                obtain rfl := hv
                exact hJ
          · have hF := fw hF h40
            refine r_aload_n dX12_wantCard_89 rfl rfl ?_
            obtain ⟨x56, hx56, hF⟩ := bnd hF
            refine c_virt_v (As := []) mi_X12_advance kw_1094 ks_24 kw_1092 rfl (by decide) (ln_101 hL) (ok_X12_advance hL  hx56) rfl rfl (Nat.le_of_ble_eq_true rfl) ⟨Nat.le_of_ble_eq_true rfl, Nat.le_of_ble_eq_true rfl⟩ ⟨Nat.le_of_ble_eq_true rfl, Nat.le_of_ble_eq_true rfl⟩ dX12_wantCard_90 ?_
            refine r_aload_n dX12_wantCard_93 rfl rfl ?_
            refine r_iconst (v := 0) dX12_wantCard_94 (by decide) ?_
            refine r_iconst (v := 4) dX12_wantCard_95 (by decide) ?_
            obtain ⟨x57, hx57, hF⟩ := bnd hF
            refine c_virt_i (As := [.int 0, .int 4]) mi_X12_wantNumber kw_1129 ks_29 kw_1127 rfl (by decide) (ln_101 hL) (ok_X12_wantNumber hL  hx57) rfl rfl (Nat.le_of_ble_eq_true rfl) ⟨Nat.le_of_ble_eq_true rfl, Nat.le_of_ble_eq_true rfl⟩ ⟨Nat.le_of_ble_eq_true rfl, Nat.le_of_ble_eq_true rfl⟩ dX12_wantCard_96 ?_
            refine r_istore (ls' := [(4, .int x57.1), (5, .int y38), (3, .int x8.1), (2, .int x6.1), (1, .int p1), (0, .ref 101)]) dX12_wantCard_99 (by decide) rfl ?_
            refine r_iload dX12_wantCard_101 rfl ?_
            refine r_join (G1 := fun y59 : Int32 => WW E mX12_wantCard (RM 4 0 0) (ZM E 0 0 none T x.1 x.2 P) 0 0 T x57.2.1 x57.2.2 P 114 [(4, .int x57.1), (5, .int y38), (3, .int x8.1), (2, .int x6.1), (1, .int p1), (0, .ref 101)] [.int y59]) hF (fun y59 hF => ?_) (fun y59 hv hJ => ?_)
            · refine r_istore (ls' := [(4, .int y59), (5, .int y38), (3, .int x8.1), (2, .int x6.1), (1, .int p1), (0, .ref 101)]) dX12_wantCard_114 (by decide) rfl ?_
              refine r_aload_n dX12_wantCard_116 rfl rfl ?_
              obtain ⟨x60, hx60, hF⟩ := bnd hF
              refine c_virt_v (As := []) mi_X12_wantEnd kw_1143 ks_32 kw_1141 rfl (by decide) (ln_101 hL) (ok_X12_wantEnd hL  hx60) rfl rfl (Nat.le_of_ble_eq_true rfl) ⟨Nat.le_of_ble_eq_true rfl, Nat.le_of_ble_eq_true rfl⟩ ⟨Nat.le_of_ble_eq_true rfl, Nat.le_of_ble_eq_true rfl⟩ dX12_wantCard_117 ?_
              refine r_aload_n dX12_wantCard_120 rfl rfl ?_
              refine r_getI lk_X12_154 (ln_101 hL) dX12_wantCard_121 ?_
              refine r_if_eq (tgt := 192) dX12_wantCard_124 (by decide) (fun h62 => ?_) (fun h62 => ?_)
              · have hF := tw hF h62
                obtain rfl := Option.some.inj hF
                exact r_return rfl dX12_wantCard_192 (Nat.le_of_ble_eq_true rfl) (Nat.le_of_ble_eq_true rfl)
              · have hF := fw hF h62
                refine r_aload_n dX12_wantCard_127 rfl rfl ?_
                refine r_getP lk_X12_32 (ln_101 hL) (pp_101_16 hL) dX12_wantCard_128 ?_
                refine r_iconst (v := 4) dX12_wantCard_131 (by decide) ?_
                refine r_aload_n dX12_wantCard_132 rfl rfl ?_
                refine r_getI lk_X12_164 (ln_101 hL) dX12_wantCard_133 ?_
                refine r_imul dX12_wantCard_136 ?_
                refine r_iload_n dX12_wantCard_137 rfl rfl ?_
                obtain ⟨g63, hF⟩ := gd hF
                refine r_iast (ln_108 hL) (by rw [(nl_108 hL)]; exact g63) dX12_wantCard_138 ?_
                refine r_letI hF (fun I64 hF => ?_)
                refine r_aload_n dX12_wantCard_139 rfl rfl ?_
                refine r_getP lk_X12_32 (ln_101 hL) (pp_101_16 hL) dX12_wantCard_140 ?_
                refine r_iconst (v := 4) dX12_wantCard_143 (by decide) ?_
                refine r_aload_n dX12_wantCard_144 rfl rfl ?_
                refine r_getI lk_X12_164 (ln_101 hL) dX12_wantCard_145 ?_
                refine r_imul dX12_wantCard_148 ?_
                refine r_iconst (v := 1) dX12_wantCard_149 (by decide) ?_
                refine r_iadd dX12_wantCard_150 ?_
                refine r_iload_n dX12_wantCard_151 rfl rfl ?_
                obtain ⟨g65, hF⟩ := gd hF
                refine r_iast (ln_108 hL) (by rw [(nl_108 hL)]; exact g65) dX12_wantCard_152 ?_
                refine r_letI hF (fun I66 hF => ?_)
                refine r_aload_n dX12_wantCard_153 rfl rfl ?_
                refine r_getP lk_X12_32 (ln_101 hL) (pp_101_16 hL) dX12_wantCard_154 ?_
                refine r_iconst (v := 4) dX12_wantCard_157 (by decide) ?_
                refine r_aload_n dX12_wantCard_158 rfl rfl ?_
                refine r_getI lk_X12_164 (ln_101 hL) dX12_wantCard_159 ?_
                refine r_imul dX12_wantCard_162 ?_
                refine r_iconst (v := 2) dX12_wantCard_163 (by decide) ?_
                refine r_iadd dX12_wantCard_164 ?_
                refine r_iload_n dX12_wantCard_165 rfl rfl ?_
                obtain ⟨g67, hF⟩ := gd hF
                refine r_iast (ln_108 hL) (by rw [(nl_108 hL)]; exact g67) dX12_wantCard_166 ?_
                refine r_letI hF (fun I68 hF => ?_)
                refine r_aload_n dX12_wantCard_167 rfl rfl ?_
                refine r_getP lk_X12_32 (ln_101 hL) (pp_101_16 hL) dX12_wantCard_168 ?_
                refine r_iconst (v := 4) dX12_wantCard_171 (by decide) ?_
                refine r_aload_n dX12_wantCard_172 rfl rfl ?_
                refine r_getI lk_X12_164 (ln_101 hL) dX12_wantCard_173 ?_
                refine r_imul dX12_wantCard_176 ?_
                refine r_iconst (v := 3) dX12_wantCard_177 (by decide) ?_
                refine r_iadd dX12_wantCard_178 ?_
                refine r_iload dX12_wantCard_179 rfl ?_
                obtain ⟨g69, hF⟩ := gd hF
                refine r_iast (ln_108 hL) (by rw [(nl_108 hL)]; exact g69) dX12_wantCard_181 ?_
                refine r_letI hF (fun I70 hF => ?_)
                refine r_aload_n dX12_wantCard_182 rfl rfl ?_
                refine r_dup dX12_wantCard_183 rfl ?_
                refine r_getI lk_X12_164 (ln_101 hL) dX12_wantCard_184 ?_
                refine r_iconst (v := 1) dX12_wantCard_187 (by decide) ?_
                refine r_iadd dX12_wantCard_188 ?_
                refine r_putI lk_X12_164 (Or.inl rfl) (ln_101 hL) rfl rfl dX12_wantCard_189 ?_
                refine r_letI hF (fun I71 hF => ?_)
                obtain rfl := Option.some.inj hF
                exact r_return rfl dX12_wantCard_192 (Nat.le_of_ble_eq_true rfl) (Nat.le_of_ble_eq_true rfl)
            · refine r_if_eq (tgt := 112) dX12_wantCard_103 (by decide) (fun h58 => ?_) (fun h58 => ?_)
              · have hv := tw hv h58
                refine r_iload dX12_wantCard_112 rfl ?_
                obtain rfl := hv
                exact hJ
              · have hv := fw hv h58
                refine r_iload dX12_wantCard_106 rfl ?_
                refine r_ineg dX12_wantCard_108 ?_
                refine r_goto (tgt := 114) dX12_wantCard_109 (by decide) ?_
                obtain rfl := hv
                exact hJ
    · have hF := fw hF h5
      refine r_aload_n dX12_wantCard_25 rfl rfl ?_
      obtain ⟨x72, hx72, hF⟩ := bnd hF
      refine c_virt_v (As := []) mi_X12_advance kw_1094 ks_24 kw_1092 rfl (by decide) (ln_101 hL) (ok_X12_advance hL  hx72) rfl rfl (Nat.le_of_ble_eq_true rfl) ⟨Nat.le_of_ble_eq_true rfl, Nat.le_of_ble_eq_true rfl⟩ ⟨Nat.le_of_ble_eq_true rfl, Nat.le_of_ble_eq_true rfl⟩ dX12_wantCard_26 ?_
      refine r_aload_n dX12_wantCard_29 rfl rfl ?_
      refine r_iconst (v := 1) dX12_wantCard_30 (by decide) ?_
      refine r_bipush (v := 99) dX12_wantCard_31 (by decide) ?_
      obtain ⟨x73, hx73, hF⟩ := bnd hF
      refine c_virt_i (As := [.int 1, .int 99]) mi_X12_wantNumber kw_1129 ks_29 kw_1127 rfl (by decide) (ln_101 hL) (ok_X12_wantNumber hL  hx73) rfl rfl (Nat.le_of_ble_eq_true rfl) ⟨Nat.le_of_ble_eq_true rfl, Nat.le_of_ble_eq_true rfl⟩ ⟨Nat.le_of_ble_eq_true rfl, Nat.le_of_ble_eq_true rfl⟩ dX12_wantCard_33 ?_
      refine r_istore_n (ls' := [(2, .int x73.1), (1, .int p1), (0, .ref 101)]) dX12_wantCard_36 rfl (by decide) rfl ?_
      refine r_aload_n dX12_wantCard_37 rfl rfl ?_
      refine r_ldc2 dX12_wantCard_38 kw_1131 ?_
      obtain ⟨x74, hx74, hF⟩ := bnd hF
      refine c_virt_v (As := [.long 459383]) mi_X12_wantWord kw_1134 ks_30 kw_1132 rfl (by decide) (ln_101 hL) (ok_X12_wantWord hL  hx74) rfl rfl (Nat.le_of_ble_eq_true rfl) ⟨Nat.le_of_ble_eq_true rfl, Nat.le_of_ble_eq_true rfl⟩ ⟨Nat.le_of_ble_eq_true rfl, Nat.le_of_ble_eq_true rfl⟩ dX12_wantCard_41 ?_
      refine r_aload_n dX12_wantCard_44 rfl rfl ?_
      refine r_iconst (v := 1) dX12_wantCard_45 (by decide) ?_
      refine r_bipush (v := 9) dX12_wantCard_46 (by decide) ?_
      obtain ⟨x75, hx75, hF⟩ := bnd hF
      refine c_virt_i (As := [.int 1, .int 9]) mi_X12_wantNumber kw_1129 ks_29 kw_1127 rfl (by decide) (ln_101 hL) (ok_X12_wantNumber hL  hx75) rfl rfl (Nat.le_of_ble_eq_true rfl) ⟨Nat.le_of_ble_eq_true rfl, Nat.le_of_ble_eq_true rfl⟩ ⟨Nat.le_of_ble_eq_true rfl, Nat.le_of_ble_eq_true rfl⟩ dX12_wantCard_48 ?_
      refine r_istore_n (ls' := [(3, .int x75.1), (2, .int x73.1), (1, .int p1), (0, .ref 101)]) dX12_wantCard_51 rfl (by decide) rfl ?_
      refine r_iconst (v := 0) dX12_wantCard_52 (by decide) ?_
      refine r_istore (ls' := [(4, .int 0), (3, .int x75.1), (2, .int x73.1), (1, .int p1), (0, .ref 101)]) dX12_wantCard_53 (by decide) rfl ?_
      refine r_aload_n dX12_wantCard_55 rfl rfl ?_
      refine r_getI lk_X12_154 (ln_101 hL) dX12_wantCard_56 ?_
      refine r_if_eq (tgt := 116) dX12_wantCard_59 (by decide) (fun h77 => ?_) (fun h77 => ?_)
      · have hF := tw hF h77
        refine r_aload_n dX12_wantCard_116 rfl rfl ?_
        obtain ⟨x78, hx78, hF⟩ := bnd hF
        refine c_virt_v (As := []) mi_X12_wantEnd kw_1143 ks_32 kw_1141 rfl (by decide) (ln_101 hL) (ok_X12_wantEnd hL  hx78) rfl rfl (Nat.le_of_ble_eq_true rfl) ⟨Nat.le_of_ble_eq_true rfl, Nat.le_of_ble_eq_true rfl⟩ ⟨Nat.le_of_ble_eq_true rfl, Nat.le_of_ble_eq_true rfl⟩ dX12_wantCard_117 ?_
        refine r_aload_n dX12_wantCard_120 rfl rfl ?_
        refine r_getI lk_X12_154 (ln_101 hL) dX12_wantCard_121 ?_
        refine r_if_eq (tgt := 192) dX12_wantCard_124 (by decide) (fun h80 => ?_) (fun h80 => ?_)
        · have hF := tw hF h80
          obtain rfl := Option.some.inj hF
          exact r_return rfl dX12_wantCard_192 (Nat.le_of_ble_eq_true rfl) (Nat.le_of_ble_eq_true rfl)
        · have hF := fw hF h80
          refine r_aload_n dX12_wantCard_127 rfl rfl ?_
          refine r_getP lk_X12_32 (ln_101 hL) (pp_101_16 hL) dX12_wantCard_128 ?_
          refine r_iconst (v := 4) dX12_wantCard_131 (by decide) ?_
          refine r_aload_n dX12_wantCard_132 rfl rfl ?_
          refine r_getI lk_X12_164 (ln_101 hL) dX12_wantCard_133 ?_
          refine r_imul dX12_wantCard_136 ?_
          refine r_iload_n dX12_wantCard_137 rfl rfl ?_
          obtain ⟨g81, hF⟩ := gd hF
          refine r_iast (ln_108 hL) (by rw [(nl_108 hL)]; exact g81) dX12_wantCard_138 ?_
          refine r_letI hF (fun I82 hF => ?_)
          refine r_aload_n dX12_wantCard_139 rfl rfl ?_
          refine r_getP lk_X12_32 (ln_101 hL) (pp_101_16 hL) dX12_wantCard_140 ?_
          refine r_iconst (v := 4) dX12_wantCard_143 (by decide) ?_
          refine r_aload_n dX12_wantCard_144 rfl rfl ?_
          refine r_getI lk_X12_164 (ln_101 hL) dX12_wantCard_145 ?_
          refine r_imul dX12_wantCard_148 ?_
          refine r_iconst (v := 1) dX12_wantCard_149 (by decide) ?_
          refine r_iadd dX12_wantCard_150 ?_
          refine r_iload_n dX12_wantCard_151 rfl rfl ?_
          obtain ⟨g83, hF⟩ := gd hF
          refine r_iast (ln_108 hL) (by rw [(nl_108 hL)]; exact g83) dX12_wantCard_152 ?_
          refine r_letI hF (fun I84 hF => ?_)
          refine r_aload_n dX12_wantCard_153 rfl rfl ?_
          refine r_getP lk_X12_32 (ln_101 hL) (pp_101_16 hL) dX12_wantCard_154 ?_
          refine r_iconst (v := 4) dX12_wantCard_157 (by decide) ?_
          refine r_aload_n dX12_wantCard_158 rfl rfl ?_
          refine r_getI lk_X12_164 (ln_101 hL) dX12_wantCard_159 ?_
          refine r_imul dX12_wantCard_162 ?_
          refine r_iconst (v := 2) dX12_wantCard_163 (by decide) ?_
          refine r_iadd dX12_wantCard_164 ?_
          refine r_iload_n dX12_wantCard_165 rfl rfl ?_
          obtain ⟨g85, hF⟩ := gd hF
          refine r_iast (ln_108 hL) (by rw [(nl_108 hL)]; exact g85) dX12_wantCard_166 ?_
          refine r_letI hF (fun I86 hF => ?_)
          refine r_aload_n dX12_wantCard_167 rfl rfl ?_
          refine r_getP lk_X12_32 (ln_101 hL) (pp_101_16 hL) dX12_wantCard_168 ?_
          refine r_iconst (v := 4) dX12_wantCard_171 (by decide) ?_
          refine r_aload_n dX12_wantCard_172 rfl rfl ?_
          refine r_getI lk_X12_164 (ln_101 hL) dX12_wantCard_173 ?_
          refine r_imul dX12_wantCard_176 ?_
          refine r_iconst (v := 3) dX12_wantCard_177 (by decide) ?_
          refine r_iadd dX12_wantCard_178 ?_
          refine r_iload dX12_wantCard_179 rfl ?_
          obtain ⟨g87, hF⟩ := gd hF
          refine r_iast (ln_108 hL) (by rw [(nl_108 hL)]; exact g87) dX12_wantCard_181 ?_
          refine r_letI hF (fun I88 hF => ?_)
          refine r_aload_n dX12_wantCard_182 rfl rfl ?_
          refine r_dup dX12_wantCard_183 rfl ?_
          refine r_getI lk_X12_164 (ln_101 hL) dX12_wantCard_184 ?_
          refine r_iconst (v := 1) dX12_wantCard_187 (by decide) ?_
          refine r_iadd dX12_wantCard_188 ?_
          refine r_putI lk_X12_164 (Or.inl rfl) (ln_101 hL) rfl rfl dX12_wantCard_189 ?_
          refine r_letI hF (fun I89 hF => ?_)
          obtain rfl := Option.some.inj hF
          exact r_return rfl dX12_wantCard_192 (Nat.le_of_ble_eq_true rfl) (Nat.le_of_ble_eq_true rfl)
      · have hF := fw hF h77
        refine r_aload_n dX12_wantCard_62 rfl rfl ?_
        refine r_ldc2 dX12_wantCard_63 kw_1136 ?_
        refine c_virt_i (As := [.long 68056]) mi_X12_isWord kw_1116 ks_27 kw_1114 rfl (by decide) (ln_101 hL) (ok_X12_isWord hL  (p1 := 68056)) rfl rfl (Nat.le_of_ble_eq_true rfl) ⟨Nat.le_of_ble_eq_true rfl, Nat.le_of_ble_eq_true rfl⟩ ⟨Nat.le_of_ble_eq_true rfl, Nat.le_of_ble_eq_true rfl⟩ dX12_wantCard_66 ?_
        refine r_if_eq (tgt := 116) dX12_wantCard_69 (by decide) (fun h91 => ?_) (fun h91 => ?_)
        · have hF := tw hF h91
          refine r_aload_n dX12_wantCard_116 rfl rfl ?_
          obtain ⟨x92, hx92, hF⟩ := bnd hF
          refine c_virt_v (As := []) mi_X12_wantEnd kw_1143 ks_32 kw_1141 rfl (by decide) (ln_101 hL) (ok_X12_wantEnd hL  hx92) rfl rfl (Nat.le_of_ble_eq_true rfl) ⟨Nat.le_of_ble_eq_true rfl, Nat.le_of_ble_eq_true rfl⟩ ⟨Nat.le_of_ble_eq_true rfl, Nat.le_of_ble_eq_true rfl⟩ dX12_wantCard_117 ?_
          refine r_aload_n dX12_wantCard_120 rfl rfl ?_
          refine r_getI lk_X12_154 (ln_101 hL) dX12_wantCard_121 ?_
          refine r_if_eq (tgt := 192) dX12_wantCard_124 (by decide) (fun h94 => ?_) (fun h94 => ?_)
          · have hF := tw hF h94
            obtain rfl := Option.some.inj hF
            exact r_return rfl dX12_wantCard_192 (Nat.le_of_ble_eq_true rfl) (Nat.le_of_ble_eq_true rfl)
          · have hF := fw hF h94
            refine r_aload_n dX12_wantCard_127 rfl rfl ?_
            refine r_getP lk_X12_32 (ln_101 hL) (pp_101_16 hL) dX12_wantCard_128 ?_
            refine r_iconst (v := 4) dX12_wantCard_131 (by decide) ?_
            refine r_aload_n dX12_wantCard_132 rfl rfl ?_
            refine r_getI lk_X12_164 (ln_101 hL) dX12_wantCard_133 ?_
            refine r_imul dX12_wantCard_136 ?_
            refine r_iload_n dX12_wantCard_137 rfl rfl ?_
            obtain ⟨g95, hF⟩ := gd hF
            refine r_iast (ln_108 hL) (by rw [(nl_108 hL)]; exact g95) dX12_wantCard_138 ?_
            refine r_letI hF (fun I96 hF => ?_)
            refine r_aload_n dX12_wantCard_139 rfl rfl ?_
            refine r_getP lk_X12_32 (ln_101 hL) (pp_101_16 hL) dX12_wantCard_140 ?_
            refine r_iconst (v := 4) dX12_wantCard_143 (by decide) ?_
            refine r_aload_n dX12_wantCard_144 rfl rfl ?_
            refine r_getI lk_X12_164 (ln_101 hL) dX12_wantCard_145 ?_
            refine r_imul dX12_wantCard_148 ?_
            refine r_iconst (v := 1) dX12_wantCard_149 (by decide) ?_
            refine r_iadd dX12_wantCard_150 ?_
            refine r_iload_n dX12_wantCard_151 rfl rfl ?_
            obtain ⟨g97, hF⟩ := gd hF
            refine r_iast (ln_108 hL) (by rw [(nl_108 hL)]; exact g97) dX12_wantCard_152 ?_
            refine r_letI hF (fun I98 hF => ?_)
            refine r_aload_n dX12_wantCard_153 rfl rfl ?_
            refine r_getP lk_X12_32 (ln_101 hL) (pp_101_16 hL) dX12_wantCard_154 ?_
            refine r_iconst (v := 4) dX12_wantCard_157 (by decide) ?_
            refine r_aload_n dX12_wantCard_158 rfl rfl ?_
            refine r_getI lk_X12_164 (ln_101 hL) dX12_wantCard_159 ?_
            refine r_imul dX12_wantCard_162 ?_
            refine r_iconst (v := 2) dX12_wantCard_163 (by decide) ?_
            refine r_iadd dX12_wantCard_164 ?_
            refine r_iload_n dX12_wantCard_165 rfl rfl ?_
            obtain ⟨g99, hF⟩ := gd hF
            refine r_iast (ln_108 hL) (by rw [(nl_108 hL)]; exact g99) dX12_wantCard_166 ?_
            refine r_letI hF (fun I100 hF => ?_)
            refine r_aload_n dX12_wantCard_167 rfl rfl ?_
            refine r_getP lk_X12_32 (ln_101 hL) (pp_101_16 hL) dX12_wantCard_168 ?_
            refine r_iconst (v := 4) dX12_wantCard_171 (by decide) ?_
            refine r_aload_n dX12_wantCard_172 rfl rfl ?_
            refine r_getI lk_X12_164 (ln_101 hL) dX12_wantCard_173 ?_
            refine r_imul dX12_wantCard_176 ?_
            refine r_iconst (v := 3) dX12_wantCard_177 (by decide) ?_
            refine r_iadd dX12_wantCard_178 ?_
            refine r_iload dX12_wantCard_179 rfl ?_
            obtain ⟨g101, hF⟩ := gd hF
            refine r_iast (ln_108 hL) (by rw [(nl_108 hL)]; exact g101) dX12_wantCard_181 ?_
            refine r_letI hF (fun I102 hF => ?_)
            refine r_aload_n dX12_wantCard_182 rfl rfl ?_
            refine r_dup dX12_wantCard_183 rfl ?_
            refine r_getI lk_X12_164 (ln_101 hL) dX12_wantCard_184 ?_
            refine r_iconst (v := 1) dX12_wantCard_187 (by decide) ?_
            refine r_iadd dX12_wantCard_188 ?_
            refine r_putI lk_X12_164 (Or.inl rfl) (ln_101 hL) rfl rfl dX12_wantCard_189 ?_
            refine r_letI hF (fun I103 hF => ?_)
            obtain rfl := Option.some.inj hF
            exact r_return rfl dX12_wantCard_192 (Nat.le_of_ble_eq_true rfl) (Nat.le_of_ble_eq_true rfl)
        · have hF := fw hF h91
          refine r_aload_n dX12_wantCard_72 rfl rfl ?_
          obtain ⟨x104, hx104, hF⟩ := bnd hF
          refine c_virt_v (As := []) mi_X12_advance kw_1094 ks_24 kw_1092 rfl (by decide) (ln_101 hL) (ok_X12_advance hL  hx104) rfl rfl (Nat.le_of_ble_eq_true rfl) ⟨Nat.le_of_ble_eq_true rfl, Nat.le_of_ble_eq_true rfl⟩ ⟨Nat.le_of_ble_eq_true rfl, Nat.le_of_ble_eq_true rfl⟩ dX12_wantCard_73 ?_
          refine r_aload_n dX12_wantCard_76 rfl rfl ?_
          refine r_bipush (v := 45) dX12_wantCard_77 (by decide) ?_
          refine c_virt_i (As := [.int 45]) mi_X12_isMark kw_1139 ks_31 kw_1137 rfl (by decide) (ln_101 hL) (ok_X12_isMark hL  (p1 := 45)) rfl rfl (Nat.le_of_ble_eq_true rfl) ⟨Nat.le_of_ble_eq_true rfl, Nat.le_of_ble_eq_true rfl⟩ ⟨Nat.le_of_ble_eq_true rfl, Nat.le_of_ble_eq_true rfl⟩ dX12_wantCard_79 ?_
          refine r_letV hF (fun y105 hF => ?_)
          refine r_istore (ls' := [(5, .int y105), (4, .int 0), (3, .int x75.1), (2, .int x73.1), (1, .int p1), (0, .ref 101)]) dX12_wantCard_82 (by decide) rfl ?_
          refine r_iload dX12_wantCard_84 rfl ?_
          refine r_if_eq (tgt := 93) dX12_wantCard_86 (by decide) (fun h107 => ?_) (fun h107 => ?_)
          · have hF := tw hF h107
            refine r_aload_n dX12_wantCard_93 rfl rfl ?_
            refine r_iconst (v := 0) dX12_wantCard_94 (by decide) ?_
            refine r_iconst (v := 4) dX12_wantCard_95 (by decide) ?_
            obtain ⟨x108, hx108, hF⟩ := bnd hF
            refine c_virt_i (As := [.int 0, .int 4]) mi_X12_wantNumber kw_1129 ks_29 kw_1127 rfl (by decide) (ln_101 hL) (ok_X12_wantNumber hL  hx108) rfl rfl (Nat.le_of_ble_eq_true rfl) ⟨Nat.le_of_ble_eq_true rfl, Nat.le_of_ble_eq_true rfl⟩ ⟨Nat.le_of_ble_eq_true rfl, Nat.le_of_ble_eq_true rfl⟩ dX12_wantCard_96 ?_
            refine r_istore (ls' := [(4, .int x108.1), (5, .int y105), (3, .int x75.1), (2, .int x73.1), (1, .int p1), (0, .ref 101)]) dX12_wantCard_99 (by decide) rfl ?_
            refine r_iload dX12_wantCard_101 rfl ?_
            refine r_join (G1 := fun y110 : Int32 => WW E mX12_wantCard (RM 4 0 0) (ZM E 0 0 none T x.1 x.2 P) 0 0 T x108.2.1 x108.2.2 P 114 [(4, .int x108.1), (5, .int y105), (3, .int x75.1), (2, .int x73.1), (1, .int p1), (0, .ref 101)] [.int y110]) hF (fun y110 hF => ?_) (fun y110 hv hJ => ?_)
            · refine r_istore (ls' := [(4, .int y110), (5, .int y105), (3, .int x75.1), (2, .int x73.1), (1, .int p1), (0, .ref 101)]) dX12_wantCard_114 (by decide) rfl ?_
              refine r_aload_n dX12_wantCard_116 rfl rfl ?_
              obtain ⟨x111, hx111, hF⟩ := bnd hF
              refine c_virt_v (As := []) mi_X12_wantEnd kw_1143 ks_32 kw_1141 rfl (by decide) (ln_101 hL) (ok_X12_wantEnd hL  hx111) rfl rfl (Nat.le_of_ble_eq_true rfl) ⟨Nat.le_of_ble_eq_true rfl, Nat.le_of_ble_eq_true rfl⟩ ⟨Nat.le_of_ble_eq_true rfl, Nat.le_of_ble_eq_true rfl⟩ dX12_wantCard_117 ?_
              refine r_aload_n dX12_wantCard_120 rfl rfl ?_
              refine r_getI lk_X12_154 (ln_101 hL) dX12_wantCard_121 ?_
              refine r_if_eq (tgt := 192) dX12_wantCard_124 (by decide) (fun h113 => ?_) (fun h113 => ?_)
              · have hF := tw hF h113
                obtain rfl := Option.some.inj hF
                exact r_return rfl dX12_wantCard_192 (Nat.le_of_ble_eq_true rfl) (Nat.le_of_ble_eq_true rfl)
              · have hF := fw hF h113
                refine r_aload_n dX12_wantCard_127 rfl rfl ?_
                refine r_getP lk_X12_32 (ln_101 hL) (pp_101_16 hL) dX12_wantCard_128 ?_
                refine r_iconst (v := 4) dX12_wantCard_131 (by decide) ?_
                refine r_aload_n dX12_wantCard_132 rfl rfl ?_
                refine r_getI lk_X12_164 (ln_101 hL) dX12_wantCard_133 ?_
                refine r_imul dX12_wantCard_136 ?_
                refine r_iload_n dX12_wantCard_137 rfl rfl ?_
                obtain ⟨g114, hF⟩ := gd hF
                refine r_iast (ln_108 hL) (by rw [(nl_108 hL)]; exact g114) dX12_wantCard_138 ?_
                refine r_letI hF (fun I115 hF => ?_)
                refine r_aload_n dX12_wantCard_139 rfl rfl ?_
                refine r_getP lk_X12_32 (ln_101 hL) (pp_101_16 hL) dX12_wantCard_140 ?_
                refine r_iconst (v := 4) dX12_wantCard_143 (by decide) ?_
                refine r_aload_n dX12_wantCard_144 rfl rfl ?_
                refine r_getI lk_X12_164 (ln_101 hL) dX12_wantCard_145 ?_
                refine r_imul dX12_wantCard_148 ?_
                refine r_iconst (v := 1) dX12_wantCard_149 (by decide) ?_
                refine r_iadd dX12_wantCard_150 ?_
                refine r_iload_n dX12_wantCard_151 rfl rfl ?_
                obtain ⟨g116, hF⟩ := gd hF
                refine r_iast (ln_108 hL) (by rw [(nl_108 hL)]; exact g116) dX12_wantCard_152 ?_
                refine r_letI hF (fun I117 hF => ?_)
                refine r_aload_n dX12_wantCard_153 rfl rfl ?_
                refine r_getP lk_X12_32 (ln_101 hL) (pp_101_16 hL) dX12_wantCard_154 ?_
                refine r_iconst (v := 4) dX12_wantCard_157 (by decide) ?_
                refine r_aload_n dX12_wantCard_158 rfl rfl ?_
                refine r_getI lk_X12_164 (ln_101 hL) dX12_wantCard_159 ?_
                refine r_imul dX12_wantCard_162 ?_
                refine r_iconst (v := 2) dX12_wantCard_163 (by decide) ?_
                refine r_iadd dX12_wantCard_164 ?_
                refine r_iload_n dX12_wantCard_165 rfl rfl ?_
                obtain ⟨g118, hF⟩ := gd hF
                refine r_iast (ln_108 hL) (by rw [(nl_108 hL)]; exact g118) dX12_wantCard_166 ?_
                refine r_letI hF (fun I119 hF => ?_)
                refine r_aload_n dX12_wantCard_167 rfl rfl ?_
                refine r_getP lk_X12_32 (ln_101 hL) (pp_101_16 hL) dX12_wantCard_168 ?_
                refine r_iconst (v := 4) dX12_wantCard_171 (by decide) ?_
                refine r_aload_n dX12_wantCard_172 rfl rfl ?_
                refine r_getI lk_X12_164 (ln_101 hL) dX12_wantCard_173 ?_
                refine r_imul dX12_wantCard_176 ?_
                refine r_iconst (v := 3) dX12_wantCard_177 (by decide) ?_
                refine r_iadd dX12_wantCard_178 ?_
                refine r_iload dX12_wantCard_179 rfl ?_
                obtain ⟨g120, hF⟩ := gd hF
                refine r_iast (ln_108 hL) (by rw [(nl_108 hL)]; exact g120) dX12_wantCard_181 ?_
                refine r_letI hF (fun I121 hF => ?_)
                refine r_aload_n dX12_wantCard_182 rfl rfl ?_
                refine r_dup dX12_wantCard_183 rfl ?_
                refine r_getI lk_X12_164 (ln_101 hL) dX12_wantCard_184 ?_
                refine r_iconst (v := 1) dX12_wantCard_187 (by decide) ?_
                refine r_iadd dX12_wantCard_188 ?_
                refine r_putI lk_X12_164 (Or.inl rfl) (ln_101 hL) rfl rfl dX12_wantCard_189 ?_
                refine r_letI hF (fun I122 hF => ?_)
                obtain rfl := Option.some.inj hF
                exact r_return rfl dX12_wantCard_192 (Nat.le_of_ble_eq_true rfl) (Nat.le_of_ble_eq_true rfl)
            · refine r_if_eq (tgt := 112) dX12_wantCard_103 (by decide) (fun h109 => ?_) (fun h109 => ?_)
              · have hv := tw hv h109
                refine r_iload dX12_wantCard_112 rfl ?_
                obtain rfl := hv
                exact hJ
              · have hv := fw hv h109
                refine r_iload dX12_wantCard_106 rfl ?_
                refine r_ineg dX12_wantCard_108 ?_
                refine r_goto (tgt := 114) dX12_wantCard_109 (by decide) ?_
                obtain rfl := hv
                exact hJ
          · have hF := fw hF h107
            refine r_aload_n dX12_wantCard_89 rfl rfl ?_
            obtain ⟨x123, hx123, hF⟩ := bnd hF
            refine c_virt_v (As := []) mi_X12_advance kw_1094 ks_24 kw_1092 rfl (by decide) (ln_101 hL) (ok_X12_advance hL  hx123) rfl rfl (Nat.le_of_ble_eq_true rfl) ⟨Nat.le_of_ble_eq_true rfl, Nat.le_of_ble_eq_true rfl⟩ ⟨Nat.le_of_ble_eq_true rfl, Nat.le_of_ble_eq_true rfl⟩ dX12_wantCard_90 ?_
            refine r_aload_n dX12_wantCard_93 rfl rfl ?_
            refine r_iconst (v := 0) dX12_wantCard_94 (by decide) ?_
            refine r_iconst (v := 4) dX12_wantCard_95 (by decide) ?_
            obtain ⟨x124, hx124, hF⟩ := bnd hF
            refine c_virt_i (As := [.int 0, .int 4]) mi_X12_wantNumber kw_1129 ks_29 kw_1127 rfl (by decide) (ln_101 hL) (ok_X12_wantNumber hL  hx124) rfl rfl (Nat.le_of_ble_eq_true rfl) ⟨Nat.le_of_ble_eq_true rfl, Nat.le_of_ble_eq_true rfl⟩ ⟨Nat.le_of_ble_eq_true rfl, Nat.le_of_ble_eq_true rfl⟩ dX12_wantCard_96 ?_
            refine r_istore (ls' := [(4, .int x124.1), (5, .int y105), (3, .int x75.1), (2, .int x73.1), (1, .int p1), (0, .ref 101)]) dX12_wantCard_99 (by decide) rfl ?_
            refine r_iload dX12_wantCard_101 rfl ?_
            refine r_join (G1 := fun y126 : Int32 => WW E mX12_wantCard (RM 4 0 0) (ZM E 0 0 none T x.1 x.2 P) 0 0 T x124.2.1 x124.2.2 P 114 [(4, .int x124.1), (5, .int y105), (3, .int x75.1), (2, .int x73.1), (1, .int p1), (0, .ref 101)] [.int y126]) hF (fun y126 hF => ?_) (fun y126 hv hJ => ?_)
            · refine r_istore (ls' := [(4, .int y126), (5, .int y105), (3, .int x75.1), (2, .int x73.1), (1, .int p1), (0, .ref 101)]) dX12_wantCard_114 (by decide) rfl ?_
              refine r_aload_n dX12_wantCard_116 rfl rfl ?_
              obtain ⟨x127, hx127, hF⟩ := bnd hF
              refine c_virt_v (As := []) mi_X12_wantEnd kw_1143 ks_32 kw_1141 rfl (by decide) (ln_101 hL) (ok_X12_wantEnd hL  hx127) rfl rfl (Nat.le_of_ble_eq_true rfl) ⟨Nat.le_of_ble_eq_true rfl, Nat.le_of_ble_eq_true rfl⟩ ⟨Nat.le_of_ble_eq_true rfl, Nat.le_of_ble_eq_true rfl⟩ dX12_wantCard_117 ?_
              refine r_aload_n dX12_wantCard_120 rfl rfl ?_
              refine r_getI lk_X12_154 (ln_101 hL) dX12_wantCard_121 ?_
              refine r_if_eq (tgt := 192) dX12_wantCard_124 (by decide) (fun h129 => ?_) (fun h129 => ?_)
              · have hF := tw hF h129
                obtain rfl := Option.some.inj hF
                exact r_return rfl dX12_wantCard_192 (Nat.le_of_ble_eq_true rfl) (Nat.le_of_ble_eq_true rfl)
              · have hF := fw hF h129
                refine r_aload_n dX12_wantCard_127 rfl rfl ?_
                refine r_getP lk_X12_32 (ln_101 hL) (pp_101_16 hL) dX12_wantCard_128 ?_
                refine r_iconst (v := 4) dX12_wantCard_131 (by decide) ?_
                refine r_aload_n dX12_wantCard_132 rfl rfl ?_
                refine r_getI lk_X12_164 (ln_101 hL) dX12_wantCard_133 ?_
                refine r_imul dX12_wantCard_136 ?_
                refine r_iload_n dX12_wantCard_137 rfl rfl ?_
                obtain ⟨g130, hF⟩ := gd hF
                refine r_iast (ln_108 hL) (by rw [(nl_108 hL)]; exact g130) dX12_wantCard_138 ?_
                refine r_letI hF (fun I131 hF => ?_)
                refine r_aload_n dX12_wantCard_139 rfl rfl ?_
                refine r_getP lk_X12_32 (ln_101 hL) (pp_101_16 hL) dX12_wantCard_140 ?_
                refine r_iconst (v := 4) dX12_wantCard_143 (by decide) ?_
                refine r_aload_n dX12_wantCard_144 rfl rfl ?_
                refine r_getI lk_X12_164 (ln_101 hL) dX12_wantCard_145 ?_
                refine r_imul dX12_wantCard_148 ?_
                refine r_iconst (v := 1) dX12_wantCard_149 (by decide) ?_
                refine r_iadd dX12_wantCard_150 ?_
                refine r_iload_n dX12_wantCard_151 rfl rfl ?_
                obtain ⟨g132, hF⟩ := gd hF
                refine r_iast (ln_108 hL) (by rw [(nl_108 hL)]; exact g132) dX12_wantCard_152 ?_
                refine r_letI hF (fun I133 hF => ?_)
                refine r_aload_n dX12_wantCard_153 rfl rfl ?_
                refine r_getP lk_X12_32 (ln_101 hL) (pp_101_16 hL) dX12_wantCard_154 ?_
                refine r_iconst (v := 4) dX12_wantCard_157 (by decide) ?_
                refine r_aload_n dX12_wantCard_158 rfl rfl ?_
                refine r_getI lk_X12_164 (ln_101 hL) dX12_wantCard_159 ?_
                refine r_imul dX12_wantCard_162 ?_
                refine r_iconst (v := 2) dX12_wantCard_163 (by decide) ?_
                refine r_iadd dX12_wantCard_164 ?_
                refine r_iload_n dX12_wantCard_165 rfl rfl ?_
                obtain ⟨g134, hF⟩ := gd hF
                refine r_iast (ln_108 hL) (by rw [(nl_108 hL)]; exact g134) dX12_wantCard_166 ?_
                refine r_letI hF (fun I135 hF => ?_)
                refine r_aload_n dX12_wantCard_167 rfl rfl ?_
                refine r_getP lk_X12_32 (ln_101 hL) (pp_101_16 hL) dX12_wantCard_168 ?_
                refine r_iconst (v := 4) dX12_wantCard_171 (by decide) ?_
                refine r_aload_n dX12_wantCard_172 rfl rfl ?_
                refine r_getI lk_X12_164 (ln_101 hL) dX12_wantCard_173 ?_
                refine r_imul dX12_wantCard_176 ?_
                refine r_iconst (v := 3) dX12_wantCard_177 (by decide) ?_
                refine r_iadd dX12_wantCard_178 ?_
                refine r_iload dX12_wantCard_179 rfl ?_
                obtain ⟨g136, hF⟩ := gd hF
                refine r_iast (ln_108 hL) (by rw [(nl_108 hL)]; exact g136) dX12_wantCard_181 ?_
                refine r_letI hF (fun I137 hF => ?_)
                refine r_aload_n dX12_wantCard_182 rfl rfl ?_
                refine r_dup dX12_wantCard_183 rfl ?_
                refine r_getI lk_X12_164 (ln_101 hL) dX12_wantCard_184 ?_
                refine r_iconst (v := 1) dX12_wantCard_187 (by decide) ?_
                refine r_iadd dX12_wantCard_188 ?_
                refine r_putI lk_X12_164 (Or.inl rfl) (ln_101 hL) rfl rfl dX12_wantCard_189 ?_
                refine r_letI hF (fun I138 hF => ?_)
                obtain rfl := Option.some.inj hF
                exact r_return rfl dX12_wantCard_192 (Nat.le_of_ble_eq_true rfl) (Nat.le_of_ble_eq_true rfl)
            · refine r_if_eq (tgt := 112) dX12_wantCard_103 (by decide) (fun h125 => ?_) (fun h125 => ?_)
              · have hv := tw hv h125
                refine r_iload dX12_wantCard_112 rfl ?_
                obtain rfl := hv
                exact hJ
              · have hv := fw hv h125
                refine r_iload dX12_wantCard_106 rfl ?_
                refine r_ineg dX12_wantCard_108 ?_
                refine r_goto (tgt := 114) dX12_wantCard_109 (by decide) ?_
                obtain rfl := hv
                exact hJ
  · refine r_icmp_ge (tgt := 14) dX12_wantCard_7 (by decide) (fun h1 => ?_) (fun h1 => ?_)
    · have hv := tw hv h1
      refine r_iconst (v := 0) dX12_wantCard_14 (by decide) ?_
      obtain rfl := hv
      exact hJ (by first | exact nbz0 | exact nbz1)
    · have hv := fw hv h1
      refine r_iconst (v := 1) dX12_wantCard_10 (by decide) ?_
      refine r_goto (tgt := 15) dX12_wantCard_11 (by decide) ?_
      obtain rfl := hv
      exact hJ (by first | exact nbz0 | exact nbz1)
def G_X12_wantHand_8 (N : Nat) : Nat → Int32 → Int32 → IM → JM → Option (IM × JM)
  | 0, _, _, _, _ => none
  | n + 1, u1, u2, Iv, Jv => (if 5 ≤ u2 then ((F_X12_wantEnd N Iv Jv).bind (fun x4 => (some (x4.1, x4.2)))) else (if (Iv 101 14) = 0 then ((F_X12_wantEnd N Iv Jv).bind (fun x7 => (some (x7.1, x7.2)))) else (letb (Iv 101 13) (fun y8 : Int32 => (letb (if (Iv 101 9) = 2 then (if (F_X12_in y8 0 9) = 0 then 0 else (if u2 < 4 then 1 else (if (u1 + y8) ≤ 0 then 0 else 1))) else 0) (fun y13 : Int32 => (letb (up2 Iv 101 14 y13) (fun I14 : IM => (letb (u1 + y8) (fun y15 : Int32 => (if inb u2 5 = true then (letb (up2 I14 110 u2.toNatClampNeg y8) (fun I17 : IM => (if (I17 101 14) = 0 then (G_X12_wantHand_8 N n y15 (u2 + 1) I17 Jv) else ((F_X12_advance N I17 Jv).bind (fun x20 => (G_X12_wantHand_8 N n y15 (u2 + 1) x20.1 x20.2)))))) else none)))))))))))
set_option maxHeartbeats 4000000 in
theorem okG_X12_wantHand_8 {E : GE} {T : TM} {P : PM} {N : Nat} {x : IM × JM} (hL : LOK T P) : ∀ (n : Nat) (u1 : Int32) (u2 : Int32) (Iv : IM) (Jv : JM), G_X12_wantHand_8 N n u1 u2 Iv Jv = some x → WW E mX12_wantHand (RM 4 0 0) (ZM E 0 0 none T x.1 x.2 P) 0 0 T Iv Jv P 8 [(0, .ref 101), (1, .int u1), (2, .int u2)] [] := by
  intro n
  induction n with
  | zero =>
    intro u1 u2 Iv Jv hF
    cases hF
  | succ n ih =>
    intro u1 u2 Iv Jv hF
    rw [G_X12_wantHand_8] at hF
    refine r_iload_n dX12_wantHand_8 rfl rfl ?_
    refine r_iconst (v := 5) dX12_wantHand_9 (by decide) ?_
    refine r_icmp_ge (tgt := 91) dX12_wantHand_10 (by decide) (fun h3 => ?_) (fun h3 => ?_)
    · have hF := tw hF h3
      refine r_aload_n dX12_wantHand_91 rfl rfl ?_
      obtain ⟨x4, hx4, hF⟩ := bnd hF
      refine c_virt_v (As := []) mi_X12_wantEnd kw_1143 ks_32 kw_1141 rfl (by decide) (ln_101 hL) (ok_X12_wantEnd hL  hx4) rfl rfl (Nat.le_of_ble_eq_true rfl) ⟨Nat.le_of_ble_eq_true rfl, Nat.le_of_ble_eq_true rfl⟩ ⟨Nat.le_of_ble_eq_true rfl, Nat.le_of_ble_eq_true rfl⟩ dX12_wantHand_92 ?_
      obtain rfl := Option.some.inj hF
      exact r_return rfl dX12_wantHand_95 (Nat.le_of_ble_eq_true rfl) (Nat.le_of_ble_eq_true rfl)
    · have hF := fw hF h3
      refine r_aload_n dX12_wantHand_13 rfl rfl ?_
      refine r_getI lk_X12_154 (ln_101 hL) dX12_wantHand_14 ?_
      refine r_if_eq (tgt := 91) dX12_wantHand_17 (by decide) (fun h6 => ?_) (fun h6 => ?_)
      · have hF := tw hF h6
        refine r_aload_n dX12_wantHand_91 rfl rfl ?_
        obtain ⟨x7, hx7, hF⟩ := bnd hF
        refine c_virt_v (As := []) mi_X12_wantEnd kw_1143 ks_32 kw_1141 rfl (by decide) (ln_101 hL) (ok_X12_wantEnd hL  hx7) rfl rfl (Nat.le_of_ble_eq_true rfl) ⟨Nat.le_of_ble_eq_true rfl, Nat.le_of_ble_eq_true rfl⟩ ⟨Nat.le_of_ble_eq_true rfl, Nat.le_of_ble_eq_true rfl⟩ dX12_wantHand_92 ?_
        obtain rfl := Option.some.inj hF
        exact r_return rfl dX12_wantHand_95 (Nat.le_of_ble_eq_true rfl) (Nat.le_of_ble_eq_true rfl)
      · have hF := fw hF h6
        refine r_aload_n dX12_wantHand_20 rfl rfl ?_
        refine r_getI lk_X12_117 (ln_101 hL) dX12_wantHand_21 ?_
        refine r_letV hF (fun y8 hF => ?_)
        refine r_istore_n (ls' := [(3, .int y8), (0, .ref 101), (1, .int u1), (2, .int u2)]) dX12_wantHand_24 rfl (by decide) rfl ?_
        refine r_aload_n dX12_wantHand_25 rfl rfl ?_
        refine r_aload_n dX12_wantHand_26 rfl rfl ?_
        refine r_getI lk_X12_110 (ln_101 hL) dX12_wantHand_27 ?_
        refine r_iconst (v := 2) dX12_wantHand_30 (by decide) ?_
        refine r_joinB (G1 := fun y13 : Int32 => WW E mX12_wantHand (RM 4 0 0) (ZM E 0 0 none T x.1 x.2 P) 0 0 T Iv Jv P 60 [(3, .int y8), (0, .ref 101), (1, .int u1), (2, .int u2)] [.int y13, .ref 101]) hF (fun y13 ny13 hF => ?_) (fun y13 hv hJ => ?_)
        · refine r_putI lk_X12_154 (Or.inl rfl) (ln_101 hL) ny13.1 ny13.2 dX12_wantHand_60 ?_
          refine r_letI hF (fun I14 hF => ?_)
          refine r_iload_n dX12_wantHand_63 rfl rfl ?_
          refine r_iload_n dX12_wantHand_64 rfl rfl ?_
          refine r_iadd dX12_wantHand_65 ?_
          refine r_letV hF (fun y15 hF => ?_)
          refine r_istore_n (ls' := [(1, .int y15), (3, .int y8), (0, .ref 101), (2, .int u2)]) dX12_wantHand_66 rfl (by decide) rfl ?_
          refine r_aload_n dX12_wantHand_67 rfl rfl ?_
          refine r_getP lk_X12_38 (ln_101 hL) (pp_101_18 hL) dX12_wantHand_68 ?_
          refine r_iload_n dX12_wantHand_71 rfl rfl ?_
          refine r_iload_n dX12_wantHand_72 rfl rfl ?_
          obtain ⟨g16, hF⟩ := gd hF
          refine r_iast (ln_110 hL) (by rw [(nl_110 hL)]; exact g16) dX12_wantHand_73 ?_
          refine r_letI hF (fun I17 hF => ?_)
          refine r_aload_n dX12_wantHand_74 rfl rfl ?_
          refine r_getI lk_X12_154 (ln_101 hL) dX12_wantHand_75 ?_
          refine r_if_eq (tgt := 85) dX12_wantHand_78 (by decide) (fun h19 => ?_) (fun h19 => ?_)
          · have hF := tw hF h19
            refine r_iinc (v := (u2 + 1)) (ls' := [(2, .int (u2 + 1)), (1, .int y15), (3, .int y8), (0, .ref 101)]) dX12_wantHand_85 rfl rfl (by decide) rfl ?_
            refine r_goto (tgt := 8) dX12_wantHand_88 (by decide) ?_
            refine r_sub (ls' := [(0, .ref 101), (1, .int y15), (2, .int (u2 + 1))]) [3, 1, 0] rfl ?_
            exact ih y15 (u2 + 1) I17 Jv hF
          · have hF := fw hF h19
            refine r_aload_n dX12_wantHand_81 rfl rfl ?_
            obtain ⟨x20, hx20, hF⟩ := bnd hF
            refine c_virt_v (As := []) mi_X12_advance kw_1094 ks_24 kw_1092 rfl (by decide) (ln_101 hL) (ok_X12_advance hL  hx20) rfl rfl (Nat.le_of_ble_eq_true rfl) ⟨Nat.le_of_ble_eq_true rfl, Nat.le_of_ble_eq_true rfl⟩ ⟨Nat.le_of_ble_eq_true rfl, Nat.le_of_ble_eq_true rfl⟩ dX12_wantHand_82 ?_
            refine r_iinc (v := (u2 + 1)) (ls' := [(2, .int (u2 + 1)), (1, .int y15), (3, .int y8), (0, .ref 101)]) dX12_wantHand_85 rfl rfl (by decide) rfl ?_
            refine r_goto (tgt := 8) dX12_wantHand_88 (by decide) ?_
            refine r_sub (ls' := [(0, .ref 101), (1, .int y15), (2, .int (u2 + 1))]) [3, 1, 0] rfl ?_
            exact ih y15 (u2 + 1) x20.1 x20.2 hF
        · refine r_icmp_ne (tgt := 59) dX12_wantHand_31 (by decide) (fun h9 => ?_) (fun h9 => ?_)
          · have hv := fw hv h9
            refine r_iconst (v := 0) dX12_wantHand_59 (by decide) ?_
            obtain rfl := hv
            exact hJ (by first | exact nbz0 | exact nbz1)
          · have hv := tw hv h9
            refine r_iload_n dX12_wantHand_34 rfl rfl ?_
            refine r_iconst (v := 0) dX12_wantHand_35 (by decide) ?_
            refine r_bipush (v := 9) dX12_wantHand_36 (by decide) ?_
            refine c_static_i (As := [.int y8, .int 0, .int 9]) mi_X12_in kw_1085 kw_1084 (ok_X12_in hL  (p1 := y8) (p2 := 0) (p3 := 9)) rfl rfl (Nat.le_of_ble_eq_true rfl) ⟨Nat.le_of_ble_eq_true rfl, Nat.le_of_ble_eq_true rfl⟩ ⟨Nat.le_of_ble_eq_true rfl, Nat.le_of_ble_eq_true rfl⟩ dX12_wantHand_38 ?_
            refine r_if_eq (tgt := 59) dX12_wantHand_41 (by decide) (fun h10 => ?_) (fun h10 => ?_)
            · have hv := tw hv h10
              refine r_iconst (v := 0) dX12_wantHand_59 (by decide) ?_
              obtain rfl := hv
              exact hJ (by first | exact nbz0 | exact nbz1)
            · have hv := fw hv h10
              refine r_iload_n dX12_wantHand_44 rfl rfl ?_
              refine r_iconst (v := 4) dX12_wantHand_45 (by decide) ?_
              refine r_icmp_lt (tgt := 55) dX12_wantHand_46 (by decide) (fun h11 => ?_) (fun h11 => ?_)
              · have hv := tw hv h11
                refine r_iconst (v := 1) dX12_wantHand_55 (by decide) ?_
                refine r_goto (tgt := 60) dX12_wantHand_56 (by decide) ?_
                obtain rfl := hv
                exact hJ (by first | exact nbz0 | exact nbz1)
              · have hv := fw hv h11
                refine r_iload_n dX12_wantHand_49 rfl rfl ?_
                refine r_iload_n dX12_wantHand_50 rfl rfl ?_
                refine r_iadd dX12_wantHand_51 ?_
                refine r_if_le (tgt := 59) dX12_wantHand_52 (by decide) (fun h12 => ?_) (fun h12 => ?_)
                · have hv := tw hv h12
                  refine r_iconst (v := 0) dX12_wantHand_59 (by decide) ?_
                  obtain rfl := hv
                  exact hJ (by first | exact nbz0 | exact nbz1)
                · have hv := fw hv h12
                  refine r_iconst (v := 1) dX12_wantHand_55 (by decide) ?_
                  refine r_goto (tgt := 60) dX12_wantHand_56 (by decide) ?_
                  obtain rfl := hv
                  exact hJ (by first | exact nbz0 | exact nbz1)
def F_X12_wantHand (N : Nat) (I : IM) (J : JM) : Option (IM × JM) := ((F_X12_advance N I J).bind (fun x1 => (G_X12_wantHand_8 N N 0 0 x1.1 x1.2)))
set_option maxHeartbeats 4000000 in
theorem ok_X12_wantHand {E : GE} {T : TM} {I : IM} {J : JM} {P : PM} {N : Nat} {x : IM × JM} (hL : LOK T P) (hF : F_X12_wantHand N I J = some x) : Ctr E mX12_wantHand 4 0 0 [.ref 101] T I J P none T x.1 x.2 P := by
  unfold F_X12_wantHand at hF
  refine ctr_intro rfl (by decide) (Nat.le_of_ble_eq_true rfl) ?_
  refine r_sub (ls' := [(0, .ref 101)]) [0] rfl ?_
  refine r_aload_n dX12_wantHand_0 rfl rfl ?_
  obtain ⟨x1, hx1, hF⟩ := bnd hF
  refine c_virt_v (As := []) mi_X12_advance kw_1094 ks_24 kw_1092 rfl (by decide) (ln_101 hL) (ok_X12_advance hL  hx1) rfl rfl (Nat.le_of_ble_eq_true rfl) ⟨Nat.le_of_ble_eq_true rfl, Nat.le_of_ble_eq_true rfl⟩ ⟨Nat.le_of_ble_eq_true rfl, Nat.le_of_ble_eq_true rfl⟩ dX12_wantHand_1 ?_
  refine r_iconst (v := 0) dX12_wantHand_4 (by decide) ?_
  refine r_istore_n (ls' := [(1, .int 0), (0, .ref 101)]) dX12_wantHand_5 rfl (by decide) rfl ?_
  refine r_iconst (v := 0) dX12_wantHand_6 (by decide) ?_
  refine r_istore_n (ls' := [(2, .int 0), (1, .int 0), (0, .ref 101)]) dX12_wantHand_7 rfl (by decide) rfl ?_
  refine r_sub (ls' := [(0, .ref 101), (1, .int 0), (2, .int 0)]) [2, 1, 0] rfl ?_
  exact okG_X12_wantHand_8 hL   N 0 0 x1.1 x1.2 hF
def G_X12_cards_245 (N : Nat) (J : JM) : Nat → Int32 → IM → Option (Int32 × IM × JM)
  | 0, _, _ => none
  | n + 1, u1, Iv => (if 5 ≤ u1 then (letb (up2 Iv 106 0 (-1)) (fun I20 : IM => (letb (up2 I20 101 36 0) (fun I21 : IM => (some ((I21 101 0), I21, J)))))) else (if inb u1 5 = true then (if inb u1 5 = true then (letb (up2 Iv 104 u1.toNatClampNeg (Iv 110 u1.toNatClampNeg)) (fun I24 : IM => (G_X12_cards_245 N J n (u1 + 1) I24))) else none) else none))
def G_X12_cards_219 (N : Nat) (J : JM) : Nat → Int32 → IM → Option (Int32 × IM × JM)
  | 0, _, _ => none
  | n + 1, u1, Iv => (if 6 ≤ u1 then (G_X12_cards_245 N J N 0 Iv) else (if inb u1 6 = true then (if inb u1 6 = true then (letb (up2 Iv 103 u1.toNatClampNeg (Iv 109 u1.toNatClampNeg)) (fun I27 : IM => (G_X12_cards_219 N J n (u1 + 1) I27))) else none) else none))
def G_X12_cards_193 (N : Nat) (J : JM) : Nat → Int32 → IM → Option (Int32 × IM × JM)
  | 0, _, _ => none
  | n + 1, u1, Iv => (if 24 ≤ u1 then (G_X12_cards_219 N J N 0 Iv) else (if inb u1 24 = true then (if inb u1 24 = true then (letb (up2 Iv 102 u1.toNatClampNeg (Iv 108 u1.toNatClampNeg)) (fun I30 : IM => (G_X12_cards_193 N J n (u1 + 1) I30))) else none) else none))
def G_X12_cards_70 (N : Nat) : Nat → IM → JM → Option (Int32 × IM × JM)
  | 0, _, _ => none
  | n + 1, Iv, Jv => (if (Iv 101 14) = 0 then (letb (up2 Iv 101 8 0) (fun I11 : IM => (if (I11 101 14) = 0 then (some (((-100) - (I11 101 10)), I11, Jv)) else (letb (up2 I11 101 0 (I11 101 15)) (fun I13 : IM => (G_X12_cards_193 N Jv N 0 I13)))))) else (if (Iv 101 9) = 0 then (letb (up2 Iv 101 8 0) (fun I33 : IM => (if (I33 101 14) = 0 then (some (((-100) - (I33 101 10)), I33, Jv)) else (letb (up2 I33 101 0 (I33 101 15)) (fun I35 : IM => (G_X12_cards_193 N Jv N 0 I35)))))) else (if (F_X12_kindHere Iv Jv) < 0 then (if (F_X12_lawHere Iv Jv) < 0 then (if (F_X12_isWord Iv Jv 158575) = 0 then (letb (up2 Iv 101 14 0) (fun I45 : IM => (G_X12_cards_70 N n I45 Jv))) else ((F_X12_wantHand N Iv Jv).bind (fun x46 => (G_X12_cards_70 N n x46.1 x46.2)))) else (letb (F_X12_lawHere Iv Jv) (fun y47 : Int32 => ((F_X12_advance N Iv Jv).bind (fun x48 => ((F_X12_wantNumber N x48.1 x48.2 0 63).bind (fun x49 => (if inb y47 6 = true then (letb (up2 x49.2.1 109 y47.toNatClampNeg x49.1) (fun I51 : IM => ((F_X12_wantEnd N I51 x49.2.2).bind (fun x52 => (G_X12_cards_70 N n x52.1 x52.2))))) else none)))))))) else ((F_X12_wantCard N Iv Jv (F_X12_kindHere Iv Jv)).bind (fun x53 => (G_X12_cards_70 N n x53.1 x53.2))))))
def G_X12_cards_43 (N : Nat) (J : JM) : Nat → Int32 → IM → Option (Int32 × IM × JM)
  | 0, _, _ => none
  | n + 1, u1, Iv => (if 5 ≤ u1 then ((F_X12_advance N Iv J).bind (fun x8 => (G_X12_cards_70 N N x8.1 x8.2))) else (if inb u1 5 = true then (if inb u1 5 = true then (letb (up2 Iv 110 u1.toNatClampNeg (Iv 104 u1.toNatClampNeg)) (fun I56 : IM => (G_X12_cards_43 N J n (u1 + 1) I56))) else none) else none))
def G_X12_cards_17 (N : Nat) (J : JM) : Nat → Int32 → IM → Option (Int32 × IM × JM)
  | 0, _, _ => none
  | n + 1, u1, Iv => (if 6 ≤ u1 then (G_X12_cards_43 N J N 0 Iv) else (if inb u1 6 = true then (if inb u1 6 = true then (letb (up2 Iv 109 u1.toNatClampNeg (Iv 103 u1.toNatClampNeg)) (fun I59 : IM => (G_X12_cards_17 N J n (u1 + 1) I59))) else none) else none))
set_option maxHeartbeats 4000000 in
theorem okG_X12_cards_245 {E : GE} {T : TM} {J : JM} {P : PM} {N : Nat} {x : Int32 × IM × JM} (hL : LOK T P) : ∀ (n : Nat) (u1 : Int32) (Iv : IM), G_X12_cards_245 N J n u1 Iv = some x → WW E mX12_cards (RM 5 0 0) (ZM E 0 0 (some (.int x.1)) T x.2.1 x.2.2 P) 0 0 T Iv J P 245 [(0, .ref 101), (1, .int u1)] [] := by
  intro n
  induction n with
  | zero =>
    intro u1 Iv hF
    cases hF
  | succ n ih =>
    intro u1 Iv hF
    rw [G_X12_cards_245] at hF
    refine r_iload_n dX12_cards_245 rfl rfl ?_
    refine r_iconst (v := 5) dX12_cards_246 (by decide) ?_
    refine r_icmp_ge (tgt := 268) dX12_cards_247 (by decide) (fun h19 => ?_) (fun h19 => ?_)
    · have hF := tw hF h19
      refine r_aload_n dX12_cards_268 rfl rfl ?_
      refine r_getP lk_X12_26 (ln_101 hL) (pp_101_6 hL) dX12_cards_269 ?_
      refine r_iconst (v := 0) dX12_cards_272 (by decide) ?_
      refine r_iconst (v := (-1)) dX12_cards_273 (by decide) ?_
      refine r_iast (ln_106 hL) (by rw [(nl_106 hL)]; decide) dX12_cards_274 ?_
      refine r_letI hF (fun I20 hF => ?_)
      refine r_aload_n dX12_cards_275 rfl rfl ?_
      refine r_iconst (v := 0) dX12_cards_276 (by decide) ?_
      refine r_putI lk_X12_198 (Or.inl rfl) (ln_101 hL) rfl rfl dX12_cards_277 ?_
      refine r_letI hF (fun I21 hF => ?_)
      refine r_aload_n dX12_cards_280 rfl rfl ?_
      refine r_getI lk_X12_81 (ln_101 hL) dX12_cards_281 ?_
      obtain rfl := Option.some.inj hF
      exact r_ireturn rfl rfl dX12_cards_284 (Nat.le_of_ble_eq_true rfl) (Nat.le_of_ble_eq_true rfl)
    · have hF := fw hF h19
      refine r_aload_n dX12_cards_250 rfl rfl ?_
      refine r_getP lk_X12_16 (ln_101 hL) (pp_101_3 hL) dX12_cards_251 ?_
      refine r_iload_n dX12_cards_254 rfl rfl ?_
      refine r_aload_n dX12_cards_255 rfl rfl ?_
      refine r_getP lk_X12_38 (ln_101 hL) (pp_101_18 hL) dX12_cards_256 ?_
      refine r_iload_n dX12_cards_259 rfl rfl ?_
      obtain ⟨g22, hF⟩ := gd hF
      refine r_iald (ln_110 hL) (by rw [(nl_110 hL)]; exact g22) dX12_cards_260 ?_
      obtain ⟨g23, hF⟩ := gd hF
      refine r_iast (ln_104 hL) (by rw [(nl_104 hL)]; exact g23) dX12_cards_261 ?_
      refine r_letI hF (fun I24 hF => ?_)
      refine r_iinc (v := (u1 + 1)) (ls' := [(1, .int (u1 + 1)), (0, .ref 101)]) dX12_cards_262 rfl rfl (by decide) rfl ?_
      refine r_goto (tgt := 245) dX12_cards_265 (by decide) ?_
      refine r_sub (ls' := [(0, .ref 101), (1, .int (u1 + 1))]) [1, 0] rfl ?_
      exact ih (u1 + 1) I24 hF
set_option maxHeartbeats 4000000 in
theorem okG_X12_cards_219 {E : GE} {T : TM} {J : JM} {P : PM} {N : Nat} {x : Int32 × IM × JM} (hL : LOK T P) : ∀ (n : Nat) (u1 : Int32) (Iv : IM), G_X12_cards_219 N J n u1 Iv = some x → WW E mX12_cards (RM 5 0 0) (ZM E 0 0 (some (.int x.1)) T x.2.1 x.2.2 P) 0 0 T Iv J P 219 [(0, .ref 101), (1, .int u1)] [] := by
  intro n
  induction n with
  | zero =>
    intro u1 Iv hF
    cases hF
  | succ n ih =>
    intro u1 Iv hF
    rw [G_X12_cards_219] at hF
    refine r_iload_n dX12_cards_219 rfl rfl ?_
    refine r_bipush (v := 6) dX12_cards_220 (by decide) ?_
    refine r_icmp_ge (tgt := 243) dX12_cards_222 (by decide) (fun h17 => ?_) (fun h17 => ?_)
    · have hF := tw hF h17
      refine r_iconst (v := 0) dX12_cards_243 (by decide) ?_
      refine r_istore_n (ls' := [(1, .int 0), (0, .ref 101)]) dX12_cards_244 rfl (by decide) rfl ?_
      refine r_sub (ls' := [(0, .ref 101), (1, .int 0)]) [1, 0] rfl ?_
      exact okG_X12_cards_245 hL   N 0 Iv hF
    · have hF := fw hF h17
      refine r_aload_n dX12_cards_225 rfl rfl ?_
      refine r_getP lk_X12_13 (ln_101 hL) (pp_101_2 hL) dX12_cards_226 ?_
      refine r_iload_n dX12_cards_229 rfl rfl ?_
      refine r_aload_n dX12_cards_230 rfl rfl ?_
      refine r_getP lk_X12_35 (ln_101 hL) (pp_101_17 hL) dX12_cards_231 ?_
      refine r_iload_n dX12_cards_234 rfl rfl ?_
      obtain ⟨g25, hF⟩ := gd hF
      refine r_iald (ln_109 hL) (by rw [(nl_109 hL)]; exact g25) dX12_cards_235 ?_
      obtain ⟨g26, hF⟩ := gd hF
      refine r_iast (ln_103 hL) (by rw [(nl_103 hL)]; exact g26) dX12_cards_236 ?_
      refine r_letI hF (fun I27 hF => ?_)
      refine r_iinc (v := (u1 + 1)) (ls' := [(1, .int (u1 + 1)), (0, .ref 101)]) dX12_cards_237 rfl rfl (by decide) rfl ?_
      refine r_goto (tgt := 219) dX12_cards_240 (by decide) ?_
      refine r_sub (ls' := [(0, .ref 101), (1, .int (u1 + 1))]) [1, 0] rfl ?_
      exact ih (u1 + 1) I27 hF
set_option maxHeartbeats 4000000 in
theorem okG_X12_cards_193 {E : GE} {T : TM} {J : JM} {P : PM} {N : Nat} {x : Int32 × IM × JM} (hL : LOK T P) : ∀ (n : Nat) (u1 : Int32) (Iv : IM), G_X12_cards_193 N J n u1 Iv = some x → WW E mX12_cards (RM 5 0 0) (ZM E 0 0 (some (.int x.1)) T x.2.1 x.2.2 P) 0 0 T Iv J P 193 [(0, .ref 101), (1, .int u1)] [] := by
  intro n
  induction n with
  | zero =>
    intro u1 Iv hF
    cases hF
  | succ n ih =>
    intro u1 Iv hF
    rw [G_X12_cards_193] at hF
    refine r_iload_n dX12_cards_193 rfl rfl ?_
    refine r_bipush (v := 24) dX12_cards_194 (by decide) ?_
    refine r_icmp_ge (tgt := 217) dX12_cards_196 (by decide) (fun h15 => ?_) (fun h15 => ?_)
    · have hF := tw hF h15
      refine r_iconst (v := 0) dX12_cards_217 (by decide) ?_
      refine r_istore_n (ls' := [(1, .int 0), (0, .ref 101)]) dX12_cards_218 rfl (by decide) rfl ?_
      refine r_sub (ls' := [(0, .ref 101), (1, .int 0)]) [1, 0] rfl ?_
      exact okG_X12_cards_219 hL   N 0 Iv hF
    · have hF := fw hF h15
      refine r_aload_n dX12_cards_199 rfl rfl ?_
      refine r_getP lk_X12_7 (ln_101 hL) (pp_101_1 hL) dX12_cards_200 ?_
      refine r_iload_n dX12_cards_203 rfl rfl ?_
      refine r_aload_n dX12_cards_204 rfl rfl ?_
      refine r_getP lk_X12_32 (ln_101 hL) (pp_101_16 hL) dX12_cards_205 ?_
      refine r_iload_n dX12_cards_208 rfl rfl ?_
      obtain ⟨g28, hF⟩ := gd hF
      refine r_iald (ln_108 hL) (by rw [(nl_108 hL)]; exact g28) dX12_cards_209 ?_
      obtain ⟨g29, hF⟩ := gd hF
      refine r_iast (ln_102 hL) (by rw [(nl_102 hL)]; exact g29) dX12_cards_210 ?_
      refine r_letI hF (fun I30 hF => ?_)
      refine r_iinc (v := (u1 + 1)) (ls' := [(1, .int (u1 + 1)), (0, .ref 101)]) dX12_cards_211 rfl rfl (by decide) rfl ?_
      refine r_goto (tgt := 193) dX12_cards_214 (by decide) ?_
      refine r_sub (ls' := [(0, .ref 101), (1, .int (u1 + 1))]) [1, 0] rfl ?_
      exact ih (u1 + 1) I30 hF
set_option maxHeartbeats 4000000 in
theorem okG_X12_cards_70 {E : GE} {T : TM} {P : PM} {N : Nat} {x : Int32 × IM × JM} (hL : LOK T P) : ∀ (n : Nat) (Iv : IM) (Jv : JM), G_X12_cards_70 N n Iv Jv = some x → WW E mX12_cards (RM 5 0 0) (ZM E 0 0 (some (.int x.1)) T x.2.1 x.2.2 P) 0 0 T Iv Jv P 70 [(0, .ref 101)] [] := by
  intro n
  induction n with
  | zero =>
    intro Iv Jv hF
    cases hF
  | succ n ih =>
    intro Iv Jv hF
    rw [G_X12_cards_70] at hF
    refine r_aload_n dX12_cards_70 rfl rfl ?_
    refine r_getI lk_X12_154 (ln_101 hL) dX12_cards_71 ?_
    refine r_if_eq (tgt := 163) dX12_cards_74 (by decide) (fun h10 => ?_) (fun h10 => ?_)
    · have hF := tw hF h10
      refine r_aload_n dX12_cards_163 rfl rfl ?_
      refine r_iconst (v := 0) dX12_cards_164 (by decide) ?_
      refine r_putI lk_X12_88 (Or.inl rfl) (ln_101 hL) rfl rfl dX12_cards_165 ?_
      refine r_letI hF (fun I11 hF => ?_)
      refine r_aload_n dX12_cards_168 rfl rfl ?_
      refine r_getI lk_X12_154 (ln_101 hL) dX12_cards_169 ?_
      refine r_if_ne (tgt := 183) dX12_cards_172 (by decide) (fun h12 => ?_) (fun h12 => ?_)
      · have hF := fw hF h12
        refine r_aload_n dX12_cards_183 rfl rfl ?_
        refine r_aload_n dX12_cards_184 rfl rfl ?_
        refine r_getI lk_X12_164 (ln_101 hL) dX12_cards_185 ?_
        refine r_putI lk_X12_81 (Or.inl rfl) (ln_101 hL) rfl rfl dX12_cards_188 ?_
        refine r_letI hF (fun I13 hF => ?_)
        refine r_iconst (v := 0) dX12_cards_191 (by decide) ?_
        refine r_istore_n (ls' := [(1, .int 0), (0, .ref 101)]) dX12_cards_192 rfl (by decide) rfl ?_
        refine r_sub (ls' := [(0, .ref 101), (1, .int 0)]) [1, 0] rfl ?_
        exact okG_X12_cards_193 hL   N 0 I13 hF
      · have hF := tw hF h12
        refine r_bipush (v := (-100)) dX12_cards_175 (by decide) ?_
        refine r_aload_n dX12_cards_177 rfl rfl ?_
        refine r_getI lk_X12_96 (ln_101 hL) dX12_cards_178 ?_
        refine r_isub dX12_cards_181 ?_
        obtain rfl := Option.some.inj hF
        exact r_ireturn rfl rfl dX12_cards_182 (Nat.le_of_ble_eq_true rfl) (Nat.le_of_ble_eq_true rfl)
    · have hF := fw hF h10
      refine r_aload_n dX12_cards_77 rfl rfl ?_
      refine r_getI lk_X12_110 (ln_101 hL) dX12_cards_78 ?_
      refine r_if_eq (tgt := 163) dX12_cards_81 (by decide) (fun h32 => ?_) (fun h32 => ?_)
      · have hF := tw hF h32
        refine r_aload_n dX12_cards_163 rfl rfl ?_
        refine r_iconst (v := 0) dX12_cards_164 (by decide) ?_
        refine r_putI lk_X12_88 (Or.inl rfl) (ln_101 hL) rfl rfl dX12_cards_165 ?_
        refine r_letI hF (fun I33 hF => ?_)
        refine r_aload_n dX12_cards_168 rfl rfl ?_
        refine r_getI lk_X12_154 (ln_101 hL) dX12_cards_169 ?_
        refine r_if_ne (tgt := 183) dX12_cards_172 (by decide) (fun h34 => ?_) (fun h34 => ?_)
        · have hF := fw hF h34
          refine r_aload_n dX12_cards_183 rfl rfl ?_
          refine r_aload_n dX12_cards_184 rfl rfl ?_
          refine r_getI lk_X12_164 (ln_101 hL) dX12_cards_185 ?_
          refine r_putI lk_X12_81 (Or.inl rfl) (ln_101 hL) rfl rfl dX12_cards_188 ?_
          refine r_letI hF (fun I35 hF => ?_)
          refine r_iconst (v := 0) dX12_cards_191 (by decide) ?_
          refine r_istore_n (ls' := [(1, .int 0), (0, .ref 101)]) dX12_cards_192 rfl (by decide) rfl ?_
          refine r_sub (ls' := [(0, .ref 101), (1, .int 0)]) [1, 0] rfl ?_
          exact okG_X12_cards_193 hL   N 0 I35 hF
        · have hF := tw hF h34
          refine r_bipush (v := (-100)) dX12_cards_175 (by decide) ?_
          refine r_aload_n dX12_cards_177 rfl rfl ?_
          refine r_getI lk_X12_96 (ln_101 hL) dX12_cards_178 ?_
          refine r_isub dX12_cards_181 ?_
          obtain rfl := Option.some.inj hF
          exact r_ireturn rfl rfl dX12_cards_182 (Nat.le_of_ble_eq_true rfl) (Nat.le_of_ble_eq_true rfl)
      · have hF := fw hF h32
        refine r_aload_n dX12_cards_84 rfl rfl ?_
        refine c_virt_i (As := []) mi_X12_kindHere kw_1111 ks_26 kw_1109 rfl (by decide) (ln_101 hL) (ok_X12_kindHere hL  ) rfl rfl (Nat.le_of_ble_eq_true rfl) ⟨Nat.le_of_ble_eq_true rfl, Nat.le_of_ble_eq_true rfl⟩ ⟨Nat.le_of_ble_eq_true rfl, Nat.le_of_ble_eq_true rfl⟩ dX12_cards_85 ?_
        refine r_if_lt (tgt := 102) dX12_cards_88 (by decide) (fun h39 => ?_) (fun h39 => ?_)
        · have hF := tw hF h39
          refine r_aload_n dX12_cards_102 rfl rfl ?_
          refine c_virt_i (As := []) mi_X12_lawHere kw_1147 ks_33 kw_1145 rfl (by decide) (ln_101 hL) (ok_X12_lawHere hL  ) rfl rfl (Nat.le_of_ble_eq_true rfl) ⟨Nat.le_of_ble_eq_true rfl, Nat.le_of_ble_eq_true rfl⟩ ⟨Nat.le_of_ble_eq_true rfl, Nat.le_of_ble_eq_true rfl⟩ dX12_cards_103 ?_
          refine r_if_lt (tgt := 138) dX12_cards_106 (by decide) (fun h42 => ?_) (fun h42 => ?_)
          · have hF := tw hF h42
            refine r_aload_n dX12_cards_138 rfl rfl ?_
            refine r_ldc2 dX12_cards_139 kw_1155 ?_
            refine c_virt_i (As := [.long 158575]) mi_X12_isWord kw_1116 ks_27 kw_1114 rfl (by decide) (ln_101 hL) (ok_X12_isWord hL  (p1 := 158575)) rfl rfl (Nat.le_of_ble_eq_true rfl) ⟨Nat.le_of_ble_eq_true rfl, Nat.le_of_ble_eq_true rfl⟩ ⟨Nat.le_of_ble_eq_true rfl, Nat.le_of_ble_eq_true rfl⟩ dX12_cards_142 ?_
            refine r_if_eq (tgt := 155) dX12_cards_145 (by decide) (fun h44 => ?_) (fun h44 => ?_)
            · have hF := tw hF h44
              refine r_aload_n dX12_cards_155 rfl rfl ?_
              refine r_iconst (v := 0) dX12_cards_156 (by decide) ?_
              refine r_putI lk_X12_154 (Or.inl rfl) (ln_101 hL) rfl rfl dX12_cards_157 ?_
              refine r_letI hF (fun I45 hF => ?_)
              refine r_goto (tgt := 70) dX12_cards_160 (by decide) ?_
              refine r_sub (ls' := [(0, .ref 101)]) [0] rfl ?_
              exact ih I45 Jv hF
            · have hF := fw hF h44
              refine r_aload_n dX12_cards_148 rfl rfl ?_
              obtain ⟨x46, hx46, hF⟩ := bnd hF
              refine c_virt_v (As := []) mi_X12_wantHand kw_1158 ks_34 kw_1156 rfl (by decide) (ln_101 hL) (ok_X12_wantHand hL  hx46) rfl rfl (Nat.le_of_ble_eq_true rfl) ⟨Nat.le_of_ble_eq_true rfl, Nat.le_of_ble_eq_true rfl⟩ ⟨Nat.le_of_ble_eq_true rfl, Nat.le_of_ble_eq_true rfl⟩ dX12_cards_149 ?_
              refine r_goto (tgt := 70) dX12_cards_152 (by decide) ?_
              refine r_sub (ls' := [(0, .ref 101)]) [0] rfl ?_
              exact ih x46.1 x46.2 hF
          · have hF := fw hF h42
            refine r_aload_n dX12_cards_109 rfl rfl ?_
            refine c_virt_i (As := []) mi_X12_lawHere kw_1147 ks_33 kw_1145 rfl (by decide) (ln_101 hL) (ok_X12_lawHere hL  ) rfl rfl (Nat.le_of_ble_eq_true rfl) ⟨Nat.le_of_ble_eq_true rfl, Nat.le_of_ble_eq_true rfl⟩ ⟨Nat.le_of_ble_eq_true rfl, Nat.le_of_ble_eq_true rfl⟩ dX12_cards_110 ?_
            refine r_letV hF (fun y47 hF => ?_)
            refine r_istore_n (ls' := [(1, .int y47), (0, .ref 101)]) dX12_cards_113 rfl (by decide) rfl ?_
            refine r_aload_n dX12_cards_114 rfl rfl ?_
            obtain ⟨x48, hx48, hF⟩ := bnd hF
            refine c_virt_v (As := []) mi_X12_advance kw_1094 ks_24 kw_1092 rfl (by decide) (ln_101 hL) (ok_X12_advance hL  hx48) rfl rfl (Nat.le_of_ble_eq_true rfl) ⟨Nat.le_of_ble_eq_true rfl, Nat.le_of_ble_eq_true rfl⟩ ⟨Nat.le_of_ble_eq_true rfl, Nat.le_of_ble_eq_true rfl⟩ dX12_cards_115 ?_
            refine r_aload_n dX12_cards_118 rfl rfl ?_
            refine r_getP lk_X12_35 (ln_101 hL) (pp_101_17 hL) dX12_cards_119 ?_
            refine r_iload_n dX12_cards_122 rfl rfl ?_
            refine r_aload_n dX12_cards_123 rfl rfl ?_
            refine r_iconst (v := 0) dX12_cards_124 (by decide) ?_
            refine r_bipush (v := 63) dX12_cards_125 (by decide) ?_
            obtain ⟨x49, hx49, hF⟩ := bnd hF
            refine c_virt_i (As := [.int 0, .int 63]) mi_X12_wantNumber kw_1129 ks_29 kw_1127 rfl (by decide) (ln_101 hL) (ok_X12_wantNumber hL  hx49) rfl rfl (Nat.le_of_ble_eq_true rfl) ⟨Nat.le_of_ble_eq_true rfl, Nat.le_of_ble_eq_true rfl⟩ ⟨Nat.le_of_ble_eq_true rfl, Nat.le_of_ble_eq_true rfl⟩ dX12_cards_127 ?_
            obtain ⟨g50, hF⟩ := gd hF
            refine r_iast (ln_109 hL) (by rw [(nl_109 hL)]; exact g50) dX12_cards_130 ?_
            refine r_letI hF (fun I51 hF => ?_)
            refine r_aload_n dX12_cards_131 rfl rfl ?_
            obtain ⟨x52, hx52, hF⟩ := bnd hF
            refine c_virt_v (As := []) mi_X12_wantEnd kw_1143 ks_32 kw_1141 rfl (by decide) (ln_101 hL) (ok_X12_wantEnd hL  hx52) rfl rfl (Nat.le_of_ble_eq_true rfl) ⟨Nat.le_of_ble_eq_true rfl, Nat.le_of_ble_eq_true rfl⟩ ⟨Nat.le_of_ble_eq_true rfl, Nat.le_of_ble_eq_true rfl⟩ dX12_cards_132 ?_
            refine r_goto (tgt := 70) dX12_cards_135 (by decide) ?_
            refine r_sub (ls' := [(0, .ref 101)]) [1] rfl ?_
            exact ih x52.1 x52.2 hF
        · have hF := fw hF h39
          refine r_aload_n dX12_cards_91 rfl rfl ?_
          refine r_aload_n dX12_cards_92 rfl rfl ?_
          refine c_virt_i (As := []) mi_X12_kindHere kw_1111 ks_26 kw_1109 rfl (by decide) (ln_101 hL) (ok_X12_kindHere hL  ) rfl rfl (Nat.le_of_ble_eq_true rfl) ⟨Nat.le_of_ble_eq_true rfl, Nat.le_of_ble_eq_true rfl⟩ ⟨Nat.le_of_ble_eq_true rfl, Nat.le_of_ble_eq_true rfl⟩ dX12_cards_93 ?_
          obtain ⟨x53, hx53, hF⟩ := bnd hF
          refine c_virt_v (As := [.int (F_X12_kindHere Iv Jv)]) mi_X12_wantCard kw_1125 ks_28 kw_1123 rfl (by decide) (ln_101 hL) (ok_X12_wantCard hL  hx53) rfl rfl (Nat.le_of_ble_eq_true rfl) ⟨Nat.le_of_ble_eq_true rfl, Nat.le_of_ble_eq_true rfl⟩ ⟨Nat.le_of_ble_eq_true rfl, Nat.le_of_ble_eq_true rfl⟩ dX12_cards_96 ?_
          refine r_goto (tgt := 70) dX12_cards_99 (by decide) ?_
          refine r_sub (ls' := [(0, .ref 101)]) [0] rfl ?_
          exact ih x53.1 x53.2 hF
set_option maxHeartbeats 4000000 in
theorem okG_X12_cards_43 {E : GE} {T : TM} {J : JM} {P : PM} {N : Nat} {x : Int32 × IM × JM} (hL : LOK T P) : ∀ (n : Nat) (u1 : Int32) (Iv : IM), G_X12_cards_43 N J n u1 Iv = some x → WW E mX12_cards (RM 5 0 0) (ZM E 0 0 (some (.int x.1)) T x.2.1 x.2.2 P) 0 0 T Iv J P 43 [(0, .ref 101), (1, .int u1)] [] := by
  intro n
  induction n with
  | zero =>
    intro u1 Iv hF
    cases hF
  | succ n ih =>
    intro u1 Iv hF
    rw [G_X12_cards_43] at hF
    refine r_iload_n dX12_cards_43 rfl rfl ?_
    refine r_iconst (v := 5) dX12_cards_44 (by decide) ?_
    refine r_icmp_ge (tgt := 66) dX12_cards_45 (by decide) (fun h7 => ?_) (fun h7 => ?_)
    · have hF := tw hF h7
      refine r_aload_n dX12_cards_66 rfl rfl ?_
      obtain ⟨x8, hx8, hF⟩ := bnd hF
      refine c_virt_v (As := []) mi_X12_advance kw_1094 ks_24 kw_1092 rfl (by decide) (ln_101 hL) (ok_X12_advance hL  hx8) rfl rfl (Nat.le_of_ble_eq_true rfl) ⟨Nat.le_of_ble_eq_true rfl, Nat.le_of_ble_eq_true rfl⟩ ⟨Nat.le_of_ble_eq_true rfl, Nat.le_of_ble_eq_true rfl⟩ dX12_cards_67 ?_
      refine r_sub (ls' := [(0, .ref 101)]) [0] rfl ?_
      exact okG_X12_cards_70 hL   N x8.1 x8.2 hF
    · have hF := fw hF h7
      refine r_aload_n dX12_cards_48 rfl rfl ?_
      refine r_getP lk_X12_38 (ln_101 hL) (pp_101_18 hL) dX12_cards_49 ?_
      refine r_iload_n dX12_cards_52 rfl rfl ?_
      refine r_aload_n dX12_cards_53 rfl rfl ?_
      refine r_getP lk_X12_16 (ln_101 hL) (pp_101_3 hL) dX12_cards_54 ?_
      refine r_iload_n dX12_cards_57 rfl rfl ?_
      obtain ⟨g54, hF⟩ := gd hF
      refine r_iald (ln_104 hL) (by rw [(nl_104 hL)]; exact g54) dX12_cards_58 ?_
      obtain ⟨g55, hF⟩ := gd hF
      refine r_iast (ln_110 hL) (by rw [(nl_110 hL)]; exact g55) dX12_cards_59 ?_
      refine r_letI hF (fun I56 hF => ?_)
      refine r_iinc (v := (u1 + 1)) (ls' := [(1, .int (u1 + 1)), (0, .ref 101)]) dX12_cards_60 rfl rfl (by decide) rfl ?_
      refine r_goto (tgt := 43) dX12_cards_63 (by decide) ?_
      refine r_sub (ls' := [(0, .ref 101), (1, .int (u1 + 1))]) [1, 0] rfl ?_
      exact ih (u1 + 1) I56 hF
set_option maxHeartbeats 4000000 in
theorem okG_X12_cards_17 {E : GE} {T : TM} {J : JM} {P : PM} {N : Nat} {x : Int32 × IM × JM} (hL : LOK T P) : ∀ (n : Nat) (u1 : Int32) (Iv : IM), G_X12_cards_17 N J n u1 Iv = some x → WW E mX12_cards (RM 5 0 0) (ZM E 0 0 (some (.int x.1)) T x.2.1 x.2.2 P) 0 0 T Iv J P 17 [(0, .ref 101), (1, .int u1)] [] := by
  intro n
  induction n with
  | zero =>
    intro u1 Iv hF
    cases hF
  | succ n ih =>
    intro u1 Iv hF
    rw [G_X12_cards_17] at hF
    refine r_iload_n dX12_cards_17 rfl rfl ?_
    refine r_bipush (v := 6) dX12_cards_18 (by decide) ?_
    refine r_icmp_ge (tgt := 41) dX12_cards_20 (by decide) (fun h5 => ?_) (fun h5 => ?_)
    · have hF := tw hF h5
      refine r_iconst (v := 0) dX12_cards_41 (by decide) ?_
      refine r_istore_n (ls' := [(1, .int 0), (0, .ref 101)]) dX12_cards_42 rfl (by decide) rfl ?_
      refine r_sub (ls' := [(0, .ref 101), (1, .int 0)]) [1, 0] rfl ?_
      exact okG_X12_cards_43 hL   N 0 Iv hF
    · have hF := fw hF h5
      refine r_aload_n dX12_cards_23 rfl rfl ?_
      refine r_getP lk_X12_35 (ln_101 hL) (pp_101_17 hL) dX12_cards_24 ?_
      refine r_iload_n dX12_cards_27 rfl rfl ?_
      refine r_aload_n dX12_cards_28 rfl rfl ?_
      refine r_getP lk_X12_13 (ln_101 hL) (pp_101_2 hL) dX12_cards_29 ?_
      refine r_iload_n dX12_cards_32 rfl rfl ?_
      obtain ⟨g57, hF⟩ := gd hF
      refine r_iald (ln_103 hL) (by rw [(nl_103 hL)]; exact g57) dX12_cards_33 ?_
      obtain ⟨g58, hF⟩ := gd hF
      refine r_iast (ln_109 hL) (by rw [(nl_109 hL)]; exact g58) dX12_cards_34 ?_
      refine r_letI hF (fun I59 hF => ?_)
      refine r_iinc (v := (u1 + 1)) (ls' := [(1, .int (u1 + 1)), (0, .ref 101)]) dX12_cards_35 rfl rfl (by decide) rfl ?_
      refine r_goto (tgt := 17) dX12_cards_38 (by decide) ?_
      refine r_sub (ls' := [(0, .ref 101), (1, .int (u1 + 1))]) [1, 0] rfl ?_
      exact ih (u1 + 1) I59 hF
def F_X12_cards (N : Nat) (I : IM) (J : JM) : Option (Int32 × IM × JM) := (letb (up2 I 101 11 0) (fun I1 : IM => (letb (up2 I1 101 14 1) (fun I2 : IM => (letb (up2 I2 101 15 0) (fun I3 : IM => (G_X12_cards_17 N J N 0 I3)))))))
set_option maxHeartbeats 4000000 in
theorem ok_X12_cards {E : GE} {T : TM} {I : IM} {J : JM} {P : PM} {N : Nat} {x : Int32 × IM × JM} (hL : LOK T P) (hF : F_X12_cards N I J = some x) : Ctr E mX12_cards 5 0 0 [.ref 101] T I J P (some (.int x.1)) T x.2.1 x.2.2 P := by
  unfold F_X12_cards at hF
  refine ctr_intro rfl (by decide) (Nat.le_of_ble_eq_true rfl) ?_
  refine r_sub (ls' := [(0, .ref 101)]) [0] rfl ?_
  refine r_aload_n dX12_cards_0 rfl rfl ?_
  refine r_iconst (v := 0) dX12_cards_1 (by decide) ?_
  refine r_putI lk_X12_93 (Or.inl rfl) (ln_101 hL) rfl rfl dX12_cards_2 ?_
  refine r_letI hF (fun I1 hF => ?_)
  refine r_aload_n dX12_cards_5 rfl rfl ?_
  refine r_iconst (v := 1) dX12_cards_6 (by decide) ?_
  refine r_putI lk_X12_154 (Or.inl rfl) (ln_101 hL) rfl rfl dX12_cards_7 ?_
  refine r_letI hF (fun I2 hF => ?_)
  refine r_aload_n dX12_cards_10 rfl rfl ?_
  refine r_iconst (v := 0) dX12_cards_11 (by decide) ?_
  refine r_putI lk_X12_164 (Or.inl rfl) (ln_101 hL) rfl rfl dX12_cards_12 ?_
  refine r_letI hF (fun I3 hF => ?_)
  refine r_iconst (v := 0) dX12_cards_15 (by decide) ?_
  refine r_istore_n (ls' := [(1, .int 0), (0, .ref 101)]) dX12_cards_16 rfl (by decide) rfl ?_
  refine r_sub (ls' := [(0, .ref 101), (1, .int 0)]) [1, 0] rfl ?_
  exact okG_X12_cards_17 hL   N 0 I3 hF
def F_X12_card (I : IM) (p1 : Int32) (p2 : Int32) (p3 : Int32) (p4 : Int32) : Option (Int32 × IM) := (if (F_X12_isLike p1 p2 p3 p4) = 0 then (some ((-1), I)) else (if (I 101 0) = 6 then (some ((-2), I)) else (if inb (4 * (I 101 0)) 24 = true then (letb (up2 I 102 (4 * (I 101 0)).toNatClampNeg p1) (fun I4 : IM => (if inb ((4 * (I4 101 0)) + 1) 24 = true then (letb (up2 I4 102 ((4 * (I4 101 0)) + 1).toNatClampNeg p2) (fun I6 : IM => (if inb ((4 * (I6 101 0)) + 2) 24 = true then (letb (up2 I6 102 ((4 * (I6 101 0)) + 2).toNatClampNeg p3) (fun I8 : IM => (if inb ((4 * (I8 101 0)) + 3) 24 = true then (letb (up2 I8 102 ((4 * (I8 101 0)) + 3).toNatClampNeg p4) (fun I10 : IM => (letb (up2 I10 101 0 ((I10 101 0) + 1)) (fun I11 : IM => (some (((I11 101 0) - 1), I11)))))) else none))) else none))) else none))) else none)))
set_option maxHeartbeats 4000000 in
theorem ok_X12_card {E : GE} {T : TM} {I : IM} {J : JM} {P : PM} {p1 : Int32} {p2 : Int32} {p3 : Int32} {p4 : Int32} {x : Int32 × IM} (hL : LOK T P) (hF : F_X12_card I p1 p2 p3 p4 = some x) : Ctr E mX12_card 2 0 0 [.ref 101, .int p1, .int p2, .int p3, .int p4] T I J P (some (.int x.1)) T x.2 J P := by
  unfold F_X12_card at hF
  refine ctr_intro rfl (by decide) (Nat.le_of_ble_eq_true rfl) ?_
  refine r_sub (ls' := [(4, .int p4), (3, .int p3), (2, .int p2), (1, .int p1), (0, .ref 101)]) [4, 3, 2, 1, 0] rfl ?_
  refine r_iload_n dX12_card_0 rfl rfl ?_
  refine r_iload_n dX12_card_1 rfl rfl ?_
  refine r_iload_n dX12_card_2 rfl rfl ?_
  refine r_iload dX12_card_3 rfl ?_
  refine c_static_i (As := [.int p1, .int p2, .int p3, .int p4]) mi_X12_isLike kw_1165 kw_1164 (ok_X12_isLike hL  (p1 := p1) (p2 := p2) (p3 := p3) (p4 := p4)) rfl rfl (Nat.le_of_ble_eq_true rfl) ⟨Nat.le_of_ble_eq_true rfl, Nat.le_of_ble_eq_true rfl⟩ ⟨Nat.le_of_ble_eq_true rfl, Nat.le_of_ble_eq_true rfl⟩ dX12_card_5 ?_
  refine r_if_ne (tgt := 13) dX12_card_8 (by decide) (fun h1 => ?_) (fun h1 => ?_)
  · have hF := fw hF h1
    refine r_aload_n dX12_card_13 rfl rfl ?_
    refine r_getI lk_X12_81 (ln_101 hL) dX12_card_14 ?_
    refine r_bipush (v := 6) dX12_card_17 (by decide) ?_
    refine r_icmp_ne (tgt := 25) dX12_card_19 (by decide) (fun h2 => ?_) (fun h2 => ?_)
    · have hF := fw hF h2
      refine r_aload_n dX12_card_25 rfl rfl ?_
      refine r_getP lk_X12_7 (ln_101 hL) (pp_101_1 hL) dX12_card_26 ?_
      refine r_iconst (v := 4) dX12_card_29 (by decide) ?_
      refine r_aload_n dX12_card_30 rfl rfl ?_
      refine r_getI lk_X12_81 (ln_101 hL) dX12_card_31 ?_
      refine r_imul dX12_card_34 ?_
      refine r_iload_n dX12_card_35 rfl rfl ?_
      obtain ⟨g3, hF⟩ := gd hF
      refine r_iast (ln_102 hL) (by rw [(nl_102 hL)]; exact g3) dX12_card_36 ?_
      refine r_letI hF (fun I4 hF => ?_)
      refine r_aload_n dX12_card_37 rfl rfl ?_
      refine r_getP lk_X12_7 (ln_101 hL) (pp_101_1 hL) dX12_card_38 ?_
      refine r_iconst (v := 4) dX12_card_41 (by decide) ?_
      refine r_aload_n dX12_card_42 rfl rfl ?_
      refine r_getI lk_X12_81 (ln_101 hL) dX12_card_43 ?_
      refine r_imul dX12_card_46 ?_
      refine r_iconst (v := 1) dX12_card_47 (by decide) ?_
      refine r_iadd dX12_card_48 ?_
      refine r_iload_n dX12_card_49 rfl rfl ?_
      obtain ⟨g5, hF⟩ := gd hF
      refine r_iast (ln_102 hL) (by rw [(nl_102 hL)]; exact g5) dX12_card_50 ?_
      refine r_letI hF (fun I6 hF => ?_)
      refine r_aload_n dX12_card_51 rfl rfl ?_
      refine r_getP lk_X12_7 (ln_101 hL) (pp_101_1 hL) dX12_card_52 ?_
      refine r_iconst (v := 4) dX12_card_55 (by decide) ?_
      refine r_aload_n dX12_card_56 rfl rfl ?_
      refine r_getI lk_X12_81 (ln_101 hL) dX12_card_57 ?_
      refine r_imul dX12_card_60 ?_
      refine r_iconst (v := 2) dX12_card_61 (by decide) ?_
      refine r_iadd dX12_card_62 ?_
      refine r_iload_n dX12_card_63 rfl rfl ?_
      obtain ⟨g7, hF⟩ := gd hF
      refine r_iast (ln_102 hL) (by rw [(nl_102 hL)]; exact g7) dX12_card_64 ?_
      refine r_letI hF (fun I8 hF => ?_)
      refine r_aload_n dX12_card_65 rfl rfl ?_
      refine r_getP lk_X12_7 (ln_101 hL) (pp_101_1 hL) dX12_card_66 ?_
      refine r_iconst (v := 4) dX12_card_69 (by decide) ?_
      refine r_aload_n dX12_card_70 rfl rfl ?_
      refine r_getI lk_X12_81 (ln_101 hL) dX12_card_71 ?_
      refine r_imul dX12_card_74 ?_
      refine r_iconst (v := 3) dX12_card_75 (by decide) ?_
      refine r_iadd dX12_card_76 ?_
      refine r_iload dX12_card_77 rfl ?_
      obtain ⟨g9, hF⟩ := gd hF
      refine r_iast (ln_102 hL) (by rw [(nl_102 hL)]; exact g9) dX12_card_79 ?_
      refine r_letI hF (fun I10 hF => ?_)
      refine r_aload_n dX12_card_80 rfl rfl ?_
      refine r_dup dX12_card_81 rfl ?_
      refine r_getI lk_X12_81 (ln_101 hL) dX12_card_82 ?_
      refine r_iconst (v := 1) dX12_card_85 (by decide) ?_
      refine r_iadd dX12_card_86 ?_
      refine r_putI lk_X12_81 (Or.inl rfl) (ln_101 hL) rfl rfl dX12_card_87 ?_
      refine r_letI hF (fun I11 hF => ?_)
      refine r_aload_n dX12_card_90 rfl rfl ?_
      refine r_getI lk_X12_81 (ln_101 hL) dX12_card_91 ?_
      refine r_iconst (v := 1) dX12_card_94 (by decide) ?_
      refine r_isub dX12_card_95 ?_
      obtain rfl := Option.some.inj hF
      exact r_ireturn rfl rfl dX12_card_96 (Nat.le_of_ble_eq_true rfl) (Nat.le_of_ble_eq_true rfl)
    · have hF := tw hF h2
      refine r_bipush (v := (-2)) dX12_card_22 (by decide) ?_
      obtain rfl := Option.some.inj hF
      exact r_ireturn rfl rfl dX12_card_24 (Nat.le_of_ble_eq_true rfl) (Nat.le_of_ble_eq_true rfl)
  · have hF := tw hF h1
    refine r_iconst (v := (-1)) dX12_card_11 (by decide) ?_
    obtain rfl := Option.some.inj hF
    exact r_ireturn rfl rfl dX12_card_12 (Nat.le_of_ble_eq_true rfl) (Nat.le_of_ble_eq_true rfl)
def F_X12_cardOf (I : IM) (p1 : Int32) (p2 : Int32) : Option (Int32) := (if (F_X12_isCard I p1) = 0 then (some (-1)) else (if (F_X12_in p2 0 3) = 0 then (some (-1)) else (if p2 = 3 then ((F_X12_its I p1 3).bind (fun x5 => (some (x5 + 10)))) else ((F_X12_its I p1 p2).bind (fun x4 => (some x4))))))
set_option maxHeartbeats 4000000 in
theorem ok_X12_cardOf {E : GE} {T : TM} {I : IM} {J : JM} {P : PM} {p1 : Int32} {p2 : Int32} {x : Int32} (hL : LOK T P) (hF : F_X12_cardOf I p1 p2 = some x) : Ctr E mX12_cardOf 2 0 0 [.ref 101, .int p1, .int p2] T I J P (some (.int x)) T I J P := by
  unfold F_X12_cardOf at hF
  refine ctr_intro rfl (by decide) (Nat.le_of_ble_eq_true rfl) ?_
  refine r_sub (ls' := [(2, .int p2), (1, .int p1), (0, .ref 101)]) [2, 1, 0] rfl ?_
  refine r_aload_n dX12_cardOf_0 rfl rfl ?_
  refine r_iload_n dX12_cardOf_1 rfl rfl ?_
  refine c_virt_i (As := [.int p1]) mi_X12_isCard kw_1173 ks_35 kw_1171 rfl (by decide) (ln_101 hL) (ok_X12_isCard hL  (p1 := p1)) rfl rfl (Nat.le_of_ble_eq_true rfl) ⟨Nat.le_of_ble_eq_true rfl, Nat.le_of_ble_eq_true rfl⟩ ⟨Nat.le_of_ble_eq_true rfl, Nat.le_of_ble_eq_true rfl⟩ dX12_cardOf_2 ?_
  refine r_if_eq (tgt := 17) dX12_cardOf_5 (by decide) (fun h1 => ?_) (fun h1 => ?_)
  · have hF := tw hF h1
    refine r_iconst (v := (-1)) dX12_cardOf_17 (by decide) ?_
    obtain rfl := Option.some.inj hF
    exact r_ireturn rfl rfl dX12_cardOf_18 (Nat.le_of_ble_eq_true rfl) (Nat.le_of_ble_eq_true rfl)
  · have hF := fw hF h1
    refine r_iload_n dX12_cardOf_8 rfl rfl ?_
    refine r_iconst (v := 0) dX12_cardOf_9 (by decide) ?_
    refine r_iconst (v := 3) dX12_cardOf_10 (by decide) ?_
    refine c_static_i (As := [.int p2, .int 0, .int 3]) mi_X12_in kw_1085 kw_1084 (ok_X12_in hL  (p1 := p2) (p2 := 0) (p3 := 3)) rfl rfl (Nat.le_of_ble_eq_true rfl) ⟨Nat.le_of_ble_eq_true rfl, Nat.le_of_ble_eq_true rfl⟩ ⟨Nat.le_of_ble_eq_true rfl, Nat.le_of_ble_eq_true rfl⟩ dX12_cardOf_11 ?_
    refine r_if_ne (tgt := 19) dX12_cardOf_14 (by decide) (fun h2 => ?_) (fun h2 => ?_)
    · have hF := fw hF h2
      refine r_iload_n dX12_cardOf_19 rfl rfl ?_
      refine r_iconst (v := 3) dX12_cardOf_20 (by decide) ?_
      refine r_icmp_ne (tgt := 36) dX12_cardOf_21 (by decide) (fun h3 => ?_) (fun h3 => ?_)
      · have hF := fw hF h3
        refine r_aload_n dX12_cardOf_36 rfl rfl ?_
        refine r_iload_n dX12_cardOf_37 rfl rfl ?_
        refine r_iload_n dX12_cardOf_38 rfl rfl ?_
        obtain ⟨x4, hx4, hF⟩ := bnd hF
        refine c_virt_i (As := [.int p1, .int p2]) mi_X12_its kw_1177 ks_36 kw_1175 rfl (by decide) (ln_101 hL) (ok_X12_its hL  hx4) rfl rfl (Nat.le_of_ble_eq_true rfl) ⟨Nat.le_of_ble_eq_true rfl, Nat.le_of_ble_eq_true rfl⟩ ⟨Nat.le_of_ble_eq_true rfl, Nat.le_of_ble_eq_true rfl⟩ dX12_cardOf_39 ?_
        obtain rfl := Option.some.inj hF
        exact r_ireturn rfl rfl dX12_cardOf_42 (Nat.le_of_ble_eq_true rfl) (Nat.le_of_ble_eq_true rfl)
      · have hF := tw hF h3
        refine r_aload_n dX12_cardOf_24 rfl rfl ?_
        refine r_iload_n dX12_cardOf_25 rfl rfl ?_
        refine r_iconst (v := 3) dX12_cardOf_26 (by decide) ?_
        obtain ⟨x5, hx5, hF⟩ := bnd hF
        refine c_virt_i (As := [.int p1, .int 3]) mi_X12_its kw_1177 ks_36 kw_1175 rfl (by decide) (ln_101 hL) (ok_X12_its hL  hx5) rfl rfl (Nat.le_of_ble_eq_true rfl) ⟨Nat.le_of_ble_eq_true rfl, Nat.le_of_ble_eq_true rfl⟩ ⟨Nat.le_of_ble_eq_true rfl, Nat.le_of_ble_eq_true rfl⟩ dX12_cardOf_27 ?_
        refine r_bipush (v := 10) dX12_cardOf_30 (by decide) ?_
        refine r_iadd dX12_cardOf_32 ?_
        refine r_goto (tgt := 42) dX12_cardOf_33 (by decide) ?_
        obtain rfl := Option.some.inj hF
        exact r_ireturn rfl rfl dX12_cardOf_42 (Nat.le_of_ble_eq_true rfl) (Nat.le_of_ble_eq_true rfl)
    · have hF := tw hF h2
      refine r_iconst (v := (-1)) dX12_cardOf_17 (by decide) ?_
      obtain rfl := Option.some.inj hF
      exact r_ireturn rfl rfl dX12_cardOf_18 (Nat.le_of_ble_eq_true rfl) (Nat.le_of_ble_eq_true rfl)
def F_X12_isLaw (p1 : Int32) : Int32 := (F_X12_in p1 0 5)
set_option maxHeartbeats 4000000 in
theorem ok_X12_isLaw {E : GE} {T : TM} {I : IM} {J : JM} {P : PM} {p1 : Int32} (hL : LOK T P) : Ctr E mX12_isLaw 1 0 0 [.int p1] T I J P (some (.int (F_X12_isLaw p1))) T I J P := by
  generalize hF : F_X12_isLaw p1 = r
  unfold F_X12_isLaw at hF
  refine ctr_intro rfl (by decide) (Nat.le_of_ble_eq_true rfl) ?_
  refine r_sub (ls' := [(0, .int p1)]) [0] rfl ?_
  refine r_iload_n dX12_isLaw_0 rfl rfl ?_
  refine r_iconst (v := 0) dX12_isLaw_1 (by decide) ?_
  refine r_iconst (v := 5) dX12_isLaw_2 (by decide) ?_
  refine c_static_i (As := [.int p1, .int 0, .int 5]) mi_X12_in kw_1085 kw_1084 (ok_X12_in hL  (p1 := p1) (p2 := 0) (p3 := 5)) rfl rfl (Nat.le_of_ble_eq_true rfl) ⟨Nat.le_of_ble_eq_true rfl, Nat.le_of_ble_eq_true rfl⟩ ⟨Nat.le_of_ble_eq_true rfl, Nat.le_of_ble_eq_true rfl⟩ dX12_isLaw_3 ?_
  obtain rfl := hF
  exact r_ireturn rfl (nz_X12_in p1 0 5) dX12_isLaw_6 (Nat.le_of_ble_eq_true rfl) (Nat.le_of_ble_eq_true rfl)
theorem nz_X12_isLaw (p1 : Int32) : narrow .boolean (.int (F_X12_isLaw p1)) = .int (F_X12_isLaw p1) := by
  unfold F_X12_isLaw
  repeat' split
  all_goals first | (with_reducible exact nz_X12_in ..) | rfl
def F_X12_set (I : IM) (p1 : Int32) (p2 : Int32) : Option (Int32 × IM) := (if (F_X12_isLaw p1) = 0 then (some ((-1), I)) else (if (F_X12_in p2 0 63) = 0 then (some ((-1), I)) else (if inb p1 6 = true then (letb (I 103 p1.toNatClampNeg) (fun y4 : Int32 => (if inb p1 6 = true then (letb (up2 I 103 p1.toNatClampNeg p2) (fun I6 : IM => (some (y4, I6)))) else none))) else none)))
set_option maxHeartbeats 4000000 in
theorem ok_X12_set {E : GE} {T : TM} {I : IM} {J : JM} {P : PM} {p1 : Int32} {p2 : Int32} {x : Int32 × IM} (hL : LOK T P) (hF : F_X12_set I p1 p2 = some x) : Ctr E mX12_set 2 0 0 [.ref 101, .int p1, .int p2] T I J P (some (.int x.1)) T x.2 J P := by
  unfold F_X12_set at hF
  refine ctr_intro rfl (by decide) (Nat.le_of_ble_eq_true rfl) ?_
  refine r_sub (ls' := [(2, .int p2), (1, .int p1), (0, .ref 101)]) [2, 1, 0] rfl ?_
  refine r_iload_n dX12_set_0 rfl rfl ?_
  refine c_static_i (As := [.int p1]) mi_X12_isLaw kw_1184 kw_1183 (ok_X12_isLaw hL  (p1 := p1)) rfl rfl (Nat.le_of_ble_eq_true rfl) ⟨Nat.le_of_ble_eq_true rfl, Nat.le_of_ble_eq_true rfl⟩ ⟨Nat.le_of_ble_eq_true rfl, Nat.le_of_ble_eq_true rfl⟩ dX12_set_1 ?_
  refine r_if_eq (tgt := 17) dX12_set_4 (by decide) (fun h1 => ?_) (fun h1 => ?_)
  · have hF := tw hF h1
    refine r_iconst (v := (-1)) dX12_set_17 (by decide) ?_
    obtain rfl := Option.some.inj hF
    exact r_ireturn rfl rfl dX12_set_18 (Nat.le_of_ble_eq_true rfl) (Nat.le_of_ble_eq_true rfl)
  · have hF := fw hF h1
    refine r_iload_n dX12_set_7 rfl rfl ?_
    refine r_iconst (v := 0) dX12_set_8 (by decide) ?_
    refine r_bipush (v := 63) dX12_set_9 (by decide) ?_
    refine c_static_i (As := [.int p2, .int 0, .int 63]) mi_X12_in kw_1085 kw_1084 (ok_X12_in hL  (p1 := p2) (p2 := 0) (p3 := 63)) rfl rfl (Nat.le_of_ble_eq_true rfl) ⟨Nat.le_of_ble_eq_true rfl, Nat.le_of_ble_eq_true rfl⟩ ⟨Nat.le_of_ble_eq_true rfl, Nat.le_of_ble_eq_true rfl⟩ dX12_set_11 ?_
    refine r_if_ne (tgt := 19) dX12_set_14 (by decide) (fun h2 => ?_) (fun h2 => ?_)
    · have hF := fw hF h2
      refine r_aload_n dX12_set_19 rfl rfl ?_
      refine r_getP lk_X12_13 (ln_101 hL) (pp_101_2 hL) dX12_set_20 ?_
      refine r_iload_n dX12_set_23 rfl rfl ?_
      obtain ⟨g3, hF⟩ := gd hF
      refine r_iald (ln_103 hL) (by rw [(nl_103 hL)]; exact g3) dX12_set_24 ?_
      refine r_letV hF (fun y4 hF => ?_)
      refine r_istore_n (ls' := [(3, .int y4), (2, .int p2), (1, .int p1), (0, .ref 101)]) dX12_set_25 rfl (by decide) rfl ?_
      refine r_aload_n dX12_set_26 rfl rfl ?_
      refine r_getP lk_X12_13 (ln_101 hL) (pp_101_2 hL) dX12_set_27 ?_
      refine r_iload_n dX12_set_30 rfl rfl ?_
      refine r_iload_n dX12_set_31 rfl rfl ?_
      obtain ⟨g5, hF⟩ := gd hF
      refine r_iast (ln_103 hL) (by rw [(nl_103 hL)]; exact g5) dX12_set_32 ?_
      refine r_letI hF (fun I6 hF => ?_)
      refine r_iload_n dX12_set_33 rfl rfl ?_
      obtain rfl := Option.some.inj hF
      exact r_ireturn rfl rfl dX12_set_34 (Nat.le_of_ble_eq_true rfl) (Nat.le_of_ble_eq_true rfl)
    · have hF := tw hF h2
      refine r_iconst (v := (-1)) dX12_set_17 (by decide) ?_
      obtain rfl := Option.some.inj hF
      exact r_ireturn rfl rfl dX12_set_18 (Nat.le_of_ble_eq_true rfl) (Nat.le_of_ble_eq_true rfl)
def G_X12_handMany_4 (N : Nat) (I : IM) : Nat → Int32 → Int32 → Option (Int32)
  | 0, _, _ => none
  | n + 1, u1, u2 => (if 5 ≤ u2 then (some u1) else (if inb u2 5 = true then (letb (u1 + (I 104 u2.toNatClampNeg)) (fun y4 : Int32 => (G_X12_handMany_4 N I n y4 (u2 + 1)))) else none))
set_option maxHeartbeats 4000000 in
theorem okG_X12_handMany_4 {E : GE} {T : TM} {I : IM} {J : JM} {P : PM} {N : Nat} {x : Int32} (hL : LOK T P) : ∀ (n : Nat) (u1 : Int32) (u2 : Int32), G_X12_handMany_4 N I n u1 u2 = some x → WW E mX12_handMany (RM 0 0 0) (ZM E 0 0 (some (.int x)) T I J P) 0 0 T I J P 4 [(0, .ref 101), (1, .int u1), (2, .int u2)] [] := by
  intro n
  induction n with
  | zero =>
    intro u1 u2 hF
    cases hF
  | succ n ih =>
    intro u1 u2 hF
    rw [G_X12_handMany_4] at hF
    refine r_iload_n dX12_handMany_4 rfl rfl ?_
    refine r_iconst (v := 5) dX12_handMany_5 (by decide) ?_
    refine r_icmp_ge (tgt := 24) dX12_handMany_6 (by decide) (fun h2 => ?_) (fun h2 => ?_)
    · have hF := tw hF h2
      refine r_iload_n dX12_handMany_24 rfl rfl ?_
      obtain rfl := Option.some.inj hF
      exact r_ireturn rfl rfl dX12_handMany_25 (Nat.le_of_ble_eq_true rfl) (Nat.le_of_ble_eq_true rfl)
    · have hF := fw hF h2
      refine r_iload_n dX12_handMany_9 rfl rfl ?_
      refine r_aload_n dX12_handMany_10 rfl rfl ?_
      refine r_getP lk_X12_16 (ln_101 hL) (pp_101_3 hL) dX12_handMany_11 ?_
      refine r_iload_n dX12_handMany_14 rfl rfl ?_
      obtain ⟨g3, hF⟩ := gd hF
      refine r_iald (ln_104 hL) (by rw [(nl_104 hL)]; exact g3) dX12_handMany_15 ?_
      refine r_iadd dX12_handMany_16 ?_
      refine r_letV hF (fun y4 hF => ?_)
      refine r_istore_n (ls' := [(1, .int y4), (0, .ref 101), (2, .int u2)]) dX12_handMany_17 rfl (by decide) rfl ?_
      refine r_iinc (v := (u2 + 1)) (ls' := [(2, .int (u2 + 1)), (1, .int y4), (0, .ref 101)]) dX12_handMany_18 rfl rfl (by decide) rfl ?_
      refine r_goto (tgt := 4) dX12_handMany_21 (by decide) ?_
      refine r_sub (ls' := [(0, .ref 101), (1, .int y4), (2, .int (u2 + 1))]) [2, 1, 0] rfl ?_
      exact ih y4 (u2 + 1) hF
def F_X12_handMany (N : Nat) (I : IM) : Option (Int32) := (G_X12_handMany_4 N I N 0 0)
set_option maxHeartbeats 4000000 in
theorem ok_X12_handMany {E : GE} {T : TM} {I : IM} {J : JM} {P : PM} {N : Nat} {x : Int32} (hL : LOK T P) (hF : F_X12_handMany N I = some x) : Ctr E mX12_handMany 0 0 0 [.ref 101] T I J P (some (.int x)) T I J P := by
  unfold F_X12_handMany at hF
  refine ctr_intro rfl (by decide) (Nat.le_of_ble_eq_true rfl) ?_
  refine r_sub (ls' := [(0, .ref 101)]) [0] rfl ?_
  refine r_iconst (v := 0) dX12_handMany_0 (by decide) ?_
  refine r_istore_n (ls' := [(1, .int 0), (0, .ref 101)]) dX12_handMany_1 rfl (by decide) rfl ?_
  refine r_iconst (v := 0) dX12_handMany_2 (by decide) ?_
  refine r_istore_n (ls' := [(2, .int 0), (1, .int 0), (0, .ref 101)]) dX12_handMany_3 rfl (by decide) rfl ?_
  refine r_sub (ls' := [(0, .ref 101), (1, .int 0), (2, .int 0)]) [2, 1, 0] rfl ?_
  exact okG_X12_handMany_4 hL   N 0 0 hF
def F_X12_hand (N : Nat) (I : IM) (p1 : Int32) (p2 : Int32) : Option (Int32 × IM) := (if (F_X12_in p1 0 4) = 0 then (some ((-1), I)) else (if (F_X12_in p2 0 9) = 0 then (some ((-1), I)) else ((F_X12_handMany N I).bind (fun x3 => (if inb p1 5 = true then (if ((x3 - (I 104 p1.toNatClampNeg)) + p2) = 0 then (some ((-4), I)) else (if inb p1 5 = true then (letb (I 104 p1.toNatClampNeg) (fun y7 : Int32 => (if inb p1 5 = true then (letb (up2 I 104 p1.toNatClampNeg p2) (fun I9 : IM => (some (y7, I9)))) else none))) else none)) else none)))))
set_option maxHeartbeats 4000000 in
theorem ok_X12_hand {E : GE} {T : TM} {I : IM} {J : JM} {P : PM} {p1 : Int32} {p2 : Int32} {N : Nat} {x : Int32 × IM} (hL : LOK T P) (hF : F_X12_hand N I p1 p2 = some x) : Ctr E mX12_hand 1 0 0 [.ref 101, .int p1, .int p2] T I J P (some (.int x.1)) T x.2 J P := by
  unfold F_X12_hand at hF
  refine ctr_intro rfl (by decide) (Nat.le_of_ble_eq_true rfl) ?_
  refine r_sub (ls' := [(2, .int p2), (1, .int p1), (0, .ref 101)]) [2, 1, 0] rfl ?_
  refine r_iload_n dX12_hand_0 rfl rfl ?_
  refine r_iconst (v := 0) dX12_hand_1 (by decide) ?_
  refine r_iconst (v := 4) dX12_hand_2 (by decide) ?_
  refine c_static_i (As := [.int p1, .int 0, .int 4]) mi_X12_in kw_1085 kw_1084 (ok_X12_in hL  (p1 := p1) (p2 := 0) (p3 := 4)) rfl rfl (Nat.le_of_ble_eq_true rfl) ⟨Nat.le_of_ble_eq_true rfl, Nat.le_of_ble_eq_true rfl⟩ ⟨Nat.le_of_ble_eq_true rfl, Nat.le_of_ble_eq_true rfl⟩ dX12_hand_3 ?_
  refine r_if_eq (tgt := 19) dX12_hand_6 (by decide) (fun h1 => ?_) (fun h1 => ?_)
  · have hF := tw hF h1
    refine r_iconst (v := (-1)) dX12_hand_19 (by decide) ?_
    obtain rfl := Option.some.inj hF
    exact r_ireturn rfl rfl dX12_hand_20 (Nat.le_of_ble_eq_true rfl) (Nat.le_of_ble_eq_true rfl)
  · have hF := fw hF h1
    refine r_iload_n dX12_hand_9 rfl rfl ?_
    refine r_iconst (v := 0) dX12_hand_10 (by decide) ?_
    refine r_bipush (v := 9) dX12_hand_11 (by decide) ?_
    refine c_static_i (As := [.int p2, .int 0, .int 9]) mi_X12_in kw_1085 kw_1084 (ok_X12_in hL  (p1 := p2) (p2 := 0) (p3 := 9)) rfl rfl (Nat.le_of_ble_eq_true rfl) ⟨Nat.le_of_ble_eq_true rfl, Nat.le_of_ble_eq_true rfl⟩ ⟨Nat.le_of_ble_eq_true rfl, Nat.le_of_ble_eq_true rfl⟩ dX12_hand_13 ?_
    refine r_if_ne (tgt := 21) dX12_hand_16 (by decide) (fun h2 => ?_) (fun h2 => ?_)
    · have hF := fw hF h2
      refine r_aload_n dX12_hand_21 rfl rfl ?_
      obtain ⟨x3, hx3, hF⟩ := bnd hF
      refine c_virt_i (As := []) mi_X12_handMany kw_1192 ks_37 kw_1190 rfl (by decide) (ln_101 hL) (ok_X12_handMany hL  hx3) rfl rfl (Nat.le_of_ble_eq_true rfl) ⟨Nat.le_of_ble_eq_true rfl, Nat.le_of_ble_eq_true rfl⟩ ⟨Nat.le_of_ble_eq_true rfl, Nat.le_of_ble_eq_true rfl⟩ dX12_hand_22 ?_
      refine r_aload_n dX12_hand_25 rfl rfl ?_
      refine r_getP lk_X12_16 (ln_101 hL) (pp_101_3 hL) dX12_hand_26 ?_
      refine r_iload_n dX12_hand_29 rfl rfl ?_
      obtain ⟨g4, hF⟩ := gd hF
      refine r_iald (ln_104 hL) (by rw [(nl_104 hL)]; exact g4) dX12_hand_30 ?_
      refine r_isub dX12_hand_31 ?_
      refine r_iload_n dX12_hand_32 rfl rfl ?_
      refine r_iadd dX12_hand_33 ?_
      refine r_if_ne (tgt := 40) dX12_hand_34 (by decide) (fun h5 => ?_) (fun h5 => ?_)
      · have hF := fw hF h5
        refine r_aload_n dX12_hand_40 rfl rfl ?_
        refine r_getP lk_X12_16 (ln_101 hL) (pp_101_3 hL) dX12_hand_41 ?_
        refine r_iload_n dX12_hand_44 rfl rfl ?_
        obtain ⟨g6, hF⟩ := gd hF
        refine r_iald (ln_104 hL) (by rw [(nl_104 hL)]; exact g6) dX12_hand_45 ?_
        refine r_letV hF (fun y7 hF => ?_)
        refine r_istore_n (ls' := [(3, .int y7), (2, .int p2), (1, .int p1), (0, .ref 101)]) dX12_hand_46 rfl (by decide) rfl ?_
        refine r_aload_n dX12_hand_47 rfl rfl ?_
        refine r_getP lk_X12_16 (ln_101 hL) (pp_101_3 hL) dX12_hand_48 ?_
        refine r_iload_n dX12_hand_51 rfl rfl ?_
        refine r_iload_n dX12_hand_52 rfl rfl ?_
        obtain ⟨g8, hF⟩ := gd hF
        refine r_iast (ln_104 hL) (by rw [(nl_104 hL)]; exact g8) dX12_hand_53 ?_
        refine r_letI hF (fun I9 hF => ?_)
        refine r_iload_n dX12_hand_54 rfl rfl ?_
        obtain rfl := Option.some.inj hF
        exact r_ireturn rfl rfl dX12_hand_55 (Nat.le_of_ble_eq_true rfl) (Nat.le_of_ble_eq_true rfl)
      · have hF := tw hF h5
        refine r_bipush (v := (-4)) dX12_hand_37 (by decide) ?_
        obtain rfl := Option.some.inj hF
        exact r_ireturn rfl rfl dX12_hand_39 (Nat.le_of_ble_eq_true rfl) (Nat.le_of_ble_eq_true rfl)
    · have hF := tw hF h2
      refine r_iconst (v := (-1)) dX12_hand_19 (by decide) ?_
      obtain rfl := Option.some.inj hF
      exact r_ireturn rfl rfl dX12_hand_20 (Nat.le_of_ble_eq_true rfl) (Nat.le_of_ble_eq_true rfl)
def F_X12_sineOf (I : IM) (p1 : Int32) : Option (Int32) := (letb (if p1 ≤ 18 then p1 else (p1 - 18)) (fun y2 : Int32 => (letb (if y2 ≤ 9 then y2 else (18 - y2)) (fun y4 : Int32 => (if inb y4 10 = true then (letb (I 105 y4.toNatClampNeg) (fun y6 : Int32 => (if p1 ≤ 18 then (some y6) else (some (-y6))))) else none)))))
set_option maxHeartbeats 4000000 in
theorem ok_X12_sineOf {E : GE} {T : TM} {I : IM} {J : JM} {P : PM} {p1 : Int32} {x : Int32} (hL : LOK T P) (hF : F_X12_sineOf I p1 = some x) : Ctr E mX12_sineOf 0 0 0 [.ref 101, .int p1] T I J P (some (.int x)) T I J P := by
  unfold F_X12_sineOf at hF
  refine ctr_intro rfl (by decide) (Nat.le_of_ble_eq_true rfl) ?_
  refine r_sub (ls' := [(1, .int p1), (0, .ref 101)]) [1, 0] rfl ?_
  refine r_iload_n dX12_sineOf_0 rfl rfl ?_
  refine r_bipush (v := 18) dX12_sineOf_1 (by decide) ?_
  refine r_join (G1 := fun y2 : Int32 => WW E mX12_sineOf (RM 0 0 0) (ZM E 0 0 (some (.int x)) T I J P) 0 0 T I J P 14 [(1, .int p1), (0, .ref 101)] [.int y2]) hF (fun y2 hF => ?_) (fun y2 hv hJ => ?_)
  · refine r_istore_n (ls' := [(2, .int y2), (1, .int p1), (0, .ref 101)]) dX12_sineOf_14 rfl (by decide) rfl ?_
    refine r_aload_n dX12_sineOf_15 rfl rfl ?_
    refine r_getP lk_X12_19 (ln_101 hL) (pp_101_4 hL) dX12_sineOf_16 ?_
    refine r_iload_n dX12_sineOf_19 rfl rfl ?_
    refine r_bipush (v := 9) dX12_sineOf_20 (by decide) ?_
    refine r_join (G1 := fun y4 : Int32 => WW E mX12_sineOf (RM 0 0 0) (ZM E 0 0 (some (.int x)) T I J P) 0 0 T I J P 33 [(2, .int y2), (1, .int p1), (0, .ref 101)] [.int y4, .ref 105]) hF (fun y4 hF => ?_) (fun y4 hv hJ => ?_)
    · obtain ⟨g5, hF⟩ := gd hF
      refine r_iald (ln_105 hL) (by rw [(nl_105 hL)]; exact g5) dX12_sineOf_33 ?_
      refine r_letV hF (fun y6 hF => ?_)
      refine r_istore_n (ls' := [(3, .int y6), (2, .int y2), (1, .int p1), (0, .ref 101)]) dX12_sineOf_34 rfl (by decide) rfl ?_
      refine r_iload_n dX12_sineOf_35 rfl rfl ?_
      refine r_bipush (v := 18) dX12_sineOf_36 (by decide) ?_
      refine r_icmp_le (tgt := 46) dX12_sineOf_38 (by decide) (fun h7 => ?_) (fun h7 => ?_)
      · have hF := tw hF h7
        refine r_iload_n dX12_sineOf_46 rfl rfl ?_
        obtain rfl := Option.some.inj hF
        exact r_ireturn rfl rfl dX12_sineOf_47 (Nat.le_of_ble_eq_true rfl) (Nat.le_of_ble_eq_true rfl)
      · have hF := fw hF h7
        refine r_iload_n dX12_sineOf_41 rfl rfl ?_
        refine r_ineg dX12_sineOf_42 ?_
        refine r_goto (tgt := 47) dX12_sineOf_43 (by decide) ?_
        obtain rfl := Option.some.inj hF
        exact r_ireturn rfl rfl dX12_sineOf_47 (Nat.le_of_ble_eq_true rfl) (Nat.le_of_ble_eq_true rfl)
    · refine r_icmp_le (tgt := 32) dX12_sineOf_22 (by decide) (fun h3 => ?_) (fun h3 => ?_)
      · have hv := tw hv h3
        refine r_iload_n dX12_sineOf_32 rfl rfl ?_
        obtain rfl := hv
        exact hJ
      · have hv := fw hv h3
        refine r_bipush (v := 18) dX12_sineOf_25 (by decide) ?_
        refine r_iload_n dX12_sineOf_27 rfl rfl ?_
        refine r_isub dX12_sineOf_28 ?_
        refine r_goto (tgt := 33) dX12_sineOf_29 (by decide) ?_
        obtain rfl := hv
        exact hJ
  · refine r_icmp_le (tgt := 13) dX12_sineOf_3 (by decide) (fun h1 => ?_) (fun h1 => ?_)
    · have hv := tw hv h1
      refine r_iload_n dX12_sineOf_13 rfl rfl ?_
      obtain rfl := hv
      exact hJ
    · have hv := fw hv h1
      refine r_iload_n dX12_sineOf_6 rfl rfl ?_
      refine r_bipush (v := 18) dX12_sineOf_7 (by decide) ?_
      refine r_isub dX12_sineOf_9 ?_
      refine r_goto (tgt := 14) dX12_sineOf_10 (by decide) ?_
      obtain rfl := hv
      exact hJ
def F_X12_cosineOf (I : IM) (p1 : Int32) : Option (Int32) := ((F_X12_sineOf I ((p1 + 9) - (p1 + 9) / 36 * 36)).bind (fun x1 => (some x1)))
set_option maxHeartbeats 4000000 in
theorem ok_X12_cosineOf {E : GE} {T : TM} {I : IM} {J : JM} {P : PM} {p1 : Int32} {x : Int32} (hL : LOK T P) (hF : F_X12_cosineOf I p1 = some x) : Ctr E mX12_cosineOf 1 0 0 [.ref 101, .int p1] T I J P (some (.int x)) T I J P := by
  unfold F_X12_cosineOf at hF
  refine ctr_intro rfl (by decide) (Nat.le_of_ble_eq_true rfl) ?_
  refine r_sub (ls' := [(1, .int p1), (0, .ref 101)]) [1, 0] rfl ?_
  refine r_aload_n dX12_cosineOf_0 rfl rfl ?_
  refine r_iload_n dX12_cosineOf_1 rfl rfl ?_
  refine r_bipush (v := 9) dX12_cosineOf_2 (by decide) ?_
  refine r_iadd dX12_cosineOf_4 ?_
  refine r_bipush (v := 36) dX12_cosineOf_5 (by decide) ?_
  refine r_irem dX12_cosineOf_7 (by decide) ?_
  obtain ⟨x1, hx1, hF⟩ := bnd hF
  refine c_virt_i (As := [.int ((p1 + 9) - (p1 + 9) / 36 * 36)]) mi_X12_sineOf kw_1200 ks_38 kw_1198 rfl (by decide) (ln_101 hL) (ok_X12_sineOf hL  hx1) rfl rfl (Nat.le_of_ble_eq_true rfl) ⟨Nat.le_of_ble_eq_true rfl, Nat.le_of_ble_eq_true rfl⟩ ⟨Nat.le_of_ble_eq_true rfl, Nat.le_of_ble_eq_true rfl⟩ dX12_cosineOf_8 ?_
  obtain rfl := Option.some.inj hF
  exact r_ireturn rfl rfl dX12_cosineOf_11 (Nat.le_of_ble_eq_true rfl) (Nat.le_of_ble_eq_true rfl)
def F_X12_sine (I : IM) (p1 : Int32) : Option (Int32) := (if (F_X12_in p1 0 35) = 0 then (some (-1)) else ((F_X12_sineOf I p1).bind (fun x2 => (some (x2 + 1000)))))
set_option maxHeartbeats 4000000 in
theorem ok_X12_sine {E : GE} {T : TM} {I : IM} {J : JM} {P : PM} {p1 : Int32} {x : Int32} (hL : LOK T P) (hF : F_X12_sine I p1 = some x) : Ctr E mX12_sine 1 0 0 [.ref 101, .int p1] T I J P (some (.int x)) T I J P := by
  unfold F_X12_sine at hF
  refine ctr_intro rfl (by decide) (Nat.le_of_ble_eq_true rfl) ?_
  refine r_sub (ls' := [(1, .int p1), (0, .ref 101)]) [1, 0] rfl ?_
  refine r_iload_n dX12_sine_0 rfl rfl ?_
  refine r_iconst (v := 0) dX12_sine_1 (by decide) ?_
  refine r_bipush (v := 35) dX12_sine_2 (by decide) ?_
  refine c_static_i (As := [.int p1, .int 0, .int 35]) mi_X12_in kw_1085 kw_1084 (ok_X12_in hL  (p1 := p1) (p2 := 0) (p3 := 35)) rfl rfl (Nat.le_of_ble_eq_true rfl) ⟨Nat.le_of_ble_eq_true rfl, Nat.le_of_ble_eq_true rfl⟩ ⟨Nat.le_of_ble_eq_true rfl, Nat.le_of_ble_eq_true rfl⟩ dX12_sine_4 ?_
  refine r_if_eq (tgt := 22) dX12_sine_7 (by decide) (fun h1 => ?_) (fun h1 => ?_)
  · have hF := tw hF h1
    refine r_iconst (v := (-1)) dX12_sine_22 (by decide) ?_
    obtain rfl := Option.some.inj hF
    exact r_ireturn rfl rfl dX12_sine_23 (Nat.le_of_ble_eq_true rfl) (Nat.le_of_ble_eq_true rfl)
  · have hF := fw hF h1
    refine r_aload_n dX12_sine_10 rfl rfl ?_
    refine r_iload_n dX12_sine_11 rfl rfl ?_
    obtain ⟨x2, hx2, hF⟩ := bnd hF
    refine c_virt_i (As := [.int p1]) mi_X12_sineOf kw_1200 ks_38 kw_1198 rfl (by decide) (ln_101 hL) (ok_X12_sineOf hL  hx2) rfl rfl (Nat.le_of_ble_eq_true rfl) ⟨Nat.le_of_ble_eq_true rfl, Nat.le_of_ble_eq_true rfl⟩ ⟨Nat.le_of_ble_eq_true rfl, Nat.le_of_ble_eq_true rfl⟩ dX12_sine_12 ?_
    refine r_sipush (v := 1000) dX12_sine_15 (by decide) ?_
    refine r_iadd dX12_sine_18 ?_
    refine r_goto (tgt := 23) dX12_sine_19 (by decide) ?_
    obtain rfl := Option.some.inj hF
    exact r_ireturn rfl rfl dX12_sine_23 (Nat.le_of_ble_eq_true rfl) (Nat.le_of_ble_eq_true rfl)
def F_X12_lends (I : IM) (p1 : Int32) (p2 : Int32) (p3 : Int32) (p4 : Int32) : Option (IM) := ((F_X12_its I p1 0).bind (fun x1 => (letb (up2 I 101 19 x1) (fun I2 : IM => ((F_X12_its I2 p1 1).bind (fun x3 => (letb (up2 I2 101 20 x3) (fun I4 : IM => ((F_X12_its I4 p1 2).bind (fun x5 => (letb (up2 I4 101 21 x5) (fun I6 : IM => ((F_X12_its I6 p1 3).bind (fun x7 => (letb (up2 I6 101 22 x7) (fun I8 : IM => (letb (up2 I8 101 23 0) (fun I9 : IM => (letb (up2 I9 101 24 0) (fun I10 : IM => (letb (up2 I10 101 25 p2) (fun I11 : IM => (letb (up2 I11 101 26 p3) (fun I12 : IM => (letb (up2 I12 101 27 p4) (fun I13 : IM => (letb (up2 I13 101 28 0) (fun I14 : IM => (letb (up2 I14 101 29 0) (fun I15 : IM => (letb (up2 I15 101 30 0) (fun I16 : IM => (letb (up2 I16 101 31 0) (fun I17 : IM => (some I17)))))))))))))))))))))))))))))))))))
set_option maxHeartbeats 4000000 in
theorem ok_X12_lends {E : GE} {T : TM} {I : IM} {J : JM} {P : PM} {p1 : Int32} {p2 : Int32} {p3 : Int32} {p4 : Int32} {x : IM} (hL : LOK T P) (hF : F_X12_lends I p1 p2 p3 p4 = some x) : Ctr E mX12_lends 1 0 0 [.ref 101, .int p1, .int p2, .int p3, .int p4] T I J P none T x J P := by
  unfold F_X12_lends at hF
  refine ctr_intro rfl (by decide) (Nat.le_of_ble_eq_true rfl) ?_
  refine r_sub (ls' := [(4, .int p4), (3, .int p3), (2, .int p2), (1, .int p1), (0, .ref 101)]) [4, 3, 2, 1, 0] rfl ?_
  refine r_aload_n dX12_lends_0 rfl rfl ?_
  refine r_aload_n dX12_lends_1 rfl rfl ?_
  refine r_iload_n dX12_lends_2 rfl rfl ?_
  refine r_iconst (v := 0) dX12_lends_3 (by decide) ?_
  obtain ⟨x1, hx1, hF⟩ := bnd hF
  refine c_virt_i (As := [.int p1, .int 0]) mi_X12_its kw_1177 ks_36 kw_1175 rfl (by decide) (ln_101 hL) (ok_X12_its hL  hx1) rfl rfl (Nat.le_of_ble_eq_true rfl) ⟨Nat.le_of_ble_eq_true rfl, Nat.le_of_ble_eq_true rfl⟩ ⟨Nat.le_of_ble_eq_true rfl, Nat.le_of_ble_eq_true rfl⟩ dX12_lends_4 ?_
  refine r_putI lk_X12_220 (Or.inl rfl) (ln_101 hL) rfl rfl dX12_lends_7 ?_
  refine r_letI hF (fun I2 hF => ?_)
  refine r_aload_n dX12_lends_10 rfl rfl ?_
  refine r_aload_n dX12_lends_11 rfl rfl ?_
  refine r_iload_n dX12_lends_12 rfl rfl ?_
  refine r_iconst (v := 1) dX12_lends_13 (by decide) ?_
  obtain ⟨x3, hx3, hF⟩ := bnd hF
  refine c_virt_i (As := [.int p1, .int 1]) mi_X12_its kw_1177 ks_36 kw_1175 rfl (by decide) (ln_101 hL) (ok_X12_its hL  hx3) rfl rfl (Nat.le_of_ble_eq_true rfl) ⟨Nat.le_of_ble_eq_true rfl, Nat.le_of_ble_eq_true rfl⟩ ⟨Nat.le_of_ble_eq_true rfl, Nat.le_of_ble_eq_true rfl⟩ dX12_lends_14 ?_
  refine r_putI lk_X12_223 (Or.inl rfl) (ln_101 hL) rfl rfl dX12_lends_17 ?_
  refine r_letI hF (fun I4 hF => ?_)
  refine r_aload_n dX12_lends_20 rfl rfl ?_
  refine r_aload_n dX12_lends_21 rfl rfl ?_
  refine r_iload_n dX12_lends_22 rfl rfl ?_
  refine r_iconst (v := 2) dX12_lends_23 (by decide) ?_
  obtain ⟨x5, hx5, hF⟩ := bnd hF
  refine c_virt_i (As := [.int p1, .int 2]) mi_X12_its kw_1177 ks_36 kw_1175 rfl (by decide) (ln_101 hL) (ok_X12_its hL  hx5) rfl rfl (Nat.le_of_ble_eq_true rfl) ⟨Nat.le_of_ble_eq_true rfl, Nat.le_of_ble_eq_true rfl⟩ ⟨Nat.le_of_ble_eq_true rfl, Nat.le_of_ble_eq_true rfl⟩ dX12_lends_24 ?_
  refine r_putI lk_X12_226 (Or.inl rfl) (ln_101 hL) rfl rfl dX12_lends_27 ?_
  refine r_letI hF (fun I6 hF => ?_)
  refine r_aload_n dX12_lends_30 rfl rfl ?_
  refine r_aload_n dX12_lends_31 rfl rfl ?_
  refine r_iload_n dX12_lends_32 rfl rfl ?_
  refine r_iconst (v := 3) dX12_lends_33 (by decide) ?_
  obtain ⟨x7, hx7, hF⟩ := bnd hF
  refine c_virt_i (As := [.int p1, .int 3]) mi_X12_its kw_1177 ks_36 kw_1175 rfl (by decide) (ln_101 hL) (ok_X12_its hL  hx7) rfl rfl (Nat.le_of_ble_eq_true rfl) ⟨Nat.le_of_ble_eq_true rfl, Nat.le_of_ble_eq_true rfl⟩ ⟨Nat.le_of_ble_eq_true rfl, Nat.le_of_ble_eq_true rfl⟩ dX12_lends_34 ?_
  refine r_putI lk_X12_229 (Or.inl rfl) (ln_101 hL) rfl rfl dX12_lends_37 ?_
  refine r_letI hF (fun I8 hF => ?_)
  refine r_aload_n dX12_lends_40 rfl rfl ?_
  refine r_iconst (v := 0) dX12_lends_41 (by decide) ?_
  refine r_putI lk_X12_232 (Or.inl rfl) (ln_101 hL) rfl rfl dX12_lends_42 ?_
  refine r_letI hF (fun I9 hF => ?_)
  refine r_aload_n dX12_lends_45 rfl rfl ?_
  refine r_iconst (v := 0) dX12_lends_46 (by decide) ?_
  refine r_putI lk_X12_235 (Or.inl rfl) (ln_101 hL) rfl rfl dX12_lends_47 ?_
  refine r_letI hF (fun I10 hF => ?_)
  refine r_aload_n dX12_lends_50 rfl rfl ?_
  refine r_iload_n dX12_lends_51 rfl rfl ?_
  refine r_putI lk_X12_238 (Or.inl rfl) (ln_101 hL) rfl rfl dX12_lends_52 ?_
  refine r_letI hF (fun I11 hF => ?_)
  refine r_aload_n dX12_lends_55 rfl rfl ?_
  refine r_iload_n dX12_lends_56 rfl rfl ?_
  refine r_putI lk_X12_241 (Or.inl rfl) (ln_101 hL) rfl rfl dX12_lends_57 ?_
  refine r_letI hF (fun I12 hF => ?_)
  refine r_aload_n dX12_lends_60 rfl rfl ?_
  refine r_iload dX12_lends_61 rfl ?_
  refine r_putI lk_X12_244 (Or.inl rfl) (ln_101 hL) rfl rfl dX12_lends_63 ?_
  refine r_letI hF (fun I13 hF => ?_)
  refine r_aload_n dX12_lends_66 rfl rfl ?_
  refine r_iconst (v := 0) dX12_lends_67 (by decide) ?_
  refine r_putI lk_X12_247 (Or.inl rfl) (ln_101 hL) rfl rfl dX12_lends_68 ?_
  refine r_letI hF (fun I14 hF => ?_)
  refine r_aload_n dX12_lends_71 rfl rfl ?_
  refine r_iconst (v := 0) dX12_lends_72 (by decide) ?_
  refine r_putI lk_X12_250 (Or.inl rfl) (ln_101 hL) rfl rfl dX12_lends_73 ?_
  refine r_letI hF (fun I15 hF => ?_)
  refine r_aload_n dX12_lends_76 rfl rfl ?_
  refine r_iconst (v := 0) dX12_lends_77 (by decide) ?_
  refine r_putI lk_X12_253 (Or.inl rfl) (ln_101 hL) rfl rfl dX12_lends_78 ?_
  refine r_letI hF (fun I16 hF => ?_)
  refine r_aload_n dX12_lends_81 rfl rfl ?_
  refine r_iconst (v := 0) dX12_lends_82 (by decide) ?_
  refine r_putI lk_X12_256 (Or.inl rfl) (ln_101 hL) rfl rfl dX12_lends_83 ?_
  refine r_letI hF (fun I17 hF => ?_)
  obtain rfl := Option.some.inj hF
  exact r_return rfl dX12_lends_86 (Nat.le_of_ble_eq_true rfl) (Nat.le_of_ble_eq_true rfl)
def F_X12_isLanded (I : IM) : Int32 := (if 0 < (I 101 25) then 0 else 1)
set_option maxHeartbeats 4000000 in
theorem ok_X12_isLanded {E : GE} {T : TM} {I : IM} {J : JM} {P : PM} (hL : LOK T P) : Ctr E mX12_isLanded 0 0 0 [.ref 101] T I J P (some (.int (F_X12_isLanded I))) T I J P := by
  generalize hF : F_X12_isLanded I = r
  unfold F_X12_isLanded at hF
  refine ctr_intro rfl (by decide) (Nat.le_of_ble_eq_true rfl) ?_
  refine r_sub (ls' := [(0, .ref 101)]) [0] rfl ?_
  refine r_aload_n dX12_isLanded_0 rfl rfl ?_
  refine r_getI lk_X12_238 (ln_101 hL) dX12_isLanded_1 ?_
  refine r_if_gt (tgt := 11) dX12_isLanded_4 (by decide) (fun h1 => ?_) (fun h1 => ?_)
  · have hF := tw hF h1
    refine r_iconst (v := 0) dX12_isLanded_11 (by decide) ?_
    obtain rfl := hF
    exact r_ireturn rfl rfl dX12_isLanded_12 (Nat.le_of_ble_eq_true rfl) (Nat.le_of_ble_eq_true rfl)
  · have hF := fw hF h1
    refine r_iconst (v := 1) dX12_isLanded_7 (by decide) ?_
    refine r_goto (tgt := 12) dX12_isLanded_8 (by decide) ?_
    obtain rfl := hF
    exact r_ireturn rfl rfl dX12_isLanded_12 (Nat.le_of_ble_eq_true rfl) (Nat.le_of_ble_eq_true rfl)
theorem nz_X12_isLanded (I : IM) : narrow .boolean (.int (F_X12_isLanded I)) = .int (F_X12_isLanded I) := by
  unfold F_X12_isLanded
  repeat' split
  all_goals first | rfl
def F_X12_plainTurn (I : IM) : Option (Int32) := ((F_X12_cosineOf I (I 101 26)).bind (fun x1 => (if ¬ (I 101 21) = 0 then (some ((((I 101 27) + (((((I 101 28) * x1) / 1000) * (I 103 3)) / 1024)) - (((I 101 27) * (I 103 4)) / 64)) + ((I 101 22) / (I 101 21)))) else none)))
set_option maxHeartbeats 4000000 in
theorem ok_X12_plainTurn {E : GE} {T : TM} {I : IM} {J : JM} {P : PM} {x : Int32} (hL : LOK T P) (hF : F_X12_plainTurn I = some x) : Ctr E mX12_plainTurn 2 0 0 [.ref 101] T I J P (some (.int x)) T I J P := by
  unfold F_X12_plainTurn at hF
  refine ctr_intro rfl (by decide) (Nat.le_of_ble_eq_true rfl) ?_
  refine r_sub (ls' := [(0, .ref 101)]) [0] rfl ?_
  refine r_aload_n dX12_plainTurn_0 rfl rfl ?_
  refine r_getI lk_X12_244 (ln_101 hL) dX12_plainTurn_1 ?_
  refine r_aload_n dX12_plainTurn_4 rfl rfl ?_
  refine r_getI lk_X12_247 (ln_101 hL) dX12_plainTurn_5 ?_
  refine r_aload_n dX12_plainTurn_8 rfl rfl ?_
  refine r_aload_n dX12_plainTurn_9 rfl rfl ?_
  refine r_getI lk_X12_241 (ln_101 hL) dX12_plainTurn_10 ?_
  obtain ⟨x1, hx1, hF⟩ := bnd hF
  refine c_virt_i (As := [.int (I 101 26)]) mi_X12_cosineOf kw_1239 ks_45 kw_1237 rfl (by decide) (ln_101 hL) (ok_X12_cosineOf hL  hx1) rfl rfl (Nat.le_of_ble_eq_true rfl) ⟨Nat.le_of_ble_eq_true rfl, Nat.le_of_ble_eq_true rfl⟩ ⟨Nat.le_of_ble_eq_true rfl, Nat.le_of_ble_eq_true rfl⟩ dX12_plainTurn_13 ?_
  refine r_imul dX12_plainTurn_16 ?_
  refine r_sipush (v := 1000) dX12_plainTurn_17 (by decide) ?_
  refine r_idiv dX12_plainTurn_20 (by decide) ?_
  refine r_aload_n dX12_plainTurn_21 rfl rfl ?_
  refine r_getP lk_X12_13 (ln_101 hL) (pp_101_2 hL) dX12_plainTurn_22 ?_
  refine r_iconst (v := 3) dX12_plainTurn_25 (by decide) ?_
  refine r_iald (ln_103 hL) (by rw [(nl_103 hL)]; decide) dX12_plainTurn_26 ?_
  refine r_imul dX12_plainTurn_27 ?_
  refine r_sipush (v := 1024) dX12_plainTurn_28 (by decide) ?_
  refine r_idiv dX12_plainTurn_31 (by decide) ?_
  refine r_iadd dX12_plainTurn_32 ?_
  refine r_aload_n dX12_plainTurn_33 rfl rfl ?_
  refine r_getI lk_X12_244 (ln_101 hL) dX12_plainTurn_34 ?_
  refine r_aload_n dX12_plainTurn_37 rfl rfl ?_
  refine r_getP lk_X12_13 (ln_101 hL) (pp_101_2 hL) dX12_plainTurn_38 ?_
  refine r_iconst (v := 4) dX12_plainTurn_41 (by decide) ?_
  refine r_iald (ln_103 hL) (by rw [(nl_103 hL)]; decide) dX12_plainTurn_42 ?_
  refine r_imul dX12_plainTurn_43 ?_
  refine r_bipush (v := 64) dX12_plainTurn_44 (by decide) ?_
  refine r_idiv dX12_plainTurn_46 (by decide) ?_
  refine r_isub dX12_plainTurn_47 ?_
  refine r_aload_n dX12_plainTurn_48 rfl rfl ?_
  refine r_getI lk_X12_229 (ln_101 hL) dX12_plainTurn_49 ?_
  refine r_aload_n dX12_plainTurn_52 rfl rfl ?_
  refine r_getI lk_X12_226 (ln_101 hL) dX12_plainTurn_53 ?_
  obtain ⟨g2, hF⟩ := gd hF
  refine r_idiv dX12_plainTurn_56 g2 ?_
  refine r_iadd dX12_plainTurn_57 ?_
  obtain rfl := Option.some.inj hF
  exact r_ireturn rfl rfl dX12_plainTurn_58 (Nat.le_of_ble_eq_true rfl) (Nat.le_of_ble_eq_true rfl)
def F_X12_toldTurn (I : IM) : Option (Int32) := (if (I 101 19) = 1 then (some 0) else (if (I 101 19) = 2 then (if (F_X12_in (I 101 26) 10 26) = 0 then ((F_X12_plainTurn I).bind (fun x4 => (some x4))) else ((F_X12_plainTurn I).bind (fun x5 => (some (-x5))))) else (if (I 101 19) = 3 then ((F_X12_plainTurn I).bind (fun x7 => (letb (if (I 101 27) < 0 then (-1) else 1) (fun y9 : Int32 => (some (x7 + y9)))))) else (if (I 101 19) = 4 then (if (I 101 26) = 0 then (some 0) else (if 18 < (I 101 26) then (some 1) else (some (-1)))) else (if (I 101 19) = 5 then ((F_X12_plainTurn I).bind (fun x14 => (letb (if (I 101 27) < 0 then (-1) else 1) (fun y16 : Int32 => (some (x14 + y16)))))) else ((F_X12_plainTurn I).bind (fun x17 => (some x17))))))))
set_option maxHeartbeats 4000000 in
theorem ok_X12_toldTurn {E : GE} {T : TM} {I : IM} {J : JM} {P : PM} {x : Int32} (hL : LOK T P) (hF : F_X12_toldTurn I = some x) : Ctr E mX12_toldTurn 3 0 0 [.ref 101] T I J P (some (.int x)) T I J P := by
  unfold F_X12_toldTurn at hF
  refine ctr_intro rfl (by decide) (Nat.le_of_ble_eq_true rfl) ?_
  refine r_sub (ls' := [(0, .ref 101)]) [0] rfl ?_
  refine r_aload_n dX12_toldTurn_0 rfl rfl ?_
  refine r_getI lk_X12_220 (ln_101 hL) dX12_toldTurn_1 ?_
  by_cases h1 : (I 101 19) = 1
  · have hF := tw hF h1
    refine r_tableIn (off := 36) (tgt := 40) dX12_toldTurn_4 (by rw [h1]; decide) (by rw [h1]; decide) (by rw [h1]; decide) (by decide) ?_
    refine r_iconst (v := 0) dX12_toldTurn_40 (by decide) ?_
    obtain rfl := Option.some.inj hF
    exact r_ireturn rfl rfl dX12_toldTurn_41 (Nat.le_of_ble_eq_true rfl) (Nat.le_of_ble_eq_true rfl)
  · have hF := fw hF h1
    by_cases h2 : (I 101 19) = 2
    · have hF := tw hF h2
      refine r_tableIn (off := 38) (tgt := 42) dX12_toldTurn_4 (by rw [h2]; decide) (by rw [h2]; decide) (by rw [h2]; decide) (by decide) ?_
      refine r_aload_n dX12_toldTurn_42 rfl rfl ?_
      refine r_getI lk_X12_241 (ln_101 hL) dX12_toldTurn_43 ?_
      refine r_bipush (v := 10) dX12_toldTurn_46 (by decide) ?_
      refine r_bipush (v := 26) dX12_toldTurn_48 (by decide) ?_
      refine c_static_i (As := [.int (I 101 26), .int 10, .int 26]) mi_X12_in kw_1085 kw_1084 (ok_X12_in hL  (p1 := (I 101 26)) (p2 := 10) (p3 := 26)) rfl rfl (Nat.le_of_ble_eq_true rfl) ⟨Nat.le_of_ble_eq_true rfl, Nat.le_of_ble_eq_true rfl⟩ ⟨Nat.le_of_ble_eq_true rfl, Nat.le_of_ble_eq_true rfl⟩ dX12_toldTurn_50 ?_
      refine r_if_eq (tgt := 64) dX12_toldTurn_53 (by decide) (fun h3 => ?_) (fun h3 => ?_)
      · have hF := tw hF h3
        refine r_aload_n dX12_toldTurn_64 rfl rfl ?_
        obtain ⟨x4, hx4, hF⟩ := bnd hF
        refine c_virt_i (As := []) mi_X12_plainTurn kw_1253 ks_47 kw_1251 rfl (by decide) (ln_101 hL) (ok_X12_plainTurn hL  hx4) rfl rfl (Nat.le_of_ble_eq_true rfl) ⟨Nat.le_of_ble_eq_true rfl, Nat.le_of_ble_eq_true rfl⟩ ⟨Nat.le_of_ble_eq_true rfl, Nat.le_of_ble_eq_true rfl⟩ dX12_toldTurn_65 ?_
        obtain rfl := Option.some.inj hF
        exact r_ireturn rfl rfl dX12_toldTurn_68 (Nat.le_of_ble_eq_true rfl) (Nat.le_of_ble_eq_true rfl)
      · have hF := fw hF h3
        refine r_aload_n dX12_toldTurn_56 rfl rfl ?_
        obtain ⟨x5, hx5, hF⟩ := bnd hF
        refine c_virt_i (As := []) mi_X12_plainTurn kw_1253 ks_47 kw_1251 rfl (by decide) (ln_101 hL) (ok_X12_plainTurn hL  hx5) rfl rfl (Nat.le_of_ble_eq_true rfl) ⟨Nat.le_of_ble_eq_true rfl, Nat.le_of_ble_eq_true rfl⟩ ⟨Nat.le_of_ble_eq_true rfl, Nat.le_of_ble_eq_true rfl⟩ dX12_toldTurn_57 ?_
        refine r_ineg dX12_toldTurn_60 ?_
        refine r_goto (tgt := 68) dX12_toldTurn_61 (by decide) ?_
        obtain rfl := Option.some.inj hF
        exact r_ireturn rfl rfl dX12_toldTurn_68 (Nat.le_of_ble_eq_true rfl) (Nat.le_of_ble_eq_true rfl)
    · have hF := fw hF h2
      by_cases h6 : (I 101 19) = 3
      · have hF := tw hF h6
        refine r_tableIn (off := 91) (tgt := 95) dX12_toldTurn_4 (by rw [h6]; decide) (by rw [h6]; decide) (by rw [h6]; decide) (by decide) ?_
        refine r_aload_n dX12_toldTurn_95 rfl rfl ?_
        obtain ⟨x7, hx7, hF⟩ := bnd hF
        refine c_virt_i (As := []) mi_X12_plainTurn kw_1253 ks_47 kw_1251 rfl (by decide) (ln_101 hL) (ok_X12_plainTurn hL  hx7) rfl rfl (Nat.le_of_ble_eq_true rfl) ⟨Nat.le_of_ble_eq_true rfl, Nat.le_of_ble_eq_true rfl⟩ ⟨Nat.le_of_ble_eq_true rfl, Nat.le_of_ble_eq_true rfl⟩ dX12_toldTurn_96 ?_
        refine r_aload_n dX12_toldTurn_99 rfl rfl ?_
        refine r_getI lk_X12_244 (ln_101 hL) dX12_toldTurn_100 ?_
        refine r_join (G1 := fun y9 : Int32 => WW E mX12_toldTurn (RM 3 0 0) (ZM E 0 0 (some (.int x)) T I J P) 0 0 T I J P 111 [(0, .ref 101)] [.int y9, .int x7]) hF (fun y9 hF => ?_) (fun y9 hv hJ => ?_)
        · refine r_iadd dX12_toldTurn_111 ?_
          obtain rfl := Option.some.inj hF
          exact r_ireturn rfl rfl dX12_toldTurn_112 (Nat.le_of_ble_eq_true rfl) (Nat.le_of_ble_eq_true rfl)
        · refine r_if_lt (tgt := 110) dX12_toldTurn_103 (by decide) (fun h8 => ?_) (fun h8 => ?_)
          · have hv := tw hv h8
            refine r_iconst (v := (-1)) dX12_toldTurn_110 (by decide) ?_
            obtain rfl := hv
            exact hJ
          · have hv := fw hv h8
            refine r_iconst (v := 1) dX12_toldTurn_106 (by decide) ?_
            refine r_goto (tgt := 111) dX12_toldTurn_107 (by decide) ?_
            obtain rfl := hv
            exact hJ
      · have hF := fw hF h6
        by_cases h10 : (I 101 19) = 4
        · have hF := tw hF h10
          refine r_tableIn (off := 65) (tgt := 69) dX12_toldTurn_4 (by rw [h10]; decide) (by rw [h10]; decide) (by rw [h10]; decide) (by decide) ?_
          refine r_aload_n dX12_toldTurn_69 rfl rfl ?_
          refine r_getI lk_X12_241 (ln_101 hL) dX12_toldTurn_70 ?_
          refine r_if_ne (tgt := 80) dX12_toldTurn_73 (by decide) (fun h11 => ?_) (fun h11 => ?_)
          · have hF := fw hF h11
            refine r_aload_n dX12_toldTurn_80 rfl rfl ?_
            refine r_getI lk_X12_241 (ln_101 hL) dX12_toldTurn_81 ?_
            refine r_bipush (v := 18) dX12_toldTurn_84 (by decide) ?_
            refine r_icmp_gt (tgt := 93) dX12_toldTurn_86 (by decide) (fun h12 => ?_) (fun h12 => ?_)
            · have hF := tw hF h12
              refine r_iconst (v := 1) dX12_toldTurn_93 (by decide) ?_
              obtain rfl := Option.some.inj hF
              exact r_ireturn rfl rfl dX12_toldTurn_94 (Nat.le_of_ble_eq_true rfl) (Nat.le_of_ble_eq_true rfl)
            · have hF := fw hF h12
              refine r_iconst (v := (-1)) dX12_toldTurn_89 (by decide) ?_
              refine r_goto (tgt := 94) dX12_toldTurn_90 (by decide) ?_
              obtain rfl := Option.some.inj hF
              exact r_ireturn rfl rfl dX12_toldTurn_94 (Nat.le_of_ble_eq_true rfl) (Nat.le_of_ble_eq_true rfl)
          · have hF := tw hF h11
            refine r_iconst (v := 0) dX12_toldTurn_76 (by decide) ?_
            refine r_goto (tgt := 94) dX12_toldTurn_77 (by decide) ?_
            obtain rfl := Option.some.inj hF
            exact r_ireturn rfl rfl dX12_toldTurn_94 (Nat.le_of_ble_eq_true rfl) (Nat.le_of_ble_eq_true rfl)
        · have hF := fw hF h10
          by_cases h13 : (I 101 19) = 5
          · have hF := tw hF h13
            refine r_tableIn (off := 91) (tgt := 95) dX12_toldTurn_4 (by rw [h13]; decide) (by rw [h13]; decide) (by rw [h13]; decide) (by decide) ?_
            refine r_aload_n dX12_toldTurn_95 rfl rfl ?_
            obtain ⟨x14, hx14, hF⟩ := bnd hF
            refine c_virt_i (As := []) mi_X12_plainTurn kw_1253 ks_47 kw_1251 rfl (by decide) (ln_101 hL) (ok_X12_plainTurn hL  hx14) rfl rfl (Nat.le_of_ble_eq_true rfl) ⟨Nat.le_of_ble_eq_true rfl, Nat.le_of_ble_eq_true rfl⟩ ⟨Nat.le_of_ble_eq_true rfl, Nat.le_of_ble_eq_true rfl⟩ dX12_toldTurn_96 ?_
            refine r_aload_n dX12_toldTurn_99 rfl rfl ?_
            refine r_getI lk_X12_244 (ln_101 hL) dX12_toldTurn_100 ?_
            refine r_join (G1 := fun y16 : Int32 => WW E mX12_toldTurn (RM 3 0 0) (ZM E 0 0 (some (.int x)) T I J P) 0 0 T I J P 111 [(0, .ref 101)] [.int y16, .int x14]) hF (fun y16 hF => ?_) (fun y16 hv hJ => ?_)
            · refine r_iadd dX12_toldTurn_111 ?_
              obtain rfl := Option.some.inj hF
              exact r_ireturn rfl rfl dX12_toldTurn_112 (Nat.le_of_ble_eq_true rfl) (Nat.le_of_ble_eq_true rfl)
            · refine r_if_lt (tgt := 110) dX12_toldTurn_103 (by decide) (fun h15 => ?_) (fun h15 => ?_)
              · have hv := tw hv h15
                refine r_iconst (v := (-1)) dX12_toldTurn_110 (by decide) ?_
                obtain rfl := hv
                exact hJ
              · have hv := fw hv h15
                refine r_iconst (v := 1) dX12_toldTurn_106 (by decide) ?_
                refine r_goto (tgt := 111) dX12_toldTurn_107 (by decide) ?_
                obtain rfl := hv
                exact hJ
          · have hF := fw hF h13
            have eh1 := nei 1 (by decide) h1
            have eh2 := nei 2 (by decide) h2
            have eh6 := nei 3 (by decide) h6
            have eh10 := nei 4 (by decide) h10
            have eh13 := nei 5 (by decide) h13
            refine r_tableOut (tgt := 113) dX12_toldTurn_4 (by omega) (by decide) ?_
            refine r_aload_n dX12_toldTurn_113 rfl rfl ?_
            obtain ⟨x17, hx17, hF⟩ := bnd hF
            refine c_virt_i (As := []) mi_X12_plainTurn kw_1253 ks_47 kw_1251 rfl (by decide) (ln_101 hL) (ok_X12_plainTurn hL  hx17) rfl rfl (Nat.le_of_ble_eq_true rfl) ⟨Nat.le_of_ble_eq_true rfl, Nat.le_of_ble_eq_true rfl⟩ ⟨Nat.le_of_ble_eq_true rfl, Nat.le_of_ble_eq_true rfl⟩ dX12_toldTurn_114 ?_
            obtain rfl := Option.some.inj hF
            exact r_ireturn rfl rfl dX12_toldTurn_117 (Nat.le_of_ble_eq_true rfl) (Nat.le_of_ble_eq_true rfl)
def F_X12_ticksOn (I : IM) : Option (IM) := (letb (I 101 26) (fun y1 : Int32 => (letb (I 101 27) (fun y2 : Int32 => ((F_X12_sineOf I (I 101 26)).bind (fun x3 => (letb (((((((I 101 29) * x3) / 1000) * (I 103 0)) / 32) - (((I 101 28) * (I 103 1)) / 64)) + (((I 103 5) - 32) / 4)) (fun y4 : Int32 => ((F_X12_cosineOf I (I 101 26)).bind (fun x5 => (letb ((I 103 1) + (((I 103 2) * (F_X12_bare x5)) / 1000)) (fun y6 : Int32 => (letb (((I 101 29) + (I 101 20)) - (((I 101 29) * y6) / 64)) (fun y7 : Int32 => (letb (up2 I 101 28 (F_X12_kept ((I 101 28) + y4) 9999)) (fun I8 : IM => (letb (if (I8 101 19) = 5 then (y7 / 2) else y7) (fun y10 : Int32 => (letb (up2 I8 101 29 (F_X12_kept y10 9999)) (fun I11 : IM => ((F_X12_toldTurn I11).bind (fun x12 => (letb (up2 I11 101 27 (F_X12_kept x12 9)) (fun I13 : IM => (letb (up2 I13 101 26 ((((I13 101 26) + (I13 101 27)) + 36) - (((I13 101 26) + (I13 101 27)) + 36) / 36 * 36)) (fun I14 : IM => (letb (up2 I14 101 24 ((I14 101 24) + ((I14 101 28) / 8))) (fun I15 : IM => (letb (up2 I15 101 25 ((I15 101 25) - ((I15 101 29) / 8))) (fun I16 : IM => (letb (up2 I16 101 23 ((I16 101 23) + 1)) (fun I17 : IM => (letb (if (I17 101 23) ≤ 1 then 0 else (if y2 ≤ 0 then (if 0 ≤ y2 then 0 else (if (I17 101 27) ≤ 0 then 0 else 1)) else (if (I17 101 27) < 0 then 1 else (if 0 ≤ y2 then 0 else (if (I17 101 27) ≤ 0 then 0 else 1))))) (fun y25 : Int32 => (letb (up2 I17 101 30 ((I17 101 30) + y25)) (fun I26 : IM => (letb (if y1 < 27 then (if 8 < y1 then 0 else (if (I26 101 26) < 27 then 0 else 1)) else (if (I26 101 26) ≤ 8 then 1 else (if 8 < y1 then 0 else (if (I26 101 26) < 27 then 0 else 1)))) (fun y33 : Int32 => (letb (up2 I26 101 31 ((I26 101 31) + y33)) (fun I34 : IM => (some I34)))))))))))))))))))))))))))))))))))))))))
set_option maxHeartbeats 4000000 in
theorem ok_X12_ticksOn {E : GE} {T : TM} {I : IM} {J : JM} {P : PM} {x : IM} (hL : LOK T P) (hF : F_X12_ticksOn I = some x) : Ctr E mX12_ticksOn 4 0 0 [.ref 101] T I J P none T x J P := by
  unfold F_X12_ticksOn at hF
  refine ctr_intro rfl (by decide) (Nat.le_of_ble_eq_true rfl) ?_
  refine r_sub (ls' := [(0, .ref 101)]) [0] rfl ?_
  refine r_aload_n dX12_ticksOn_0 rfl rfl ?_
  refine r_getI lk_X12_241 (ln_101 hL) dX12_ticksOn_1 ?_
  refine r_letV hF (fun y1 hF => ?_)
  refine r_istore_n (ls' := [(1, .int y1), (0, .ref 101)]) dX12_ticksOn_4 rfl (by decide) rfl ?_
  refine r_aload_n dX12_ticksOn_5 rfl rfl ?_
  refine r_getI lk_X12_244 (ln_101 hL) dX12_ticksOn_6 ?_
  refine r_letV hF (fun y2 hF => ?_)
  refine r_istore_n (ls' := [(2, .int y2), (1, .int y1), (0, .ref 101)]) dX12_ticksOn_9 rfl (by decide) rfl ?_
  refine r_aload_n dX12_ticksOn_10 rfl rfl ?_
  refine r_getI lk_X12_250 (ln_101 hL) dX12_ticksOn_11 ?_
  refine r_aload_n dX12_ticksOn_14 rfl rfl ?_
  refine r_aload_n dX12_ticksOn_15 rfl rfl ?_
  refine r_getI lk_X12_241 (ln_101 hL) dX12_ticksOn_16 ?_
  obtain ⟨x3, hx3, hF⟩ := bnd hF
  refine c_virt_i (As := [.int (I 101 26)]) mi_X12_sineOf kw_1200 ks_38 kw_1198 rfl (by decide) (ln_101 hL) (ok_X12_sineOf hL  hx3) rfl rfl (Nat.le_of_ble_eq_true rfl) ⟨Nat.le_of_ble_eq_true rfl, Nat.le_of_ble_eq_true rfl⟩ ⟨Nat.le_of_ble_eq_true rfl, Nat.le_of_ble_eq_true rfl⟩ dX12_ticksOn_19 ?_
  refine r_imul dX12_ticksOn_22 ?_
  refine r_sipush (v := 1000) dX12_ticksOn_23 (by decide) ?_
  refine r_idiv dX12_ticksOn_26 (by decide) ?_
  refine r_aload_n dX12_ticksOn_27 rfl rfl ?_
  refine r_getP lk_X12_13 (ln_101 hL) (pp_101_2 hL) dX12_ticksOn_28 ?_
  refine r_iconst (v := 0) dX12_ticksOn_31 (by decide) ?_
  refine r_iald (ln_103 hL) (by rw [(nl_103 hL)]; decide) dX12_ticksOn_32 ?_
  refine r_imul dX12_ticksOn_33 ?_
  refine r_bipush (v := 32) dX12_ticksOn_34 (by decide) ?_
  refine r_idiv dX12_ticksOn_36 (by decide) ?_
  refine r_aload_n dX12_ticksOn_37 rfl rfl ?_
  refine r_getI lk_X12_247 (ln_101 hL) dX12_ticksOn_38 ?_
  refine r_aload_n dX12_ticksOn_41 rfl rfl ?_
  refine r_getP lk_X12_13 (ln_101 hL) (pp_101_2 hL) dX12_ticksOn_42 ?_
  refine r_iconst (v := 1) dX12_ticksOn_45 (by decide) ?_
  refine r_iald (ln_103 hL) (by rw [(nl_103 hL)]; decide) dX12_ticksOn_46 ?_
  refine r_imul dX12_ticksOn_47 ?_
  refine r_bipush (v := 64) dX12_ticksOn_48 (by decide) ?_
  refine r_idiv dX12_ticksOn_50 (by decide) ?_
  refine r_isub dX12_ticksOn_51 ?_
  refine r_aload_n dX12_ticksOn_52 rfl rfl ?_
  refine r_getP lk_X12_13 (ln_101 hL) (pp_101_2 hL) dX12_ticksOn_53 ?_
  refine r_iconst (v := 5) dX12_ticksOn_56 (by decide) ?_
  refine r_iald (ln_103 hL) (by rw [(nl_103 hL)]; decide) dX12_ticksOn_57 ?_
  refine r_bipush (v := 32) dX12_ticksOn_58 (by decide) ?_
  refine r_isub dX12_ticksOn_60 ?_
  refine r_iconst (v := 4) dX12_ticksOn_61 (by decide) ?_
  refine r_idiv dX12_ticksOn_62 (by decide) ?_
  refine r_iadd dX12_ticksOn_63 ?_
  refine r_letV hF (fun y4 hF => ?_)
  refine r_istore_n (ls' := [(3, .int y4), (2, .int y2), (1, .int y1), (0, .ref 101)]) dX12_ticksOn_64 rfl (by decide) rfl ?_
  refine r_aload_n dX12_ticksOn_65 rfl rfl ?_
  refine r_getP lk_X12_13 (ln_101 hL) (pp_101_2 hL) dX12_ticksOn_66 ?_
  refine r_iconst (v := 1) dX12_ticksOn_69 (by decide) ?_
  refine r_iald (ln_103 hL) (by rw [(nl_103 hL)]; decide) dX12_ticksOn_70 ?_
  refine r_aload_n dX12_ticksOn_71 rfl rfl ?_
  refine r_getP lk_X12_13 (ln_101 hL) (pp_101_2 hL) dX12_ticksOn_72 ?_
  refine r_iconst (v := 2) dX12_ticksOn_75 (by decide) ?_
  refine r_iald (ln_103 hL) (by rw [(nl_103 hL)]; decide) dX12_ticksOn_76 ?_
  refine r_aload_n dX12_ticksOn_77 rfl rfl ?_
  refine r_aload_n dX12_ticksOn_78 rfl rfl ?_
  refine r_getI lk_X12_241 (ln_101 hL) dX12_ticksOn_79 ?_
  obtain ⟨x5, hx5, hF⟩ := bnd hF
  refine c_virt_i (As := [.int (I 101 26)]) mi_X12_cosineOf kw_1239 ks_45 kw_1237 rfl (by decide) (ln_101 hL) (ok_X12_cosineOf hL  hx5) rfl rfl (Nat.le_of_ble_eq_true rfl) ⟨Nat.le_of_ble_eq_true rfl, Nat.le_of_ble_eq_true rfl⟩ ⟨Nat.le_of_ble_eq_true rfl, Nat.le_of_ble_eq_true rfl⟩ dX12_ticksOn_82 ?_
  refine c_static_i (As := [.int x5]) mi_X12_bare kw_1242 kw_1241 (ok_X12_bare hL  (p1 := x5)) rfl rfl (Nat.le_of_ble_eq_true rfl) ⟨Nat.le_of_ble_eq_true rfl, Nat.le_of_ble_eq_true rfl⟩ ⟨Nat.le_of_ble_eq_true rfl, Nat.le_of_ble_eq_true rfl⟩ dX12_ticksOn_85 ?_
  refine r_imul dX12_ticksOn_88 ?_
  refine r_sipush (v := 1000) dX12_ticksOn_89 (by decide) ?_
  refine r_idiv dX12_ticksOn_92 (by decide) ?_
  refine r_iadd dX12_ticksOn_93 ?_
  refine r_letV hF (fun y6 hF => ?_)
  refine r_istore (ls' := [(4, .int y6), (3, .int y4), (2, .int y2), (1, .int y1), (0, .ref 101)]) dX12_ticksOn_94 (by decide) rfl ?_
  refine r_aload_n dX12_ticksOn_96 rfl rfl ?_
  refine r_getI lk_X12_250 (ln_101 hL) dX12_ticksOn_97 ?_
  refine r_aload_n dX12_ticksOn_100 rfl rfl ?_
  refine r_getI lk_X12_223 (ln_101 hL) dX12_ticksOn_101 ?_
  refine r_iadd dX12_ticksOn_104 ?_
  refine r_aload_n dX12_ticksOn_105 rfl rfl ?_
  refine r_getI lk_X12_250 (ln_101 hL) dX12_ticksOn_106 ?_
  refine r_iload dX12_ticksOn_109 rfl ?_
  refine r_imul dX12_ticksOn_111 ?_
  refine r_bipush (v := 64) dX12_ticksOn_112 (by decide) ?_
  refine r_idiv dX12_ticksOn_114 (by decide) ?_
  refine r_isub dX12_ticksOn_115 ?_
  refine r_letV hF (fun y7 hF => ?_)
  refine r_istore (ls' := [(5, .int y7), (4, .int y6), (3, .int y4), (2, .int y2), (1, .int y1), (0, .ref 101)]) dX12_ticksOn_116 (by decide) rfl ?_
  refine r_aload_n dX12_ticksOn_118 rfl rfl ?_
  refine r_aload_n dX12_ticksOn_119 rfl rfl ?_
  refine r_getI lk_X12_247 (ln_101 hL) dX12_ticksOn_120 ?_
  refine r_iload_n dX12_ticksOn_123 rfl rfl ?_
  refine r_iadd dX12_ticksOn_124 ?_
  refine r_sipush (v := 9999) dX12_ticksOn_125 (by decide) ?_
  refine c_static_i (As := [.int ((I 101 28) + y4), .int 9999]) mi_X12_kept kw_1245 kw_1244 (ok_X12_kept hL  (p1 := ((I 101 28) + y4)) (p2 := 9999)) rfl rfl (Nat.le_of_ble_eq_true rfl) ⟨Nat.le_of_ble_eq_true rfl, Nat.le_of_ble_eq_true rfl⟩ ⟨Nat.le_of_ble_eq_true rfl, Nat.le_of_ble_eq_true rfl⟩ dX12_ticksOn_128 ?_
  refine r_putI lk_X12_247 (Or.inl rfl) (ln_101 hL) rfl rfl dX12_ticksOn_131 ?_
  refine r_letI hF (fun I8 hF => ?_)
  refine r_aload_n dX12_ticksOn_134 rfl rfl ?_
  refine r_aload_n dX12_ticksOn_135 rfl rfl ?_
  refine r_getI lk_X12_220 (ln_101 hL) dX12_ticksOn_136 ?_
  refine r_iconst (v := 5) dX12_ticksOn_139 (by decide) ?_
  refine r_join (G1 := fun y10 : Int32 => WW E mX12_ticksOn (RM 4 0 0) (ZM E 0 0 none T x J P) 0 0 T I8 J P 152 [(5, .int y7), (4, .int y6), (3, .int y4), (2, .int y2), (1, .int y1), (0, .ref 101)] [.int y10, .ref 101]) hF (fun y10 hF => ?_) (fun y10 hv hJ => ?_)
  · refine r_sipush (v := 9999) dX12_ticksOn_152 (by decide) ?_
    refine c_static_i (As := [.int y10, .int 9999]) mi_X12_kept kw_1245 kw_1244 (ok_X12_kept hL  (p1 := y10) (p2 := 9999)) rfl rfl (Nat.le_of_ble_eq_true rfl) ⟨Nat.le_of_ble_eq_true rfl, Nat.le_of_ble_eq_true rfl⟩ ⟨Nat.le_of_ble_eq_true rfl, Nat.le_of_ble_eq_true rfl⟩ dX12_ticksOn_155 ?_
    refine r_putI lk_X12_250 (Or.inl rfl) (ln_101 hL) rfl rfl dX12_ticksOn_158 ?_
    refine r_letI hF (fun I11 hF => ?_)
    refine r_aload_n dX12_ticksOn_161 rfl rfl ?_
    refine r_aload_n dX12_ticksOn_162 rfl rfl ?_
    obtain ⟨x12, hx12, hF⟩ := bnd hF
    refine c_virt_i (As := []) mi_X12_toldTurn kw_1249 ks_46 kw_1247 rfl (by decide) (ln_101 hL) (ok_X12_toldTurn hL  hx12) rfl rfl (Nat.le_of_ble_eq_true rfl) ⟨Nat.le_of_ble_eq_true rfl, Nat.le_of_ble_eq_true rfl⟩ ⟨Nat.le_of_ble_eq_true rfl, Nat.le_of_ble_eq_true rfl⟩ dX12_ticksOn_163 ?_
    refine r_bipush (v := 9) dX12_ticksOn_166 (by decide) ?_
    refine c_static_i (As := [.int x12, .int 9]) mi_X12_kept kw_1245 kw_1244 (ok_X12_kept hL  (p1 := x12) (p2 := 9)) rfl rfl (Nat.le_of_ble_eq_true rfl) ⟨Nat.le_of_ble_eq_true rfl, Nat.le_of_ble_eq_true rfl⟩ ⟨Nat.le_of_ble_eq_true rfl, Nat.le_of_ble_eq_true rfl⟩ dX12_ticksOn_168 ?_
    refine r_putI lk_X12_244 (Or.inl rfl) (ln_101 hL) rfl rfl dX12_ticksOn_171 ?_
    refine r_letI hF (fun I13 hF => ?_)
    refine r_aload_n dX12_ticksOn_174 rfl rfl ?_
    refine r_aload_n dX12_ticksOn_175 rfl rfl ?_
    refine r_getI lk_X12_241 (ln_101 hL) dX12_ticksOn_176 ?_
    refine r_aload_n dX12_ticksOn_179 rfl rfl ?_
    refine r_getI lk_X12_244 (ln_101 hL) dX12_ticksOn_180 ?_
    refine r_iadd dX12_ticksOn_183 ?_
    refine r_bipush (v := 36) dX12_ticksOn_184 (by decide) ?_
    refine r_iadd dX12_ticksOn_186 ?_
    refine r_bipush (v := 36) dX12_ticksOn_187 (by decide) ?_
    refine r_irem dX12_ticksOn_189 (by decide) ?_
    refine r_putI lk_X12_241 (Or.inl rfl) (ln_101 hL) rfl rfl dX12_ticksOn_190 ?_
    refine r_letI hF (fun I14 hF => ?_)
    refine r_aload_n dX12_ticksOn_193 rfl rfl ?_
    refine r_dup dX12_ticksOn_194 rfl ?_
    refine r_getI lk_X12_235 (ln_101 hL) dX12_ticksOn_195 ?_
    refine r_aload_n dX12_ticksOn_198 rfl rfl ?_
    refine r_getI lk_X12_247 (ln_101 hL) dX12_ticksOn_199 ?_
    refine r_bipush (v := 8) dX12_ticksOn_202 (by decide) ?_
    refine r_idiv dX12_ticksOn_204 (by decide) ?_
    refine r_iadd dX12_ticksOn_205 ?_
    refine r_putI lk_X12_235 (Or.inl rfl) (ln_101 hL) rfl rfl dX12_ticksOn_206 ?_
    refine r_letI hF (fun I15 hF => ?_)
    refine r_aload_n dX12_ticksOn_209 rfl rfl ?_
    refine r_dup dX12_ticksOn_210 rfl ?_
    refine r_getI lk_X12_238 (ln_101 hL) dX12_ticksOn_211 ?_
    refine r_aload_n dX12_ticksOn_214 rfl rfl ?_
    refine r_getI lk_X12_250 (ln_101 hL) dX12_ticksOn_215 ?_
    refine r_bipush (v := 8) dX12_ticksOn_218 (by decide) ?_
    refine r_idiv dX12_ticksOn_220 (by decide) ?_
    refine r_isub dX12_ticksOn_221 ?_
    refine r_putI lk_X12_238 (Or.inl rfl) (ln_101 hL) rfl rfl dX12_ticksOn_222 ?_
    refine r_letI hF (fun I16 hF => ?_)
    refine r_aload_n dX12_ticksOn_225 rfl rfl ?_
    refine r_dup dX12_ticksOn_226 rfl ?_
    refine r_getI lk_X12_232 (ln_101 hL) dX12_ticksOn_227 ?_
    refine r_iconst (v := 1) dX12_ticksOn_230 (by decide) ?_
    refine r_iadd dX12_ticksOn_231 ?_
    refine r_putI lk_X12_232 (Or.inl rfl) (ln_101 hL) rfl rfl dX12_ticksOn_232 ?_
    refine r_letI hF (fun I17 hF => ?_)
    refine r_aload_n dX12_ticksOn_235 rfl rfl ?_
    refine r_dup dX12_ticksOn_236 rfl ?_
    refine r_getI lk_X12_253 (ln_101 hL) dX12_ticksOn_237 ?_
    refine r_aload_n dX12_ticksOn_240 rfl rfl ?_
    refine r_getI lk_X12_232 (ln_101 hL) dX12_ticksOn_241 ?_
    refine r_iconst (v := 1) dX12_ticksOn_244 (by decide) ?_
    refine r_joinB (G1 := fun y25 : Int32 => WW E mX12_ticksOn (RM 4 0 0) (ZM E 0 0 none T x J P) 0 0 T I17 J P 275 [(5, .int y7), (4, .int y6), (3, .int y4), (2, .int y2), (1, .int y1), (0, .ref 101)] [.int y25, .int (I17 101 30), .ref 101]) hF (fun y25 ny25 hF => ?_) (fun y25 hv hJ => ?_)
    · refine r_iadd dX12_ticksOn_275 ?_
      refine r_putI lk_X12_253 (Or.inl rfl) (ln_101 hL) rfl rfl dX12_ticksOn_276 ?_
      refine r_letI hF (fun I26 hF => ?_)
      refine r_aload_n dX12_ticksOn_279 rfl rfl ?_
      refine r_dup dX12_ticksOn_280 rfl ?_
      refine r_getI lk_X12_256 (ln_101 hL) dX12_ticksOn_281 ?_
      refine r_iload_n dX12_ticksOn_284 rfl rfl ?_
      refine r_bipush (v := 27) dX12_ticksOn_285 (by decide) ?_
      refine r_joinB (G1 := fun y33 : Int32 => WW E mX12_ticksOn (RM 4 0 0) (ZM E 0 0 none T x J P) 0 0 T I26 J P 319 [(5, .int y7), (4, .int y6), (3, .int y4), (2, .int y2), (1, .int y1), (0, .ref 101)] [.int y33, .int (I26 101 31), .ref 101]) hF (fun y33 ny33 hF => ?_) (fun y33 hv hJ => ?_)
      · refine r_iadd dX12_ticksOn_319 ?_
        refine r_putI lk_X12_256 (Or.inl rfl) (ln_101 hL) rfl rfl dX12_ticksOn_320 ?_
        refine r_letI hF (fun I34 hF => ?_)
        obtain rfl := Option.some.inj hF
        exact r_return rfl dX12_ticksOn_323 (Nat.le_of_ble_eq_true rfl) (Nat.le_of_ble_eq_true rfl)
      · refine r_icmp_lt (tgt := 299) dX12_ticksOn_287 (by decide) (fun h27 => ?_) (fun h27 => ?_)
        · have hv := tw hv h27
          refine r_iload_n dX12_ticksOn_299 rfl rfl ?_
          refine r_bipush (v := 8) dX12_ticksOn_300 (by decide) ?_
          refine r_icmp_gt (tgt := 318) dX12_ticksOn_302 (by decide) (fun h28 => ?_) (fun h28 => ?_)
          · have hv := tw hv h28
            refine r_iconst (v := 0) dX12_ticksOn_318 (by decide) ?_
            obtain rfl := hv
            exact hJ (by first | exact nbz0 | exact nbz1)
          · have hv := fw hv h28
            refine r_aload_n dX12_ticksOn_305 rfl rfl ?_
            refine r_getI lk_X12_241 (ln_101 hL) dX12_ticksOn_306 ?_
            refine r_bipush (v := 27) dX12_ticksOn_309 (by decide) ?_
            refine r_icmp_lt (tgt := 318) dX12_ticksOn_311 (by decide) (fun h29 => ?_) (fun h29 => ?_)
            · have hv := tw hv h29
              refine r_iconst (v := 0) dX12_ticksOn_318 (by decide) ?_
              obtain rfl := hv
              exact hJ (by first | exact nbz0 | exact nbz1)
            · have hv := fw hv h29
              refine r_iconst (v := 1) dX12_ticksOn_314 (by decide) ?_
              refine r_goto (tgt := 319) dX12_ticksOn_315 (by decide) ?_
              obtain rfl := hv
              exact hJ (by first | exact nbz0 | exact nbz1)
        · have hv := fw hv h27
          refine r_aload_n dX12_ticksOn_290 rfl rfl ?_
          refine r_getI lk_X12_241 (ln_101 hL) dX12_ticksOn_291 ?_
          refine r_bipush (v := 8) dX12_ticksOn_294 (by decide) ?_
          refine r_icmp_le (tgt := 314) dX12_ticksOn_296 (by decide) (fun h30 => ?_) (fun h30 => ?_)
          · have hv := tw hv h30
            refine r_iconst (v := 1) dX12_ticksOn_314 (by decide) ?_
            refine r_goto (tgt := 319) dX12_ticksOn_315 (by decide) ?_
            obtain rfl := hv
            exact hJ (by first | exact nbz0 | exact nbz1)
          · have hv := fw hv h30
            refine r_iload_n dX12_ticksOn_299 rfl rfl ?_
            refine r_bipush (v := 8) dX12_ticksOn_300 (by decide) ?_
            refine r_icmp_gt (tgt := 318) dX12_ticksOn_302 (by decide) (fun h31 => ?_) (fun h31 => ?_)
            · have hv := tw hv h31
              refine r_iconst (v := 0) dX12_ticksOn_318 (by decide) ?_
              obtain rfl := hv
              exact hJ (by first | exact nbz0 | exact nbz1)
            · have hv := fw hv h31
              refine r_aload_n dX12_ticksOn_305 rfl rfl ?_
              refine r_getI lk_X12_241 (ln_101 hL) dX12_ticksOn_306 ?_
              refine r_bipush (v := 27) dX12_ticksOn_309 (by decide) ?_
              refine r_icmp_lt (tgt := 318) dX12_ticksOn_311 (by decide) (fun h32 => ?_) (fun h32 => ?_)
              · have hv := tw hv h32
                refine r_iconst (v := 0) dX12_ticksOn_318 (by decide) ?_
                obtain rfl := hv
                exact hJ (by first | exact nbz0 | exact nbz1)
              · have hv := fw hv h32
                refine r_iconst (v := 1) dX12_ticksOn_314 (by decide) ?_
                refine r_goto (tgt := 319) dX12_ticksOn_315 (by decide) ?_
                obtain rfl := hv
                exact hJ (by first | exact nbz0 | exact nbz1)
    · refine r_icmp_le (tgt := 274) dX12_ticksOn_245 (by decide) (fun h18 => ?_) (fun h18 => ?_)
      · have hv := tw hv h18
        refine r_iconst (v := 0) dX12_ticksOn_274 (by decide) ?_
        obtain rfl := hv
        exact hJ (by first | exact nbz0 | exact nbz1)
      · have hv := fw hv h18
        refine r_iload_n dX12_ticksOn_248 rfl rfl ?_
        refine r_if_le (tgt := 259) dX12_ticksOn_249 (by decide) (fun h19 => ?_) (fun h19 => ?_)
        · have hv := tw hv h19
          refine r_iload_n dX12_ticksOn_259 rfl rfl ?_
          refine r_if_ge (tgt := 274) dX12_ticksOn_260 (by decide) (fun h20 => ?_) (fun h20 => ?_)
          · have hv := tw hv h20
            refine r_iconst (v := 0) dX12_ticksOn_274 (by decide) ?_
            obtain rfl := hv
            exact hJ (by first | exact nbz0 | exact nbz1)
          · have hv := fw hv h20
            refine r_aload_n dX12_ticksOn_263 rfl rfl ?_
            refine r_getI lk_X12_244 (ln_101 hL) dX12_ticksOn_264 ?_
            refine r_if_le (tgt := 274) dX12_ticksOn_267 (by decide) (fun h21 => ?_) (fun h21 => ?_)
            · have hv := tw hv h21
              refine r_iconst (v := 0) dX12_ticksOn_274 (by decide) ?_
              obtain rfl := hv
              exact hJ (by first | exact nbz0 | exact nbz1)
            · have hv := fw hv h21
              refine r_iconst (v := 1) dX12_ticksOn_270 (by decide) ?_
              refine r_goto (tgt := 275) dX12_ticksOn_271 (by decide) ?_
              obtain rfl := hv
              exact hJ (by first | exact nbz0 | exact nbz1)
        · have hv := fw hv h19
          refine r_aload_n dX12_ticksOn_252 rfl rfl ?_
          refine r_getI lk_X12_244 (ln_101 hL) dX12_ticksOn_253 ?_
          refine r_if_lt (tgt := 270) dX12_ticksOn_256 (by decide) (fun h22 => ?_) (fun h22 => ?_)
          · have hv := tw hv h22
            refine r_iconst (v := 1) dX12_ticksOn_270 (by decide) ?_
            refine r_goto (tgt := 275) dX12_ticksOn_271 (by decide) ?_
            obtain rfl := hv
            exact hJ (by first | exact nbz0 | exact nbz1)
          · have hv := fw hv h22
            refine r_iload_n dX12_ticksOn_259 rfl rfl ?_
            refine r_if_ge (tgt := 274) dX12_ticksOn_260 (by decide) (fun h23 => ?_) (fun h23 => ?_)
            · have hv := tw hv h23
              refine r_iconst (v := 0) dX12_ticksOn_274 (by decide) ?_
              obtain rfl := hv
              exact hJ (by first | exact nbz0 | exact nbz1)
            · have hv := fw hv h23
              refine r_aload_n dX12_ticksOn_263 rfl rfl ?_
              refine r_getI lk_X12_244 (ln_101 hL) dX12_ticksOn_264 ?_
              refine r_if_le (tgt := 274) dX12_ticksOn_267 (by decide) (fun h24 => ?_) (fun h24 => ?_)
              · have hv := tw hv h24
                refine r_iconst (v := 0) dX12_ticksOn_274 (by decide) ?_
                obtain rfl := hv
                exact hJ (by first | exact nbz0 | exact nbz1)
              · have hv := fw hv h24
                refine r_iconst (v := 1) dX12_ticksOn_270 (by decide) ?_
                refine r_goto (tgt := 275) dX12_ticksOn_271 (by decide) ?_
                obtain rfl := hv
                exact hJ (by first | exact nbz0 | exact nbz1)
  · refine r_icmp_ne (tgt := 150) dX12_ticksOn_140 (by decide) (fun h9 => ?_) (fun h9 => ?_)
    · have hv := fw hv h9
      refine r_iload dX12_ticksOn_150 rfl ?_
      obtain rfl := hv
      exact hJ
    · have hv := tw hv h9
      refine r_iload dX12_ticksOn_143 rfl ?_
      refine r_iconst (v := 2) dX12_ticksOn_145 (by decide) ?_
      refine r_idiv dX12_ticksOn_146 (by decide) ?_
      refine r_goto (tgt := 152) dX12_ticksOn_147 (by decide) ?_
      obtain rfl := hv
      exact hJ
def G_X12_falls_9 (N : Nat) : Nat → IM → Option (Int32 × IM)
  | 0, _ => none
  | n + 1, Iv => (if (F_X12_isLanded Iv) = 0 then (if 400 ≤ (Iv 101 23) then (some ((F_X12_isLanded Iv), Iv)) else ((F_X12_ticksOn Iv).bind (fun x6 => (G_X12_falls_9 N n x6)))) else (some ((F_X12_isLanded Iv), Iv)))
set_option maxHeartbeats 4000000 in
theorem okG_X12_falls_9 {E : GE} {T : TM} {J : JM} {P : PM} {N : Nat} {x : Int32 × IM} (hL : LOK T P) : ∀ (n : Nat) (Iv : IM), G_X12_falls_9 N n Iv = some x → WW E mX12_falls (RM 5 0 0) (ZM E 0 0 (some (.int x.1)) T x.2 J P) 0 0 T Iv J P 9 [(0, .ref 101)] [] := by
  intro n
  induction n with
  | zero =>
    intro Iv hF
    cases hF
  | succ n ih =>
    intro Iv hF
    rw [G_X12_falls_9] at hF
    refine r_aload_n dX12_falls_9 rfl rfl ?_
    refine c_virt_i (As := []) mi_X12_isLanded kw_1231 ks_43 kw_1229 rfl (by decide) (ln_101 hL) (ok_X12_isLanded hL  ) rfl rfl (Nat.le_of_ble_eq_true rfl) ⟨Nat.le_of_ble_eq_true rfl, Nat.le_of_ble_eq_true rfl⟩ ⟨Nat.le_of_ble_eq_true rfl, Nat.le_of_ble_eq_true rfl⟩ dX12_falls_10 ?_
    refine r_if_ne (tgt := 33) dX12_falls_13 (by decide) (fun h3 => ?_) (fun h3 => ?_)
    · have hF := fw hF h3
      refine r_aload_n dX12_falls_33 rfl rfl ?_
      refine c_virt_i (As := []) mi_X12_isLanded kw_1231 ks_43 kw_1229 rfl (by decide) (ln_101 hL) (ok_X12_isLanded hL  ) rfl rfl (Nat.le_of_ble_eq_true rfl) ⟨Nat.le_of_ble_eq_true rfl, Nat.le_of_ble_eq_true rfl⟩ ⟨Nat.le_of_ble_eq_true rfl, Nat.le_of_ble_eq_true rfl⟩ dX12_falls_34 ?_
      obtain rfl := Option.some.inj hF
      exact r_ireturn rfl (nz_X12_isLanded Iv) dX12_falls_37 (Nat.le_of_ble_eq_true rfl) (Nat.le_of_ble_eq_true rfl)
    · have hF := tw hF h3
      refine r_aload_n dX12_falls_16 rfl rfl ?_
      refine r_getI lk_X12_232 (ln_101 hL) dX12_falls_17 ?_
      refine r_sipush (v := 400) dX12_falls_20 (by decide) ?_
      refine r_icmp_ge (tgt := 33) dX12_falls_23 (by decide) (fun h5 => ?_) (fun h5 => ?_)
      · have hF := tw hF h5
        refine r_aload_n dX12_falls_33 rfl rfl ?_
        refine c_virt_i (As := []) mi_X12_isLanded kw_1231 ks_43 kw_1229 rfl (by decide) (ln_101 hL) (ok_X12_isLanded hL  ) rfl rfl (Nat.le_of_ble_eq_true rfl) ⟨Nat.le_of_ble_eq_true rfl, Nat.le_of_ble_eq_true rfl⟩ ⟨Nat.le_of_ble_eq_true rfl, Nat.le_of_ble_eq_true rfl⟩ dX12_falls_34 ?_
        obtain rfl := Option.some.inj hF
        exact r_ireturn rfl (nz_X12_isLanded Iv) dX12_falls_37 (Nat.le_of_ble_eq_true rfl) (Nat.le_of_ble_eq_true rfl)
      · have hF := fw hF h5
        refine r_aload_n dX12_falls_26 rfl rfl ?_
        obtain ⟨x6, hx6, hF⟩ := bnd hF
        refine c_virt_v (As := []) mi_X12_ticksOn kw_1235 ks_44 kw_1233 rfl (by decide) (ln_101 hL) (ok_X12_ticksOn hL  hx6) rfl rfl (Nat.le_of_ble_eq_true rfl) ⟨Nat.le_of_ble_eq_true rfl, Nat.le_of_ble_eq_true rfl⟩ ⟨Nat.le_of_ble_eq_true rfl, Nat.le_of_ble_eq_true rfl⟩ dX12_falls_27 ?_
        refine r_goto (tgt := 9) dX12_falls_30 (by decide) ?_
        refine r_sub (ls' := [(0, .ref 101)]) [0] rfl ?_
        exact ih x6 hF
def F_X12_falls (N : Nat) (I : IM) (p1 : Int32) (p2 : Int32) (p3 : Int32) (p4 : Int32) : Option (Int32 × IM) := ((F_X12_lends I p1 p2 p3 p4).bind (fun x1 => (G_X12_falls_9 N N x1)))
set_option maxHeartbeats 4000000 in
theorem ok_X12_falls {E : GE} {T : TM} {I : IM} {J : JM} {P : PM} {p1 : Int32} {p2 : Int32} {p3 : Int32} {p4 : Int32} {N : Nat} {x : Int32 × IM} (hL : LOK T P) (hF : F_X12_falls N I p1 p2 p3 p4 = some x) : Ctr E mX12_falls 5 0 0 [.ref 101, .int p1, .int p2, .int p3, .int p4] T I J P (some (.int x.1)) T x.2 J P := by
  unfold F_X12_falls at hF
  refine ctr_intro rfl (by decide) (Nat.le_of_ble_eq_true rfl) ?_
  refine r_sub (ls' := [(4, .int p4), (3, .int p3), (2, .int p2), (1, .int p1), (0, .ref 101)]) [4, 3, 2, 1, 0] rfl ?_
  refine r_aload_n dX12_falls_0 rfl rfl ?_
  refine r_iload_n dX12_falls_1 rfl rfl ?_
  refine r_iload_n dX12_falls_2 rfl rfl ?_
  refine r_iload_n dX12_falls_3 rfl rfl ?_
  refine r_iload dX12_falls_4 rfl ?_
  obtain ⟨x1, hx1, hF⟩ := bnd hF
  refine c_virt_v (As := [.int p1, .int p2, .int p3, .int p4]) mi_X12_lends kw_1215 ks_40 kw_1213 rfl (by decide) (ln_101 hL) (ok_X12_lends hL  hx1) rfl rfl (Nat.le_of_ble_eq_true rfl) ⟨Nat.le_of_ble_eq_true rfl, Nat.le_of_ble_eq_true rfl⟩ ⟨Nat.le_of_ble_eq_true rfl, Nat.le_of_ble_eq_true rfl⟩ dX12_falls_6 ?_
  refine r_sub (ls' := [(0, .ref 101)]) [4] rfl ?_
  exact okG_X12_falls_9 hL   N x1 hF
def F_X12_isLetGo (p1 : Int32) (p2 : Int32) (p3 : Int32) : Int32 := (if (F_X12_in p1 1 9999) = 0 then 0 else (if (F_X12_in p2 0 35) = 0 then 0 else (if (F_X12_in p3 (-9) 9) = 0 then 0 else 1)))
set_option maxHeartbeats 4000000 in
theorem ok_X12_isLetGo {E : GE} {T : TM} {I : IM} {J : JM} {P : PM} {p1 : Int32} {p2 : Int32} {p3 : Int32} (hL : LOK T P) : Ctr E mX12_isLetGo 1 0 0 [.int p1, .int p2, .int p3] T I J P (some (.int (F_X12_isLetGo p1 p2 p3))) T I J P := by
  generalize hF : F_X12_isLetGo p1 p2 p3 = r
  unfold F_X12_isLetGo at hF
  refine ctr_intro rfl (by decide) (Nat.le_of_ble_eq_true rfl) ?_
  refine r_sub (ls' := [(2, .int p3), (1, .int p2), (0, .int p1)]) [2, 1, 0] rfl ?_
  refine r_iload_n dX12_isLetGo_0 rfl rfl ?_
  refine r_iconst (v := 1) dX12_isLetGo_1 (by decide) ?_
  refine r_sipush (v := 9999) dX12_isLetGo_2 (by decide) ?_
  refine c_static_i (As := [.int p1, .int 1, .int 9999]) mi_X12_in kw_1085 kw_1084 (ok_X12_in hL  (p1 := p1) (p2 := 1) (p3 := 9999)) rfl rfl (Nat.le_of_ble_eq_true rfl) ⟨Nat.le_of_ble_eq_true rfl, Nat.le_of_ble_eq_true rfl⟩ ⟨Nat.le_of_ble_eq_true rfl, Nat.le_of_ble_eq_true rfl⟩ dX12_isLetGo_5 ?_
  refine r_if_eq (tgt := 36) dX12_isLetGo_8 (by decide) (fun h1 => ?_) (fun h1 => ?_)
  · have hF := tw hF h1
    refine r_iconst (v := 0) dX12_isLetGo_36 (by decide) ?_
    obtain rfl := hF
    exact r_ireturn rfl rfl dX12_isLetGo_37 (Nat.le_of_ble_eq_true rfl) (Nat.le_of_ble_eq_true rfl)
  · have hF := fw hF h1
    refine r_iload_n dX12_isLetGo_11 rfl rfl ?_
    refine r_iconst (v := 0) dX12_isLetGo_12 (by decide) ?_
    refine r_bipush (v := 35) dX12_isLetGo_13 (by decide) ?_
    refine c_static_i (As := [.int p2, .int 0, .int 35]) mi_X12_in kw_1085 kw_1084 (ok_X12_in hL  (p1 := p2) (p2 := 0) (p3 := 35)) rfl rfl (Nat.le_of_ble_eq_true rfl) ⟨Nat.le_of_ble_eq_true rfl, Nat.le_of_ble_eq_true rfl⟩ ⟨Nat.le_of_ble_eq_true rfl, Nat.le_of_ble_eq_true rfl⟩ dX12_isLetGo_15 ?_
    refine r_if_eq (tgt := 36) dX12_isLetGo_18 (by decide) (fun h2 => ?_) (fun h2 => ?_)
    · have hF := tw hF h2
      refine r_iconst (v := 0) dX12_isLetGo_36 (by decide) ?_
      obtain rfl := hF
      exact r_ireturn rfl rfl dX12_isLetGo_37 (Nat.le_of_ble_eq_true rfl) (Nat.le_of_ble_eq_true rfl)
    · have hF := fw hF h2
      refine r_iload_n dX12_isLetGo_21 rfl rfl ?_
      refine r_bipush (v := (-9)) dX12_isLetGo_22 (by decide) ?_
      refine r_bipush (v := 9) dX12_isLetGo_24 (by decide) ?_
      refine c_static_i (As := [.int p3, .int (-9), .int 9]) mi_X12_in kw_1085 kw_1084 (ok_X12_in hL  (p1 := p3) (p2 := (-9)) (p3 := 9)) rfl rfl (Nat.le_of_ble_eq_true rfl) ⟨Nat.le_of_ble_eq_true rfl, Nat.le_of_ble_eq_true rfl⟩ ⟨Nat.le_of_ble_eq_true rfl, Nat.le_of_ble_eq_true rfl⟩ dX12_isLetGo_26 ?_
      refine r_if_eq (tgt := 36) dX12_isLetGo_29 (by decide) (fun h3 => ?_) (fun h3 => ?_)
      · have hF := tw hF h3
        refine r_iconst (v := 0) dX12_isLetGo_36 (by decide) ?_
        obtain rfl := hF
        exact r_ireturn rfl rfl dX12_isLetGo_37 (Nat.le_of_ble_eq_true rfl) (Nat.le_of_ble_eq_true rfl)
      · have hF := fw hF h3
        refine r_iconst (v := 1) dX12_isLetGo_32 (by decide) ?_
        refine r_goto (tgt := 37) dX12_isLetGo_33 (by decide) ?_
        obtain rfl := hF
        exact r_ireturn rfl rfl dX12_isLetGo_37 (Nat.le_of_ble_eq_true rfl) (Nat.le_of_ble_eq_true rfl)
theorem nz_X12_isLetGo (p1 : Int32) (p2 : Int32) (p3 : Int32) : narrow .boolean (.int (F_X12_isLetGo p1 p2 p3)) = .int (F_X12_isLetGo p1 p2 p3) := by
  unfold F_X12_isLetGo
  repeat' split
  all_goals first | rfl
def F_X12_isFall (I : IM) (p1 : Int32) (p2 : Int32) (p3 : Int32) (p4 : Int32) : Int32 := (if (F_X12_isCard I p1) = 0 then 0 else (if (F_X12_isLetGo p2 p3 p4) = 0 then 0 else 1))
set_option maxHeartbeats 4000000 in
theorem ok_X12_isFall {E : GE} {T : TM} {I : IM} {J : JM} {P : PM} {p1 : Int32} {p2 : Int32} {p3 : Int32} {p4 : Int32} (hL : LOK T P) : Ctr E mX12_isFall 2 0 0 [.ref 101, .int p1, .int p2, .int p3, .int p4] T I J P (some (.int (F_X12_isFall I p1 p2 p3 p4))) T I J P := by
  generalize hF : F_X12_isFall I p1 p2 p3 p4 = r
  unfold F_X12_isFall at hF
  refine ctr_intro rfl (by decide) (Nat.le_of_ble_eq_true rfl) ?_
  refine r_sub (ls' := [(4, .int p4), (3, .int p3), (2, .int p2), (1, .int p1), (0, .ref 101)]) [4, 3, 2, 1, 0] rfl ?_
  refine r_aload_n dX12_isFall_0 rfl rfl ?_
  refine r_iload_n dX12_isFall_1 rfl rfl ?_
  refine c_virt_i (As := [.int p1]) mi_X12_isCard kw_1173 ks_35 kw_1171 rfl (by decide) (ln_101 hL) (ok_X12_isCard hL  (p1 := p1)) rfl rfl (Nat.le_of_ble_eq_true rfl) ⟨Nat.le_of_ble_eq_true rfl, Nat.le_of_ble_eq_true rfl⟩ ⟨Nat.le_of_ble_eq_true rfl, Nat.le_of_ble_eq_true rfl⟩ dX12_isFall_2 ?_
  refine r_if_eq (tgt := 22) dX12_isFall_5 (by decide) (fun h1 => ?_) (fun h1 => ?_)
  · have hF := tw hF h1
    refine r_iconst (v := 0) dX12_isFall_22 (by decide) ?_
    obtain rfl := hF
    exact r_ireturn rfl rfl dX12_isFall_23 (Nat.le_of_ble_eq_true rfl) (Nat.le_of_ble_eq_true rfl)
  · have hF := fw hF h1
    refine r_iload_n dX12_isFall_8 rfl rfl ?_
    refine r_iload_n dX12_isFall_9 rfl rfl ?_
    refine r_iload dX12_isFall_10 rfl ?_
    refine c_static_i (As := [.int p2, .int p3, .int p4]) mi_X12_isLetGo kw_1211 kw_1210 (ok_X12_isLetGo hL  (p1 := p2) (p2 := p3) (p3 := p4)) rfl rfl (Nat.le_of_ble_eq_true rfl) ⟨Nat.le_of_ble_eq_true rfl, Nat.le_of_ble_eq_true rfl⟩ ⟨Nat.le_of_ble_eq_true rfl, Nat.le_of_ble_eq_true rfl⟩ dX12_isFall_12 ?_
    refine r_if_eq (tgt := 22) dX12_isFall_15 (by decide) (fun h2 => ?_) (fun h2 => ?_)
    · have hF := tw hF h2
      refine r_iconst (v := 0) dX12_isFall_22 (by decide) ?_
      obtain rfl := hF
      exact r_ireturn rfl rfl dX12_isFall_23 (Nat.le_of_ble_eq_true rfl) (Nat.le_of_ble_eq_true rfl)
    · have hF := fw hF h2
      refine r_iconst (v := 1) dX12_isFall_18 (by decide) ?_
      refine r_goto (tgt := 23) dX12_isFall_19 (by decide) ?_
      obtain rfl := hF
      exact r_ireturn rfl rfl dX12_isFall_23 (Nat.le_of_ble_eq_true rfl) (Nat.le_of_ble_eq_true rfl)
theorem nz_X12_isFall (I : IM) (p1 : Int32) (p2 : Int32) (p3 : Int32) (p4 : Int32) : narrow .boolean (.int (F_X12_isFall I p1 p2 p3 p4)) = .int (F_X12_isFall I p1 p2 p3 p4) := by
  unfold F_X12_isFall
  repeat' split
  all_goals first | rfl
def F_X12_takesAir (I : IM) : Option (IM) := ((F_X12_lends I (I 106 0) (I 106 3) (I 106 4) (I 106 5)).bind (fun x1 => (letb (up2 x1 101 23 (x1 106 1)) (fun I2 : IM => (letb (up2 I2 101 24 (I2 106 2)) (fun I3 : IM => (letb (up2 I3 101 28 (I3 106 6)) (fun I4 : IM => (letb (up2 I4 101 29 (I4 106 7)) (fun I5 : IM => (some I5)))))))))))
set_option maxHeartbeats 4000000 in
theorem ok_X12_takesAir {E : GE} {T : TM} {I : IM} {J : JM} {P : PM} {x : IM} (hL : LOK T P) (hF : F_X12_takesAir I = some x) : Ctr E mX12_takesAir 2 0 0 [.ref 101] T I J P none T x J P := by
  unfold F_X12_takesAir at hF
  refine ctr_intro rfl (by decide) (Nat.le_of_ble_eq_true rfl) ?_
  refine r_sub (ls' := [(0, .ref 101)]) [0] rfl ?_
  refine r_aload_n dX12_takesAir_0 rfl rfl ?_
  refine r_aload_n dX12_takesAir_1 rfl rfl ?_
  refine r_getP lk_X12_26 (ln_101 hL) (pp_101_6 hL) dX12_takesAir_2 ?_
  refine r_iconst (v := 0) dX12_takesAir_5 (by decide) ?_
  refine r_iald (ln_106 hL) (by rw [(nl_106 hL)]; decide) dX12_takesAir_6 ?_
  refine r_aload_n dX12_takesAir_7 rfl rfl ?_
  refine r_getP lk_X12_26 (ln_101 hL) (pp_101_6 hL) dX12_takesAir_8 ?_
  refine r_iconst (v := 3) dX12_takesAir_11 (by decide) ?_
  refine r_iald (ln_106 hL) (by rw [(nl_106 hL)]; decide) dX12_takesAir_12 ?_
  refine r_aload_n dX12_takesAir_13 rfl rfl ?_
  refine r_getP lk_X12_26 (ln_101 hL) (pp_101_6 hL) dX12_takesAir_14 ?_
  refine r_iconst (v := 4) dX12_takesAir_17 (by decide) ?_
  refine r_iald (ln_106 hL) (by rw [(nl_106 hL)]; decide) dX12_takesAir_18 ?_
  refine r_aload_n dX12_takesAir_19 rfl rfl ?_
  refine r_getP lk_X12_26 (ln_101 hL) (pp_101_6 hL) dX12_takesAir_20 ?_
  refine r_iconst (v := 5) dX12_takesAir_23 (by decide) ?_
  refine r_iald (ln_106 hL) (by rw [(nl_106 hL)]; decide) dX12_takesAir_24 ?_
  obtain ⟨x1, hx1, hF⟩ := bnd hF
  refine c_virt_v (As := [.int (I 106 0), .int (I 106 3), .int (I 106 4), .int (I 106 5)]) mi_X12_lends kw_1215 ks_40 kw_1213 rfl (by decide) (ln_101 hL) (ok_X12_lends hL  hx1) rfl rfl (Nat.le_of_ble_eq_true rfl) ⟨Nat.le_of_ble_eq_true rfl, Nat.le_of_ble_eq_true rfl⟩ ⟨Nat.le_of_ble_eq_true rfl, Nat.le_of_ble_eq_true rfl⟩ dX12_takesAir_25 ?_
  refine r_aload_n dX12_takesAir_28 rfl rfl ?_
  refine r_aload_n dX12_takesAir_29 rfl rfl ?_
  refine r_getP lk_X12_26 (ln_101 hL) (pp_101_6 hL) dX12_takesAir_30 ?_
  refine r_iconst (v := 1) dX12_takesAir_33 (by decide) ?_
  refine r_iald (ln_106 hL) (by rw [(nl_106 hL)]; decide) dX12_takesAir_34 ?_
  refine r_putI lk_X12_232 (Or.inl rfl) (ln_101 hL) rfl rfl dX12_takesAir_35 ?_
  refine r_letI hF (fun I2 hF => ?_)
  refine r_aload_n dX12_takesAir_38 rfl rfl ?_
  refine r_aload_n dX12_takesAir_39 rfl rfl ?_
  refine r_getP lk_X12_26 (ln_101 hL) (pp_101_6 hL) dX12_takesAir_40 ?_
  refine r_iconst (v := 2) dX12_takesAir_43 (by decide) ?_
  refine r_iald (ln_106 hL) (by rw [(nl_106 hL)]; decide) dX12_takesAir_44 ?_
  refine r_putI lk_X12_235 (Or.inl rfl) (ln_101 hL) rfl rfl dX12_takesAir_45 ?_
  refine r_letI hF (fun I3 hF => ?_)
  refine r_aload_n dX12_takesAir_48 rfl rfl ?_
  refine r_aload_n dX12_takesAir_49 rfl rfl ?_
  refine r_getP lk_X12_26 (ln_101 hL) (pp_101_6 hL) dX12_takesAir_50 ?_
  refine r_bipush (v := 6) dX12_takesAir_53 (by decide) ?_
  refine r_iald (ln_106 hL) (by rw [(nl_106 hL)]; decide) dX12_takesAir_55 ?_
  refine r_putI lk_X12_247 (Or.inl rfl) (ln_101 hL) rfl rfl dX12_takesAir_56 ?_
  refine r_letI hF (fun I4 hF => ?_)
  refine r_aload_n dX12_takesAir_59 rfl rfl ?_
  refine r_aload_n dX12_takesAir_60 rfl rfl ?_
  refine r_getP lk_X12_26 (ln_101 hL) (pp_101_6 hL) dX12_takesAir_61 ?_
  refine r_bipush (v := 7) dX12_takesAir_64 (by decide) ?_
  refine r_iald (ln_106 hL) (by rw [(nl_106 hL)]; decide) dX12_takesAir_66 ?_
  refine r_putI lk_X12_250 (Or.inl rfl) (ln_101 hL) rfl rfl dX12_takesAir_67 ?_
  refine r_letI hF (fun I5 hF => ?_)
  obtain rfl := Option.some.inj hF
  exact r_return rfl dX12_takesAir_70 (Nat.le_of_ble_eq_true rfl) (Nat.le_of_ble_eq_true rfl)
def F_X12_givesAir (I : IM) : Option (IM) := (letb (up2 I 106 1 (I 101 23)) (fun I1 : IM => (letb (up2 I1 106 2 (I1 101 24)) (fun I2 : IM => (letb (up2 I2 106 3 (I2 101 25)) (fun I3 : IM => (letb (up2 I3 106 4 (I3 101 26)) (fun I4 : IM => (letb (up2 I4 106 5 (I4 101 27)) (fun I5 : IM => (letb (up2 I5 106 6 (I5 101 28)) (fun I6 : IM => (letb (up2 I6 106 7 (I6 101 29)) (fun I7 : IM => (some I7)))))))))))))))
set_option maxHeartbeats 4000000 in
theorem ok_X12_givesAir {E : GE} {T : TM} {I : IM} {J : JM} {P : PM} {x : IM} (hL : LOK T P) (hF : F_X12_givesAir I = some x) : Ctr E mX12_givesAir 0 0 0 [.ref 101] T I J P none T x J P := by
  unfold F_X12_givesAir at hF
  refine ctr_intro rfl (by decide) (Nat.le_of_ble_eq_true rfl) ?_
  refine r_sub (ls' := [(0, .ref 101)]) [0] rfl ?_
  refine r_aload_n dX12_givesAir_0 rfl rfl ?_
  refine r_getP lk_X12_26 (ln_101 hL) (pp_101_6 hL) dX12_givesAir_1 ?_
  refine r_iconst (v := 1) dX12_givesAir_4 (by decide) ?_
  refine r_aload_n dX12_givesAir_5 rfl rfl ?_
  refine r_getI lk_X12_232 (ln_101 hL) dX12_givesAir_6 ?_
  refine r_iast (ln_106 hL) (by rw [(nl_106 hL)]; decide) dX12_givesAir_9 ?_
  refine r_letI hF (fun I1 hF => ?_)
  refine r_aload_n dX12_givesAir_10 rfl rfl ?_
  refine r_getP lk_X12_26 (ln_101 hL) (pp_101_6 hL) dX12_givesAir_11 ?_
  refine r_iconst (v := 2) dX12_givesAir_14 (by decide) ?_
  refine r_aload_n dX12_givesAir_15 rfl rfl ?_
  refine r_getI lk_X12_235 (ln_101 hL) dX12_givesAir_16 ?_
  refine r_iast (ln_106 hL) (by rw [(nl_106 hL)]; decide) dX12_givesAir_19 ?_
  refine r_letI hF (fun I2 hF => ?_)
  refine r_aload_n dX12_givesAir_20 rfl rfl ?_
  refine r_getP lk_X12_26 (ln_101 hL) (pp_101_6 hL) dX12_givesAir_21 ?_
  refine r_iconst (v := 3) dX12_givesAir_24 (by decide) ?_
  refine r_aload_n dX12_givesAir_25 rfl rfl ?_
  refine r_getI lk_X12_238 (ln_101 hL) dX12_givesAir_26 ?_
  refine r_iast (ln_106 hL) (by rw [(nl_106 hL)]; decide) dX12_givesAir_29 ?_
  refine r_letI hF (fun I3 hF => ?_)
  refine r_aload_n dX12_givesAir_30 rfl rfl ?_
  refine r_getP lk_X12_26 (ln_101 hL) (pp_101_6 hL) dX12_givesAir_31 ?_
  refine r_iconst (v := 4) dX12_givesAir_34 (by decide) ?_
  refine r_aload_n dX12_givesAir_35 rfl rfl ?_
  refine r_getI lk_X12_241 (ln_101 hL) dX12_givesAir_36 ?_
  refine r_iast (ln_106 hL) (by rw [(nl_106 hL)]; decide) dX12_givesAir_39 ?_
  refine r_letI hF (fun I4 hF => ?_)
  refine r_aload_n dX12_givesAir_40 rfl rfl ?_
  refine r_getP lk_X12_26 (ln_101 hL) (pp_101_6 hL) dX12_givesAir_41 ?_
  refine r_iconst (v := 5) dX12_givesAir_44 (by decide) ?_
  refine r_aload_n dX12_givesAir_45 rfl rfl ?_
  refine r_getI lk_X12_244 (ln_101 hL) dX12_givesAir_46 ?_
  refine r_iast (ln_106 hL) (by rw [(nl_106 hL)]; decide) dX12_givesAir_49 ?_
  refine r_letI hF (fun I5 hF => ?_)
  refine r_aload_n dX12_givesAir_50 rfl rfl ?_
  refine r_getP lk_X12_26 (ln_101 hL) (pp_101_6 hL) dX12_givesAir_51 ?_
  refine r_bipush (v := 6) dX12_givesAir_54 (by decide) ?_
  refine r_aload_n dX12_givesAir_56 rfl rfl ?_
  refine r_getI lk_X12_247 (ln_101 hL) dX12_givesAir_57 ?_
  refine r_iast (ln_106 hL) (by rw [(nl_106 hL)]; decide) dX12_givesAir_60 ?_
  refine r_letI hF (fun I6 hF => ?_)
  refine r_aload_n dX12_givesAir_61 rfl rfl ?_
  refine r_getP lk_X12_26 (ln_101 hL) (pp_101_6 hL) dX12_givesAir_62 ?_
  refine r_bipush (v := 7) dX12_givesAir_65 (by decide) ?_
  refine r_aload_n dX12_givesAir_67 rfl rfl ?_
  refine r_getI lk_X12_250 (ln_101 hL) dX12_givesAir_68 ?_
  refine r_iast (ln_106 hL) (by rw [(nl_106 hL)]; decide) dX12_givesAir_71 ?_
  refine r_letI hF (fun I7 hF => ?_)
  obtain rfl := Option.some.inj hF
  exact r_return rfl dX12_givesAir_72 (Nat.le_of_ble_eq_true rfl) (Nat.le_of_ble_eq_true rfl)
def F_X12_letGo (I : IM) (p1 : Int32) (p2 : Int32) (p3 : Int32) (p4 : Int32) : Option (Int32 × IM) := (if (F_X12_isFall I p1 p2 p3 p4) = 0 then (some ((-1), I)) else (letb (if 0 ≤ (I 106 0) then (I 106 0) else (-9)) (fun y3 : Int32 => ((F_X12_lends I p1 p2 p3 p4).bind (fun x4 => (letb (up2 x4 106 0 p1) (fun I5 : IM => ((F_X12_givesAir I5).bind (fun x6 => (some (y3, x6)))))))))))
set_option maxHeartbeats 4000000 in
theorem ok_X12_letGo {E : GE} {T : TM} {I : IM} {J : JM} {P : PM} {p1 : Int32} {p2 : Int32} {p3 : Int32} {p4 : Int32} {x : Int32 × IM} (hL : LOK T P) (hF : F_X12_letGo I p1 p2 p3 p4 = some x) : Ctr E mX12_letGo 3 0 0 [.ref 101, .int p1, .int p2, .int p3, .int p4] T I J P (some (.int x.1)) T x.2 J P := by
  unfold F_X12_letGo at hF
  refine ctr_intro rfl (by decide) (Nat.le_of_ble_eq_true rfl) ?_
  refine r_sub (ls' := [(4, .int p4), (3, .int p3), (2, .int p2), (1, .int p1), (0, .ref 101)]) [4, 3, 2, 1, 0] rfl ?_
  refine r_aload_n dX12_letGo_0 rfl rfl ?_
  refine r_iload_n dX12_letGo_1 rfl rfl ?_
  refine r_iload_n dX12_letGo_2 rfl rfl ?_
  refine r_iload_n dX12_letGo_3 rfl rfl ?_
  refine r_iload dX12_letGo_4 rfl ?_
  refine c_virt_i (As := [.int p1, .int p2, .int p3, .int p4]) mi_X12_isFall kw_1208 ks_39 kw_1206 rfl (by decide) (ln_101 hL) (ok_X12_isFall hL  (p1 := p1) (p2 := p2) (p3 := p3) (p4 := p4)) rfl rfl (Nat.le_of_ble_eq_true rfl) ⟨Nat.le_of_ble_eq_true rfl, Nat.le_of_ble_eq_true rfl⟩ ⟨Nat.le_of_ble_eq_true rfl, Nat.le_of_ble_eq_true rfl⟩ dX12_letGo_6 ?_
  refine r_if_ne (tgt := 14) dX12_letGo_9 (by decide) (fun h1 => ?_) (fun h1 => ?_)
  · have hF := fw hF h1
    refine r_aload_n dX12_letGo_14 rfl rfl ?_
    refine r_getP lk_X12_26 (ln_101 hL) (pp_101_6 hL) dX12_letGo_15 ?_
    refine r_iconst (v := 0) dX12_letGo_18 (by decide) ?_
    refine r_iald (ln_106 hL) (by rw [(nl_106 hL)]; decide) dX12_letGo_19 ?_
    refine r_join (G1 := fun y3 : Int32 => WW E mX12_letGo (RM 3 0 0) (ZM E 0 0 (some (.int x.1)) T x.2 J P) 0 0 T I J P 34 [(4, .int p4), (3, .int p3), (2, .int p2), (1, .int p1), (0, .ref 101)] [.int y3]) hF (fun y3 hF => ?_) (fun y3 hv hJ => ?_)
    · refine r_istore (ls' := [(5, .int y3), (4, .int p4), (3, .int p3), (2, .int p2), (1, .int p1), (0, .ref 101)]) dX12_letGo_34 (by decide) rfl ?_
      refine r_aload_n dX12_letGo_36 rfl rfl ?_
      refine r_iload_n dX12_letGo_37 rfl rfl ?_
      refine r_iload_n dX12_letGo_38 rfl rfl ?_
      refine r_iload_n dX12_letGo_39 rfl rfl ?_
      refine r_iload dX12_letGo_40 rfl ?_
      obtain ⟨x4, hx4, hF⟩ := bnd hF
      refine c_virt_v (As := [.int p1, .int p2, .int p3, .int p4]) mi_X12_lends kw_1215 ks_40 kw_1213 rfl (by decide) (ln_101 hL) (ok_X12_lends hL  hx4) rfl rfl (Nat.le_of_ble_eq_true rfl) ⟨Nat.le_of_ble_eq_true rfl, Nat.le_of_ble_eq_true rfl⟩ ⟨Nat.le_of_ble_eq_true rfl, Nat.le_of_ble_eq_true rfl⟩ dX12_letGo_42 ?_
      refine r_aload_n dX12_letGo_45 rfl rfl ?_
      refine r_getP lk_X12_26 (ln_101 hL) (pp_101_6 hL) dX12_letGo_46 ?_
      refine r_iconst (v := 0) dX12_letGo_49 (by decide) ?_
      refine r_iload_n dX12_letGo_50 rfl rfl ?_
      refine r_iast (ln_106 hL) (by rw [(nl_106 hL)]; decide) dX12_letGo_51 ?_
      refine r_letI hF (fun I5 hF => ?_)
      refine r_aload_n dX12_letGo_52 rfl rfl ?_
      obtain ⟨x6, hx6, hF⟩ := bnd hF
      refine c_virt_v (As := []) mi_X12_givesAir kw_1219 ks_41 kw_1217 rfl (by decide) (ln_101 hL) (ok_X12_givesAir hL  hx6) rfl rfl (Nat.le_of_ble_eq_true rfl) ⟨Nat.le_of_ble_eq_true rfl, Nat.le_of_ble_eq_true rfl⟩ ⟨Nat.le_of_ble_eq_true rfl, Nat.le_of_ble_eq_true rfl⟩ dX12_letGo_53 ?_
      refine r_iload dX12_letGo_56 rfl ?_
      obtain rfl := Option.some.inj hF
      exact r_ireturn rfl rfl dX12_letGo_58 (Nat.le_of_ble_eq_true rfl) (Nat.le_of_ble_eq_true rfl)
    · refine r_if_ge (tgt := 28) dX12_letGo_20 (by decide) (fun h2 => ?_) (fun h2 => ?_)
      · have hv := tw hv h2
        refine r_aload_n dX12_letGo_28 rfl rfl ?_
        refine r_getP lk_X12_26 (ln_101 hL) (pp_101_6 hL) dX12_letGo_29 ?_
        refine r_iconst (v := 0) dX12_letGo_32 (by decide) ?_
        refine r_iald (ln_106 hL) (by rw [(nl_106 hL)]; decide) dX12_letGo_33 ?_
        obtain rfl := hv
        exact hJ
      · have hv := fw hv h2
        refine r_bipush (v := (-9)) dX12_letGo_23 (by decide) ?_
        refine r_goto (tgt := 34) dX12_letGo_25 (by decide) ?_
        obtain rfl := hv
        exact hJ
  · have hF := tw hF h1
    refine r_iconst (v := (-1)) dX12_letGo_12 (by decide) ?_
    obtain rfl := Option.some.inj hF
    exact r_ireturn rfl rfl dX12_letGo_13 (Nat.le_of_ble_eq_true rfl) (Nat.le_of_ble_eq_true rfl)
def G_X12_tick_31 (N : Nat) (u1 : Int32) : Nat → Int32 → IM → Option (Int32 × IM)
  | 0, _, _ => none
  | n + 1, u2, Iv => (if u1 ≤ u2 then ((F_X12_givesAir Iv).bind (fun x6 => (some (u2, x6)))) else (if (F_X12_isLanded Iv) = 0 then ((F_X12_ticksOn Iv).bind (fun x10 => (G_X12_tick_31 N u1 n (u2 + 1) x10))) else ((F_X12_givesAir Iv).bind (fun x9 => (some (u2, x9))))))
set_option maxHeartbeats 4000000 in
theorem okG_X12_tick_31 {E : GE} {T : TM} {J : JM} {P : PM} {N : Nat} {u1 : Int32} {x : Int32 × IM} (hL : LOK T P) : ∀ (n : Nat) (u2 : Int32) (Iv : IM), G_X12_tick_31 N u1 n u2 Iv = some x → WW E mX12_tick (RM 5 0 0) (ZM E 0 0 (some (.int x.1)) T x.2 J P) 0 0 T Iv J P 31 [(0, .ref 101), (1, .int u1), (2, .int u2)] [] := by
  intro n
  induction n with
  | zero =>
    intro u2 Iv hF
    cases hF
  | succ n ih =>
    intro u2 Iv hF
    rw [G_X12_tick_31] at hF
    refine r_iload_n dX12_tick_31 rfl rfl ?_
    refine r_iload_n dX12_tick_32 rfl rfl ?_
    refine r_icmp_ge (tgt := 53) dX12_tick_33 (by decide) (fun h5 => ?_) (fun h5 => ?_)
    · have hF := tw hF h5
      refine r_aload_n dX12_tick_53 rfl rfl ?_
      obtain ⟨x6, hx6, hF⟩ := bnd hF
      refine c_virt_v (As := []) mi_X12_givesAir kw_1219 ks_41 kw_1217 rfl (by decide) (ln_101 hL) (ok_X12_givesAir hL  hx6) rfl rfl (Nat.le_of_ble_eq_true rfl) ⟨Nat.le_of_ble_eq_true rfl, Nat.le_of_ble_eq_true rfl⟩ ⟨Nat.le_of_ble_eq_true rfl, Nat.le_of_ble_eq_true rfl⟩ dX12_tick_54 ?_
      refine r_iload_n dX12_tick_57 rfl rfl ?_
      obtain rfl := Option.some.inj hF
      exact r_ireturn rfl rfl dX12_tick_58 (Nat.le_of_ble_eq_true rfl) (Nat.le_of_ble_eq_true rfl)
    · have hF := fw hF h5
      refine r_aload_n dX12_tick_36 rfl rfl ?_
      refine c_virt_i (As := []) mi_X12_isLanded kw_1231 ks_43 kw_1229 rfl (by decide) (ln_101 hL) (ok_X12_isLanded hL  ) rfl rfl (Nat.le_of_ble_eq_true rfl) ⟨Nat.le_of_ble_eq_true rfl, Nat.le_of_ble_eq_true rfl⟩ ⟨Nat.le_of_ble_eq_true rfl, Nat.le_of_ble_eq_true rfl⟩ dX12_tick_37 ?_
      refine r_if_ne (tgt := 53) dX12_tick_40 (by decide) (fun h8 => ?_) (fun h8 => ?_)
      · have hF := fw hF h8
        refine r_aload_n dX12_tick_53 rfl rfl ?_
        obtain ⟨x9, hx9, hF⟩ := bnd hF
        refine c_virt_v (As := []) mi_X12_givesAir kw_1219 ks_41 kw_1217 rfl (by decide) (ln_101 hL) (ok_X12_givesAir hL  hx9) rfl rfl (Nat.le_of_ble_eq_true rfl) ⟨Nat.le_of_ble_eq_true rfl, Nat.le_of_ble_eq_true rfl⟩ ⟨Nat.le_of_ble_eq_true rfl, Nat.le_of_ble_eq_true rfl⟩ dX12_tick_54 ?_
        refine r_iload_n dX12_tick_57 rfl rfl ?_
        obtain rfl := Option.some.inj hF
        exact r_ireturn rfl rfl dX12_tick_58 (Nat.le_of_ble_eq_true rfl) (Nat.le_of_ble_eq_true rfl)
      · have hF := tw hF h8
        refine r_aload_n dX12_tick_43 rfl rfl ?_
        obtain ⟨x10, hx10, hF⟩ := bnd hF
        refine c_virt_v (As := []) mi_X12_ticksOn kw_1235 ks_44 kw_1233 rfl (by decide) (ln_101 hL) (ok_X12_ticksOn hL  hx10) rfl rfl (Nat.le_of_ble_eq_true rfl) ⟨Nat.le_of_ble_eq_true rfl, Nat.le_of_ble_eq_true rfl⟩ ⟨Nat.le_of_ble_eq_true rfl, Nat.le_of_ble_eq_true rfl⟩ dX12_tick_44 ?_
        refine r_iinc (v := (u2 + 1)) (ls' := [(2, .int (u2 + 1)), (0, .ref 101), (1, .int u1)]) dX12_tick_47 rfl rfl (by decide) rfl ?_
        refine r_goto (tgt := 31) dX12_tick_50 (by decide) ?_
        refine r_sub (ls' := [(0, .ref 101), (1, .int u1), (2, .int (u2 + 1))]) [1, 2, 0] rfl ?_
        exact ih (u2 + 1) x10 hF
def F_X12_tick (N : Nat) (I : IM) (p1 : Int32) : Option (Int32 × IM) := (if (F_X12_in p1 0 400) = 0 then (some ((-1), I)) else (if 0 ≤ (I 106 0) then ((F_X12_takesAir I).bind (fun x3 => (G_X12_tick_31 N p1 N 0 x3))) else (some ((-4), I))))
set_option maxHeartbeats 4000000 in
theorem ok_X12_tick {E : GE} {T : TM} {I : IM} {J : JM} {P : PM} {p1 : Int32} {N : Nat} {x : Int32 × IM} (hL : LOK T P) (hF : F_X12_tick N I p1 = some x) : Ctr E mX12_tick 5 0 0 [.ref 101, .int p1] T I J P (some (.int x.1)) T x.2 J P := by
  unfold F_X12_tick at hF
  refine ctr_intro rfl (by decide) (Nat.le_of_ble_eq_true rfl) ?_
  refine r_sub (ls' := [(1, .int p1), (0, .ref 101)]) [1, 0] rfl ?_
  refine r_iload_n dX12_tick_0 rfl rfl ?_
  refine r_iconst (v := 0) dX12_tick_1 (by decide) ?_
  refine r_sipush (v := 400) dX12_tick_2 (by decide) ?_
  refine c_static_i (As := [.int p1, .int 0, .int 400]) mi_X12_in kw_1085 kw_1084 (ok_X12_in hL  (p1 := p1) (p2 := 0) (p3 := 400)) rfl rfl (Nat.le_of_ble_eq_true rfl) ⟨Nat.le_of_ble_eq_true rfl, Nat.le_of_ble_eq_true rfl⟩ ⟨Nat.le_of_ble_eq_true rfl, Nat.le_of_ble_eq_true rfl⟩ dX12_tick_5 ?_
  refine r_if_ne (tgt := 13) dX12_tick_8 (by decide) (fun h1 => ?_) (fun h1 => ?_)
  · have hF := fw hF h1
    refine r_aload_n dX12_tick_13 rfl rfl ?_
    refine r_getP lk_X12_26 (ln_101 hL) (pp_101_6 hL) dX12_tick_14 ?_
    refine r_iconst (v := 0) dX12_tick_17 (by decide) ?_
    refine r_iald (ln_106 hL) (by rw [(nl_106 hL)]; decide) dX12_tick_18 ?_
    refine r_if_ge (tgt := 25) dX12_tick_19 (by decide) (fun h2 => ?_) (fun h2 => ?_)
    · have hF := tw hF h2
      refine r_aload_n dX12_tick_25 rfl rfl ?_
      obtain ⟨x3, hx3, hF⟩ := bnd hF
      refine c_virt_v (As := []) mi_X12_takesAir kw_1227 ks_42 kw_1225 rfl (by decide) (ln_101 hL) (ok_X12_takesAir hL  hx3) rfl rfl (Nat.le_of_ble_eq_true rfl) ⟨Nat.le_of_ble_eq_true rfl, Nat.le_of_ble_eq_true rfl⟩ ⟨Nat.le_of_ble_eq_true rfl, Nat.le_of_ble_eq_true rfl⟩ dX12_tick_26 ?_
      refine r_iconst (v := 0) dX12_tick_29 (by decide) ?_
      refine r_istore_n (ls' := [(2, .int 0), (1, .int p1), (0, .ref 101)]) dX12_tick_30 rfl (by decide) rfl ?_
      refine r_sub (ls' := [(0, .ref 101), (1, .int p1), (2, .int 0)]) [2, 1, 0] rfl ?_
      exact okG_X12_tick_31 hL   N 0 x3 hF
    · have hF := fw hF h2
      refine r_bipush (v := (-4)) dX12_tick_22 (by decide) ?_
      obtain rfl := Option.some.inj hF
      exact r_ireturn rfl rfl dX12_tick_24 (Nat.le_of_ble_eq_true rfl) (Nat.le_of_ble_eq_true rfl)
  · have hF := tw hF h1
    refine r_iconst (v := (-1)) dX12_tick_11 (by decide) ?_
    obtain rfl := Option.some.inj hF
    exact r_ireturn rfl rfl dX12_tick_12 (Nat.le_of_ble_eq_true rfl) (Nat.le_of_ble_eq_true rfl)
