def F_X12_in (p1 : Int32) (p2 : Int32) (p3 : Int32) : Int32 := (if p1 < p2 then 0 else (if p3 < p1 then 0 else 1))
set_option maxHeartbeats 4000000 in
theorem ok_X12_in {E : GE} {T : TM} {I : IM} {J : JM} {P : PM} {p1 : Int32} {p2 : Int32} {p3 : Int32} (hL : LOK T P) : Ctr E mX12_in 0 0 0 [.int p1, .int p2, .int p3] T I J P (some (.int (F_X12_in p1 p2 p3))) T I J P := by
  generalize hF : F_X12_in p1 p2 p3 = r
  unfold F_X12_in at hF
  refine ctr_intro rfl (by decide) (Nat.le_of_ble_eq_true rfl) ?_
  refine r_sub (ls' := [(2, .int p3), (1, .int p2), (0, .int p1)]) [2, 1, 0] rfl ?_
  refine r_iload_n dX12_in_0 rfl rfl ?_
  refine r_iload_n dX12_in_1 rfl rfl ?_
  refine r_icmp_lt (tgt := 14) dX12_in_2 (by decide) (fun h1 => ?_) (fun h1 => ?_)
  · have hF := tw hF h1
    refine r_iconst (v := 0) dX12_in_14 (by decide) ?_
    obtain rfl := hF
    exact r_ireturn rfl rfl dX12_in_15 (Nat.le_of_ble_eq_true rfl) (Nat.le_of_ble_eq_true rfl)
  · have hF := fw hF h1
    refine r_iload_n dX12_in_5 rfl rfl ?_
    refine r_iload_n dX12_in_6 rfl rfl ?_
    refine r_icmp_gt (tgt := 14) dX12_in_7 (by decide) (fun h2 => ?_) (fun h2 => ?_)
    · have hF := tw hF h2
      refine r_iconst (v := 0) dX12_in_14 (by decide) ?_
      obtain rfl := hF
      exact r_ireturn rfl rfl dX12_in_15 (Nat.le_of_ble_eq_true rfl) (Nat.le_of_ble_eq_true rfl)
    · have hF := fw hF h2
      refine r_iconst (v := 1) dX12_in_10 (by decide) ?_
      refine r_goto (tgt := 15) dX12_in_11 (by decide) ?_
      obtain rfl := hF
      exact r_ireturn rfl rfl dX12_in_15 (Nat.le_of_ble_eq_true rfl) (Nat.le_of_ble_eq_true rfl)
theorem nz_X12_in (p1 : Int32) (p2 : Int32) (p3 : Int32) : narrow .boolean (.int (F_X12_in p1 p2 p3)) = .int (F_X12_in p1 p2 p3) := by
  unfold F_X12_in
  repeat' split
  all_goals first | rfl
def F_X12_isCard (I : IM) (p1 : Int32) : Int32 := (F_X12_in p1 0 ((I 101 0) - 1))
set_option maxHeartbeats 4000000 in
theorem ok_X12_isCard {E : GE} {T : TM} {I : IM} {J : JM} {P : PM} {p1 : Int32} (hL : LOK T P) : Ctr E mX12_isCard 1 0 0 [.ref 101, .int p1] T I J P (some (.int (F_X12_isCard I p1))) T I J P := by
  generalize hF : F_X12_isCard I p1 = r
  unfold F_X12_isCard at hF
  refine ctr_intro rfl (by decide) (Nat.le_of_ble_eq_true rfl) ?_
  refine r_sub (ls' := [(1, .int p1), (0, .ref 101)]) [1, 0] rfl ?_
  refine r_iload_n dX12_isCard_0 rfl rfl ?_
  refine r_iconst (v := 0) dX12_isCard_1 (by decide) ?_
  refine r_aload_n dX12_isCard_2 rfl rfl ?_
  refine r_getI lk_X12_81 (ln_101 hL) dX12_isCard_3 ?_
  refine r_iconst (v := 1) dX12_isCard_6 (by decide) ?_
  refine r_isub dX12_isCard_7 ?_
  refine c_static_i (As := [.int p1, .int 0, .int ((I 101 0) - 1)]) mi_X12_in kw_1085 kw_1084 (ok_X12_in hL  (p1 := p1) (p2 := 0) (p3 := ((I 101 0) - 1))) rfl rfl (Nat.le_of_ble_eq_true rfl) ⟨Nat.le_of_ble_eq_true rfl, Nat.le_of_ble_eq_true rfl⟩ ⟨Nat.le_of_ble_eq_true rfl, Nat.le_of_ble_eq_true rfl⟩ dX12_isCard_8 ?_
  obtain rfl := hF
  exact r_ireturn rfl (nz_X12_in p1 0 ((I 101 0) - 1)) dX12_isCard_11 (Nat.le_of_ble_eq_true rfl) (Nat.le_of_ble_eq_true rfl)
theorem nz_X12_isCard (I : IM) (p1 : Int32) : narrow .boolean (.int (F_X12_isCard I p1)) = .int (F_X12_isCard I p1) := by
  unfold F_X12_isCard
  repeat' split
  all_goals first | rfl | exact nz_X12_in ..
def F_X12_isSide (p1 : Int32) : Int32 := (F_X12_in p1 0 1)
set_option maxHeartbeats 4000000 in
theorem ok_X12_isSide {E : GE} {T : TM} {I : IM} {J : JM} {P : PM} {p1 : Int32} (hL : LOK T P) : Ctr E mX12_isSide 1 0 0 [.int p1] T I J P (some (.int (F_X12_isSide p1))) T I J P := by
  generalize hF : F_X12_isSide p1 = r
  unfold F_X12_isSide at hF
  refine ctr_intro rfl (by decide) (Nat.le_of_ble_eq_true rfl) ?_
  refine r_sub (ls' := [(0, .int p1)]) [0] rfl ?_
  refine r_iload_n dX12_isSide_0 rfl rfl ?_
  refine r_iconst (v := 0) dX12_isSide_1 (by decide) ?_
  refine r_iconst (v := 1) dX12_isSide_2 (by decide) ?_
  refine c_static_i (As := [.int p1, .int 0, .int 1]) mi_X12_in kw_1085 kw_1084 (ok_X12_in hL  (p1 := p1) (p2 := 0) (p3 := 1)) rfl rfl (Nat.le_of_ble_eq_true rfl) ⟨Nat.le_of_ble_eq_true rfl, Nat.le_of_ble_eq_true rfl⟩ ⟨Nat.le_of_ble_eq_true rfl, Nat.le_of_ble_eq_true rfl⟩ dX12_isSide_3 ?_
  obtain rfl := hF
  exact r_ireturn rfl (nz_X12_in p1 0 1) dX12_isSide_6 (Nat.le_of_ble_eq_true rfl) (Nat.le_of_ble_eq_true rfl)
theorem nz_X12_isSide (p1 : Int32) : narrow .boolean (.int (F_X12_isSide p1)) = .int (F_X12_isSide p1) := by
  unfold F_X12_isSide
  repeat' split
  all_goals first | rfl | exact nz_X12_in ..
def F_X12_its (I : IM) (p1 : Int32) (p2 : Int32) : Option (Int32) := (if inb ((4 * p1) + p2) 24 = true then (some (I 102 ((4 * p1) + p2).toNatClampNeg)) else none)
set_option maxHeartbeats 4000000 in
theorem ok_X12_its {E : GE} {T : TM} {I : IM} {J : JM} {P : PM} {p1 : Int32} {p2 : Int32} {x : Int32} (hL : LOK T P) (hF : F_X12_its I p1 p2 = some x) : Ctr E mX12_its 0 0 0 [.ref 101, .int p1, .int p2] T I J P (some (.int x)) T I J P := by
  unfold F_X12_its at hF
  refine ctr_intro rfl (by decide) (Nat.le_of_ble_eq_true rfl) ?_
  refine r_sub (ls' := [(2, .int p2), (1, .int p1), (0, .ref 101)]) [2, 1, 0] rfl ?_
  refine r_aload_n dX12_its_0 rfl rfl ?_
  refine r_getP lk_X12_7 (ln_101 hL) (pp_101_1 hL) dX12_its_1 ?_
  refine r_iconst (v := 4) dX12_its_4 (by decide) ?_
  refine r_iload_n dX12_its_5 rfl rfl ?_
  refine r_imul dX12_its_6 ?_
  refine r_iload_n dX12_its_7 rfl rfl ?_
  refine r_iadd dX12_its_8 ?_
  obtain ⟨g1, hF⟩ := gd hF
  refine r_iald (ln_102 hL) (by rw [(nl_102 hL)]; exact g1) dX12_its_9 ?_
  obtain rfl := Option.some.inj hF
  exact r_ireturn rfl rfl dX12_its_10 (Nat.le_of_ble_eq_true rfl) (Nat.le_of_ble_eq_true rfl)
def F_X12_bare (p1 : Int32) : Int32 := (if 0 ≤ p1 then p1 else (-p1))
set_option maxHeartbeats 4000000 in
theorem ok_X12_bare {E : GE} {T : TM} {I : IM} {J : JM} {P : PM} {p1 : Int32} (hL : LOK T P) : Ctr E mX12_bare 0 0 0 [.int p1] T I J P (some (.int (F_X12_bare p1))) T I J P := by
  generalize hF : F_X12_bare p1 = r
  unfold F_X12_bare at hF
  refine ctr_intro rfl (by decide) (Nat.le_of_ble_eq_true rfl) ?_
  refine r_sub (ls' := [(0, .int p1)]) [0] rfl ?_
  refine r_iload_n dX12_bare_0 rfl rfl ?_
  refine r_if_ge (tgt := 9) dX12_bare_1 (by decide) (fun h1 => ?_) (fun h1 => ?_)
  · have hF := tw hF h1
    refine r_iload_n dX12_bare_9 rfl rfl ?_
    obtain rfl := hF
    exact r_ireturn rfl rfl dX12_bare_10 (Nat.le_of_ble_eq_true rfl) (Nat.le_of_ble_eq_true rfl)
  · have hF := fw hF h1
    refine r_iload_n dX12_bare_4 rfl rfl ?_
    refine r_ineg dX12_bare_5 ?_
    refine r_goto (tgt := 10) dX12_bare_6 (by decide) ?_
    obtain rfl := hF
    exact r_ireturn rfl rfl dX12_bare_10 (Nat.le_of_ble_eq_true rfl) (Nat.le_of_ble_eq_true rfl)
def F_X12_kept (p1 : Int32) (p2 : Int32) : Int32 := (if (-p2) ≤ p1 then (if p1 ≤ p2 then p1 else p2) else (-p2))
set_option maxHeartbeats 4000000 in
theorem ok_X12_kept {E : GE} {T : TM} {I : IM} {J : JM} {P : PM} {p1 : Int32} {p2 : Int32} (hL : LOK T P) : Ctr E mX12_kept 0 0 0 [.int p1, .int p2] T I J P (some (.int (F_X12_kept p1 p2))) T I J P := by
  generalize hF : F_X12_kept p1 p2 = r
  unfold F_X12_kept at hF
  refine ctr_intro rfl (by decide) (Nat.le_of_ble_eq_true rfl) ?_
  refine r_sub (ls' := [(1, .int p2), (0, .int p1)]) [1, 0] rfl ?_
  refine r_iload_n dX12_kept_0 rfl rfl ?_
  refine r_iload_n dX12_kept_1 rfl rfl ?_
  refine r_ineg dX12_kept_2 ?_
  refine r_icmp_ge (tgt := 11) dX12_kept_3 (by decide) (fun h1 => ?_) (fun h1 => ?_)
  · have hF := tw hF h1
    refine r_iload_n dX12_kept_11 rfl rfl ?_
    refine r_iload_n dX12_kept_12 rfl rfl ?_
    refine r_icmp_le (tgt := 20) dX12_kept_13 (by decide) (fun h2 => ?_) (fun h2 => ?_)
    · have hF := tw hF h2
      refine r_iload_n dX12_kept_20 rfl rfl ?_
      obtain rfl := hF
      exact r_ireturn rfl rfl dX12_kept_21 (Nat.le_of_ble_eq_true rfl) (Nat.le_of_ble_eq_true rfl)
    · have hF := fw hF h2
      refine r_iload_n dX12_kept_16 rfl rfl ?_
      refine r_goto (tgt := 21) dX12_kept_17 (by decide) ?_
      obtain rfl := hF
      exact r_ireturn rfl rfl dX12_kept_21 (Nat.le_of_ble_eq_true rfl) (Nat.le_of_ble_eq_true rfl)
  · have hF := fw hF h1
    refine r_iload_n dX12_kept_6 rfl rfl ?_
    refine r_ineg dX12_kept_7 ?_
    refine r_goto (tgt := 21) dX12_kept_8 (by decide) ?_
    obtain rfl := hF
    exact r_ireturn rfl rfl dX12_kept_21 (Nat.le_of_ble_eq_true rfl) (Nat.le_of_ble_eq_true rfl)
def F_X12_isLike (p1 : Int32) (p2 : Int32) (p3 : Int32) (p4 : Int32) : Int32 := (if (F_X12_in p1 0 5) = 0 then 0 else (if (F_X12_in p2 1 99) = 0 then 0 else (if (F_X12_in p3 1 9) = 0 then 0 else (if (F_X12_in p4 (-4) 4) = 0 then 0 else 1))))
set_option maxHeartbeats 4000000 in
theorem ok_X12_isLike {E : GE} {T : TM} {I : IM} {J : JM} {P : PM} {p1 : Int32} {p2 : Int32} {p3 : Int32} {p4 : Int32} (hL : LOK T P) : Ctr E mX12_isLike 1 0 0 [.int p1, .int p2, .int p3, .int p4] T I J P (some (.int (F_X12_isLike p1 p2 p3 p4))) T I J P := by
  generalize hF : F_X12_isLike p1 p2 p3 p4 = r
  unfold F_X12_isLike at hF
  refine ctr_intro rfl (by decide) (Nat.le_of_ble_eq_true rfl) ?_
  refine r_sub (ls' := [(3, .int p4), (2, .int p3), (1, .int p2), (0, .int p1)]) [3, 2, 1, 0] rfl ?_
  refine r_iload_n dX12_isLike_0 rfl rfl ?_
  refine r_iconst (v := 0) dX12_isLike_1 (by decide) ?_
  refine r_iconst (v := 5) dX12_isLike_2 (by decide) ?_
  refine c_static_i (As := [.int p1, .int 0, .int 5]) mi_X12_in kw_1085 kw_1084 (ok_X12_in hL  (p1 := p1) (p2 := 0) (p3 := 5)) rfl rfl (Nat.le_of_ble_eq_true rfl) ⟨Nat.le_of_ble_eq_true rfl, Nat.le_of_ble_eq_true rfl⟩ ⟨Nat.le_of_ble_eq_true rfl, Nat.le_of_ble_eq_true rfl⟩ dX12_isLike_3 ?_
  refine r_if_eq (tgt := 43) dX12_isLike_6 (by decide) (fun h1 => ?_) (fun h1 => ?_)
  · have hF := tw hF h1
    refine r_iconst (v := 0) dX12_isLike_43 (by decide) ?_
    obtain rfl := hF
    exact r_ireturn rfl rfl dX12_isLike_44 (Nat.le_of_ble_eq_true rfl) (Nat.le_of_ble_eq_true rfl)
  · have hF := fw hF h1
    refine r_iload_n dX12_isLike_9 rfl rfl ?_
    refine r_iconst (v := 1) dX12_isLike_10 (by decide) ?_
    refine r_bipush (v := 99) dX12_isLike_11 (by decide) ?_
    refine c_static_i (As := [.int p2, .int 1, .int 99]) mi_X12_in kw_1085 kw_1084 (ok_X12_in hL  (p1 := p2) (p2 := 1) (p3 := 99)) rfl rfl (Nat.le_of_ble_eq_true rfl) ⟨Nat.le_of_ble_eq_true rfl, Nat.le_of_ble_eq_true rfl⟩ ⟨Nat.le_of_ble_eq_true rfl, Nat.le_of_ble_eq_true rfl⟩ dX12_isLike_13 ?_
    refine r_if_eq (tgt := 43) dX12_isLike_16 (by decide) (fun h2 => ?_) (fun h2 => ?_)
    · have hF := tw hF h2
      refine r_iconst (v := 0) dX12_isLike_43 (by decide) ?_
      obtain rfl := hF
      exact r_ireturn rfl rfl dX12_isLike_44 (Nat.le_of_ble_eq_true rfl) (Nat.le_of_ble_eq_true rfl)
    · have hF := fw hF h2
      refine r_iload_n dX12_isLike_19 rfl rfl ?_
      refine r_iconst (v := 1) dX12_isLike_20 (by decide) ?_
      refine r_bipush (v := 9) dX12_isLike_21 (by decide) ?_
      refine c_static_i (As := [.int p3, .int 1, .int 9]) mi_X12_in kw_1085 kw_1084 (ok_X12_in hL  (p1 := p3) (p2 := 1) (p3 := 9)) rfl rfl (Nat.le_of_ble_eq_true rfl) ⟨Nat.le_of_ble_eq_true rfl, Nat.le_of_ble_eq_true rfl⟩ ⟨Nat.le_of_ble_eq_true rfl, Nat.le_of_ble_eq_true rfl⟩ dX12_isLike_23 ?_
      refine r_if_eq (tgt := 43) dX12_isLike_26 (by decide) (fun h3 => ?_) (fun h3 => ?_)
      · have hF := tw hF h3
        refine r_iconst (v := 0) dX12_isLike_43 (by decide) ?_
        obtain rfl := hF
        exact r_ireturn rfl rfl dX12_isLike_44 (Nat.le_of_ble_eq_true rfl) (Nat.le_of_ble_eq_true rfl)
      · have hF := fw hF h3
        refine r_iload_n dX12_isLike_29 rfl rfl ?_
        refine r_bipush (v := (-4)) dX12_isLike_30 (by decide) ?_
        refine r_iconst (v := 4) dX12_isLike_32 (by decide) ?_
        refine c_static_i (As := [.int p4, .int (-4), .int 4]) mi_X12_in kw_1085 kw_1084 (ok_X12_in hL  (p1 := p4) (p2 := (-4)) (p3 := 4)) rfl rfl (Nat.le_of_ble_eq_true rfl) ⟨Nat.le_of_ble_eq_true rfl, Nat.le_of_ble_eq_true rfl⟩ ⟨Nat.le_of_ble_eq_true rfl, Nat.le_of_ble_eq_true rfl⟩ dX12_isLike_33 ?_
        refine r_if_eq (tgt := 43) dX12_isLike_36 (by decide) (fun h4 => ?_) (fun h4 => ?_)
        · have hF := tw hF h4
          refine r_iconst (v := 0) dX12_isLike_43 (by decide) ?_
          obtain rfl := hF
          exact r_ireturn rfl rfl dX12_isLike_44 (Nat.le_of_ble_eq_true rfl) (Nat.le_of_ble_eq_true rfl)
        · have hF := fw hF h4
          refine r_iconst (v := 1) dX12_isLike_39 (by decide) ?_
          refine r_goto (tgt := 44) dX12_isLike_40 (by decide) ?_
          obtain rfl := hF
          exact r_ireturn rfl rfl dX12_isLike_44 (Nat.le_of_ble_eq_true rfl) (Nat.le_of_ble_eq_true rfl)
theorem nz_X12_isLike (p1 : Int32) (p2 : Int32) (p3 : Int32) (p4 : Int32) : narrow .boolean (.int (F_X12_isLike p1 p2 p3 p4)) = .int (F_X12_isLike p1 p2 p3 p4) := by
  unfold F_X12_isLike
  repeat' split
  all_goals first | rfl
def F_X12_byteAt (I : IM) (p1 : Int32) : Option (Int32) := (if (I 101 8) ≤ p1 then (some (-1)) else (if inb p1 200 = true then (some (I 107 p1.toNatClampNeg)) else none))
set_option maxHeartbeats 4000000 in
theorem ok_X12_byteAt {E : GE} {T : TM} {I : IM} {J : JM} {P : PM} {p1 : Int32} {x : Int32} (hL : LOK T P) (hF : F_X12_byteAt I p1 = some x) : Ctr E mX12_byteAt 0 0 0 [.ref 101, .int p1] T I J P (some (.int x)) T I J P := by
  unfold F_X12_byteAt at hF
  refine ctr_intro rfl (by decide) (Nat.le_of_ble_eq_true rfl) ?_
  refine r_sub (ls' := [(1, .int p1), (0, .ref 101)]) [1, 0] rfl ?_
  refine r_iload_n dX12_byteAt_0 rfl rfl ?_
  refine r_aload_n dX12_byteAt_1 rfl rfl ?_
  refine r_getI lk_X12_88 (ln_101 hL) dX12_byteAt_2 ?_
  refine r_icmp_ge (tgt := 17) dX12_byteAt_5 (by decide) (fun h1 => ?_) (fun h1 => ?_)
  · have hF := tw hF h1
    refine r_iconst (v := (-1)) dX12_byteAt_17 (by decide) ?_
    obtain rfl := Option.some.inj hF
    exact r_ireturn rfl rfl dX12_byteAt_18 (Nat.le_of_ble_eq_true rfl) (Nat.le_of_ble_eq_true rfl)
  · have hF := fw hF h1
    refine r_aload_n dX12_byteAt_8 rfl rfl ?_
    refine r_getP lk_X12_29 (ln_101 hL) (pp_101_7 hL) dX12_byteAt_9 ?_
    refine r_iload_n dX12_byteAt_12 rfl rfl ?_
    obtain ⟨g2, hF⟩ := gd hF
    refine r_iald (ln_107 hL) (by rw [(nl_107 hL)]; exact g2) dX12_byteAt_13 ?_
    refine r_goto (tgt := 18) dX12_byteAt_14 (by decide) ?_
    obtain rfl := Option.some.inj hF
    exact r_ireturn rfl rfl dX12_byteAt_18 (Nat.le_of_ble_eq_true rfl) (Nat.le_of_ble_eq_true rfl)
def F_X12_isLetter (p1 : Int32) : Int32 := (F_X12_in p1 97 122)
set_option maxHeartbeats 4000000 in
theorem ok_X12_isLetter {E : GE} {T : TM} {I : IM} {J : JM} {P : PM} {p1 : Int32} (hL : LOK T P) : Ctr E mX12_isLetter 1 0 0 [.int p1] T I J P (some (.int (F_X12_isLetter p1))) T I J P := by
  generalize hF : F_X12_isLetter p1 = r
  unfold F_X12_isLetter at hF
  refine ctr_intro rfl (by decide) (Nat.le_of_ble_eq_true rfl) ?_
  refine r_sub (ls' := [(0, .int p1)]) [0] rfl ?_
  refine r_iload_n dX12_isLetter_0 rfl rfl ?_
  refine r_bipush (v := 97) dX12_isLetter_1 (by decide) ?_
  refine r_bipush (v := 122) dX12_isLetter_3 (by decide) ?_
  refine c_static_i (As := [.int p1, .int 97, .int 122]) mi_X12_in kw_1085 kw_1084 (ok_X12_in hL  (p1 := p1) (p2 := 97) (p3 := 122)) rfl rfl (Nat.le_of_ble_eq_true rfl) ⟨Nat.le_of_ble_eq_true rfl, Nat.le_of_ble_eq_true rfl⟩ ⟨Nat.le_of_ble_eq_true rfl, Nat.le_of_ble_eq_true rfl⟩ dX12_isLetter_5 ?_
  obtain rfl := hF
  exact r_ireturn rfl (nz_X12_in p1 97 122) dX12_isLetter_8 (Nat.le_of_ble_eq_true rfl) (Nat.le_of_ble_eq_true rfl)
theorem nz_X12_isLetter (p1 : Int32) : narrow .boolean (.int (F_X12_isLetter p1)) = .int (F_X12_isLetter p1) := by
  unfold F_X12_isLetter
  repeat' split
  all_goals first | rfl | exact nz_X12_in ..
def F_X12_isDigit (p1 : Int32) : Int32 := (F_X12_in p1 48 57)
set_option maxHeartbeats 4000000 in
theorem ok_X12_isDigit {E : GE} {T : TM} {I : IM} {J : JM} {P : PM} {p1 : Int32} (hL : LOK T P) : Ctr E mX12_isDigit 1 0 0 [.int p1] T I J P (some (.int (F_X12_isDigit p1))) T I J P := by
  generalize hF : F_X12_isDigit p1 = r
  unfold F_X12_isDigit at hF
  refine ctr_intro rfl (by decide) (Nat.le_of_ble_eq_true rfl) ?_
  refine r_sub (ls' := [(0, .int p1)]) [0] rfl ?_
  refine r_iload_n dX12_isDigit_0 rfl rfl ?_
  refine r_bipush (v := 48) dX12_isDigit_1 (by decide) ?_
  refine r_bipush (v := 57) dX12_isDigit_3 (by decide) ?_
  refine c_static_i (As := [.int p1, .int 48, .int 57]) mi_X12_in kw_1085 kw_1084 (ok_X12_in hL  (p1 := p1) (p2 := 48) (p3 := 57)) rfl rfl (Nat.le_of_ble_eq_true rfl) ⟨Nat.le_of_ble_eq_true rfl, Nat.le_of_ble_eq_true rfl⟩ ⟨Nat.le_of_ble_eq_true rfl, Nat.le_of_ble_eq_true rfl⟩ dX12_isDigit_5 ?_
  obtain rfl := hF
  exact r_ireturn rfl (nz_X12_in p1 48 57) dX12_isDigit_8 (Nat.le_of_ble_eq_true rfl) (Nat.le_of_ble_eq_true rfl)
theorem nz_X12_isDigit (p1 : Int32) : narrow .boolean (.int (F_X12_isDigit p1)) = .int (F_X12_isDigit p1) := by
  unfold F_X12_isDigit
  repeat' split
  all_goals first | rfl | exact nz_X12_in ..
def G_X12_feed_30 (N : Nat) (u1 : Int64) (u3 : Int32) : Nat → Int32 → IM → Option (Int32 × IM)
  | 0, _, _ => none
  | n + 1, u4, Iv => (if u3 ≤ u4 then (some ((Iv 101 8), Iv)) else (if inb (Iv 101 8) 200 = true then (letb (up2 Iv 107 (Iv 101 8).toNatClampNeg (Int64.toInt32 ((u1 >>> (Int32.toInt64 (8 * u4) &&& 63)) &&& 255))) (fun I5 : IM => (letb (up2 I5 101 8 ((I5 101 8) + 1)) (fun I6 : IM => (G_X12_feed_30 N u1 u3 n (u4 + 1) I6))))) else none))
set_option maxHeartbeats 4000000 in
theorem okG_X12_feed_30 {E : GE} {T : TM} {J : JM} {P : PM} {N : Nat} {u1 : Int64} {u3 : Int32} {x : Int32 × IM} (hL : LOK T P) : ∀ (n : Nat) (u4 : Int32) (Iv : IM), G_X12_feed_30 N u1 u3 n u4 Iv = some x → WW E mX12_feed (RM 1 0 0) (ZM E 0 0 (some (.int x.1)) T x.2 J P) 0 0 T Iv J P 30 [(0, .ref 101), (1, .long u1), (3, .int u3), (4, .int u4)] [] := by
  intro n
  induction n with
  | zero =>
    intro u4 Iv hF
    cases hF
  | succ n ih =>
    intro u4 Iv hF
    rw [G_X12_feed_30] at hF
    refine r_iload dX12_feed_30 rfl ?_
    refine r_iload_n dX12_feed_32 rfl rfl ?_
    refine r_icmp_ge (tgt := 73) dX12_feed_33 (by decide) (fun h3 => ?_) (fun h3 => ?_)
    · have hF := tw hF h3
      refine r_aload_n dX12_feed_73 rfl rfl ?_
      refine r_getI lk_X12_88 (ln_101 hL) dX12_feed_74 ?_
      obtain rfl := Option.some.inj hF
      exact r_ireturn rfl rfl dX12_feed_77 (Nat.le_of_ble_eq_true rfl) (Nat.le_of_ble_eq_true rfl)
    · have hF := fw hF h3
      refine r_aload_n dX12_feed_36 rfl rfl ?_
      refine r_getP lk_X12_29 (ln_101 hL) (pp_101_7 hL) dX12_feed_37 ?_
      refine r_aload_n dX12_feed_40 rfl rfl ?_
      refine r_getI lk_X12_88 (ln_101 hL) dX12_feed_41 ?_
      refine r_lload_n dX12_feed_44 rfl rfl ?_
      refine r_bipush (v := 8) dX12_feed_45 (by decide) ?_
      refine r_iload dX12_feed_47 rfl ?_
      refine r_imul dX12_feed_49 ?_
      refine r_lshr dX12_feed_50 ?_
      refine r_ldc2 dX12_feed_51 kw_1087 ?_
      refine r_land dX12_feed_54 ?_
      refine r_l2i dX12_feed_55 ?_
      obtain ⟨g4, hF⟩ := gd hF
      refine r_iast (ln_107 hL) (by rw [(nl_107 hL)]; exact g4) dX12_feed_56 ?_
      refine r_letI hF (fun I5 hF => ?_)
      refine r_aload_n dX12_feed_57 rfl rfl ?_
      refine r_dup dX12_feed_58 rfl ?_
      refine r_getI lk_X12_88 (ln_101 hL) dX12_feed_59 ?_
      refine r_iconst (v := 1) dX12_feed_62 (by decide) ?_
      refine r_iadd dX12_feed_63 ?_
      refine r_putI lk_X12_88 (Or.inl rfl) (ln_101 hL) rfl rfl dX12_feed_64 ?_
      refine r_letI hF (fun I6 hF => ?_)
      refine r_iinc (v := (u4 + 1)) (ls' := [(4, .int (u4 + 1)), (0, .ref 101), (1, .long u1), (3, .int u3)]) dX12_feed_67 rfl rfl (by decide) rfl ?_
      refine r_goto (tgt := 30) dX12_feed_70 (by decide) ?_
      refine r_sub (ls' := [(0, .ref 101), (1, .long u1), (3, .int u3), (4, .int (u4 + 1))]) [1, 2, 3, 0] rfl ?_
      exact ih (u4 + 1) I6 hF
def F_X12_feed (N : Nat) (I : IM) (p1 : Int64) (p2 : Int32) : Option (Int32 × IM) := (if (F_X12_in p2 1 8) = 0 then (some ((-1), I)) else (if ((I 101 8) + p2) ≤ 200 then (G_X12_feed_30 N p1 p2 N 0 I) else (some ((-2), I))))
set_option maxHeartbeats 4000000 in
theorem ok_X12_feed {E : GE} {T : TM} {I : IM} {J : JM} {P : PM} {p1 : Int64} {p2 : Int32} {N : Nat} {x : Int32 × IM} (hL : LOK T P) (hF : F_X12_feed N I p1 p2 = some x) : Ctr E mX12_feed 1 0 0 [.ref 101, .long p1, .int p2] T I J P (some (.int x.1)) T x.2 J P := by
  unfold F_X12_feed at hF
  refine ctr_intro rfl (by decide) (Nat.le_of_ble_eq_true rfl) ?_
  refine r_sub (ls' := [(3, .int p2), (1, .long p1), (0, .ref 101)]) [2, 1, 0] rfl ?_
  refine r_iload_n dX12_feed_0 rfl rfl ?_
  refine r_iconst (v := 1) dX12_feed_1 (by decide) ?_
  refine r_bipush (v := 8) dX12_feed_2 (by decide) ?_
  refine c_static_i (As := [.int p2, .int 1, .int 8]) mi_X12_in kw_1085 kw_1084 (ok_X12_in hL  (p1 := p2) (p2 := 1) (p3 := 8)) rfl rfl (Nat.le_of_ble_eq_true rfl) ⟨Nat.le_of_ble_eq_true rfl, Nat.le_of_ble_eq_true rfl⟩ ⟨Nat.le_of_ble_eq_true rfl, Nat.le_of_ble_eq_true rfl⟩ dX12_feed_4 ?_
  refine r_if_ne (tgt := 12) dX12_feed_7 (by decide) (fun h1 => ?_) (fun h1 => ?_)
  · have hF := fw hF h1
    refine r_aload_n dX12_feed_12 rfl rfl ?_
    refine r_getI lk_X12_88 (ln_101 hL) dX12_feed_13 ?_
    refine r_iload_n dX12_feed_16 rfl rfl ?_
    refine r_iadd dX12_feed_17 ?_
    refine r_sipush (v := 200) dX12_feed_18 (by decide) ?_
    refine r_icmp_le (tgt := 27) dX12_feed_21 (by decide) (fun h2 => ?_) (fun h2 => ?_)
    · have hF := tw hF h2
      refine r_iconst (v := 0) dX12_feed_27 (by decide) ?_
      refine r_istore (ls' := [(4, .int 0), (3, .int p2), (1, .long p1), (0, .ref 101)]) dX12_feed_28 (by decide) rfl ?_
      refine r_sub (ls' := [(0, .ref 101), (1, .long p1), (3, .int p2), (4, .int 0)]) [3, 2, 1, 0] rfl ?_
      exact okG_X12_feed_30 hL   N 0 I hF
    · have hF := fw hF h2
      refine r_bipush (v := (-2)) dX12_feed_24 (by decide) ?_
      obtain rfl := Option.some.inj hF
      exact r_ireturn rfl rfl dX12_feed_26 (Nat.le_of_ble_eq_true rfl) (Nat.le_of_ble_eq_true rfl)
  · have hF := tw hF h1
    refine r_iconst (v := (-1)) dX12_feed_10 (by decide) ?_
    obtain rfl := Option.some.inj hF
    exact r_ireturn rfl rfl dX12_feed_11 (Nat.le_of_ble_eq_true rfl) (Nat.le_of_ble_eq_true rfl)
def G_X12_handMany_4 (N : Nat) (I : IM) : Nat → Int32 → Int32 → Option (Int32)
  | 0, _, _ => none
  | n + 1, u1, u2 => (if 5 ≤ u2 then (some u1) else (if inb u2 5 = true then (letb (u1 + (I 104 u2.toNatClampNeg)) (fun y3 : Int32 => (G_X12_handMany_4 N I n y3 (u2 + 1)))) else none))
set_option maxHeartbeats 4000000 in
theorem okG_X12_handMany_4 {E : GE} {T : TM} {I : IM} {J : JM} {P : PM} {N : Nat} {x : Int32} (hL : LOK T P) : ∀ (n : Nat) (u1 : Int32) (u2 : Int32), G_X12_handMany_4 N I n u1 u2 = some x → WW E mX12_handMany (RM 0 0 0) (ZM E 0 0 (some (.int x)) T I J P) 0 0 T I J P 4 [(0, .ref 101), (1, .int u1), (2, .int u2)] [] := by
  intro n
  induction n with
  | zero =>
    intro u1 u2 hF
    cases hF
  | succ n ih =>
    intro u1 u2 hF
    rw [G_X12_handMany_4] at hF
    refine r_iload_n dX12_handMany_4 rfl rfl ?_
    refine r_iconst (v := 5) dX12_handMany_5 (by decide) ?_
    refine r_icmp_ge (tgt := 24) dX12_handMany_6 (by decide) (fun h1 => ?_) (fun h1 => ?_)
    · have hF := tw hF h1
      refine r_iload_n dX12_handMany_24 rfl rfl ?_
      obtain rfl := Option.some.inj hF
      exact r_ireturn rfl rfl dX12_handMany_25 (Nat.le_of_ble_eq_true rfl) (Nat.le_of_ble_eq_true rfl)
    · have hF := fw hF h1
      refine r_iload_n dX12_handMany_9 rfl rfl ?_
      refine r_aload_n dX12_handMany_10 rfl rfl ?_
      refine r_getP lk_X12_16 (ln_101 hL) (pp_101_3 hL) dX12_handMany_11 ?_
      refine r_iload_n dX12_handMany_14 rfl rfl ?_
      obtain ⟨g2, hF⟩ := gd hF
      refine r_iald (ln_104 hL) (by rw [(nl_104 hL)]; exact g2) dX12_handMany_15 ?_
      refine r_iadd dX12_handMany_16 ?_
      refine r_letV hF (fun y3 hF => ?_)
      refine r_istore_n (ls' := [(1, .int y3), (0, .ref 101), (2, .int u2)]) dX12_handMany_17 rfl (by decide) rfl ?_
      refine r_iinc (v := (u2 + 1)) (ls' := [(2, .int (u2 + 1)), (1, .int y3), (0, .ref 101)]) dX12_handMany_18 rfl rfl (by decide) rfl ?_
      refine r_goto (tgt := 4) dX12_handMany_21 (by decide) ?_
      refine r_sub (ls' := [(0, .ref 101), (1, .int y3), (2, .int (u2 + 1))]) [2, 1, 0] rfl ?_
      exact ih y3 (u2 + 1) hF
def F_X12_handMany (N : Nat) (I : IM) : Option (Int32) := (G_X12_handMany_4 N I N 0 0)
set_option maxHeartbeats 4000000 in
theorem ok_X12_handMany {E : GE} {T : TM} {I : IM} {J : JM} {P : PM} {N : Nat} {x : Int32} (hL : LOK T P) (hF : F_X12_handMany N I = some x) : Ctr E mX12_handMany 0 0 0 [.ref 101] T I J P (some (.int x)) T I J P := by
  unfold F_X12_handMany at hF
  refine ctr_intro rfl (by decide) (Nat.le_of_ble_eq_true rfl) ?_
  refine r_sub (ls' := [(0, .ref 101)]) [0] rfl ?_
  refine r_iconst (v := 0) dX12_handMany_0 (by decide) ?_
  refine r_istore_n (ls' := [(1, .int 0), (0, .ref 101)]) dX12_handMany_1 rfl (by decide) rfl ?_
  refine r_iconst (v := 0) dX12_handMany_2 (by decide) ?_
  refine r_istore_n (ls' := [(2, .int 0), (1, .int 0), (0, .ref 101)]) dX12_handMany_3 rfl (by decide) rfl ?_
  refine r_sub (ls' := [(0, .ref 101), (1, .int 0), (2, .int 0)]) [2, 1, 0] rfl ?_
  exact okG_X12_handMany_4 hL   N 0 0 hF
def F_X12_sineOf (I : IM) (p1 : Int32) : Option (Int32) := (if p1 ≤ 18 then (if p1 ≤ 9 then (if inb p1 10 = true then (letb (I 105 p1.toNatClampNeg) (fun y4 : Int32 => (if p1 ≤ 18 then (some y4) else (some (-y4))))) else none) else (if inb (18 - p1) 10 = true then (letb (I 105 (18 - p1).toNatClampNeg) (fun y7 : Int32 => (if p1 ≤ 18 then (some y7) else (some (-y7))))) else none)) else (letb (p1 - 18) (fun y9 : Int32 => (if y9 ≤ 9 then (if inb y9 10 = true then (letb (I 105 y9.toNatClampNeg) (fun y12 : Int32 => (if p1 ≤ 18 then (some y12) else (some (-y12))))) else none) else (if inb (18 - y9) 10 = true then (letb (I 105 (18 - y9).toNatClampNeg) (fun y15 : Int32 => (if p1 ≤ 18 then (some y15) else (some (-y15))))) else none)))))
set_option maxHeartbeats 4000000 in
theorem ok_X12_sineOf {E : GE} {T : TM} {I : IM} {J : JM} {P : PM} {p1 : Int32} {x : Int32} (hL : LOK T P) (hF : F_X12_sineOf I p1 = some x) : Ctr E mX12_sineOf 0 0 0 [.ref 101, .int p1] T I J P (some (.int x)) T I J P := by
  unfold F_X12_sineOf at hF
  refine ctr_intro rfl (by decide) (Nat.le_of_ble_eq_true rfl) ?_
  refine r_sub (ls' := [(1, .int p1), (0, .ref 101)]) [1, 0] rfl ?_
  refine r_iload_n dX12_sineOf_0 rfl rfl ?_
  refine r_bipush (v := 18) dX12_sineOf_1 (by decide) ?_
  refine r_icmp_le (tgt := 13) dX12_sineOf_3 (by decide) (fun h1 => ?_) (fun h1 => ?_)
  · have hF := tw hF h1
    refine r_iload_n dX12_sineOf_13 rfl rfl ?_
    refine r_istore_n (ls' := [(2, .int p1), (1, .int p1), (0, .ref 101)]) dX12_sineOf_14 rfl (by decide) rfl ?_
    refine r_aload_n dX12_sineOf_15 rfl rfl ?_
    refine r_getP lk_X12_19 (ln_101 hL) (pp_101_4 hL) dX12_sineOf_16 ?_
    refine r_iload_n dX12_sineOf_19 rfl rfl ?_
    refine r_bipush (v := 9) dX12_sineOf_20 (by decide) ?_
    refine r_icmp_le (tgt := 32) dX12_sineOf_22 (by decide) (fun h2 => ?_) (fun h2 => ?_)
    · have hF := tw hF h2
      refine r_iload_n dX12_sineOf_32 rfl rfl ?_
      obtain ⟨g3, hF⟩ := gd hF
      refine r_iald (ln_105 hL) (by rw [(nl_105 hL)]; exact g3) dX12_sineOf_33 ?_
      refine r_letV hF (fun y4 hF => ?_)
      refine r_istore_n (ls' := [(3, .int y4), (2, .int p1), (1, .int p1), (0, .ref 101)]) dX12_sineOf_34 rfl (by decide) rfl ?_
      refine r_iload_n dX12_sineOf_35 rfl rfl ?_
      refine r_bipush (v := 18) dX12_sineOf_36 (by decide) ?_
      refine r_icmp_le (tgt := 46) dX12_sineOf_38 (by decide) (fun h5 => ?_) (fun h5 => ?_)
      · have hF := tw hF h5
        refine r_iload_n dX12_sineOf_46 rfl rfl ?_
        obtain rfl := Option.some.inj hF
        exact r_ireturn rfl rfl dX12_sineOf_47 (Nat.le_of_ble_eq_true rfl) (Nat.le_of_ble_eq_true rfl)
      · have hF := fw hF h5
        refine r_iload_n dX12_sineOf_41 rfl rfl ?_
        refine r_ineg dX12_sineOf_42 ?_
        refine r_goto (tgt := 47) dX12_sineOf_43 (by decide) ?_
        obtain rfl := Option.some.inj hF
        exact r_ireturn rfl rfl dX12_sineOf_47 (Nat.le_of_ble_eq_true rfl) (Nat.le_of_ble_eq_true rfl)
    · have hF := fw hF h2
      refine r_bipush (v := 18) dX12_sineOf_25 (by decide) ?_
      refine r_iload_n dX12_sineOf_27 rfl rfl ?_
      refine r_isub dX12_sineOf_28 ?_
      refine r_goto (tgt := 33) dX12_sineOf_29 (by decide) ?_
      obtain ⟨g6, hF⟩ := gd hF
      refine r_iald (ln_105 hL) (by rw [(nl_105 hL)]; exact g6) dX12_sineOf_33 ?_
      refine r_letV hF (fun y7 hF => ?_)
      refine r_istore_n (ls' := [(3, .int y7), (2, .int p1), (1, .int p1), (0, .ref 101)]) dX12_sineOf_34 rfl (by decide) rfl ?_
      refine r_iload_n dX12_sineOf_35 rfl rfl ?_
      refine r_bipush (v := 18) dX12_sineOf_36 (by decide) ?_
      refine r_icmp_le (tgt := 46) dX12_sineOf_38 (by decide) (fun h8 => ?_) (fun h8 => ?_)
      · have hF := tw hF h8
        refine r_iload_n dX12_sineOf_46 rfl rfl ?_
        obtain rfl := Option.some.inj hF
        exact r_ireturn rfl rfl dX12_sineOf_47 (Nat.le_of_ble_eq_true rfl) (Nat.le_of_ble_eq_true rfl)
      · have hF := fw hF h8
        refine r_iload_n dX12_sineOf_41 rfl rfl ?_
        refine r_ineg dX12_sineOf_42 ?_
        refine r_goto (tgt := 47) dX12_sineOf_43 (by decide) ?_
        obtain rfl := Option.some.inj hF
        exact r_ireturn rfl rfl dX12_sineOf_47 (Nat.le_of_ble_eq_true rfl) (Nat.le_of_ble_eq_true rfl)
  · have hF := fw hF h1
    refine r_iload_n dX12_sineOf_6 rfl rfl ?_
    refine r_bipush (v := 18) dX12_sineOf_7 (by decide) ?_
    refine r_isub dX12_sineOf_9 ?_
    refine r_goto (tgt := 14) dX12_sineOf_10 (by decide) ?_
    refine r_letV hF (fun y9 hF => ?_)
    refine r_istore_n (ls' := [(2, .int y9), (1, .int p1), (0, .ref 101)]) dX12_sineOf_14 rfl (by decide) rfl ?_
    refine r_aload_n dX12_sineOf_15 rfl rfl ?_
    refine r_getP lk_X12_19 (ln_101 hL) (pp_101_4 hL) dX12_sineOf_16 ?_
    refine r_iload_n dX12_sineOf_19 rfl rfl ?_
    refine r_bipush (v := 9) dX12_sineOf_20 (by decide) ?_
    refine r_icmp_le (tgt := 32) dX12_sineOf_22 (by decide) (fun h10 => ?_) (fun h10 => ?_)
    · have hF := tw hF h10
      refine r_iload_n dX12_sineOf_32 rfl rfl ?_
      obtain ⟨g11, hF⟩ := gd hF
      refine r_iald (ln_105 hL) (by rw [(nl_105 hL)]; exact g11) dX12_sineOf_33 ?_
      refine r_letV hF (fun y12 hF => ?_)
      refine r_istore_n (ls' := [(3, .int y12), (2, .int y9), (1, .int p1), (0, .ref 101)]) dX12_sineOf_34 rfl (by decide) rfl ?_
      refine r_iload_n dX12_sineOf_35 rfl rfl ?_
      refine r_bipush (v := 18) dX12_sineOf_36 (by decide) ?_
      refine r_icmp_le (tgt := 46) dX12_sineOf_38 (by decide) (fun h13 => ?_) (fun h13 => ?_)
      · have hF := tw hF h13
        refine r_iload_n dX12_sineOf_46 rfl rfl ?_
        obtain rfl := Option.some.inj hF
        exact r_ireturn rfl rfl dX12_sineOf_47 (Nat.le_of_ble_eq_true rfl) (Nat.le_of_ble_eq_true rfl)
      · have hF := fw hF h13
        refine r_iload_n dX12_sineOf_41 rfl rfl ?_
        refine r_ineg dX12_sineOf_42 ?_
        refine r_goto (tgt := 47) dX12_sineOf_43 (by decide) ?_
        obtain rfl := Option.some.inj hF
        exact r_ireturn rfl rfl dX12_sineOf_47 (Nat.le_of_ble_eq_true rfl) (Nat.le_of_ble_eq_true rfl)
    · have hF := fw hF h10
      refine r_bipush (v := 18) dX12_sineOf_25 (by decide) ?_
      refine r_iload_n dX12_sineOf_27 rfl rfl ?_
      refine r_isub dX12_sineOf_28 ?_
      refine r_goto (tgt := 33) dX12_sineOf_29 (by decide) ?_
      obtain ⟨g14, hF⟩ := gd hF
      refine r_iald (ln_105 hL) (by rw [(nl_105 hL)]; exact g14) dX12_sineOf_33 ?_
      refine r_letV hF (fun y15 hF => ?_)
      refine r_istore_n (ls' := [(3, .int y15), (2, .int y9), (1, .int p1), (0, .ref 101)]) dX12_sineOf_34 rfl (by decide) rfl ?_
      refine r_iload_n dX12_sineOf_35 rfl rfl ?_
      refine r_bipush (v := 18) dX12_sineOf_36 (by decide) ?_
      refine r_icmp_le (tgt := 46) dX12_sineOf_38 (by decide) (fun h16 => ?_) (fun h16 => ?_)
      · have hF := tw hF h16
        refine r_iload_n dX12_sineOf_46 rfl rfl ?_
        obtain rfl := Option.some.inj hF
        exact r_ireturn rfl rfl dX12_sineOf_47 (Nat.le_of_ble_eq_true rfl) (Nat.le_of_ble_eq_true rfl)
      · have hF := fw hF h16
        refine r_iload_n dX12_sineOf_41 rfl rfl ?_
        refine r_ineg dX12_sineOf_42 ?_
        refine r_goto (tgt := 47) dX12_sineOf_43 (by decide) ?_
        obtain rfl := Option.some.inj hF
        exact r_ireturn rfl rfl dX12_sineOf_47 (Nat.le_of_ble_eq_true rfl) (Nat.le_of_ble_eq_true rfl)
def F_X12_cosineOf (I : IM) (p1 : Int32) : Option (Int32) := ((F_X12_sineOf I ((p1 + 9) - (p1 + 9) / 36 * 36)).bind (fun x1 => (some x1)))
set_option maxHeartbeats 4000000 in
theorem ok_X12_cosineOf {E : GE} {T : TM} {I : IM} {J : JM} {P : PM} {p1 : Int32} {x : Int32} (hL : LOK T P) (hF : F_X12_cosineOf I p1 = some x) : Ctr E mX12_cosineOf 1 0 0 [.ref 101, .int p1] T I J P (some (.int x)) T I J P := by
  unfold F_X12_cosineOf at hF
  refine ctr_intro rfl (by decide) (Nat.le_of_ble_eq_true rfl) ?_
  refine r_sub (ls' := [(1, .int p1), (0, .ref 101)]) [1, 0] rfl ?_
  refine r_aload_n dX12_cosineOf_0 rfl rfl ?_
  refine r_iload_n dX12_cosineOf_1 rfl rfl ?_
  refine r_bipush (v := 9) dX12_cosineOf_2 (by decide) ?_
  refine r_iadd dX12_cosineOf_4 ?_
  refine r_bipush (v := 36) dX12_cosineOf_5 (by decide) ?_
  refine r_irem dX12_cosineOf_7 (by decide) ?_
  obtain ⟨x1, hx1, hF⟩ := bnd hF
  refine c_virt_i (As := [.int ((p1 + 9) - (p1 + 9) / 36 * 36)]) mi_X12_sineOf kw_1200 ks_38 kw_1198 rfl (by decide) (ln_101 hL) (ok_X12_sineOf hL  hx1) rfl rfl (Nat.le_of_ble_eq_true rfl) ⟨Nat.le_of_ble_eq_true rfl, Nat.le_of_ble_eq_true rfl⟩ ⟨Nat.le_of_ble_eq_true rfl, Nat.le_of_ble_eq_true rfl⟩ dX12_cosineOf_8 ?_
  obtain rfl := Option.some.inj hF
  exact r_ireturn rfl rfl dX12_cosineOf_11 (Nat.le_of_ble_eq_true rfl) (Nat.le_of_ble_eq_true rfl)
def F_X12_lends (I : IM) (p1 : Int32) (p2 : Int32) (p3 : Int32) (p4 : Int32) : Option (IM) := ((F_X12_its I p1 0).bind (fun x1 => (letb (up2 I 101 19 x1) (fun I2 : IM => ((F_X12_its I2 p1 1).bind (fun x3 => (letb (up2 I2 101 20 x3) (fun I4 : IM => ((F_X12_its I4 p1 2).bind (fun x5 => (letb (up2 I4 101 21 x5) (fun I6 : IM => ((F_X12_its I6 p1 3).bind (fun x7 => (letb (up2 I6 101 22 x7) (fun I8 : IM => (letb (up2 I8 101 23 0) (fun I9 : IM => (letb (up2 I9 101 24 0) (fun I10 : IM => (letb (up2 I10 101 25 p2) (fun I11 : IM => (letb (up2 I11 101 26 p3) (fun I12 : IM => (letb (up2 I12 101 27 p4) (fun I13 : IM => (letb (up2 I13 101 28 0) (fun I14 : IM => (letb (up2 I14 101 29 0) (fun I15 : IM => (letb (up2 I15 101 30 0) (fun I16 : IM => (letb (up2 I16 101 31 0) (fun I17 : IM => (some I17)))))))))))))))))))))))))))))))))))
set_option maxHeartbeats 4000000 in
theorem ok_X12_lends {E : GE} {T : TM} {I : IM} {J : JM} {P : PM} {p1 : Int32} {p2 : Int32} {p3 : Int32} {p4 : Int32} {x : IM} (hL : LOK T P) (hF : F_X12_lends I p1 p2 p3 p4 = some x) : Ctr E mX12_lends 1 0 0 [.ref 101, .int p1, .int p2, .int p3, .int p4] T I J P none T x J P := by
  unfold F_X12_lends at hF
  refine ctr_intro rfl (by decide) (Nat.le_of_ble_eq_true rfl) ?_
  refine r_sub (ls' := [(4, .int p4), (3, .int p3), (2, .int p2), (1, .int p1), (0, .ref 101)]) [4, 3, 2, 1, 0] rfl ?_
  refine r_aload_n dX12_lends_0 rfl rfl ?_
  refine r_aload_n dX12_lends_1 rfl rfl ?_
  refine r_iload_n dX12_lends_2 rfl rfl ?_
  refine r_iconst (v := 0) dX12_lends_3 (by decide) ?_
  obtain ⟨x1, hx1, hF⟩ := bnd hF
  refine c_virt_i (As := [.int p1, .int 0]) mi_X12_its kw_1177 ks_36 kw_1175 rfl (by decide) (ln_101 hL) (ok_X12_its hL  hx1) rfl rfl (Nat.le_of_ble_eq_true rfl) ⟨Nat.le_of_ble_eq_true rfl, Nat.le_of_ble_eq_true rfl⟩ ⟨Nat.le_of_ble_eq_true rfl, Nat.le_of_ble_eq_true rfl⟩ dX12_lends_4 ?_
  refine r_putI lk_X12_220 (Or.inl rfl) (ln_101 hL) rfl rfl dX12_lends_7 ?_
  refine r_letI hF (fun I2 hF => ?_)
  refine r_aload_n dX12_lends_10 rfl rfl ?_
  refine r_aload_n dX12_lends_11 rfl rfl ?_
  refine r_iload_n dX12_lends_12 rfl rfl ?_
  refine r_iconst (v := 1) dX12_lends_13 (by decide) ?_
  obtain ⟨x3, hx3, hF⟩ := bnd hF
  refine c_virt_i (As := [.int p1, .int 1]) mi_X12_its kw_1177 ks_36 kw_1175 rfl (by decide) (ln_101 hL) (ok_X12_its hL  hx3) rfl rfl (Nat.le_of_ble_eq_true rfl) ⟨Nat.le_of_ble_eq_true rfl, Nat.le_of_ble_eq_true rfl⟩ ⟨Nat.le_of_ble_eq_true rfl, Nat.le_of_ble_eq_true rfl⟩ dX12_lends_14 ?_
  refine r_putI lk_X12_223 (Or.inl rfl) (ln_101 hL) rfl rfl dX12_lends_17 ?_
  refine r_letI hF (fun I4 hF => ?_)
  refine r_aload_n dX12_lends_20 rfl rfl ?_
  refine r_aload_n dX12_lends_21 rfl rfl ?_
  refine r_iload_n dX12_lends_22 rfl rfl ?_
  refine r_iconst (v := 2) dX12_lends_23 (by decide) ?_
  obtain ⟨x5, hx5, hF⟩ := bnd hF
  refine c_virt_i (As := [.int p1, .int 2]) mi_X12_its kw_1177 ks_36 kw_1175 rfl (by decide) (ln_101 hL) (ok_X12_its hL  hx5) rfl rfl (Nat.le_of_ble_eq_true rfl) ⟨Nat.le_of_ble_eq_true rfl, Nat.le_of_ble_eq_true rfl⟩ ⟨Nat.le_of_ble_eq_true rfl, Nat.le_of_ble_eq_true rfl⟩ dX12_lends_24 ?_
  refine r_putI lk_X12_226 (Or.inl rfl) (ln_101 hL) rfl rfl dX12_lends_27 ?_
  refine r_letI hF (fun I6 hF => ?_)
  refine r_aload_n dX12_lends_30 rfl rfl ?_
  refine r_aload_n dX12_lends_31 rfl rfl ?_
  refine r_iload_n dX12_lends_32 rfl rfl ?_
  refine r_iconst (v := 3) dX12_lends_33 (by decide) ?_
  obtain ⟨x7, hx7, hF⟩ := bnd hF
  refine c_virt_i (As := [.int p1, .int 3]) mi_X12_its kw_1177 ks_36 kw_1175 rfl (by decide) (ln_101 hL) (ok_X12_its hL  hx7) rfl rfl (Nat.le_of_ble_eq_true rfl) ⟨Nat.le_of_ble_eq_true rfl, Nat.le_of_ble_eq_true rfl⟩ ⟨Nat.le_of_ble_eq_true rfl, Nat.le_of_ble_eq_true rfl⟩ dX12_lends_34 ?_
  refine r_putI lk_X12_229 (Or.inl rfl) (ln_101 hL) rfl rfl dX12_lends_37 ?_
  refine r_letI hF (fun I8 hF => ?_)
  refine r_aload_n dX12_lends_40 rfl rfl ?_
  refine r_iconst (v := 0) dX12_lends_41 (by decide) ?_
  refine r_putI lk_X12_232 (Or.inl rfl) (ln_101 hL) rfl rfl dX12_lends_42 ?_
  refine r_letI hF (fun I9 hF => ?_)
  refine r_aload_n dX12_lends_45 rfl rfl ?_
  refine r_iconst (v := 0) dX12_lends_46 (by decide) ?_
  refine r_putI lk_X12_235 (Or.inl rfl) (ln_101 hL) rfl rfl dX12_lends_47 ?_
  refine r_letI hF (fun I10 hF => ?_)
  refine r_aload_n dX12_lends_50 rfl rfl ?_
  refine r_iload_n dX12_lends_51 rfl rfl ?_
  refine r_putI lk_X12_238 (Or.inl rfl) (ln_101 hL) rfl rfl dX12_lends_52 ?_
  refine r_letI hF (fun I11 hF => ?_)
  refine r_aload_n dX12_lends_55 rfl rfl ?_
  refine r_iload_n dX12_lends_56 rfl rfl ?_
  refine r_putI lk_X12_241 (Or.inl rfl) (ln_101 hL) rfl rfl dX12_lends_57 ?_
  refine r_letI hF (fun I12 hF => ?_)
  refine r_aload_n dX12_lends_60 rfl rfl ?_
  refine r_iload dX12_lends_61 rfl ?_
  refine r_putI lk_X12_244 (Or.inl rfl) (ln_101 hL) rfl rfl dX12_lends_63 ?_
  refine r_letI hF (fun I13 hF => ?_)
  refine r_aload_n dX12_lends_66 rfl rfl ?_
  refine r_iconst (v := 0) dX12_lends_67 (by decide) ?_
  refine r_putI lk_X12_247 (Or.inl rfl) (ln_101 hL) rfl rfl dX12_lends_68 ?_
  refine r_letI hF (fun I14 hF => ?_)
  refine r_aload_n dX12_lends_71 rfl rfl ?_
  refine r_iconst (v := 0) dX12_lends_72 (by decide) ?_
  refine r_putI lk_X12_250 (Or.inl rfl) (ln_101 hL) rfl rfl dX12_lends_73 ?_
  refine r_letI hF (fun I15 hF => ?_)
  refine r_aload_n dX12_lends_76 rfl rfl ?_
  refine r_iconst (v := 0) dX12_lends_77 (by decide) ?_
  refine r_putI lk_X12_253 (Or.inl rfl) (ln_101 hL) rfl rfl dX12_lends_78 ?_
  refine r_letI hF (fun I16 hF => ?_)
  refine r_aload_n dX12_lends_81 rfl rfl ?_
  refine r_iconst (v := 0) dX12_lends_82 (by decide) ?_
  refine r_putI lk_X12_256 (Or.inl rfl) (ln_101 hL) rfl rfl dX12_lends_83 ?_
  refine r_letI hF (fun I17 hF => ?_)
  obtain rfl := Option.some.inj hF
  exact r_return rfl dX12_lends_86 (Nat.le_of_ble_eq_true rfl) (Nat.le_of_ble_eq_true rfl)
def F_X12_isLanded (I : IM) : Int32 := (if 0 < (I 101 25) then 0 else 1)
set_option maxHeartbeats 4000000 in
theorem ok_X12_isLanded {E : GE} {T : TM} {I : IM} {J : JM} {P : PM} (hL : LOK T P) : Ctr E mX12_isLanded 0 0 0 [.ref 101] T I J P (some (.int (F_X12_isLanded I))) T I J P := by
  generalize hF : F_X12_isLanded I = r
  unfold F_X12_isLanded at hF
  refine ctr_intro rfl (by decide) (Nat.le_of_ble_eq_true rfl) ?_
  refine r_sub (ls' := [(0, .ref 101)]) [0] rfl ?_
  refine r_aload_n dX12_isLanded_0 rfl rfl ?_
  refine r_getI lk_X12_238 (ln_101 hL) dX12_isLanded_1 ?_
  refine r_if_gt (tgt := 11) dX12_isLanded_4 (by decide) (fun h1 => ?_) (fun h1 => ?_)
  · have hF := tw hF h1
    refine r_iconst (v := 0) dX12_isLanded_11 (by decide) ?_
    obtain rfl := hF
    exact r_ireturn rfl rfl dX12_isLanded_12 (Nat.le_of_ble_eq_true rfl) (Nat.le_of_ble_eq_true rfl)
  · have hF := fw hF h1
    refine r_iconst (v := 1) dX12_isLanded_7 (by decide) ?_
    refine r_goto (tgt := 12) dX12_isLanded_8 (by decide) ?_
    obtain rfl := hF
    exact r_ireturn rfl rfl dX12_isLanded_12 (Nat.le_of_ble_eq_true rfl) (Nat.le_of_ble_eq_true rfl)
theorem nz_X12_isLanded (I : IM) : narrow .boolean (.int (F_X12_isLanded I)) = .int (F_X12_isLanded I) := by
  unfold F_X12_isLanded
  repeat' split
  all_goals first | rfl
def F_X12_plainTurn (I : IM) : Option (Int32) := ((F_X12_cosineOf I (I 101 26)).bind (fun x1 => (if ¬ (I 101 21) = 0 then (some ((((I 101 27) + (((((I 101 28) * x1) / 1000) * (I 103 3)) / 1024)) - (((I 101 27) * (I 103 4)) / 64)) + ((I 101 22) / (I 101 21)))) else none)))
set_option maxHeartbeats 4000000 in
theorem ok_X12_plainTurn {E : GE} {T : TM} {I : IM} {J : JM} {P : PM} {x : Int32} (hL : LOK T P) (hF : F_X12_plainTurn I = some x) : Ctr E mX12_plainTurn 2 0 0 [.ref 101] T I J P (some (.int x)) T I J P := by
  unfold F_X12_plainTurn at hF
  refine ctr_intro rfl (by decide) (Nat.le_of_ble_eq_true rfl) ?_
  refine r_sub (ls' := [(0, .ref 101)]) [0] rfl ?_
  refine r_aload_n dX12_plainTurn_0 rfl rfl ?_
  refine r_getI lk_X12_244 (ln_101 hL) dX12_plainTurn_1 ?_
  refine r_aload_n dX12_plainTurn_4 rfl rfl ?_
  refine r_getI lk_X12_247 (ln_101 hL) dX12_plainTurn_5 ?_
  refine r_aload_n dX12_plainTurn_8 rfl rfl ?_
  refine r_aload_n dX12_plainTurn_9 rfl rfl ?_
  refine r_getI lk_X12_241 (ln_101 hL) dX12_plainTurn_10 ?_
  obtain ⟨x1, hx1, hF⟩ := bnd hF
  refine c_virt_i (As := [.int (I 101 26)]) mi_X12_cosineOf kw_1239 ks_45 kw_1237 rfl (by decide) (ln_101 hL) (ok_X12_cosineOf hL  hx1) rfl rfl (Nat.le_of_ble_eq_true rfl) ⟨Nat.le_of_ble_eq_true rfl, Nat.le_of_ble_eq_true rfl⟩ ⟨Nat.le_of_ble_eq_true rfl, Nat.le_of_ble_eq_true rfl⟩ dX12_plainTurn_13 ?_
  refine r_imul dX12_plainTurn_16 ?_
  refine r_sipush (v := 1000) dX12_plainTurn_17 (by decide) ?_
  refine r_idiv dX12_plainTurn_20 (by decide) ?_
  refine r_aload_n dX12_plainTurn_21 rfl rfl ?_
  refine r_getP lk_X12_13 (ln_101 hL) (pp_101_2 hL) dX12_plainTurn_22 ?_
  refine r_iconst (v := 3) dX12_plainTurn_25 (by decide) ?_
  refine r_iald (ln_103 hL) (by rw [(nl_103 hL)]; decide) dX12_plainTurn_26 ?_
  refine r_imul dX12_plainTurn_27 ?_
  refine r_sipush (v := 1024) dX12_plainTurn_28 (by decide) ?_
  refine r_idiv dX12_plainTurn_31 (by decide) ?_
  refine r_iadd dX12_plainTurn_32 ?_
  refine r_aload_n dX12_plainTurn_33 rfl rfl ?_
  refine r_getI lk_X12_244 (ln_101 hL) dX12_plainTurn_34 ?_
  refine r_aload_n dX12_plainTurn_37 rfl rfl ?_
  refine r_getP lk_X12_13 (ln_101 hL) (pp_101_2 hL) dX12_plainTurn_38 ?_
  refine r_iconst (v := 4) dX12_plainTurn_41 (by decide) ?_
  refine r_iald (ln_103 hL) (by rw [(nl_103 hL)]; decide) dX12_plainTurn_42 ?_
  refine r_imul dX12_plainTurn_43 ?_
  refine r_bipush (v := 64) dX12_plainTurn_44 (by decide) ?_
  refine r_idiv dX12_plainTurn_46 (by decide) ?_
  refine r_isub dX12_plainTurn_47 ?_
  refine r_aload_n dX12_plainTurn_48 rfl rfl ?_
  refine r_getI lk_X12_229 (ln_101 hL) dX12_plainTurn_49 ?_
  refine r_aload_n dX12_plainTurn_52 rfl rfl ?_
  refine r_getI lk_X12_226 (ln_101 hL) dX12_plainTurn_53 ?_
  obtain ⟨g2, hF⟩ := gd hF
  refine r_idiv dX12_plainTurn_56 g2 ?_
  refine r_iadd dX12_plainTurn_57 ?_
  obtain rfl := Option.some.inj hF
  exact r_ireturn rfl rfl dX12_plainTurn_58 (Nat.le_of_ble_eq_true rfl) (Nat.le_of_ble_eq_true rfl)
def F_X12_toldTurn (I : IM) : Option (Int32) := (if (I 101 19) = 1 then (some 0) else (if (I 101 19) = 2 then (if (F_X12_in (I 101 26) 10 26) = 0 then ((F_X12_plainTurn I).bind (fun x4 => (some x4))) else ((F_X12_plainTurn I).bind (fun x5 => (some (-x5))))) else (if (I 101 19) = 3 then ((F_X12_plainTurn I).bind (fun x7 => (if (I 101 27) < 0 then (some (x7 + (-1))) else (some (x7 + 1))))) else (if (I 101 19) = 4 then (if (I 101 26) = 0 then (some 0) else (if 18 < (I 101 26) then (some 1) else (some (-1)))) else (if (I 101 19) = 5 then ((F_X12_plainTurn I).bind (fun x13 => (if (I 101 27) < 0 then (some (x13 + (-1))) else (some (x13 + 1))))) else ((F_X12_plainTurn I).bind (fun x15 => (some x15))))))))
set_option maxHeartbeats 4000000 in
theorem ok_X12_toldTurn {E : GE} {T : TM} {I : IM} {J : JM} {P : PM} {x : Int32} (hL : LOK T P) (hF : F_X12_toldTurn I = some x) : Ctr E mX12_toldTurn 3 0 0 [.ref 101] T I J P (some (.int x)) T I J P := by
  unfold F_X12_toldTurn at hF
  refine ctr_intro rfl (by decide) (Nat.le_of_ble_eq_true rfl) ?_
  refine r_sub (ls' := [(0, .ref 101)]) [0] rfl ?_
  refine r_aload_n dX12_toldTurn_0 rfl rfl ?_
  refine r_getI lk_X12_220 (ln_101 hL) dX12_toldTurn_1 ?_
  by_cases h1 : (I 101 19) = 1
  · have hF := tw hF h1
    refine r_tableIn (off := 36) (tgt := 40) dX12_toldTurn_4 (by rw [h1]; decide) (by rw [h1]; decide) (by rw [h1]; decide) (by decide) ?_
    refine r_iconst (v := 0) dX12_toldTurn_40 (by decide) ?_
    obtain rfl := Option.some.inj hF
    exact r_ireturn rfl rfl dX12_toldTurn_41 (Nat.le_of_ble_eq_true rfl) (Nat.le_of_ble_eq_true rfl)
  · have hF := fw hF h1
    by_cases h2 : (I 101 19) = 2
    · have hF := tw hF h2
      refine r_tableIn (off := 38) (tgt := 42) dX12_toldTurn_4 (by rw [h2]; decide) (by rw [h2]; decide) (by rw [h2]; decide) (by decide) ?_
      refine r_aload_n dX12_toldTurn_42 rfl rfl ?_
      refine r_getI lk_X12_241 (ln_101 hL) dX12_toldTurn_43 ?_
      refine r_bipush (v := 10) dX12_toldTurn_46 (by decide) ?_
      refine r_bipush (v := 26) dX12_toldTurn_48 (by decide) ?_
      refine c_static_i (As := [.int (I 101 26), .int 10, .int 26]) mi_X12_in kw_1085 kw_1084 (ok_X12_in hL  (p1 := (I 101 26)) (p2 := 10) (p3 := 26)) rfl rfl (Nat.le_of_ble_eq_true rfl) ⟨Nat.le_of_ble_eq_true rfl, Nat.le_of_ble_eq_true rfl⟩ ⟨Nat.le_of_ble_eq_true rfl, Nat.le_of_ble_eq_true rfl⟩ dX12_toldTurn_50 ?_
      refine r_if_eq (tgt := 64) dX12_toldTurn_53 (by decide) (fun h3 => ?_) (fun h3 => ?_)
      · have hF := tw hF h3
        refine r_aload_n dX12_toldTurn_64 rfl rfl ?_
        obtain ⟨x4, hx4, hF⟩ := bnd hF
        refine c_virt_i (As := []) mi_X12_plainTurn kw_1253 ks_47 kw_1251 rfl (by decide) (ln_101 hL) (ok_X12_plainTurn hL  hx4) rfl rfl (Nat.le_of_ble_eq_true rfl) ⟨Nat.le_of_ble_eq_true rfl, Nat.le_of_ble_eq_true rfl⟩ ⟨Nat.le_of_ble_eq_true rfl, Nat.le_of_ble_eq_true rfl⟩ dX12_toldTurn_65 ?_
        obtain rfl := Option.some.inj hF
        exact r_ireturn rfl rfl dX12_toldTurn_68 (Nat.le_of_ble_eq_true rfl) (Nat.le_of_ble_eq_true rfl)
      · have hF := fw hF h3
        refine r_aload_n dX12_toldTurn_56 rfl rfl ?_
        obtain ⟨x5, hx5, hF⟩ := bnd hF
        refine c_virt_i (As := []) mi_X12_plainTurn kw_1253 ks_47 kw_1251 rfl (by decide) (ln_101 hL) (ok_X12_plainTurn hL  hx5) rfl rfl (Nat.le_of_ble_eq_true rfl) ⟨Nat.le_of_ble_eq_true rfl, Nat.le_of_ble_eq_true rfl⟩ ⟨Nat.le_of_ble_eq_true rfl, Nat.le_of_ble_eq_true rfl⟩ dX12_toldTurn_57 ?_
        refine r_ineg dX12_toldTurn_60 ?_
        refine r_goto (tgt := 68) dX12_toldTurn_61 (by decide) ?_
        obtain rfl := Option.some.inj hF
        exact r_ireturn rfl rfl dX12_toldTurn_68 (Nat.le_of_ble_eq_true rfl) (Nat.le_of_ble_eq_true rfl)
    · have hF := fw hF h2
      by_cases h6 : (I 101 19) = 3
      · have hF := tw hF h6
        refine r_tableIn (off := 91) (tgt := 95) dX12_toldTurn_4 (by rw [h6]; decide) (by rw [h6]; decide) (by rw [h6]; decide) (by decide) ?_
        refine r_aload_n dX12_toldTurn_95 rfl rfl ?_
        obtain ⟨x7, hx7, hF⟩ := bnd hF
        refine c_virt_i (As := []) mi_X12_plainTurn kw_1253 ks_47 kw_1251 rfl (by decide) (ln_101 hL) (ok_X12_plainTurn hL  hx7) rfl rfl (Nat.le_of_ble_eq_true rfl) ⟨Nat.le_of_ble_eq_true rfl, Nat.le_of_ble_eq_true rfl⟩ ⟨Nat.le_of_ble_eq_true rfl, Nat.le_of_ble_eq_true rfl⟩ dX12_toldTurn_96 ?_
        refine r_aload_n dX12_toldTurn_99 rfl rfl ?_
        refine r_getI lk_X12_244 (ln_101 hL) dX12_toldTurn_100 ?_
        refine r_if_lt (tgt := 110) dX12_toldTurn_103 (by decide) (fun h8 => ?_) (fun h8 => ?_)
        · have hF := tw hF h8
          refine r_iconst (v := (-1)) dX12_toldTurn_110 (by decide) ?_
          refine r_iadd dX12_toldTurn_111 ?_
          obtain rfl := Option.some.inj hF
          exact r_ireturn rfl rfl dX12_toldTurn_112 (Nat.le_of_ble_eq_true rfl) (Nat.le_of_ble_eq_true rfl)
        · have hF := fw hF h8
          refine r_iconst (v := 1) dX12_toldTurn_106 (by decide) ?_
          refine r_goto (tgt := 111) dX12_toldTurn_107 (by decide) ?_
          refine r_iadd dX12_toldTurn_111 ?_
          obtain rfl := Option.some.inj hF
          exact r_ireturn rfl rfl dX12_toldTurn_112 (Nat.le_of_ble_eq_true rfl) (Nat.le_of_ble_eq_true rfl)
      · have hF := fw hF h6
        by_cases h9 : (I 101 19) = 4
        · have hF := tw hF h9
          refine r_tableIn (off := 65) (tgt := 69) dX12_toldTurn_4 (by rw [h9]; decide) (by rw [h9]; decide) (by rw [h9]; decide) (by decide) ?_
          refine r_aload_n dX12_toldTurn_69 rfl rfl ?_
          refine r_getI lk_X12_241 (ln_101 hL) dX12_toldTurn_70 ?_
          refine r_if_ne (tgt := 80) dX12_toldTurn_73 (by decide) (fun h10 => ?_) (fun h10 => ?_)
          · have hF := fw hF h10
            refine r_aload_n dX12_toldTurn_80 rfl rfl ?_
            refine r_getI lk_X12_241 (ln_101 hL) dX12_toldTurn_81 ?_
            refine r_bipush (v := 18) dX12_toldTurn_84 (by decide) ?_
            refine r_icmp_gt (tgt := 93) dX12_toldTurn_86 (by decide) (fun h11 => ?_) (fun h11 => ?_)
            · have hF := tw hF h11
              refine r_iconst (v := 1) dX12_toldTurn_93 (by decide) ?_
              obtain rfl := Option.some.inj hF
              exact r_ireturn rfl rfl dX12_toldTurn_94 (Nat.le_of_ble_eq_true rfl) (Nat.le_of_ble_eq_true rfl)
            · have hF := fw hF h11
              refine r_iconst (v := (-1)) dX12_toldTurn_89 (by decide) ?_
              refine r_goto (tgt := 94) dX12_toldTurn_90 (by decide) ?_
              obtain rfl := Option.some.inj hF
              exact r_ireturn rfl rfl dX12_toldTurn_94 (Nat.le_of_ble_eq_true rfl) (Nat.le_of_ble_eq_true rfl)
          · have hF := tw hF h10
            refine r_iconst (v := 0) dX12_toldTurn_76 (by decide) ?_
            refine r_goto (tgt := 94) dX12_toldTurn_77 (by decide) ?_
            obtain rfl := Option.some.inj hF
            exact r_ireturn rfl rfl dX12_toldTurn_94 (Nat.le_of_ble_eq_true rfl) (Nat.le_of_ble_eq_true rfl)
        · have hF := fw hF h9
          by_cases h12 : (I 101 19) = 5
          · have hF := tw hF h12
            refine r_tableIn (off := 91) (tgt := 95) dX12_toldTurn_4 (by rw [h12]; decide) (by rw [h12]; decide) (by rw [h12]; decide) (by decide) ?_
            refine r_aload_n dX12_toldTurn_95 rfl rfl ?_
            obtain ⟨x13, hx13, hF⟩ := bnd hF
            refine c_virt_i (As := []) mi_X12_plainTurn kw_1253 ks_47 kw_1251 rfl (by decide) (ln_101 hL) (ok_X12_plainTurn hL  hx13) rfl rfl (Nat.le_of_ble_eq_true rfl) ⟨Nat.le_of_ble_eq_true rfl, Nat.le_of_ble_eq_true rfl⟩ ⟨Nat.le_of_ble_eq_true rfl, Nat.le_of_ble_eq_true rfl⟩ dX12_toldTurn_96 ?_
            refine r_aload_n dX12_toldTurn_99 rfl rfl ?_
            refine r_getI lk_X12_244 (ln_101 hL) dX12_toldTurn_100 ?_
            refine r_if_lt (tgt := 110) dX12_toldTurn_103 (by decide) (fun h14 => ?_) (fun h14 => ?_)
            · have hF := tw hF h14
              refine r_iconst (v := (-1)) dX12_toldTurn_110 (by decide) ?_
              refine r_iadd dX12_toldTurn_111 ?_
              obtain rfl := Option.some.inj hF
              exact r_ireturn rfl rfl dX12_toldTurn_112 (Nat.le_of_ble_eq_true rfl) (Nat.le_of_ble_eq_true rfl)
            · have hF := fw hF h14
              refine r_iconst (v := 1) dX12_toldTurn_106 (by decide) ?_
              refine r_goto (tgt := 111) dX12_toldTurn_107 (by decide) ?_
              refine r_iadd dX12_toldTurn_111 ?_
              obtain rfl := Option.some.inj hF
              exact r_ireturn rfl rfl dX12_toldTurn_112 (Nat.le_of_ble_eq_true rfl) (Nat.le_of_ble_eq_true rfl)
          · have hF := fw hF h12
            have eh1 := nei 1 (by decide) h1
            have eh2 := nei 2 (by decide) h2
            have eh6 := nei 3 (by decide) h6
            have eh9 := nei 4 (by decide) h9
            have eh12 := nei 5 (by decide) h12
            refine r_tableOut (tgt := 113) dX12_toldTurn_4 (by omega) (by decide) ?_
            refine r_aload_n dX12_toldTurn_113 rfl rfl ?_
            obtain ⟨x15, hx15, hF⟩ := bnd hF
            refine c_virt_i (As := []) mi_X12_plainTurn kw_1253 ks_47 kw_1251 rfl (by decide) (ln_101 hL) (ok_X12_plainTurn hL  hx15) rfl rfl (Nat.le_of_ble_eq_true rfl) ⟨Nat.le_of_ble_eq_true rfl, Nat.le_of_ble_eq_true rfl⟩ ⟨Nat.le_of_ble_eq_true rfl, Nat.le_of_ble_eq_true rfl⟩ dX12_toldTurn_114 ?_
            obtain rfl := Option.some.inj hF
            exact r_ireturn rfl rfl dX12_toldTurn_117 (Nat.le_of_ble_eq_true rfl) (Nat.le_of_ble_eq_true rfl)
def F_X12_ticksOn (I : IM) : Option (IM) := (letb (I 101 26) (fun y1 : Int32 => (letb (I 101 27) (fun y2 : Int32 => ((F_X12_sineOf I (I 101 26)).bind (fun x3 => (letb (((((((I 101 29) * x3) / 1000) * (I 103 0)) / 32) - (((I 101 28) * (I 103 1)) / 64)) + (((I 103 5) - 32) / 4)) (fun y4 : Int32 => ((F_X12_cosineOf I (I 101 26)).bind (fun x5 => (letb ((I 103 1) + (((I 103 2) * (F_X12_bare x5)) / 1000)) (fun y6 : Int32 => (letb (((I 101 29) + (I 101 20)) - (((I 101 29) * y6) / 64)) (fun y7 : Int32 => (letb (up2 I 101 28 (F_X12_kept ((I 101 28) + y4) 9999)) (fun I8 : IM => (if (I8 101 19) = 5 then (letb (up2 I8 101 29 (F_X12_kept (y7 / 2) 9999)) (fun I136 : IM => ((F_X12_toldTurn I136).bind (fun x137 => (letb (up2 I136 101 27 (F_X12_kept x137 9)) (fun I138 : IM => (letb (up2 I138 101 26 ((((I138 101 26) + (I138 101 27)) + 36) - (((I138 101 26) + (I138 101 27)) + 36) / 36 * 36)) (fun I139 : IM => (letb (up2 I139 101 24 ((I139 101 24) + ((I139 101 28) / 8))) (fun I140 : IM => (letb (up2 I140 101 25 ((I140 101 25) - ((I140 101 29) / 8))) (fun I141 : IM => (letb (up2 I141 101 23 ((I141 101 23) + 1)) (fun I142 : IM => (if (I142 101 23) ≤ 1 then (letb (up2 I142 101 30 ((I142 101 30) + 0)) (fun I144 : IM => (if y1 < 27 then (if 8 < y1 then (letb (up2 I144 101 31 ((I144 101 31) + 0)) (fun I147 : IM => (some I147))) else (if (I144 101 26) < 27 then (letb (up2 I144 101 31 ((I144 101 31) + 0)) (fun I149 : IM => (some I149))) else (letb (up2 I144 101 31 ((I144 101 31) + 1)) (fun I150 : IM => (some I150))))) else (if (I144 101 26) ≤ 8 then (letb (up2 I144 101 31 ((I144 101 31) + 1)) (fun I152 : IM => (some I152))) else (if 8 < y1 then (letb (up2 I144 101 31 ((I144 101 31) + 0)) (fun I154 : IM => (some I154))) else (if (I144 101 26) < 27 then (letb (up2 I144 101 31 ((I144 101 31) + 0)) (fun I156 : IM => (some I156))) else (letb (up2 I144 101 31 ((I144 101 31) + 1)) (fun I157 : IM => (some I157))))))))) else (if y2 ≤ 0 then (if 0 ≤ y2 then (letb (up2 I142 101 30 ((I142 101 30) + 0)) (fun I160 : IM => (if y1 < 27 then (if 8 < y1 then (letb (up2 I160 101 31 ((I160 101 31) + 0)) (fun I163 : IM => (some I163))) else (if (I160 101 26) < 27 then (letb (up2 I160 101 31 ((I160 101 31) + 0)) (fun I165 : IM => (some I165))) else (letb (up2 I160 101 31 ((I160 101 31) + 1)) (fun I166 : IM => (some I166))))) else (if (I160 101 26) ≤ 8 then (letb (up2 I160 101 31 ((I160 101 31) + 1)) (fun I168 : IM => (some I168))) else (if 8 < y1 then (letb (up2 I160 101 31 ((I160 101 31) + 0)) (fun I170 : IM => (some I170))) else (if (I160 101 26) < 27 then (letb (up2 I160 101 31 ((I160 101 31) + 0)) (fun I172 : IM => (some I172))) else (letb (up2 I160 101 31 ((I160 101 31) + 1)) (fun I173 : IM => (some I173))))))))) else (if (I142 101 27) ≤ 0 then (letb (up2 I142 101 30 ((I142 101 30) + 0)) (fun I175 : IM => (if y1 < 27 then (if 8 < y1 then (letb (up2 I175 101 31 ((I175 101 31) + 0)) (fun I178 : IM => (some I178))) else (if (I175 101 26) < 27 then (letb (up2 I175 101 31 ((I175 101 31) + 0)) (fun I180 : IM => (some I180))) else (letb (up2 I175 101 31 ((I175 101 31) + 1)) (fun I181 : IM => (some I181))))) else (if (I175 101 26) ≤ 8 then (letb (up2 I175 101 31 ((I175 101 31) + 1)) (fun I183 : IM => (some I183))) else (if 8 < y1 then (letb (up2 I175 101 31 ((I175 101 31) + 0)) (fun I185 : IM => (some I185))) else (if (I175 101 26) < 27 then (letb (up2 I175 101 31 ((I175 101 31) + 0)) (fun I187 : IM => (some I187))) else (letb (up2 I175 101 31 ((I175 101 31) + 1)) (fun I188 : IM => (some I188))))))))) else (letb (up2 I142 101 30 ((I142 101 30) + 1)) (fun I189 : IM => (if y1 < 27 then (if 8 < y1 then (letb (up2 I189 101 31 ((I189 101 31) + 0)) (fun I192 : IM => (some I192))) else (if (I189 101 26) < 27 then (letb (up2 I189 101 31 ((I189 101 31) + 0)) (fun I194 : IM => (some I194))) else (letb (up2 I189 101 31 ((I189 101 31) + 1)) (fun I195 : IM => (some I195))))) else (if (I189 101 26) ≤ 8 then (letb (up2 I189 101 31 ((I189 101 31) + 1)) (fun I197 : IM => (some I197))) else (if 8 < y1 then (letb (up2 I189 101 31 ((I189 101 31) + 0)) (fun I199 : IM => (some I199))) else (if (I189 101 26) < 27 then (letb (up2 I189 101 31 ((I189 101 31) + 0)) (fun I201 : IM => (some I201))) else (letb (up2 I189 101 31 ((I189 101 31) + 1)) (fun I202 : IM => (some I202))))))))))) else (if (I142 101 27) < 0 then (letb (up2 I142 101 30 ((I142 101 30) + 1)) (fun I204 : IM => (if y1 < 27 then (if 8 < y1 then (letb (up2 I204 101 31 ((I204 101 31) + 0)) (fun I207 : IM => (some I207))) else (if (I204 101 26) < 27 then (letb (up2 I204 101 31 ((I204 101 31) + 0)) (fun I209 : IM => (some I209))) else (letb (up2 I204 101 31 ((I204 101 31) + 1)) (fun I210 : IM => (some I210))))) else (if (I204 101 26) ≤ 8 then (letb (up2 I204 101 31 ((I204 101 31) + 1)) (fun I212 : IM => (some I212))) else (if 8 < y1 then (letb (up2 I204 101 31 ((I204 101 31) + 0)) (fun I214 : IM => (some I214))) else (if (I204 101 26) < 27 then (letb (up2 I204 101 31 ((I204 101 31) + 0)) (fun I216 : IM => (some I216))) else (letb (up2 I204 101 31 ((I204 101 31) + 1)) (fun I217 : IM => (some I217))))))))) else (if 0 ≤ y2 then (letb (up2 I142 101 30 ((I142 101 30) + 0)) (fun I219 : IM => (if y1 < 27 then (if 8 < y1 then (letb (up2 I219 101 31 ((I219 101 31) + 0)) (fun I222 : IM => (some I222))) else (if (I219 101 26) < 27 then (letb (up2 I219 101 31 ((I219 101 31) + 0)) (fun I224 : IM => (some I224))) else (letb (up2 I219 101 31 ((I219 101 31) + 1)) (fun I225 : IM => (some I225))))) else (if (I219 101 26) ≤ 8 then (letb (up2 I219 101 31 ((I219 101 31) + 1)) (fun I227 : IM => (some I227))) else (if 8 < y1 then (letb (up2 I219 101 31 ((I219 101 31) + 0)) (fun I229 : IM => (some I229))) else (if (I219 101 26) < 27 then (letb (up2 I219 101 31 ((I219 101 31) + 0)) (fun I231 : IM => (some I231))) else (letb (up2 I219 101 31 ((I219 101 31) + 1)) (fun I232 : IM => (some I232))))))))) else (if (I142 101 27) ≤ 0 then (letb (up2 I142 101 30 ((I142 101 30) + 0)) (fun I234 : IM => (if y1 < 27 then (if 8 < y1 then (letb (up2 I234 101 31 ((I234 101 31) + 0)) (fun I237 : IM => (some I237))) else (if (I234 101 26) < 27 then (letb (up2 I234 101 31 ((I234 101 31) + 0)) (fun I239 : IM => (some I239))) else (letb (up2 I234 101 31 ((I234 101 31) + 1)) (fun I240 : IM => (some I240))))) else (if (I234 101 26) ≤ 8 then (letb (up2 I234 101 31 ((I234 101 31) + 1)) (fun I242 : IM => (some I242))) else (if 8 < y1 then (letb (up2 I234 101 31 ((I234 101 31) + 0)) (fun I244 : IM => (some I244))) else (if (I234 101 26) < 27 then (letb (up2 I234 101 31 ((I234 101 31) + 0)) (fun I246 : IM => (some I246))) else (letb (up2 I234 101 31 ((I234 101 31) + 1)) (fun I247 : IM => (some I247))))))))) else (letb (up2 I142 101 30 ((I142 101 30) + 1)) (fun I248 : IM => (if y1 < 27 then (if 8 < y1 then (letb (up2 I248 101 31 ((I248 101 31) + 0)) (fun I251 : IM => (some I251))) else (if (I248 101 26) < 27 then (letb (up2 I248 101 31 ((I248 101 31) + 0)) (fun I253 : IM => (some I253))) else (letb (up2 I248 101 31 ((I248 101 31) + 1)) (fun I254 : IM => (some I254))))) else (if (I248 101 26) ≤ 8 then (letb (up2 I248 101 31 ((I248 101 31) + 1)) (fun I256 : IM => (some I256))) else (if 8 < y1 then (letb (up2 I248 101 31 ((I248 101 31) + 0)) (fun I258 : IM => (some I258))) else (if (I248 101 26) < 27 then (letb (up2 I248 101 31 ((I248 101 31) + 0)) (fun I260 : IM => (some I260))) else (letb (up2 I248 101 31 ((I248 101 31) + 1)) (fun I261 : IM => (some I261)))))))))))))))))))))))))))) else (letb (up2 I8 101 29 (F_X12_kept y7 9999)) (fun I10 : IM => ((F_X12_toldTurn I10).bind (fun x11 => (letb (up2 I10 101 27 (F_X12_kept x11 9)) (fun I12 : IM => (letb (up2 I12 101 26 ((((I12 101 26) + (I12 101 27)) + 36) - (((I12 101 26) + (I12 101 27)) + 36) / 36 * 36)) (fun I13 : IM => (letb (up2 I13 101 24 ((I13 101 24) + ((I13 101 28) / 8))) (fun I14 : IM => (letb (up2 I14 101 25 ((I14 101 25) - ((I14 101 29) / 8))) (fun I15 : IM => (letb (up2 I15 101 23 ((I15 101 23) + 1)) (fun I16 : IM => (if (I16 101 23) ≤ 1 then (letb (up2 I16 101 30 ((I16 101 30) + 0)) (fun I18 : IM => (if y1 < 27 then (if 8 < y1 then (letb (up2 I18 101 31 ((I18 101 31) + 0)) (fun I21 : IM => (some I21))) else (if (I18 101 26) < 27 then (letb (up2 I18 101 31 ((I18 101 31) + 0)) (fun I23 : IM => (some I23))) else (letb (up2 I18 101 31 ((I18 101 31) + 1)) (fun I24 : IM => (some I24))))) else (if (I18 101 26) ≤ 8 then (letb (up2 I18 101 31 ((I18 101 31) + 1)) (fun I26 : IM => (some I26))) else (if 8 < y1 then (letb (up2 I18 101 31 ((I18 101 31) + 0)) (fun I28 : IM => (some I28))) else (if (I18 101 26) < 27 then (letb (up2 I18 101 31 ((I18 101 31) + 0)) (fun I30 : IM => (some I30))) else (letb (up2 I18 101 31 ((I18 101 31) + 1)) (fun I31 : IM => (some I31))))))))) else (if y2 ≤ 0 then (if 0 ≤ y2 then (letb (up2 I16 101 30 ((I16 101 30) + 0)) (fun I34 : IM => (if y1 < 27 then (if 8 < y1 then (letb (up2 I34 101 31 ((I34 101 31) + 0)) (fun I37 : IM => (some I37))) else (if (I34 101 26) < 27 then (letb (up2 I34 101 31 ((I34 101 31) + 0)) (fun I39 : IM => (some I39))) else (letb (up2 I34 101 31 ((I34 101 31) + 1)) (fun I40 : IM => (some I40))))) else (if (I34 101 26) ≤ 8 then (letb (up2 I34 101 31 ((I34 101 31) + 1)) (fun I42 : IM => (some I42))) else (if 8 < y1 then (letb (up2 I34 101 31 ((I34 101 31) + 0)) (fun I44 : IM => (some I44))) else (if (I34 101 26) < 27 then (letb (up2 I34 101 31 ((I34 101 31) + 0)) (fun I46 : IM => (some I46))) else (letb (up2 I34 101 31 ((I34 101 31) + 1)) (fun I47 : IM => (some I47))))))))) else (if (I16 101 27) ≤ 0 then (letb (up2 I16 101 30 ((I16 101 30) + 0)) (fun I49 : IM => (if y1 < 27 then (if 8 < y1 then (letb (up2 I49 101 31 ((I49 101 31) + 0)) (fun I52 : IM => (some I52))) else (if (I49 101 26) < 27 then (letb (up2 I49 101 31 ((I49 101 31) + 0)) (fun I54 : IM => (some I54))) else (letb (up2 I49 101 31 ((I49 101 31) + 1)) (fun I55 : IM => (some I55))))) else (if (I49 101 26) ≤ 8 then (letb (up2 I49 101 31 ((I49 101 31) + 1)) (fun I57 : IM => (some I57))) else (if 8 < y1 then (letb (up2 I49 101 31 ((I49 101 31) + 0)) (fun I59 : IM => (some I59))) else (if (I49 101 26) < 27 then (letb (up2 I49 101 31 ((I49 101 31) + 0)) (fun I61 : IM => (some I61))) else (letb (up2 I49 101 31 ((I49 101 31) + 1)) (fun I62 : IM => (some I62))))))))) else (letb (up2 I16 101 30 ((I16 101 30) + 1)) (fun I63 : IM => (if y1 < 27 then (if 8 < y1 then (letb (up2 I63 101 31 ((I63 101 31) + 0)) (fun I66 : IM => (some I66))) else (if (I63 101 26) < 27 then (letb (up2 I63 101 31 ((I63 101 31) + 0)) (fun I68 : IM => (some I68))) else (letb (up2 I63 101 31 ((I63 101 31) + 1)) (fun I69 : IM => (some I69))))) else (if (I63 101 26) ≤ 8 then (letb (up2 I63 101 31 ((I63 101 31) + 1)) (fun I71 : IM => (some I71))) else (if 8 < y1 then (letb (up2 I63 101 31 ((I63 101 31) + 0)) (fun I73 : IM => (some I73))) else (if (I63 101 26) < 27 then (letb (up2 I63 101 31 ((I63 101 31) + 0)) (fun I75 : IM => (some I75))) else (letb (up2 I63 101 31 ((I63 101 31) + 1)) (fun I76 : IM => (some I76))))))))))) else (if (I16 101 27) < 0 then (letb (up2 I16 101 30 ((I16 101 30) + 1)) (fun I78 : IM => (if y1 < 27 then (if 8 < y1 then (letb (up2 I78 101 31 ((I78 101 31) + 0)) (fun I81 : IM => (some I81))) else (if (I78 101 26) < 27 then (letb (up2 I78 101 31 ((I78 101 31) + 0)) (fun I83 : IM => (some I83))) else (letb (up2 I78 101 31 ((I78 101 31) + 1)) (fun I84 : IM => (some I84))))) else (if (I78 101 26) ≤ 8 then (letb (up2 I78 101 31 ((I78 101 31) + 1)) (fun I86 : IM => (some I86))) else (if 8 < y1 then (letb (up2 I78 101 31 ((I78 101 31) + 0)) (fun I88 : IM => (some I88))) else (if (I78 101 26) < 27 then (letb (up2 I78 101 31 ((I78 101 31) + 0)) (fun I90 : IM => (some I90))) else (letb (up2 I78 101 31 ((I78 101 31) + 1)) (fun I91 : IM => (some I91))))))))) else (if 0 ≤ y2 then (letb (up2 I16 101 30 ((I16 101 30) + 0)) (fun I93 : IM => (if y1 < 27 then (if 8 < y1 then (letb (up2 I93 101 31 ((I93 101 31) + 0)) (fun I96 : IM => (some I96))) else (if (I93 101 26) < 27 then (letb (up2 I93 101 31 ((I93 101 31) + 0)) (fun I98 : IM => (some I98))) else (letb (up2 I93 101 31 ((I93 101 31) + 1)) (fun I99 : IM => (some I99))))) else (if (I93 101 26) ≤ 8 then (letb (up2 I93 101 31 ((I93 101 31) + 1)) (fun I101 : IM => (some I101))) else (if 8 < y1 then (letb (up2 I93 101 31 ((I93 101 31) + 0)) (fun I103 : IM => (some I103))) else (if (I93 101 26) < 27 then (letb (up2 I93 101 31 ((I93 101 31) + 0)) (fun I105 : IM => (some I105))) else (letb (up2 I93 101 31 ((I93 101 31) + 1)) (fun I106 : IM => (some I106))))))))) else (if (I16 101 27) ≤ 0 then (letb (up2 I16 101 30 ((I16 101 30) + 0)) (fun I108 : IM => (if y1 < 27 then (if 8 < y1 then (letb (up2 I108 101 31 ((I108 101 31) + 0)) (fun I111 : IM => (some I111))) else (if (I108 101 26) < 27 then (letb (up2 I108 101 31 ((I108 101 31) + 0)) (fun I113 : IM => (some I113))) else (letb (up2 I108 101 31 ((I108 101 31) + 1)) (fun I114 : IM => (some I114))))) else (if (I108 101 26) ≤ 8 then (letb (up2 I108 101 31 ((I108 101 31) + 1)) (fun I116 : IM => (some I116))) else (if 8 < y1 then (letb (up2 I108 101 31 ((I108 101 31) + 0)) (fun I118 : IM => (some I118))) else (if (I108 101 26) < 27 then (letb (up2 I108 101 31 ((I108 101 31) + 0)) (fun I120 : IM => (some I120))) else (letb (up2 I108 101 31 ((I108 101 31) + 1)) (fun I121 : IM => (some I121))))))))) else (letb (up2 I16 101 30 ((I16 101 30) + 1)) (fun I122 : IM => (if y1 < 27 then (if 8 < y1 then (letb (up2 I122 101 31 ((I122 101 31) + 0)) (fun I125 : IM => (some I125))) else (if (I122 101 26) < 27 then (letb (up2 I122 101 31 ((I122 101 31) + 0)) (fun I127 : IM => (some I127))) else (letb (up2 I122 101 31 ((I122 101 31) + 1)) (fun I128 : IM => (some I128))))) else (if (I122 101 26) ≤ 8 then (letb (up2 I122 101 31 ((I122 101 31) + 1)) (fun I130 : IM => (some I130))) else (if 8 < y1 then (letb (up2 I122 101 31 ((I122 101 31) + 0)) (fun I132 : IM => (some I132))) else (if (I122 101 26) < 27 then (letb (up2 I122 101 31 ((I122 101 31) + 0)) (fun I134 : IM => (some I134))) else (letb (up2 I122 101 31 ((I122 101 31) + 1)) (fun I135 : IM => (some I135)))))))))))))))))))))))))))))))))))))))))))))
set_option maxHeartbeats 4000000 in
theorem ok_X12_ticksOn {E : GE} {T : TM} {I : IM} {J : JM} {P : PM} {x : IM} (hL : LOK T P) (hF : F_X12_ticksOn I = some x) : Ctr E mX12_ticksOn 4 0 0 [.ref 101] T I J P none T x J P := by
  unfold F_X12_ticksOn at hF
  refine ctr_intro rfl (by decide) (Nat.le_of_ble_eq_true rfl) ?_
  refine r_sub (ls' := [(0, .ref 101)]) [0] rfl ?_
  refine r_aload_n dX12_ticksOn_0 rfl rfl ?_
  refine r_getI lk_X12_241 (ln_101 hL) dX12_ticksOn_1 ?_
  refine r_letV hF (fun y1 hF => ?_)
  refine r_istore_n (ls' := [(1, .int y1), (0, .ref 101)]) dX12_ticksOn_4 rfl (by decide) rfl ?_
  refine r_aload_n dX12_ticksOn_5 rfl rfl ?_
  refine r_getI lk_X12_244 (ln_101 hL) dX12_ticksOn_6 ?_
  refine r_letV hF (fun y2 hF => ?_)
  refine r_istore_n (ls' := [(2, .int y2), (1, .int y1), (0, .ref 101)]) dX12_ticksOn_9 rfl (by decide) rfl ?_
  refine r_aload_n dX12_ticksOn_10 rfl rfl ?_
  refine r_getI lk_X12_250 (ln_101 hL) dX12_ticksOn_11 ?_
  refine r_aload_n dX12_ticksOn_14 rfl rfl ?_
  refine r_aload_n dX12_ticksOn_15 rfl rfl ?_
  refine r_getI lk_X12_241 (ln_101 hL) dX12_ticksOn_16 ?_
  obtain ⟨x3, hx3, hF⟩ := bnd hF
  refine c_virt_i (As := [.int (I 101 26)]) mi_X12_sineOf kw_1200 ks_38 kw_1198 rfl (by decide) (ln_101 hL) (ok_X12_sineOf hL  hx3) rfl rfl (Nat.le_of_ble_eq_true rfl) ⟨Nat.le_of_ble_eq_true rfl, Nat.le_of_ble_eq_true rfl⟩ ⟨Nat.le_of_ble_eq_true rfl, Nat.le_of_ble_eq_true rfl⟩ dX12_ticksOn_19 ?_
  refine r_imul dX12_ticksOn_22 ?_
  refine r_sipush (v := 1000) dX12_ticksOn_23 (by decide) ?_
  refine r_idiv dX12_ticksOn_26 (by decide) ?_
  refine r_aload_n dX12_ticksOn_27 rfl rfl ?_
  refine r_getP lk_X12_13 (ln_101 hL) (pp_101_2 hL) dX12_ticksOn_28 ?_
  refine r_iconst (v := 0) dX12_ticksOn_31 (by decide) ?_
  refine r_iald (ln_103 hL) (by rw [(nl_103 hL)]; decide) dX12_ticksOn_32 ?_
  refine r_imul dX12_ticksOn_33 ?_
  refine r_bipush (v := 32) dX12_ticksOn_34 (by decide) ?_
  refine r_idiv dX12_ticksOn_36 (by decide) ?_
  refine r_aload_n dX12_ticksOn_37 rfl rfl ?_
  refine r_getI lk_X12_247 (ln_101 hL) dX12_ticksOn_38 ?_
  refine r_aload_n dX12_ticksOn_41 rfl rfl ?_
  refine r_getP lk_X12_13 (ln_101 hL) (pp_101_2 hL) dX12_ticksOn_42 ?_
  refine r_iconst (v := 1) dX12_ticksOn_45 (by decide) ?_
  refine r_iald (ln_103 hL) (by rw [(nl_103 hL)]; decide) dX12_ticksOn_46 ?_
  refine r_imul dX12_ticksOn_47 ?_
  refine r_bipush (v := 64) dX12_ticksOn_48 (by decide) ?_
  refine r_idiv dX12_ticksOn_50 (by decide) ?_
  refine r_isub dX12_ticksOn_51 ?_
  refine r_aload_n dX12_ticksOn_52 rfl rfl ?_
  refine r_getP lk_X12_13 (ln_101 hL) (pp_101_2 hL) dX12_ticksOn_53 ?_
  refine r_iconst (v := 5) dX12_ticksOn_56 (by decide) ?_
  refine r_iald (ln_103 hL) (by rw [(nl_103 hL)]; decide) dX12_ticksOn_57 ?_
  refine r_bipush (v := 32) dX12_ticksOn_58 (by decide) ?_
  refine r_isub dX12_ticksOn_60 ?_
  refine r_iconst (v := 4) dX12_ticksOn_61 (by decide) ?_
  refine r_idiv dX12_ticksOn_62 (by decide) ?_
  refine r_iadd dX12_ticksOn_63 ?_
  refine r_letV hF (fun y4 hF => ?_)
  refine r_istore_n (ls' := [(3, .int y4), (2, .int y2), (1, .int y1), (0, .ref 101)]) dX12_ticksOn_64 rfl (by decide) rfl ?_
  refine r_aload_n dX12_ticksOn_65 rfl rfl ?_
  refine r_getP lk_X12_13 (ln_101 hL) (pp_101_2 hL) dX12_ticksOn_66 ?_
  refine r_iconst (v := 1) dX12_ticksOn_69 (by decide) ?_
  refine r_iald (ln_103 hL) (by rw [(nl_103 hL)]; decide) dX12_ticksOn_70 ?_
  refine r_aload_n dX12_ticksOn_71 rfl rfl ?_
  refine r_getP lk_X12_13 (ln_101 hL) (pp_101_2 hL) dX12_ticksOn_72 ?_
  refine r_iconst (v := 2) dX12_ticksOn_75 (by decide) ?_
  refine r_iald (ln_103 hL) (by rw [(nl_103 hL)]; decide) dX12_ticksOn_76 ?_
  refine r_aload_n dX12_ticksOn_77 rfl rfl ?_
  refine r_aload_n dX12_ticksOn_78 rfl rfl ?_
  refine r_getI lk_X12_241 (ln_101 hL) dX12_ticksOn_79 ?_
  obtain ⟨x5, hx5, hF⟩ := bnd hF
  refine c_virt_i (As := [.int (I 101 26)]) mi_X12_cosineOf kw_1239 ks_45 kw_1237 rfl (by decide) (ln_101 hL) (ok_X12_cosineOf hL  hx5) rfl rfl (Nat.le_of_ble_eq_true rfl) ⟨Nat.le_of_ble_eq_true rfl, Nat.le_of_ble_eq_true rfl⟩ ⟨Nat.le_of_ble_eq_true rfl, Nat.le_of_ble_eq_true rfl⟩ dX12_ticksOn_82 ?_
  refine c_static_i (As := [.int x5]) mi_X12_bare kw_1242 kw_1241 (ok_X12_bare hL  (p1 := x5)) rfl rfl (Nat.le_of_ble_eq_true rfl) ⟨Nat.le_of_ble_eq_true rfl, Nat.le_of_ble_eq_true rfl⟩ ⟨Nat.le_of_ble_eq_true rfl, Nat.le_of_ble_eq_true rfl⟩ dX12_ticksOn_85 ?_
  refine r_imul dX12_ticksOn_88 ?_
  refine r_sipush (v := 1000) dX12_ticksOn_89 (by decide) ?_
  refine r_idiv dX12_ticksOn_92 (by decide) ?_
  refine r_iadd dX12_ticksOn_93 ?_
  refine r_letV hF (fun y6 hF => ?_)
  refine r_istore (ls' := [(4, .int y6), (3, .int y4), (2, .int y2), (1, .int y1), (0, .ref 101)]) dX12_ticksOn_94 (by decide) rfl ?_
  refine r_aload_n dX12_ticksOn_96 rfl rfl ?_
  refine r_getI lk_X12_250 (ln_101 hL) dX12_ticksOn_97 ?_
  refine r_aload_n dX12_ticksOn_100 rfl rfl ?_
  refine r_getI lk_X12_223 (ln_101 hL) dX12_ticksOn_101 ?_
  refine r_iadd dX12_ticksOn_104 ?_
  refine r_aload_n dX12_ticksOn_105 rfl rfl ?_
  refine r_getI lk_X12_250 (ln_101 hL) dX12_ticksOn_106 ?_
  refine r_iload dX12_ticksOn_109 rfl ?_
  refine r_imul dX12_ticksOn_111 ?_
  refine r_bipush (v := 64) dX12_ticksOn_112 (by decide) ?_
  refine r_idiv dX12_ticksOn_114 (by decide) ?_
  refine r_isub dX12_ticksOn_115 ?_
  refine r_letV hF (fun y7 hF => ?_)
  refine r_istore (ls' := [(5, .int y7), (4, .int y6), (3, .int y4), (2, .int y2), (1, .int y1), (0, .ref 101)]) dX12_ticksOn_116 (by decide) rfl ?_
  refine r_aload_n dX12_ticksOn_118 rfl rfl ?_
  refine r_aload_n dX12_ticksOn_119 rfl rfl ?_
  refine r_getI lk_X12_247 (ln_101 hL) dX12_ticksOn_120 ?_
  refine r_iload_n dX12_ticksOn_123 rfl rfl ?_
  refine r_iadd dX12_ticksOn_124 ?_
  refine r_sipush (v := 9999) dX12_ticksOn_125 (by decide) ?_
  refine c_static_i (As := [.int ((I 101 28) + y4), .int 9999]) mi_X12_kept kw_1245 kw_1244 (ok_X12_kept hL  (p1 := ((I 101 28) + y4)) (p2 := 9999)) rfl rfl (Nat.le_of_ble_eq_true rfl) ⟨Nat.le_of_ble_eq_true rfl, Nat.le_of_ble_eq_true rfl⟩ ⟨Nat.le_of_ble_eq_true rfl, Nat.le_of_ble_eq_true rfl⟩ dX12_ticksOn_128 ?_
  refine r_putI lk_X12_247 (Or.inl rfl) (ln_101 hL) rfl rfl dX12_ticksOn_131 ?_
  refine r_letI hF (fun I8 hF => ?_)
  refine r_aload_n dX12_ticksOn_134 rfl rfl ?_
  refine r_aload_n dX12_ticksOn_135 rfl rfl ?_
  refine r_getI lk_X12_220 (ln_101 hL) dX12_ticksOn_136 ?_
  refine r_iconst (v := 5) dX12_ticksOn_139 (by decide) ?_
  refine r_icmp_ne (tgt := 150) dX12_ticksOn_140 (by decide) (fun h9 => ?_) (fun h9 => ?_)
  · have hF := fw hF h9
    refine r_iload dX12_ticksOn_150 rfl ?_
    refine r_sipush (v := 9999) dX12_ticksOn_152 (by decide) ?_
    refine c_static_i (As := [.int y7, .int 9999]) mi_X12_kept kw_1245 kw_1244 (ok_X12_kept hL  (p1 := y7) (p2 := 9999)) rfl rfl (Nat.le_of_ble_eq_true rfl) ⟨Nat.le_of_ble_eq_true rfl, Nat.le_of_ble_eq_true rfl⟩ ⟨Nat.le_of_ble_eq_true rfl, Nat.le_of_ble_eq_true rfl⟩ dX12_ticksOn_155 ?_
    refine r_putI lk_X12_250 (Or.inl rfl) (ln_101 hL) rfl rfl dX12_ticksOn_158 ?_
    refine r_letI hF (fun I10 hF => ?_)
    refine r_aload_n dX12_ticksOn_161 rfl rfl ?_
    refine r_aload_n dX12_ticksOn_162 rfl rfl ?_
    obtain ⟨x11, hx11, hF⟩ := bnd hF
    refine c_virt_i (As := []) mi_X12_toldTurn kw_1249 ks_46 kw_1247 rfl (by decide) (ln_101 hL) (ok_X12_toldTurn hL  hx11) rfl rfl (Nat.le_of_ble_eq_true rfl) ⟨Nat.le_of_ble_eq_true rfl, Nat.le_of_ble_eq_true rfl⟩ ⟨Nat.le_of_ble_eq_true rfl, Nat.le_of_ble_eq_true rfl⟩ dX12_ticksOn_163 ?_
    refine r_bipush (v := 9) dX12_ticksOn_166 (by decide) ?_
    refine c_static_i (As := [.int x11, .int 9]) mi_X12_kept kw_1245 kw_1244 (ok_X12_kept hL  (p1 := x11) (p2 := 9)) rfl rfl (Nat.le_of_ble_eq_true rfl) ⟨Nat.le_of_ble_eq_true rfl, Nat.le_of_ble_eq_true rfl⟩ ⟨Nat.le_of_ble_eq_true rfl, Nat.le_of_ble_eq_true rfl⟩ dX12_ticksOn_168 ?_
    refine r_putI lk_X12_244 (Or.inl rfl) (ln_101 hL) rfl rfl dX12_ticksOn_171 ?_
    refine r_letI hF (fun I12 hF => ?_)
    refine r_aload_n dX12_ticksOn_174 rfl rfl ?_
    refine r_aload_n dX12_ticksOn_175 rfl rfl ?_
    refine r_getI lk_X12_241 (ln_101 hL) dX12_ticksOn_176 ?_
    refine r_aload_n dX12_ticksOn_179 rfl rfl ?_
    refine r_getI lk_X12_244 (ln_101 hL) dX12_ticksOn_180 ?_
    refine r_iadd dX12_ticksOn_183 ?_
    refine r_bipush (v := 36) dX12_ticksOn_184 (by decide) ?_
    refine r_iadd dX12_ticksOn_186 ?_
    refine r_bipush (v := 36) dX12_ticksOn_187 (by decide) ?_
    refine r_irem dX12_ticksOn_189 (by decide) ?_
    refine r_putI lk_X12_241 (Or.inl rfl) (ln_101 hL) rfl rfl dX12_ticksOn_190 ?_
    refine r_letI hF (fun I13 hF => ?_)
    refine r_aload_n dX12_ticksOn_193 rfl rfl ?_
    refine r_dup dX12_ticksOn_194 rfl ?_
    refine r_getI lk_X12_235 (ln_101 hL) dX12_ticksOn_195 ?_
    refine r_aload_n dX12_ticksOn_198 rfl rfl ?_
    refine r_getI lk_X12_247 (ln_101 hL) dX12_ticksOn_199 ?_
    refine r_bipush (v := 8) dX12_ticksOn_202 (by decide) ?_
    refine r_idiv dX12_ticksOn_204 (by decide) ?_
    refine r_iadd dX12_ticksOn_205 ?_
    refine r_putI lk_X12_235 (Or.inl rfl) (ln_101 hL) rfl rfl dX12_ticksOn_206 ?_
    refine r_letI hF (fun I14 hF => ?_)
    refine r_aload_n dX12_ticksOn_209 rfl rfl ?_
    refine r_dup dX12_ticksOn_210 rfl ?_
    refine r_getI lk_X12_238 (ln_101 hL) dX12_ticksOn_211 ?_
    refine r_aload_n dX12_ticksOn_214 rfl rfl ?_
    refine r_getI lk_X12_250 (ln_101 hL) dX12_ticksOn_215 ?_
    refine r_bipush (v := 8) dX12_ticksOn_218 (by decide) ?_
    refine r_idiv dX12_ticksOn_220 (by decide) ?_
    refine r_isub dX12_ticksOn_221 ?_
    refine r_putI lk_X12_238 (Or.inl rfl) (ln_101 hL) rfl rfl dX12_ticksOn_222 ?_
    refine r_letI hF (fun I15 hF => ?_)
    refine r_aload_n dX12_ticksOn_225 rfl rfl ?_
    refine r_dup dX12_ticksOn_226 rfl ?_
    refine r_getI lk_X12_232 (ln_101 hL) dX12_ticksOn_227 ?_
    refine r_iconst (v := 1) dX12_ticksOn_230 (by decide) ?_
    refine r_iadd dX12_ticksOn_231 ?_
    refine r_putI lk_X12_232 (Or.inl rfl) (ln_101 hL) rfl rfl dX12_ticksOn_232 ?_
    refine r_letI hF (fun I16 hF => ?_)
    refine r_aload_n dX12_ticksOn_235 rfl rfl ?_
    refine r_dup dX12_ticksOn_236 rfl ?_
    refine r_getI lk_X12_253 (ln_101 hL) dX12_ticksOn_237 ?_
    refine r_aload_n dX12_ticksOn_240 rfl rfl ?_
    refine r_getI lk_X12_232 (ln_101 hL) dX12_ticksOn_241 ?_
    refine r_iconst (v := 1) dX12_ticksOn_244 (by decide) ?_
    refine r_icmp_le (tgt := 274) dX12_ticksOn_245 (by decide) (fun h17 => ?_) (fun h17 => ?_)
    · have hF := tw hF h17
      refine r_iconst (v := 0) dX12_ticksOn_274 (by decide) ?_
      refine r_iadd dX12_ticksOn_275 ?_
      refine r_putI lk_X12_253 (Or.inl rfl) (ln_101 hL) rfl rfl dX12_ticksOn_276 ?_
      refine r_letI hF (fun I18 hF => ?_)
      refine r_aload_n dX12_ticksOn_279 rfl rfl ?_
      refine r_dup dX12_ticksOn_280 rfl ?_
      refine r_getI lk_X12_256 (ln_101 hL) dX12_ticksOn_281 ?_
      refine r_iload_n dX12_ticksOn_284 rfl rfl ?_
      refine r_bipush (v := 27) dX12_ticksOn_285 (by decide) ?_
      refine r_icmp_lt (tgt := 299) dX12_ticksOn_287 (by decide) (fun h19 => ?_) (fun h19 => ?_)
      · have hF := tw hF h19
        refine r_iload_n dX12_ticksOn_299 rfl rfl ?_
        refine r_bipush (v := 8) dX12_ticksOn_300 (by decide) ?_
        refine r_icmp_gt (tgt := 318) dX12_ticksOn_302 (by decide) (fun h20 => ?_) (fun h20 => ?_)
        · have hF := tw hF h20
          refine r_iconst (v := 0) dX12_ticksOn_318 (by decide) ?_
          refine r_iadd dX12_ticksOn_319 ?_
          refine r_putI lk_X12_256 (Or.inl rfl) (ln_101 hL) rfl rfl dX12_ticksOn_320 ?_
          refine r_letI hF (fun I21 hF => ?_)
          obtain rfl := Option.some.inj hF
          exact r_return rfl dX12_ticksOn_323 (Nat.le_of_ble_eq_true rfl) (Nat.le_of_ble_eq_true rfl)
        · have hF := fw hF h20
          refine r_aload_n dX12_ticksOn_305 rfl rfl ?_
          refine r_getI lk_X12_241 (ln_101 hL) dX12_ticksOn_306 ?_
          refine r_bipush (v := 27) dX12_ticksOn_309 (by decide) ?_
          refine r_icmp_lt (tgt := 318) dX12_ticksOn_311 (by decide) (fun h22 => ?_) (fun h22 => ?_)
          · have hF := tw hF h22
            refine r_iconst (v := 0) dX12_ticksOn_318 (by decide) ?_
            refine r_iadd dX12_ticksOn_319 ?_
            refine r_putI lk_X12_256 (Or.inl rfl) (ln_101 hL) rfl rfl dX12_ticksOn_320 ?_
            refine r_letI hF (fun I23 hF => ?_)
            obtain rfl := Option.some.inj hF
            exact r_return rfl dX12_ticksOn_323 (Nat.le_of_ble_eq_true rfl) (Nat.le_of_ble_eq_true rfl)
          · have hF := fw hF h22
            refine r_iconst (v := 1) dX12_ticksOn_314 (by decide) ?_
            refine r_goto (tgt := 319) dX12_ticksOn_315 (by decide) ?_
            refine r_iadd dX12_ticksOn_319 ?_
            refine r_putI lk_X12_256 (Or.inl rfl) (ln_101 hL) rfl rfl dX12_ticksOn_320 ?_
            refine r_letI hF (fun I24 hF => ?_)
            obtain rfl := Option.some.inj hF
            exact r_return rfl dX12_ticksOn_323 (Nat.le_of_ble_eq_true rfl) (Nat.le_of_ble_eq_true rfl)
      · have hF := fw hF h19
        refine r_aload_n dX12_ticksOn_290 rfl rfl ?_
        refine r_getI lk_X12_241 (ln_101 hL) dX12_ticksOn_291 ?_
        refine r_bipush (v := 8) dX12_ticksOn_294 (by decide) ?_
        refine r_icmp_le (tgt := 314) dX12_ticksOn_296 (by decide) (fun h25 => ?_) (fun h25 => ?_)
        · have hF := tw hF h25
          refine r_iconst (v := 1) dX12_ticksOn_314 (by decide) ?_
          refine r_goto (tgt := 319) dX12_ticksOn_315 (by decide) ?_
          refine r_iadd dX12_ticksOn_319 ?_
          refine r_putI lk_X12_256 (Or.inl rfl) (ln_101 hL) rfl rfl dX12_ticksOn_320 ?_
          refine r_letI hF (fun I26 hF => ?_)
          obtain rfl := Option.some.inj hF
          exact r_return rfl dX12_ticksOn_323 (Nat.le_of_ble_eq_true rfl) (Nat.le_of_ble_eq_true rfl)
        · have hF := fw hF h25
          refine r_iload_n dX12_ticksOn_299 rfl rfl ?_
          refine r_bipush (v := 8) dX12_ticksOn_300 (by decide) ?_
          refine r_icmp_gt (tgt := 318) dX12_ticksOn_302 (by decide) (fun h27 => ?_) (fun h27 => ?_)
          · have hF := tw hF h27
            refine r_iconst (v := 0) dX12_ticksOn_318 (by decide) ?_
            refine r_iadd dX12_ticksOn_319 ?_
            refine r_putI lk_X12_256 (Or.inl rfl) (ln_101 hL) rfl rfl dX12_ticksOn_320 ?_
            refine r_letI hF (fun I28 hF => ?_)
            obtain rfl := Option.some.inj hF
            exact r_return rfl dX12_ticksOn_323 (Nat.le_of_ble_eq_true rfl) (Nat.le_of_ble_eq_true rfl)
          · have hF := fw hF h27
            refine r_aload_n dX12_ticksOn_305 rfl rfl ?_
            refine r_getI lk_X12_241 (ln_101 hL) dX12_ticksOn_306 ?_
            refine r_bipush (v := 27) dX12_ticksOn_309 (by decide) ?_
            refine r_icmp_lt (tgt := 318) dX12_ticksOn_311 (by decide) (fun h29 => ?_) (fun h29 => ?_)
            · have hF := tw hF h29
              refine r_iconst (v := 0) dX12_ticksOn_318 (by decide) ?_
              refine r_iadd dX12_ticksOn_319 ?_
              refine r_putI lk_X12_256 (Or.inl rfl) (ln_101 hL) rfl rfl dX12_ticksOn_320 ?_
              refine r_letI hF (fun I30 hF => ?_)
              obtain rfl := Option.some.inj hF
              exact r_return rfl dX12_ticksOn_323 (Nat.le_of_ble_eq_true rfl) (Nat.le_of_ble_eq_true rfl)
            · have hF := fw hF h29
              refine r_iconst (v := 1) dX12_ticksOn_314 (by decide) ?_
              refine r_goto (tgt := 319) dX12_ticksOn_315 (by decide) ?_
              refine r_iadd dX12_ticksOn_319 ?_
              refine r_putI lk_X12_256 (Or.inl rfl) (ln_101 hL) rfl rfl dX12_ticksOn_320 ?_
              refine r_letI hF (fun I31 hF => ?_)
              obtain rfl := Option.some.inj hF
              exact r_return rfl dX12_ticksOn_323 (Nat.le_of_ble_eq_true rfl) (Nat.le_of_ble_eq_true rfl)
    · have hF := fw hF h17
      refine r_iload_n dX12_ticksOn_248 rfl rfl ?_
      refine r_if_le (tgt := 259) dX12_ticksOn_249 (by decide) (fun h32 => ?_) (fun h32 => ?_)
      · have hF := tw hF h32
        refine r_iload_n dX12_ticksOn_259 rfl rfl ?_
        refine r_if_ge (tgt := 274) dX12_ticksOn_260 (by decide) (fun h33 => ?_) (fun h33 => ?_)
        · have hF := tw hF h33
          refine r_iconst (v := 0) dX12_ticksOn_274 (by decide) ?_
          refine r_iadd dX12_ticksOn_275 ?_
          refine r_putI lk_X12_253 (Or.inl rfl) (ln_101 hL) rfl rfl dX12_ticksOn_276 ?_
          refine r_letI hF (fun I34 hF => ?_)
          refine r_aload_n dX12_ticksOn_279 rfl rfl ?_
          refine r_dup dX12_ticksOn_280 rfl ?_
          refine r_getI lk_X12_256 (ln_101 hL) dX12_ticksOn_281 ?_
          refine r_iload_n dX12_ticksOn_284 rfl rfl ?_
          refine r_bipush (v := 27) dX12_ticksOn_285 (by decide) ?_
          refine r_icmp_lt (tgt := 299) dX12_ticksOn_287 (by decide) (fun h35 => ?_) (fun h35 => ?_)
          · have hF := tw hF h35
            refine r_iload_n dX12_ticksOn_299 rfl rfl ?_
            refine r_bipush (v := 8) dX12_ticksOn_300 (by decide) ?_
            refine r_icmp_gt (tgt := 318) dX12_ticksOn_302 (by decide) (fun h36 => ?_) (fun h36 => ?_)
            · have hF := tw hF h36
              refine r_iconst (v := 0) dX12_ticksOn_318 (by decide) ?_
              refine r_iadd dX12_ticksOn_319 ?_
              refine r_putI lk_X12_256 (Or.inl rfl) (ln_101 hL) rfl rfl dX12_ticksOn_320 ?_
              refine r_letI hF (fun I37 hF => ?_)
              obtain rfl := Option.some.inj hF
              exact r_return rfl dX12_ticksOn_323 (Nat.le_of_ble_eq_true rfl) (Nat.le_of_ble_eq_true rfl)
            · have hF := fw hF h36
              refine r_aload_n dX12_ticksOn_305 rfl rfl ?_
              refine r_getI lk_X12_241 (ln_101 hL) dX12_ticksOn_306 ?_
              refine r_bipush (v := 27) dX12_ticksOn_309 (by decide) ?_
              refine r_icmp_lt (tgt := 318) dX12_ticksOn_311 (by decide) (fun h38 => ?_) (fun h38 => ?_)
              · have hF := tw hF h38
                refine r_iconst (v := 0) dX12_ticksOn_318 (by decide) ?_
                refine r_iadd dX12_ticksOn_319 ?_
                refine r_putI lk_X12_256 (Or.inl rfl) (ln_101 hL) rfl rfl dX12_ticksOn_320 ?_
                refine r_letI hF (fun I39 hF => ?_)
                obtain rfl := Option.some.inj hF
                exact r_return rfl dX12_ticksOn_323 (Nat.le_of_ble_eq_true rfl) (Nat.le_of_ble_eq_true rfl)
              · have hF := fw hF h38
                refine r_iconst (v := 1) dX12_ticksOn_314 (by decide) ?_
                refine r_goto (tgt := 319) dX12_ticksOn_315 (by decide) ?_
                refine r_iadd dX12_ticksOn_319 ?_
                refine r_putI lk_X12_256 (Or.inl rfl) (ln_101 hL) rfl rfl dX12_ticksOn_320 ?_
                refine r_letI hF (fun I40 hF => ?_)
                obtain rfl := Option.some.inj hF
                exact r_return rfl dX12_ticksOn_323 (Nat.le_of_ble_eq_true rfl) (Nat.le_of_ble_eq_true rfl)
          · have hF := fw hF h35
            refine r_aload_n dX12_ticksOn_290 rfl rfl ?_
            refine r_getI lk_X12_241 (ln_101 hL) dX12_ticksOn_291 ?_
            refine r_bipush (v := 8) dX12_ticksOn_294 (by decide) ?_
            refine r_icmp_le (tgt := 314) dX12_ticksOn_296 (by decide) (fun h41 => ?_) (fun h41 => ?_)
            · have hF := tw hF h41
              refine r_iconst (v := 1) dX12_ticksOn_314 (by decide) ?_
              refine r_goto (tgt := 319) dX12_ticksOn_315 (by decide) ?_
              refine r_iadd dX12_ticksOn_319 ?_
              refine r_putI lk_X12_256 (Or.inl rfl) (ln_101 hL) rfl rfl dX12_ticksOn_320 ?_
              refine r_letI hF (fun I42 hF => ?_)
              obtain rfl := Option.some.inj hF
              exact r_return rfl dX12_ticksOn_323 (Nat.le_of_ble_eq_true rfl) (Nat.le_of_ble_eq_true rfl)
            · have hF := fw hF h41
              refine r_iload_n dX12_ticksOn_299 rfl rfl ?_
              refine r_bipush (v := 8) dX12_ticksOn_300 (by decide) ?_
              refine r_icmp_gt (tgt := 318) dX12_ticksOn_302 (by decide) (fun h43 => ?_) (fun h43 => ?_)
              · have hF := tw hF h43
                refine r_iconst (v := 0) dX12_ticksOn_318 (by decide) ?_
                refine r_iadd dX12_ticksOn_319 ?_
                refine r_putI lk_X12_256 (Or.inl rfl) (ln_101 hL) rfl rfl dX12_ticksOn_320 ?_
                refine r_letI hF (fun I44 hF => ?_)
                obtain rfl := Option.some.inj hF
                exact r_return rfl dX12_ticksOn_323 (Nat.le_of_ble_eq_true rfl) (Nat.le_of_ble_eq_true rfl)
              · have hF := fw hF h43
                refine r_aload_n dX12_ticksOn_305 rfl rfl ?_
                refine r_getI lk_X12_241 (ln_101 hL) dX12_ticksOn_306 ?_
                refine r_bipush (v := 27) dX12_ticksOn_309 (by decide) ?_
                refine r_icmp_lt (tgt := 318) dX12_ticksOn_311 (by decide) (fun h45 => ?_) (fun h45 => ?_)
                · have hF := tw hF h45
                  refine r_iconst (v := 0) dX12_ticksOn_318 (by decide) ?_
                  refine r_iadd dX12_ticksOn_319 ?_
                  refine r_putI lk_X12_256 (Or.inl rfl) (ln_101 hL) rfl rfl dX12_ticksOn_320 ?_
                  refine r_letI hF (fun I46 hF => ?_)
                  obtain rfl := Option.some.inj hF
                  exact r_return rfl dX12_ticksOn_323 (Nat.le_of_ble_eq_true rfl) (Nat.le_of_ble_eq_true rfl)
                · have hF := fw hF h45
                  refine r_iconst (v := 1) dX12_ticksOn_314 (by decide) ?_
                  refine r_goto (tgt := 319) dX12_ticksOn_315 (by decide) ?_
                  refine r_iadd dX12_ticksOn_319 ?_
                  refine r_putI lk_X12_256 (Or.inl rfl) (ln_101 hL) rfl rfl dX12_ticksOn_320 ?_
                  refine r_letI hF (fun I47 hF => ?_)
                  obtain rfl := Option.some.inj hF
                  exact r_return rfl dX12_ticksOn_323 (Nat.le_of_ble_eq_true rfl) (Nat.le_of_ble_eq_true rfl)
        · have hF := fw hF h33
          refine r_aload_n dX12_ticksOn_263 rfl rfl ?_
          refine r_getI lk_X12_244 (ln_101 hL) dX12_ticksOn_264 ?_
          refine r_if_le (tgt := 274) dX12_ticksOn_267 (by decide) (fun h48 => ?_) (fun h48 => ?_)
          · have hF := tw hF h48
            refine r_iconst (v := 0) dX12_ticksOn_274 (by decide) ?_
            refine r_iadd dX12_ticksOn_275 ?_
            refine r_putI lk_X12_253 (Or.inl rfl) (ln_101 hL) rfl rfl dX12_ticksOn_276 ?_
            refine r_letI hF (fun I49 hF => ?_)
            refine r_aload_n dX12_ticksOn_279 rfl rfl ?_
            refine r_dup dX12_ticksOn_280 rfl ?_
            refine r_getI lk_X12_256 (ln_101 hL) dX12_ticksOn_281 ?_
            refine r_iload_n dX12_ticksOn_284 rfl rfl ?_
            refine r_bipush (v := 27) dX12_ticksOn_285 (by decide) ?_
            refine r_icmp_lt (tgt := 299) dX12_ticksOn_287 (by decide) (fun h50 => ?_) (fun h50 => ?_)
            · have hF := tw hF h50
              refine r_iload_n dX12_ticksOn_299 rfl rfl ?_
              refine r_bipush (v := 8) dX12_ticksOn_300 (by decide) ?_
              refine r_icmp_gt (tgt := 318) dX12_ticksOn_302 (by decide) (fun h51 => ?_) (fun h51 => ?_)
              · have hF := tw hF h51
                refine r_iconst (v := 0) dX12_ticksOn_318 (by decide) ?_
                refine r_iadd dX12_ticksOn_319 ?_
                refine r_putI lk_X12_256 (Or.inl rfl) (ln_101 hL) rfl rfl dX12_ticksOn_320 ?_
                refine r_letI hF (fun I52 hF => ?_)
                obtain rfl := Option.some.inj hF
                exact r_return rfl dX12_ticksOn_323 (Nat.le_of_ble_eq_true rfl) (Nat.le_of_ble_eq_true rfl)
              · have hF := fw hF h51
                refine r_aload_n dX12_ticksOn_305 rfl rfl ?_
                refine r_getI lk_X12_241 (ln_101 hL) dX12_ticksOn_306 ?_
                refine r_bipush (v := 27) dX12_ticksOn_309 (by decide) ?_
                refine r_icmp_lt (tgt := 318) dX12_ticksOn_311 (by decide) (fun h53 => ?_) (fun h53 => ?_)
                · have hF := tw hF h53
                  refine r_iconst (v := 0) dX12_ticksOn_318 (by decide) ?_
                  refine r_iadd dX12_ticksOn_319 ?_
                  refine r_putI lk_X12_256 (Or.inl rfl) (ln_101 hL) rfl rfl dX12_ticksOn_320 ?_
                  refine r_letI hF (fun I54 hF => ?_)
                  obtain rfl := Option.some.inj hF
                  exact r_return rfl dX12_ticksOn_323 (Nat.le_of_ble_eq_true rfl) (Nat.le_of_ble_eq_true rfl)
                · have hF := fw hF h53
                  refine r_iconst (v := 1) dX12_ticksOn_314 (by decide) ?_
                  refine r_goto (tgt := 319) dX12_ticksOn_315 (by decide) ?_
                  refine r_iadd dX12_ticksOn_319 ?_
                  refine r_putI lk_X12_256 (Or.inl rfl) (ln_101 hL) rfl rfl dX12_ticksOn_320 ?_
                  refine r_letI hF (fun I55 hF => ?_)
                  obtain rfl := Option.some.inj hF
                  exact r_return rfl dX12_ticksOn_323 (Nat.le_of_ble_eq_true rfl) (Nat.le_of_ble_eq_true rfl)
            · have hF := fw hF h50
              refine r_aload_n dX12_ticksOn_290 rfl rfl ?_
              refine r_getI lk_X12_241 (ln_101 hL) dX12_ticksOn_291 ?_
              refine r_bipush (v := 8) dX12_ticksOn_294 (by decide) ?_
              refine r_icmp_le (tgt := 314) dX12_ticksOn_296 (by decide) (fun h56 => ?_) (fun h56 => ?_)
              · have hF := tw hF h56
                refine r_iconst (v := 1) dX12_ticksOn_314 (by decide) ?_
                refine r_goto (tgt := 319) dX12_ticksOn_315 (by decide) ?_
                refine r_iadd dX12_ticksOn_319 ?_
                refine r_putI lk_X12_256 (Or.inl rfl) (ln_101 hL) rfl rfl dX12_ticksOn_320 ?_
                refine r_letI hF (fun I57 hF => ?_)
                obtain rfl := Option.some.inj hF
                exact r_return rfl dX12_ticksOn_323 (Nat.le_of_ble_eq_true rfl) (Nat.le_of_ble_eq_true rfl)
              · have hF := fw hF h56
                refine r_iload_n dX12_ticksOn_299 rfl rfl ?_
                refine r_bipush (v := 8) dX12_ticksOn_300 (by decide) ?_
                refine r_icmp_gt (tgt := 318) dX12_ticksOn_302 (by decide) (fun h58 => ?_) (fun h58 => ?_)
                · have hF := tw hF h58
                  refine r_iconst (v := 0) dX12_ticksOn_318 (by decide) ?_
                  refine r_iadd dX12_ticksOn_319 ?_
                  refine r_putI lk_X12_256 (Or.inl rfl) (ln_101 hL) rfl rfl dX12_ticksOn_320 ?_
                  refine r_letI hF (fun I59 hF => ?_)
                  obtain rfl := Option.some.inj hF
                  exact r_return rfl dX12_ticksOn_323 (Nat.le_of_ble_eq_true rfl) (Nat.le_of_ble_eq_true rfl)
                · have hF := fw hF h58
                  refine r_aload_n dX12_ticksOn_305 rfl rfl ?_
                  refine r_getI lk_X12_241 (ln_101 hL) dX12_ticksOn_306 ?_
                  refine r_bipush (v := 27) dX12_ticksOn_309 (by decide) ?_
                  refine r_icmp_lt (tgt := 318) dX12_ticksOn_311 (by decide) (fun h60 => ?_) (fun h60 => ?_)
                  · have hF := tw hF h60
                    refine r_iconst (v := 0) dX12_ticksOn_318 (by decide) ?_
                    refine r_iadd dX12_ticksOn_319 ?_
                    refine r_putI lk_X12_256 (Or.inl rfl) (ln_101 hL) rfl rfl dX12_ticksOn_320 ?_
                    refine r_letI hF (fun I61 hF => ?_)
                    obtain rfl := Option.some.inj hF
                    exact r_return rfl dX12_ticksOn_323 (Nat.le_of_ble_eq_true rfl) (Nat.le_of_ble_eq_true rfl)
                  · have hF := fw hF h60
                    refine r_iconst (v := 1) dX12_ticksOn_314 (by decide) ?_
                    refine r_goto (tgt := 319) dX12_ticksOn_315 (by decide) ?_
                    refine r_iadd dX12_ticksOn_319 ?_
                    refine r_putI lk_X12_256 (Or.inl rfl) (ln_101 hL) rfl rfl dX12_ticksOn_320 ?_
                    refine r_letI hF (fun I62 hF => ?_)
                    obtain rfl := Option.some.inj hF
                    exact r_return rfl dX12_ticksOn_323 (Nat.le_of_ble_eq_true rfl) (Nat.le_of_ble_eq_true rfl)
          · have hF := fw hF h48
            refine r_iconst (v := 1) dX12_ticksOn_270 (by decide) ?_
            refine r_goto (tgt := 275) dX12_ticksOn_271 (by decide) ?_
            refine r_iadd dX12_ticksOn_275 ?_
            refine r_putI lk_X12_253 (Or.inl rfl) (ln_101 hL) rfl rfl dX12_ticksOn_276 ?_
            refine r_letI hF (fun I63 hF => ?_)
            refine r_aload_n dX12_ticksOn_279 rfl rfl ?_
            refine r_dup dX12_ticksOn_280 rfl ?_
            refine r_getI lk_X12_256 (ln_101 hL) dX12_ticksOn_281 ?_
            refine r_iload_n dX12_ticksOn_284 rfl rfl ?_
            refine r_bipush (v := 27) dX12_ticksOn_285 (by decide) ?_
            refine r_icmp_lt (tgt := 299) dX12_ticksOn_287 (by decide) (fun h64 => ?_) (fun h64 => ?_)
            · have hF := tw hF h64
              refine r_iload_n dX12_ticksOn_299 rfl rfl ?_
              refine r_bipush (v := 8) dX12_ticksOn_300 (by decide) ?_
              refine r_icmp_gt (tgt := 318) dX12_ticksOn_302 (by decide) (fun h65 => ?_) (fun h65 => ?_)
              · have hF := tw hF h65
                refine r_iconst (v := 0) dX12_ticksOn_318 (by decide) ?_
                refine r_iadd dX12_ticksOn_319 ?_
                refine r_putI lk_X12_256 (Or.inl rfl) (ln_101 hL) rfl rfl dX12_ticksOn_320 ?_
                refine r_letI hF (fun I66 hF => ?_)
                obtain rfl := Option.some.inj hF
                exact r_return rfl dX12_ticksOn_323 (Nat.le_of_ble_eq_true rfl) (Nat.le_of_ble_eq_true rfl)
              · have hF := fw hF h65
                refine r_aload_n dX12_ticksOn_305 rfl rfl ?_
                refine r_getI lk_X12_241 (ln_101 hL) dX12_ticksOn_306 ?_
                refine r_bipush (v := 27) dX12_ticksOn_309 (by decide) ?_
                refine r_icmp_lt (tgt := 318) dX12_ticksOn_311 (by decide) (fun h67 => ?_) (fun h67 => ?_)
                · have hF := tw hF h67
                  refine r_iconst (v := 0) dX12_ticksOn_318 (by decide) ?_
                  refine r_iadd dX12_ticksOn_319 ?_
                  refine r_putI lk_X12_256 (Or.inl rfl) (ln_101 hL) rfl rfl dX12_ticksOn_320 ?_
                  refine r_letI hF (fun I68 hF => ?_)
                  obtain rfl := Option.some.inj hF
                  exact r_return rfl dX12_ticksOn_323 (Nat.le_of_ble_eq_true rfl) (Nat.le_of_ble_eq_true rfl)
                · have hF := fw hF h67
                  refine r_iconst (v := 1) dX12_ticksOn_314 (by decide) ?_
                  refine r_goto (tgt := 319) dX12_ticksOn_315 (by decide) ?_
                  refine r_iadd dX12_ticksOn_319 ?_
                  refine r_putI lk_X12_256 (Or.inl rfl) (ln_101 hL) rfl rfl dX12_ticksOn_320 ?_
                  refine r_letI hF (fun I69 hF => ?_)
                  obtain rfl := Option.some.inj hF
                  exact r_return rfl dX12_ticksOn_323 (Nat.le_of_ble_eq_true rfl) (Nat.le_of_ble_eq_true rfl)
            · have hF := fw hF h64
              refine r_aload_n dX12_ticksOn_290 rfl rfl ?_
              refine r_getI lk_X12_241 (ln_101 hL) dX12_ticksOn_291 ?_
              refine r_bipush (v := 8) dX12_ticksOn_294 (by decide) ?_
              refine r_icmp_le (tgt := 314) dX12_ticksOn_296 (by decide) (fun h70 => ?_) (fun h70 => ?_)
              · have hF := tw hF h70
                refine r_iconst (v := 1) dX12_ticksOn_314 (by decide) ?_
                refine r_goto (tgt := 319) dX12_ticksOn_315 (by decide) ?_
                refine r_iadd dX12_ticksOn_319 ?_
                refine r_putI lk_X12_256 (Or.inl rfl) (ln_101 hL) rfl rfl dX12_ticksOn_320 ?_
                refine r_letI hF (fun I71 hF => ?_)
                obtain rfl := Option.some.inj hF
                exact r_return rfl dX12_ticksOn_323 (Nat.le_of_ble_eq_true rfl) (Nat.le_of_ble_eq_true rfl)
              · have hF := fw hF h70
                refine r_iload_n dX12_ticksOn_299 rfl rfl ?_
                refine r_bipush (v := 8) dX12_ticksOn_300 (by decide) ?_
                refine r_icmp_gt (tgt := 318) dX12_ticksOn_302 (by decide) (fun h72 => ?_) (fun h72 => ?_)
                · have hF := tw hF h72
                  refine r_iconst (v := 0) dX12_ticksOn_318 (by decide) ?_
                  refine r_iadd dX12_ticksOn_319 ?_
                  refine r_putI lk_X12_256 (Or.inl rfl) (ln_101 hL) rfl rfl dX12_ticksOn_320 ?_
                  refine r_letI hF (fun I73 hF => ?_)
                  obtain rfl := Option.some.inj hF
                  exact r_return rfl dX12_ticksOn_323 (Nat.le_of_ble_eq_true rfl) (Nat.le_of_ble_eq_true rfl)
                · have hF := fw hF h72
                  refine r_aload_n dX12_ticksOn_305 rfl rfl ?_
                  refine r_getI lk_X12_241 (ln_101 hL) dX12_ticksOn_306 ?_
                  refine r_bipush (v := 27) dX12_ticksOn_309 (by decide) ?_
                  refine r_icmp_lt (tgt := 318) dX12_ticksOn_311 (by decide) (fun h74 => ?_) (fun h74 => ?_)
                  · have hF := tw hF h74
                    refine r_iconst (v := 0) dX12_ticksOn_318 (by decide) ?_
                    refine r_iadd dX12_ticksOn_319 ?_
                    refine r_putI lk_X12_256 (Or.inl rfl) (ln_101 hL) rfl rfl dX12_ticksOn_320 ?_
                    refine r_letI hF (fun I75 hF => ?_)
                    obtain rfl := Option.some.inj hF
                    exact r_return rfl dX12_ticksOn_323 (Nat.le_of_ble_eq_true rfl) (Nat.le_of_ble_eq_true rfl)
                  · have hF := fw hF h74
                    refine r_iconst (v := 1) dX12_ticksOn_314 (by decide) ?_
                    refine r_goto (tgt := 319) dX12_ticksOn_315 (by decide) ?_
                    refine r_iadd dX12_ticksOn_319 ?_
                    refine r_putI lk_X12_256 (Or.inl rfl) (ln_101 hL) rfl rfl dX12_ticksOn_320 ?_
                    refine r_letI hF (fun I76 hF => ?_)
                    obtain rfl := Option.some.inj hF
                    exact r_return rfl dX12_ticksOn_323 (Nat.le_of_ble_eq_true rfl) (Nat.le_of_ble_eq_true rfl)
      · have hF := fw hF h32
        refine r_aload_n dX12_ticksOn_252 rfl rfl ?_
        refine r_getI lk_X12_244 (ln_101 hL) dX12_ticksOn_253 ?_
        refine r_if_lt (tgt := 270) dX12_ticksOn_256 (by decide) (fun h77 => ?_) (fun h77 => ?_)
        · have hF := tw hF h77
          refine r_iconst (v := 1) dX12_ticksOn_270 (by decide) ?_
          refine r_goto (tgt := 275) dX12_ticksOn_271 (by decide) ?_
          refine r_iadd dX12_ticksOn_275 ?_
          refine r_putI lk_X12_253 (Or.inl rfl) (ln_101 hL) rfl rfl dX12_ticksOn_276 ?_
          refine r_letI hF (fun I78 hF => ?_)
          refine r_aload_n dX12_ticksOn_279 rfl rfl ?_
          refine r_dup dX12_ticksOn_280 rfl ?_
          refine r_getI lk_X12_256 (ln_101 hL) dX12_ticksOn_281 ?_
          refine r_iload_n dX12_ticksOn_284 rfl rfl ?_
          refine r_bipush (v := 27) dX12_ticksOn_285 (by decide) ?_
          refine r_icmp_lt (tgt := 299) dX12_ticksOn_287 (by decide) (fun h79 => ?_) (fun h79 => ?_)
          · have hF := tw hF h79
            refine r_iload_n dX12_ticksOn_299 rfl rfl ?_
            refine r_bipush (v := 8) dX12_ticksOn_300 (by decide) ?_
            refine r_icmp_gt (tgt := 318) dX12_ticksOn_302 (by decide) (fun h80 => ?_) (fun h80 => ?_)
            · have hF := tw hF h80
              refine r_iconst (v := 0) dX12_ticksOn_318 (by decide) ?_
              refine r_iadd dX12_ticksOn_319 ?_
              refine r_putI lk_X12_256 (Or.inl rfl) (ln_101 hL) rfl rfl dX12_ticksOn_320 ?_
              refine r_letI hF (fun I81 hF => ?_)
              obtain rfl := Option.some.inj hF
              exact r_return rfl dX12_ticksOn_323 (Nat.le_of_ble_eq_true rfl) (Nat.le_of_ble_eq_true rfl)
            · have hF := fw hF h80
              refine r_aload_n dX12_ticksOn_305 rfl rfl ?_
              refine r_getI lk_X12_241 (ln_101 hL) dX12_ticksOn_306 ?_
              refine r_bipush (v := 27) dX12_ticksOn_309 (by decide) ?_
              refine r_icmp_lt (tgt := 318) dX12_ticksOn_311 (by decide) (fun h82 => ?_) (fun h82 => ?_)
              · have hF := tw hF h82
                refine r_iconst (v := 0) dX12_ticksOn_318 (by decide) ?_
                refine r_iadd dX12_ticksOn_319 ?_
                refine r_putI lk_X12_256 (Or.inl rfl) (ln_101 hL) rfl rfl dX12_ticksOn_320 ?_
                refine r_letI hF (fun I83 hF => ?_)
                obtain rfl := Option.some.inj hF
                exact r_return rfl dX12_ticksOn_323 (Nat.le_of_ble_eq_true rfl) (Nat.le_of_ble_eq_true rfl)
              · have hF := fw hF h82
                refine r_iconst (v := 1) dX12_ticksOn_314 (by decide) ?_
                refine r_goto (tgt := 319) dX12_ticksOn_315 (by decide) ?_
                refine r_iadd dX12_ticksOn_319 ?_
                refine r_putI lk_X12_256 (Or.inl rfl) (ln_101 hL) rfl rfl dX12_ticksOn_320 ?_
                refine r_letI hF (fun I84 hF => ?_)
                obtain rfl := Option.some.inj hF
                exact r_return rfl dX12_ticksOn_323 (Nat.le_of_ble_eq_true rfl) (Nat.le_of_ble_eq_true rfl)
          · have hF := fw hF h79
            refine r_aload_n dX12_ticksOn_290 rfl rfl ?_
            refine r_getI lk_X12_241 (ln_101 hL) dX12_ticksOn_291 ?_
            refine r_bipush (v := 8) dX12_ticksOn_294 (by decide) ?_
            refine r_icmp_le (tgt := 314) dX12_ticksOn_296 (by decide) (fun h85 => ?_) (fun h85 => ?_)
            · have hF := tw hF h85
              refine r_iconst (v := 1) dX12_ticksOn_314 (by decide) ?_
              refine r_goto (tgt := 319) dX12_ticksOn_315 (by decide) ?_
              refine r_iadd dX12_ticksOn_319 ?_
              refine r_putI lk_X12_256 (Or.inl rfl) (ln_101 hL) rfl rfl dX12_ticksOn_320 ?_
              refine r_letI hF (fun I86 hF => ?_)
              obtain rfl := Option.some.inj hF
              exact r_return rfl dX12_ticksOn_323 (Nat.le_of_ble_eq_true rfl) (Nat.le_of_ble_eq_true rfl)
            · have hF := fw hF h85
              refine r_iload_n dX12_ticksOn_299 rfl rfl ?_
              refine r_bipush (v := 8) dX12_ticksOn_300 (by decide) ?_
              refine r_icmp_gt (tgt := 318) dX12_ticksOn_302 (by decide) (fun h87 => ?_) (fun h87 => ?_)
              · have hF := tw hF h87
                refine r_iconst (v := 0) dX12_ticksOn_318 (by decide) ?_
                refine r_iadd dX12_ticksOn_319 ?_
                refine r_putI lk_X12_256 (Or.inl rfl) (ln_101 hL) rfl rfl dX12_ticksOn_320 ?_
                refine r_letI hF (fun I88 hF => ?_)
                obtain rfl := Option.some.inj hF
                exact r_return rfl dX12_ticksOn_323 (Nat.le_of_ble_eq_true rfl) (Nat.le_of_ble_eq_true rfl)
              · have hF := fw hF h87
                refine r_aload_n dX12_ticksOn_305 rfl rfl ?_
                refine r_getI lk_X12_241 (ln_101 hL) dX12_ticksOn_306 ?_
                refine r_bipush (v := 27) dX12_ticksOn_309 (by decide) ?_
                refine r_icmp_lt (tgt := 318) dX12_ticksOn_311 (by decide) (fun h89 => ?_) (fun h89 => ?_)
                · have hF := tw hF h89
                  refine r_iconst (v := 0) dX12_ticksOn_318 (by decide) ?_
                  refine r_iadd dX12_ticksOn_319 ?_
                  refine r_putI lk_X12_256 (Or.inl rfl) (ln_101 hL) rfl rfl dX12_ticksOn_320 ?_
                  refine r_letI hF (fun I90 hF => ?_)
                  obtain rfl := Option.some.inj hF
                  exact r_return rfl dX12_ticksOn_323 (Nat.le_of_ble_eq_true rfl) (Nat.le_of_ble_eq_true rfl)
                · have hF := fw hF h89
                  refine r_iconst (v := 1) dX12_ticksOn_314 (by decide) ?_
                  refine r_goto (tgt := 319) dX12_ticksOn_315 (by decide) ?_
                  refine r_iadd dX12_ticksOn_319 ?_
                  refine r_putI lk_X12_256 (Or.inl rfl) (ln_101 hL) rfl rfl dX12_ticksOn_320 ?_
                  refine r_letI hF (fun I91 hF => ?_)
                  obtain rfl := Option.some.inj hF
                  exact r_return rfl dX12_ticksOn_323 (Nat.le_of_ble_eq_true rfl) (Nat.le_of_ble_eq_true rfl)
        · have hF := fw hF h77
          refine r_iload_n dX12_ticksOn_259 rfl rfl ?_
          refine r_if_ge (tgt := 274) dX12_ticksOn_260 (by decide) (fun h92 => ?_) (fun h92 => ?_)
          · have hF := tw hF h92
            refine r_iconst (v := 0) dX12_ticksOn_274 (by decide) ?_
            refine r_iadd dX12_ticksOn_275 ?_
            refine r_putI lk_X12_253 (Or.inl rfl) (ln_101 hL) rfl rfl dX12_ticksOn_276 ?_
            refine r_letI hF (fun I93 hF => ?_)
            refine r_aload_n dX12_ticksOn_279 rfl rfl ?_
            refine r_dup dX12_ticksOn_280 rfl ?_
            refine r_getI lk_X12_256 (ln_101 hL) dX12_ticksOn_281 ?_
            refine r_iload_n dX12_ticksOn_284 rfl rfl ?_
            refine r_bipush (v := 27) dX12_ticksOn_285 (by decide) ?_
            refine r_icmp_lt (tgt := 299) dX12_ticksOn_287 (by decide) (fun h94 => ?_) (fun h94 => ?_)
            · have hF := tw hF h94
              refine r_iload_n dX12_ticksOn_299 rfl rfl ?_
              refine r_bipush (v := 8) dX12_ticksOn_300 (by decide) ?_
              refine r_icmp_gt (tgt := 318) dX12_ticksOn_302 (by decide) (fun h95 => ?_) (fun h95 => ?_)
              · have hF := tw hF h95
                refine r_iconst (v := 0) dX12_ticksOn_318 (by decide) ?_
                refine r_iadd dX12_ticksOn_319 ?_
                refine r_putI lk_X12_256 (Or.inl rfl) (ln_101 hL) rfl rfl dX12_ticksOn_320 ?_
                refine r_letI hF (fun I96 hF => ?_)
                obtain rfl := Option.some.inj hF
                exact r_return rfl dX12_ticksOn_323 (Nat.le_of_ble_eq_true rfl) (Nat.le_of_ble_eq_true rfl)
              · have hF := fw hF h95
                refine r_aload_n dX12_ticksOn_305 rfl rfl ?_
                refine r_getI lk_X12_241 (ln_101 hL) dX12_ticksOn_306 ?_
                refine r_bipush (v := 27) dX12_ticksOn_309 (by decide) ?_
                refine r_icmp_lt (tgt := 318) dX12_ticksOn_311 (by decide) (fun h97 => ?_) (fun h97 => ?_)
                · have hF := tw hF h97
                  refine r_iconst (v := 0) dX12_ticksOn_318 (by decide) ?_
                  refine r_iadd dX12_ticksOn_319 ?_
                  refine r_putI lk_X12_256 (Or.inl rfl) (ln_101 hL) rfl rfl dX12_ticksOn_320 ?_
                  refine r_letI hF (fun I98 hF => ?_)
                  obtain rfl := Option.some.inj hF
                  exact r_return rfl dX12_ticksOn_323 (Nat.le_of_ble_eq_true rfl) (Nat.le_of_ble_eq_true rfl)
                · have hF := fw hF h97
                  refine r_iconst (v := 1) dX12_ticksOn_314 (by decide) ?_
                  refine r_goto (tgt := 319) dX12_ticksOn_315 (by decide) ?_
                  refine r_iadd dX12_ticksOn_319 ?_
                  refine r_putI lk_X12_256 (Or.inl rfl) (ln_101 hL) rfl rfl dX12_ticksOn_320 ?_
                  refine r_letI hF (fun I99 hF => ?_)
                  obtain rfl := Option.some.inj hF
                  exact r_return rfl dX12_ticksOn_323 (Nat.le_of_ble_eq_true rfl) (Nat.le_of_ble_eq_true rfl)
            · have hF := fw hF h94
              refine r_aload_n dX12_ticksOn_290 rfl rfl ?_
              refine r_getI lk_X12_241 (ln_101 hL) dX12_ticksOn_291 ?_
              refine r_bipush (v := 8) dX12_ticksOn_294 (by decide) ?_
              refine r_icmp_le (tgt := 314) dX12_ticksOn_296 (by decide) (fun h100 => ?_) (fun h100 => ?_)
              · have hF := tw hF h100
                refine r_iconst (v := 1) dX12_ticksOn_314 (by decide) ?_
                refine r_goto (tgt := 319) dX12_ticksOn_315 (by decide) ?_
                refine r_iadd dX12_ticksOn_319 ?_
                refine r_putI lk_X12_256 (Or.inl rfl) (ln_101 hL) rfl rfl dX12_ticksOn_320 ?_
                refine r_letI hF (fun I101 hF => ?_)
                obtain rfl := Option.some.inj hF
                exact r_return rfl dX12_ticksOn_323 (Nat.le_of_ble_eq_true rfl) (Nat.le_of_ble_eq_true rfl)
              · have hF := fw hF h100
                refine r_iload_n dX12_ticksOn_299 rfl rfl ?_
                refine r_bipush (v := 8) dX12_ticksOn_300 (by decide) ?_
                refine r_icmp_gt (tgt := 318) dX12_ticksOn_302 (by decide) (fun h102 => ?_) (fun h102 => ?_)
                · have hF := tw hF h102
                  refine r_iconst (v := 0) dX12_ticksOn_318 (by decide) ?_
                  refine r_iadd dX12_ticksOn_319 ?_
                  refine r_putI lk_X12_256 (Or.inl rfl) (ln_101 hL) rfl rfl dX12_ticksOn_320 ?_
                  refine r_letI hF (fun I103 hF => ?_)
                  obtain rfl := Option.some.inj hF
                  exact r_return rfl dX12_ticksOn_323 (Nat.le_of_ble_eq_true rfl) (Nat.le_of_ble_eq_true rfl)
                · have hF := fw hF h102
                  refine r_aload_n dX12_ticksOn_305 rfl rfl ?_
                  refine r_getI lk_X12_241 (ln_101 hL) dX12_ticksOn_306 ?_
                  refine r_bipush (v := 27) dX12_ticksOn_309 (by decide) ?_
                  refine r_icmp_lt (tgt := 318) dX12_ticksOn_311 (by decide) (fun h104 => ?_) (fun h104 => ?_)
                  · have hF := tw hF h104
                    refine r_iconst (v := 0) dX12_ticksOn_318 (by decide) ?_
                    refine r_iadd dX12_ticksOn_319 ?_
                    refine r_putI lk_X12_256 (Or.inl rfl) (ln_101 hL) rfl rfl dX12_ticksOn_320 ?_
                    refine r_letI hF (fun I105 hF => ?_)
                    obtain rfl := Option.some.inj hF
                    exact r_return rfl dX12_ticksOn_323 (Nat.le_of_ble_eq_true rfl) (Nat.le_of_ble_eq_true rfl)
                  · have hF := fw hF h104
                    refine r_iconst (v := 1) dX12_ticksOn_314 (by decide) ?_
                    refine r_goto (tgt := 319) dX12_ticksOn_315 (by decide) ?_
                    refine r_iadd dX12_ticksOn_319 ?_
                    refine r_putI lk_X12_256 (Or.inl rfl) (ln_101 hL) rfl rfl dX12_ticksOn_320 ?_
                    refine r_letI hF (fun I106 hF => ?_)
                    obtain rfl := Option.some.inj hF
                    exact r_return rfl dX12_ticksOn_323 (Nat.le_of_ble_eq_true rfl) (Nat.le_of_ble_eq_true rfl)
          · have hF := fw hF h92
            refine r_aload_n dX12_ticksOn_263 rfl rfl ?_
            refine r_getI lk_X12_244 (ln_101 hL) dX12_ticksOn_264 ?_
            refine r_if_le (tgt := 274) dX12_ticksOn_267 (by decide) (fun h107 => ?_) (fun h107 => ?_)
            · have hF := tw hF h107
              refine r_iconst (v := 0) dX12_ticksOn_274 (by decide) ?_
              refine r_iadd dX12_ticksOn_275 ?_
              refine r_putI lk_X12_253 (Or.inl rfl) (ln_101 hL) rfl rfl dX12_ticksOn_276 ?_
              refine r_letI hF (fun I108 hF => ?_)
              refine r_aload_n dX12_ticksOn_279 rfl rfl ?_
              refine r_dup dX12_ticksOn_280 rfl ?_
              refine r_getI lk_X12_256 (ln_101 hL) dX12_ticksOn_281 ?_
              refine r_iload_n dX12_ticksOn_284 rfl rfl ?_
              refine r_bipush (v := 27) dX12_ticksOn_285 (by decide) ?_
              refine r_icmp_lt (tgt := 299) dX12_ticksOn_287 (by decide) (fun h109 => ?_) (fun h109 => ?_)
              · have hF := tw hF h109
                refine r_iload_n dX12_ticksOn_299 rfl rfl ?_
                refine r_bipush (v := 8) dX12_ticksOn_300 (by decide) ?_
                refine r_icmp_gt (tgt := 318) dX12_ticksOn_302 (by decide) (fun h110 => ?_) (fun h110 => ?_)
                · have hF := tw hF h110
                  refine r_iconst (v := 0) dX12_ticksOn_318 (by decide) ?_
                  refine r_iadd dX12_ticksOn_319 ?_
                  refine r_putI lk_X12_256 (Or.inl rfl) (ln_101 hL) rfl rfl dX12_ticksOn_320 ?_
                  refine r_letI hF (fun I111 hF => ?_)
                  obtain rfl := Option.some.inj hF
                  exact r_return rfl dX12_ticksOn_323 (Nat.le_of_ble_eq_true rfl) (Nat.le_of_ble_eq_true rfl)
                · have hF := fw hF h110
                  refine r_aload_n dX12_ticksOn_305 rfl rfl ?_
                  refine r_getI lk_X12_241 (ln_101 hL) dX12_ticksOn_306 ?_
                  refine r_bipush (v := 27) dX12_ticksOn_309 (by decide) ?_
                  refine r_icmp_lt (tgt := 318) dX12_ticksOn_311 (by decide) (fun h112 => ?_) (fun h112 => ?_)
                  · have hF := tw hF h112
                    refine r_iconst (v := 0) dX12_ticksOn_318 (by decide) ?_
                    refine r_iadd dX12_ticksOn_319 ?_
                    refine r_putI lk_X12_256 (Or.inl rfl) (ln_101 hL) rfl rfl dX12_ticksOn_320 ?_
                    refine r_letI hF (fun I113 hF => ?_)
                    obtain rfl := Option.some.inj hF
                    exact r_return rfl dX12_ticksOn_323 (Nat.le_of_ble_eq_true rfl) (Nat.le_of_ble_eq_true rfl)
                  · have hF := fw hF h112
                    refine r_iconst (v := 1) dX12_ticksOn_314 (by decide) ?_
                    refine r_goto (tgt := 319) dX12_ticksOn_315 (by decide) ?_
                    refine r_iadd dX12_ticksOn_319 ?_
                    refine r_putI lk_X12_256 (Or.inl rfl) (ln_101 hL) rfl rfl dX12_ticksOn_320 ?_
                    refine r_letI hF (fun I114 hF => ?_)
                    obtain rfl := Option.some.inj hF
                    exact r_return rfl dX12_ticksOn_323 (Nat.le_of_ble_eq_true rfl) (Nat.le_of_ble_eq_true rfl)
              · have hF := fw hF h109
                refine r_aload_n dX12_ticksOn_290 rfl rfl ?_
                refine r_getI lk_X12_241 (ln_101 hL) dX12_ticksOn_291 ?_
                refine r_bipush (v := 8) dX12_ticksOn_294 (by decide) ?_
                refine r_icmp_le (tgt := 314) dX12_ticksOn_296 (by decide) (fun h115 => ?_) (fun h115 => ?_)
                · have hF := tw hF h115
                  refine r_iconst (v := 1) dX12_ticksOn_314 (by decide) ?_
                  refine r_goto (tgt := 319) dX12_ticksOn_315 (by decide) ?_
                  refine r_iadd dX12_ticksOn_319 ?_
                  refine r_putI lk_X12_256 (Or.inl rfl) (ln_101 hL) rfl rfl dX12_ticksOn_320 ?_
                  refine r_letI hF (fun I116 hF => ?_)
                  obtain rfl := Option.some.inj hF
                  exact r_return rfl dX12_ticksOn_323 (Nat.le_of_ble_eq_true rfl) (Nat.le_of_ble_eq_true rfl)
                · have hF := fw hF h115
                  refine r_iload_n dX12_ticksOn_299 rfl rfl ?_
                  refine r_bipush (v := 8) dX12_ticksOn_300 (by decide) ?_
                  refine r_icmp_gt (tgt := 318) dX12_ticksOn_302 (by decide) (fun h117 => ?_) (fun h117 => ?_)
                  · have hF := tw hF h117
                    refine r_iconst (v := 0) dX12_ticksOn_318 (by decide) ?_
                    refine r_iadd dX12_ticksOn_319 ?_
                    refine r_putI lk_X12_256 (Or.inl rfl) (ln_101 hL) rfl rfl dX12_ticksOn_320 ?_
                    refine r_letI hF (fun I118 hF => ?_)
                    obtain rfl := Option.some.inj hF
                    exact r_return rfl dX12_ticksOn_323 (Nat.le_of_ble_eq_true rfl) (Nat.le_of_ble_eq_true rfl)
                  · have hF := fw hF h117
                    refine r_aload_n dX12_ticksOn_305 rfl rfl ?_
                    refine r_getI lk_X12_241 (ln_101 hL) dX12_ticksOn_306 ?_
                    refine r_bipush (v := 27) dX12_ticksOn_309 (by decide) ?_
                    refine r_icmp_lt (tgt := 318) dX12_ticksOn_311 (by decide) (fun h119 => ?_) (fun h119 => ?_)
                    · have hF := tw hF h119
                      refine r_iconst (v := 0) dX12_ticksOn_318 (by decide) ?_
                      refine r_iadd dX12_ticksOn_319 ?_
                      refine r_putI lk_X12_256 (Or.inl rfl) (ln_101 hL) rfl rfl dX12_ticksOn_320 ?_
                      refine r_letI hF (fun I120 hF => ?_)
                      obtain rfl := Option.some.inj hF
                      exact r_return rfl dX12_ticksOn_323 (Nat.le_of_ble_eq_true rfl) (Nat.le_of_ble_eq_true rfl)
                    · have hF := fw hF h119
                      refine r_iconst (v := 1) dX12_ticksOn_314 (by decide) ?_
                      refine r_goto (tgt := 319) dX12_ticksOn_315 (by decide) ?_
                      refine r_iadd dX12_ticksOn_319 ?_
                      refine r_putI lk_X12_256 (Or.inl rfl) (ln_101 hL) rfl rfl dX12_ticksOn_320 ?_
                      refine r_letI hF (fun I121 hF => ?_)
                      obtain rfl := Option.some.inj hF
                      exact r_return rfl dX12_ticksOn_323 (Nat.le_of_ble_eq_true rfl) (Nat.le_of_ble_eq_true rfl)
            · have hF := fw hF h107
              refine r_iconst (v := 1) dX12_ticksOn_270 (by decide) ?_
              refine r_goto (tgt := 275) dX12_ticksOn_271 (by decide) ?_
              refine r_iadd dX12_ticksOn_275 ?_
              refine r_putI lk_X12_253 (Or.inl rfl) (ln_101 hL) rfl rfl dX12_ticksOn_276 ?_
              refine r_letI hF (fun I122 hF => ?_)
              refine r_aload_n dX12_ticksOn_279 rfl rfl ?_
              refine r_dup dX12_ticksOn_280 rfl ?_
              refine r_getI lk_X12_256 (ln_101 hL) dX12_ticksOn_281 ?_
              refine r_iload_n dX12_ticksOn_284 rfl rfl ?_
              refine r_bipush (v := 27) dX12_ticksOn_285 (by decide) ?_
              refine r_icmp_lt (tgt := 299) dX12_ticksOn_287 (by decide) (fun h123 => ?_) (fun h123 => ?_)
              · have hF := tw hF h123
                refine r_iload_n dX12_ticksOn_299 rfl rfl ?_
                refine r_bipush (v := 8) dX12_ticksOn_300 (by decide) ?_
                refine r_icmp_gt (tgt := 318) dX12_ticksOn_302 (by decide) (fun h124 => ?_) (fun h124 => ?_)
                · have hF := tw hF h124
                  refine r_iconst (v := 0) dX12_ticksOn_318 (by decide) ?_
                  refine r_iadd dX12_ticksOn_319 ?_
                  refine r_putI lk_X12_256 (Or.inl rfl) (ln_101 hL) rfl rfl dX12_ticksOn_320 ?_
                  refine r_letI hF (fun I125 hF => ?_)
                  obtain rfl := Option.some.inj hF
                  exact r_return rfl dX12_ticksOn_323 (Nat.le_of_ble_eq_true rfl) (Nat.le_of_ble_eq_true rfl)
                · have hF := fw hF h124
                  refine r_aload_n dX12_ticksOn_305 rfl rfl ?_
                  refine r_getI lk_X12_241 (ln_101 hL) dX12_ticksOn_306 ?_
                  refine r_bipush (v := 27) dX12_ticksOn_309 (by decide) ?_
                  refine r_icmp_lt (tgt := 318) dX12_ticksOn_311 (by decide) (fun h126 => ?_) (fun h126 => ?_)
                  · have hF := tw hF h126
                    refine r_iconst (v := 0) dX12_ticksOn_318 (by decide) ?_
                    refine r_iadd dX12_ticksOn_319 ?_
                    refine r_putI lk_X12_256 (Or.inl rfl) (ln_101 hL) rfl rfl dX12_ticksOn_320 ?_
                    refine r_letI hF (fun I127 hF => ?_)
                    obtain rfl := Option.some.inj hF
                    exact r_return rfl dX12_ticksOn_323 (Nat.le_of_ble_eq_true rfl) (Nat.le_of_ble_eq_true rfl)
                  · have hF := fw hF h126
                    refine r_iconst (v := 1) dX12_ticksOn_314 (by decide) ?_
                    refine r_goto (tgt := 319) dX12_ticksOn_315 (by decide) ?_
                    refine r_iadd dX12_ticksOn_319 ?_
                    refine r_putI lk_X12_256 (Or.inl rfl) (ln_101 hL) rfl rfl dX12_ticksOn_320 ?_
                    refine r_letI hF (fun I128 hF => ?_)
                    obtain rfl := Option.some.inj hF
                    exact r_return rfl dX12_ticksOn_323 (Nat.le_of_ble_eq_true rfl) (Nat.le_of_ble_eq_true rfl)
              · have hF := fw hF h123
                refine r_aload_n dX12_ticksOn_290 rfl rfl ?_
                refine r_getI lk_X12_241 (ln_101 hL) dX12_ticksOn_291 ?_
                refine r_bipush (v := 8) dX12_ticksOn_294 (by decide) ?_
                refine r_icmp_le (tgt := 314) dX12_ticksOn_296 (by decide) (fun h129 => ?_) (fun h129 => ?_)
                · have hF := tw hF h129
                  refine r_iconst (v := 1) dX12_ticksOn_314 (by decide) ?_
                  refine r_goto (tgt := 319) dX12_ticksOn_315 (by decide) ?_
                  refine r_iadd dX12_ticksOn_319 ?_
                  refine r_putI lk_X12_256 (Or.inl rfl) (ln_101 hL) rfl rfl dX12_ticksOn_320 ?_
                  refine r_letI hF (fun I130 hF => ?_)
                  obtain rfl := Option.some.inj hF
                  exact r_return rfl dX12_ticksOn_323 (Nat.le_of_ble_eq_true rfl) (Nat.le_of_ble_eq_true rfl)
                · have hF := fw hF h129
                  refine r_iload_n dX12_ticksOn_299 rfl rfl ?_
                  refine r_bipush (v := 8) dX12_ticksOn_300 (by decide) ?_
                  refine r_icmp_gt (tgt := 318) dX12_ticksOn_302 (by decide) (fun h131 => ?_) (fun h131 => ?_)
                  · have hF := tw hF h131
                    refine r_iconst (v := 0) dX12_ticksOn_318 (by decide) ?_
                    refine r_iadd dX12_ticksOn_319 ?_
                    refine r_putI lk_X12_256 (Or.inl rfl) (ln_101 hL) rfl rfl dX12_ticksOn_320 ?_
                    refine r_letI hF (fun I132 hF => ?_)
                    obtain rfl := Option.some.inj hF
                    exact r_return rfl dX12_ticksOn_323 (Nat.le_of_ble_eq_true rfl) (Nat.le_of_ble_eq_true rfl)
                  · have hF := fw hF h131
                    refine r_aload_n dX12_ticksOn_305 rfl rfl ?_
                    refine r_getI lk_X12_241 (ln_101 hL) dX12_ticksOn_306 ?_
                    refine r_bipush (v := 27) dX12_ticksOn_309 (by decide) ?_
                    refine r_icmp_lt (tgt := 318) dX12_ticksOn_311 (by decide) (fun h133 => ?_) (fun h133 => ?_)
                    · have hF := tw hF h133
                      refine r_iconst (v := 0) dX12_ticksOn_318 (by decide) ?_
                      refine r_iadd dX12_ticksOn_319 ?_
                      refine r_putI lk_X12_256 (Or.inl rfl) (ln_101 hL) rfl rfl dX12_ticksOn_320 ?_
                      refine r_letI hF (fun I134 hF => ?_)
                      obtain rfl := Option.some.inj hF
                      exact r_return rfl dX12_ticksOn_323 (Nat.le_of_ble_eq_true rfl) (Nat.le_of_ble_eq_true rfl)
                    · have hF := fw hF h133
                      refine r_iconst (v := 1) dX12_ticksOn_314 (by decide) ?_
                      refine r_goto (tgt := 319) dX12_ticksOn_315 (by decide) ?_
                      refine r_iadd dX12_ticksOn_319 ?_
                      refine r_putI lk_X12_256 (Or.inl rfl) (ln_101 hL) rfl rfl dX12_ticksOn_320 ?_
                      refine r_letI hF (fun I135 hF => ?_)
                      obtain rfl := Option.some.inj hF
                      exact r_return rfl dX12_ticksOn_323 (Nat.le_of_ble_eq_true rfl) (Nat.le_of_ble_eq_true rfl)
  · have hF := tw hF h9
    refine r_iload dX12_ticksOn_143 rfl ?_
    refine r_iconst (v := 2) dX12_ticksOn_145 (by decide) ?_
    refine r_idiv dX12_ticksOn_146 (by decide) ?_
    refine r_goto (tgt := 152) dX12_ticksOn_147 (by decide) ?_
    refine r_sipush (v := 9999) dX12_ticksOn_152 (by decide) ?_
    refine c_static_i (As := [.int (y7 / 2), .int 9999]) mi_X12_kept kw_1245 kw_1244 (ok_X12_kept hL  (p1 := (y7 / 2)) (p2 := 9999)) rfl rfl (Nat.le_of_ble_eq_true rfl) ⟨Nat.le_of_ble_eq_true rfl, Nat.le_of_ble_eq_true rfl⟩ ⟨Nat.le_of_ble_eq_true rfl, Nat.le_of_ble_eq_true rfl⟩ dX12_ticksOn_155 ?_
    refine r_putI lk_X12_250 (Or.inl rfl) (ln_101 hL) rfl rfl dX12_ticksOn_158 ?_
    refine r_letI hF (fun I136 hF => ?_)
    refine r_aload_n dX12_ticksOn_161 rfl rfl ?_
    refine r_aload_n dX12_ticksOn_162 rfl rfl ?_
    obtain ⟨x137, hx137, hF⟩ := bnd hF
    refine c_virt_i (As := []) mi_X12_toldTurn kw_1249 ks_46 kw_1247 rfl (by decide) (ln_101 hL) (ok_X12_toldTurn hL  hx137) rfl rfl (Nat.le_of_ble_eq_true rfl) ⟨Nat.le_of_ble_eq_true rfl, Nat.le_of_ble_eq_true rfl⟩ ⟨Nat.le_of_ble_eq_true rfl, Nat.le_of_ble_eq_true rfl⟩ dX12_ticksOn_163 ?_
    refine r_bipush (v := 9) dX12_ticksOn_166 (by decide) ?_
    refine c_static_i (As := [.int x137, .int 9]) mi_X12_kept kw_1245 kw_1244 (ok_X12_kept hL  (p1 := x137) (p2 := 9)) rfl rfl (Nat.le_of_ble_eq_true rfl) ⟨Nat.le_of_ble_eq_true rfl, Nat.le_of_ble_eq_true rfl⟩ ⟨Nat.le_of_ble_eq_true rfl, Nat.le_of_ble_eq_true rfl⟩ dX12_ticksOn_168 ?_
    refine r_putI lk_X12_244 (Or.inl rfl) (ln_101 hL) rfl rfl dX12_ticksOn_171 ?_
    refine r_letI hF (fun I138 hF => ?_)
    refine r_aload_n dX12_ticksOn_174 rfl rfl ?_
    refine r_aload_n dX12_ticksOn_175 rfl rfl ?_
    refine r_getI lk_X12_241 (ln_101 hL) dX12_ticksOn_176 ?_
    refine r_aload_n dX12_ticksOn_179 rfl rfl ?_
    refine r_getI lk_X12_244 (ln_101 hL) dX12_ticksOn_180 ?_
    refine r_iadd dX12_ticksOn_183 ?_
    refine r_bipush (v := 36) dX12_ticksOn_184 (by decide) ?_
    refine r_iadd dX12_ticksOn_186 ?_
    refine r_bipush (v := 36) dX12_ticksOn_187 (by decide) ?_
    refine r_irem dX12_ticksOn_189 (by decide) ?_
    refine r_putI lk_X12_241 (Or.inl rfl) (ln_101 hL) rfl rfl dX12_ticksOn_190 ?_
    refine r_letI hF (fun I139 hF => ?_)
    refine r_aload_n dX12_ticksOn_193 rfl rfl ?_
    refine r_dup dX12_ticksOn_194 rfl ?_
    refine r_getI lk_X12_235 (ln_101 hL) dX12_ticksOn_195 ?_
    refine r_aload_n dX12_ticksOn_198 rfl rfl ?_
    refine r_getI lk_X12_247 (ln_101 hL) dX12_ticksOn_199 ?_
    refine r_bipush (v := 8) dX12_ticksOn_202 (by decide) ?_
    refine r_idiv dX12_ticksOn_204 (by decide) ?_
    refine r_iadd dX12_ticksOn_205 ?_
    refine r_putI lk_X12_235 (Or.inl rfl) (ln_101 hL) rfl rfl dX12_ticksOn_206 ?_
    refine r_letI hF (fun I140 hF => ?_)
    refine r_aload_n dX12_ticksOn_209 rfl rfl ?_
    refine r_dup dX12_ticksOn_210 rfl ?_
    refine r_getI lk_X12_238 (ln_101 hL) dX12_ticksOn_211 ?_
    refine r_aload_n dX12_ticksOn_214 rfl rfl ?_
    refine r_getI lk_X12_250 (ln_101 hL) dX12_ticksOn_215 ?_
    refine r_bipush (v := 8) dX12_ticksOn_218 (by decide) ?_
    refine r_idiv dX12_ticksOn_220 (by decide) ?_
    refine r_isub dX12_ticksOn_221 ?_
    refine r_putI lk_X12_238 (Or.inl rfl) (ln_101 hL) rfl rfl dX12_ticksOn_222 ?_
    refine r_letI hF (fun I141 hF => ?_)
    refine r_aload_n dX12_ticksOn_225 rfl rfl ?_
    refine r_dup dX12_ticksOn_226 rfl ?_
    refine r_getI lk_X12_232 (ln_101 hL) dX12_ticksOn_227 ?_
    refine r_iconst (v := 1) dX12_ticksOn_230 (by decide) ?_
    refine r_iadd dX12_ticksOn_231 ?_
    refine r_putI lk_X12_232 (Or.inl rfl) (ln_101 hL) rfl rfl dX12_ticksOn_232 ?_
    refine r_letI hF (fun I142 hF => ?_)
    refine r_aload_n dX12_ticksOn_235 rfl rfl ?_
    refine r_dup dX12_ticksOn_236 rfl ?_
    refine r_getI lk_X12_253 (ln_101 hL) dX12_ticksOn_237 ?_
    refine r_aload_n dX12_ticksOn_240 rfl rfl ?_
    refine r_getI lk_X12_232 (ln_101 hL) dX12_ticksOn_241 ?_
    refine r_iconst (v := 1) dX12_ticksOn_244 (by decide) ?_
    refine r_icmp_le (tgt := 274) dX12_ticksOn_245 (by decide) (fun h143 => ?_) (fun h143 => ?_)
    · have hF := tw hF h143
      refine r_iconst (v := 0) dX12_ticksOn_274 (by decide) ?_
      refine r_iadd dX12_ticksOn_275 ?_
      refine r_putI lk_X12_253 (Or.inl rfl) (ln_101 hL) rfl rfl dX12_ticksOn_276 ?_
      refine r_letI hF (fun I144 hF => ?_)
      refine r_aload_n dX12_ticksOn_279 rfl rfl ?_
      refine r_dup dX12_ticksOn_280 rfl ?_
      refine r_getI lk_X12_256 (ln_101 hL) dX12_ticksOn_281 ?_
      refine r_iload_n dX12_ticksOn_284 rfl rfl ?_
      refine r_bipush (v := 27) dX12_ticksOn_285 (by decide) ?_
      refine r_icmp_lt (tgt := 299) dX12_ticksOn_287 (by decide) (fun h145 => ?_) (fun h145 => ?_)
      · have hF := tw hF h145
        refine r_iload_n dX12_ticksOn_299 rfl rfl ?_
        refine r_bipush (v := 8) dX12_ticksOn_300 (by decide) ?_
        refine r_icmp_gt (tgt := 318) dX12_ticksOn_302 (by decide) (fun h146 => ?_) (fun h146 => ?_)
        · have hF := tw hF h146
          refine r_iconst (v := 0) dX12_ticksOn_318 (by decide) ?_
          refine r_iadd dX12_ticksOn_319 ?_
          refine r_putI lk_X12_256 (Or.inl rfl) (ln_101 hL) rfl rfl dX12_ticksOn_320 ?_
          refine r_letI hF (fun I147 hF => ?_)
          obtain rfl := Option.some.inj hF
          exact r_return rfl dX12_ticksOn_323 (Nat.le_of_ble_eq_true rfl) (Nat.le_of_ble_eq_true rfl)
        · have hF := fw hF h146
          refine r_aload_n dX12_ticksOn_305 rfl rfl ?_
          refine r_getI lk_X12_241 (ln_101 hL) dX12_ticksOn_306 ?_
          refine r_bipush (v := 27) dX12_ticksOn_309 (by decide) ?_
          refine r_icmp_lt (tgt := 318) dX12_ticksOn_311 (by decide) (fun h148 => ?_) (fun h148 => ?_)
          · have hF := tw hF h148
            refine r_iconst (v := 0) dX12_ticksOn_318 (by decide) ?_
            refine r_iadd dX12_ticksOn_319 ?_
            refine r_putI lk_X12_256 (Or.inl rfl) (ln_101 hL) rfl rfl dX12_ticksOn_320 ?_
            refine r_letI hF (fun I149 hF => ?_)
            obtain rfl := Option.some.inj hF
            exact r_return rfl dX12_ticksOn_323 (Nat.le_of_ble_eq_true rfl) (Nat.le_of_ble_eq_true rfl)
          · have hF := fw hF h148
            refine r_iconst (v := 1) dX12_ticksOn_314 (by decide) ?_
            refine r_goto (tgt := 319) dX12_ticksOn_315 (by decide) ?_
            refine r_iadd dX12_ticksOn_319 ?_
            refine r_putI lk_X12_256 (Or.inl rfl) (ln_101 hL) rfl rfl dX12_ticksOn_320 ?_
            refine r_letI hF (fun I150 hF => ?_)
            obtain rfl := Option.some.inj hF
            exact r_return rfl dX12_ticksOn_323 (Nat.le_of_ble_eq_true rfl) (Nat.le_of_ble_eq_true rfl)
      · have hF := fw hF h145
        refine r_aload_n dX12_ticksOn_290 rfl rfl ?_
        refine r_getI lk_X12_241 (ln_101 hL) dX12_ticksOn_291 ?_
        refine r_bipush (v := 8) dX12_ticksOn_294 (by decide) ?_
        refine r_icmp_le (tgt := 314) dX12_ticksOn_296 (by decide) (fun h151 => ?_) (fun h151 => ?_)
        · have hF := tw hF h151
          refine r_iconst (v := 1) dX12_ticksOn_314 (by decide) ?_
          refine r_goto (tgt := 319) dX12_ticksOn_315 (by decide) ?_
          refine r_iadd dX12_ticksOn_319 ?_
          refine r_putI lk_X12_256 (Or.inl rfl) (ln_101 hL) rfl rfl dX12_ticksOn_320 ?_
          refine r_letI hF (fun I152 hF => ?_)
          obtain rfl := Option.some.inj hF
          exact r_return rfl dX12_ticksOn_323 (Nat.le_of_ble_eq_true rfl) (Nat.le_of_ble_eq_true rfl)
        · have hF := fw hF h151
          refine r_iload_n dX12_ticksOn_299 rfl rfl ?_
          refine r_bipush (v := 8) dX12_ticksOn_300 (by decide) ?_
          refine r_icmp_gt (tgt := 318) dX12_ticksOn_302 (by decide) (fun h153 => ?_) (fun h153 => ?_)
          · have hF := tw hF h153
            refine r_iconst (v := 0) dX12_ticksOn_318 (by decide) ?_
            refine r_iadd dX12_ticksOn_319 ?_
            refine r_putI lk_X12_256 (Or.inl rfl) (ln_101 hL) rfl rfl dX12_ticksOn_320 ?_
            refine r_letI hF (fun I154 hF => ?_)
            obtain rfl := Option.some.inj hF
            exact r_return rfl dX12_ticksOn_323 (Nat.le_of_ble_eq_true rfl) (Nat.le_of_ble_eq_true rfl)
          · have hF := fw hF h153
            refine r_aload_n dX12_ticksOn_305 rfl rfl ?_
            refine r_getI lk_X12_241 (ln_101 hL) dX12_ticksOn_306 ?_
            refine r_bipush (v := 27) dX12_ticksOn_309 (by decide) ?_
            refine r_icmp_lt (tgt := 318) dX12_ticksOn_311 (by decide) (fun h155 => ?_) (fun h155 => ?_)
            · have hF := tw hF h155
              refine r_iconst (v := 0) dX12_ticksOn_318 (by decide) ?_
              refine r_iadd dX12_ticksOn_319 ?_
              refine r_putI lk_X12_256 (Or.inl rfl) (ln_101 hL) rfl rfl dX12_ticksOn_320 ?_
              refine r_letI hF (fun I156 hF => ?_)
              obtain rfl := Option.some.inj hF
              exact r_return rfl dX12_ticksOn_323 (Nat.le_of_ble_eq_true rfl) (Nat.le_of_ble_eq_true rfl)
            · have hF := fw hF h155
              refine r_iconst (v := 1) dX12_ticksOn_314 (by decide) ?_
              refine r_goto (tgt := 319) dX12_ticksOn_315 (by decide) ?_
              refine r_iadd dX12_ticksOn_319 ?_
              refine r_putI lk_X12_256 (Or.inl rfl) (ln_101 hL) rfl rfl dX12_ticksOn_320 ?_
              refine r_letI hF (fun I157 hF => ?_)
              obtain rfl := Option.some.inj hF
              exact r_return rfl dX12_ticksOn_323 (Nat.le_of_ble_eq_true rfl) (Nat.le_of_ble_eq_true rfl)
    · have hF := fw hF h143
      refine r_iload_n dX12_ticksOn_248 rfl rfl ?_
      refine r_if_le (tgt := 259) dX12_ticksOn_249 (by decide) (fun h158 => ?_) (fun h158 => ?_)
      · have hF := tw hF h158
        refine r_iload_n dX12_ticksOn_259 rfl rfl ?_
        refine r_if_ge (tgt := 274) dX12_ticksOn_260 (by decide) (fun h159 => ?_) (fun h159 => ?_)
        · have hF := tw hF h159
          refine r_iconst (v := 0) dX12_ticksOn_274 (by decide) ?_
          refine r_iadd dX12_ticksOn_275 ?_
          refine r_putI lk_X12_253 (Or.inl rfl) (ln_101 hL) rfl rfl dX12_ticksOn_276 ?_
          refine r_letI hF (fun I160 hF => ?_)
          refine r_aload_n dX12_ticksOn_279 rfl rfl ?_
          refine r_dup dX12_ticksOn_280 rfl ?_
          refine r_getI lk_X12_256 (ln_101 hL) dX12_ticksOn_281 ?_
          refine r_iload_n dX12_ticksOn_284 rfl rfl ?_
          refine r_bipush (v := 27) dX12_ticksOn_285 (by decide) ?_
          refine r_icmp_lt (tgt := 299) dX12_ticksOn_287 (by decide) (fun h161 => ?_) (fun h161 => ?_)
          · have hF := tw hF h161
            refine r_iload_n dX12_ticksOn_299 rfl rfl ?_
            refine r_bipush (v := 8) dX12_ticksOn_300 (by decide) ?_
            refine r_icmp_gt (tgt := 318) dX12_ticksOn_302 (by decide) (fun h162 => ?_) (fun h162 => ?_)
            · have hF := tw hF h162
              refine r_iconst (v := 0) dX12_ticksOn_318 (by decide) ?_
              refine r_iadd dX12_ticksOn_319 ?_
              refine r_putI lk_X12_256 (Or.inl rfl) (ln_101 hL) rfl rfl dX12_ticksOn_320 ?_
              refine r_letI hF (fun I163 hF => ?_)
              obtain rfl := Option.some.inj hF
              exact r_return rfl dX12_ticksOn_323 (Nat.le_of_ble_eq_true rfl) (Nat.le_of_ble_eq_true rfl)
            · have hF := fw hF h162
              refine r_aload_n dX12_ticksOn_305 rfl rfl ?_
              refine r_getI lk_X12_241 (ln_101 hL) dX12_ticksOn_306 ?_
              refine r_bipush (v := 27) dX12_ticksOn_309 (by decide) ?_
              refine r_icmp_lt (tgt := 318) dX12_ticksOn_311 (by decide) (fun h164 => ?_) (fun h164 => ?_)
              · have hF := tw hF h164
                refine r_iconst (v := 0) dX12_ticksOn_318 (by decide) ?_
                refine r_iadd dX12_ticksOn_319 ?_
                refine r_putI lk_X12_256 (Or.inl rfl) (ln_101 hL) rfl rfl dX12_ticksOn_320 ?_
                refine r_letI hF (fun I165 hF => ?_)
                obtain rfl := Option.some.inj hF
                exact r_return rfl dX12_ticksOn_323 (Nat.le_of_ble_eq_true rfl) (Nat.le_of_ble_eq_true rfl)
              · have hF := fw hF h164
                refine r_iconst (v := 1) dX12_ticksOn_314 (by decide) ?_
                refine r_goto (tgt := 319) dX12_ticksOn_315 (by decide) ?_
                refine r_iadd dX12_ticksOn_319 ?_
                refine r_putI lk_X12_256 (Or.inl rfl) (ln_101 hL) rfl rfl dX12_ticksOn_320 ?_
                refine r_letI hF (fun I166 hF => ?_)
                obtain rfl := Option.some.inj hF
                exact r_return rfl dX12_ticksOn_323 (Nat.le_of_ble_eq_true rfl) (Nat.le_of_ble_eq_true rfl)
          · have hF := fw hF h161
            refine r_aload_n dX12_ticksOn_290 rfl rfl ?_
            refine r_getI lk_X12_241 (ln_101 hL) dX12_ticksOn_291 ?_
            refine r_bipush (v := 8) dX12_ticksOn_294 (by decide) ?_
            refine r_icmp_le (tgt := 314) dX12_ticksOn_296 (by decide) (fun h167 => ?_) (fun h167 => ?_)
            · have hF := tw hF h167
              refine r_iconst (v := 1) dX12_ticksOn_314 (by decide) ?_
              refine r_goto (tgt := 319) dX12_ticksOn_315 (by decide) ?_
              refine r_iadd dX12_ticksOn_319 ?_
              refine r_putI lk_X12_256 (Or.inl rfl) (ln_101 hL) rfl rfl dX12_ticksOn_320 ?_
              refine r_letI hF (fun I168 hF => ?_)
              obtain rfl := Option.some.inj hF
              exact r_return rfl dX12_ticksOn_323 (Nat.le_of_ble_eq_true rfl) (Nat.le_of_ble_eq_true rfl)
            · have hF := fw hF h167
              refine r_iload_n dX12_ticksOn_299 rfl rfl ?_
              refine r_bipush (v := 8) dX12_ticksOn_300 (by decide) ?_
              refine r_icmp_gt (tgt := 318) dX12_ticksOn_302 (by decide) (fun h169 => ?_) (fun h169 => ?_)
              · have hF := tw hF h169
                refine r_iconst (v := 0) dX12_ticksOn_318 (by decide) ?_
                refine r_iadd dX12_ticksOn_319 ?_
                refine r_putI lk_X12_256 (Or.inl rfl) (ln_101 hL) rfl rfl dX12_ticksOn_320 ?_
                refine r_letI hF (fun I170 hF => ?_)
                obtain rfl := Option.some.inj hF
                exact r_return rfl dX12_ticksOn_323 (Nat.le_of_ble_eq_true rfl) (Nat.le_of_ble_eq_true rfl)
              · have hF := fw hF h169
                refine r_aload_n dX12_ticksOn_305 rfl rfl ?_
                refine r_getI lk_X12_241 (ln_101 hL) dX12_ticksOn_306 ?_
                refine r_bipush (v := 27) dX12_ticksOn_309 (by decide) ?_
                refine r_icmp_lt (tgt := 318) dX12_ticksOn_311 (by decide) (fun h171 => ?_) (fun h171 => ?_)
                · have hF := tw hF h171
                  refine r_iconst (v := 0) dX12_ticksOn_318 (by decide) ?_
                  refine r_iadd dX12_ticksOn_319 ?_
                  refine r_putI lk_X12_256 (Or.inl rfl) (ln_101 hL) rfl rfl dX12_ticksOn_320 ?_
                  refine r_letI hF (fun I172 hF => ?_)
                  obtain rfl := Option.some.inj hF
                  exact r_return rfl dX12_ticksOn_323 (Nat.le_of_ble_eq_true rfl) (Nat.le_of_ble_eq_true rfl)
                · have hF := fw hF h171
                  refine r_iconst (v := 1) dX12_ticksOn_314 (by decide) ?_
                  refine r_goto (tgt := 319) dX12_ticksOn_315 (by decide) ?_
                  refine r_iadd dX12_ticksOn_319 ?_
                  refine r_putI lk_X12_256 (Or.inl rfl) (ln_101 hL) rfl rfl dX12_ticksOn_320 ?_
                  refine r_letI hF (fun I173 hF => ?_)
                  obtain rfl := Option.some.inj hF
                  exact r_return rfl dX12_ticksOn_323 (Nat.le_of_ble_eq_true rfl) (Nat.le_of_ble_eq_true rfl)
        · have hF := fw hF h159
          refine r_aload_n dX12_ticksOn_263 rfl rfl ?_
          refine r_getI lk_X12_244 (ln_101 hL) dX12_ticksOn_264 ?_
          refine r_if_le (tgt := 274) dX12_ticksOn_267 (by decide) (fun h174 => ?_) (fun h174 => ?_)
          · have hF := tw hF h174
            refine r_iconst (v := 0) dX12_ticksOn_274 (by decide) ?_
            refine r_iadd dX12_ticksOn_275 ?_
            refine r_putI lk_X12_253 (Or.inl rfl) (ln_101 hL) rfl rfl dX12_ticksOn_276 ?_
            refine r_letI hF (fun I175 hF => ?_)
            refine r_aload_n dX12_ticksOn_279 rfl rfl ?_
            refine r_dup dX12_ticksOn_280 rfl ?_
            refine r_getI lk_X12_256 (ln_101 hL) dX12_ticksOn_281 ?_
            refine r_iload_n dX12_ticksOn_284 rfl rfl ?_
            refine r_bipush (v := 27) dX12_ticksOn_285 (by decide) ?_
            refine r_icmp_lt (tgt := 299) dX12_ticksOn_287 (by decide) (fun h176 => ?_) (fun h176 => ?_)
            · have hF := tw hF h176
              refine r_iload_n dX12_ticksOn_299 rfl rfl ?_
              refine r_bipush (v := 8) dX12_ticksOn_300 (by decide) ?_
              refine r_icmp_gt (tgt := 318) dX12_ticksOn_302 (by decide) (fun h177 => ?_) (fun h177 => ?_)
              · have hF := tw hF h177
                refine r_iconst (v := 0) dX12_ticksOn_318 (by decide) ?_
                refine r_iadd dX12_ticksOn_319 ?_
                refine r_putI lk_X12_256 (Or.inl rfl) (ln_101 hL) rfl rfl dX12_ticksOn_320 ?_
                refine r_letI hF (fun I178 hF => ?_)
                obtain rfl := Option.some.inj hF
                exact r_return rfl dX12_ticksOn_323 (Nat.le_of_ble_eq_true rfl) (Nat.le_of_ble_eq_true rfl)
              · have hF := fw hF h177
                refine r_aload_n dX12_ticksOn_305 rfl rfl ?_
                refine r_getI lk_X12_241 (ln_101 hL) dX12_ticksOn_306 ?_
                refine r_bipush (v := 27) dX12_ticksOn_309 (by decide) ?_
                refine r_icmp_lt (tgt := 318) dX12_ticksOn_311 (by decide) (fun h179 => ?_) (fun h179 => ?_)
                · have hF := tw hF h179
                  refine r_iconst (v := 0) dX12_ticksOn_318 (by decide) ?_
                  refine r_iadd dX12_ticksOn_319 ?_
                  refine r_putI lk_X12_256 (Or.inl rfl) (ln_101 hL) rfl rfl dX12_ticksOn_320 ?_
                  refine r_letI hF (fun I180 hF => ?_)
                  obtain rfl := Option.some.inj hF
                  exact r_return rfl dX12_ticksOn_323 (Nat.le_of_ble_eq_true rfl) (Nat.le_of_ble_eq_true rfl)
                · have hF := fw hF h179
                  refine r_iconst (v := 1) dX12_ticksOn_314 (by decide) ?_
                  refine r_goto (tgt := 319) dX12_ticksOn_315 (by decide) ?_
                  refine r_iadd dX12_ticksOn_319 ?_
                  refine r_putI lk_X12_256 (Or.inl rfl) (ln_101 hL) rfl rfl dX12_ticksOn_320 ?_
                  refine r_letI hF (fun I181 hF => ?_)
                  obtain rfl := Option.some.inj hF
                  exact r_return rfl dX12_ticksOn_323 (Nat.le_of_ble_eq_true rfl) (Nat.le_of_ble_eq_true rfl)
            · have hF := fw hF h176
              refine r_aload_n dX12_ticksOn_290 rfl rfl ?_
              refine r_getI lk_X12_241 (ln_101 hL) dX12_ticksOn_291 ?_
              refine r_bipush (v := 8) dX12_ticksOn_294 (by decide) ?_
              refine r_icmp_le (tgt := 314) dX12_ticksOn_296 (by decide) (fun h182 => ?_) (fun h182 => ?_)
              · have hF := tw hF h182
                refine r_iconst (v := 1) dX12_ticksOn_314 (by decide) ?_
                refine r_goto (tgt := 319) dX12_ticksOn_315 (by decide) ?_
                refine r_iadd dX12_ticksOn_319 ?_
                refine r_putI lk_X12_256 (Or.inl rfl) (ln_101 hL) rfl rfl dX12_ticksOn_320 ?_
                refine r_letI hF (fun I183 hF => ?_)
                obtain rfl := Option.some.inj hF
                exact r_return rfl dX12_ticksOn_323 (Nat.le_of_ble_eq_true rfl) (Nat.le_of_ble_eq_true rfl)
              · have hF := fw hF h182
                refine r_iload_n dX12_ticksOn_299 rfl rfl ?_
                refine r_bipush (v := 8) dX12_ticksOn_300 (by decide) ?_
                refine r_icmp_gt (tgt := 318) dX12_ticksOn_302 (by decide) (fun h184 => ?_) (fun h184 => ?_)
                · have hF := tw hF h184
                  refine r_iconst (v := 0) dX12_ticksOn_318 (by decide) ?_
                  refine r_iadd dX12_ticksOn_319 ?_
                  refine r_putI lk_X12_256 (Or.inl rfl) (ln_101 hL) rfl rfl dX12_ticksOn_320 ?_
                  refine r_letI hF (fun I185 hF => ?_)
                  obtain rfl := Option.some.inj hF
                  exact r_return rfl dX12_ticksOn_323 (Nat.le_of_ble_eq_true rfl) (Nat.le_of_ble_eq_true rfl)
                · have hF := fw hF h184
                  refine r_aload_n dX12_ticksOn_305 rfl rfl ?_
                  refine r_getI lk_X12_241 (ln_101 hL) dX12_ticksOn_306 ?_
                  refine r_bipush (v := 27) dX12_ticksOn_309 (by decide) ?_
                  refine r_icmp_lt (tgt := 318) dX12_ticksOn_311 (by decide) (fun h186 => ?_) (fun h186 => ?_)
                  · have hF := tw hF h186
                    refine r_iconst (v := 0) dX12_ticksOn_318 (by decide) ?_
                    refine r_iadd dX12_ticksOn_319 ?_
                    refine r_putI lk_X12_256 (Or.inl rfl) (ln_101 hL) rfl rfl dX12_ticksOn_320 ?_
                    refine r_letI hF (fun I187 hF => ?_)
                    obtain rfl := Option.some.inj hF
                    exact r_return rfl dX12_ticksOn_323 (Nat.le_of_ble_eq_true rfl) (Nat.le_of_ble_eq_true rfl)
                  · have hF := fw hF h186
                    refine r_iconst (v := 1) dX12_ticksOn_314 (by decide) ?_
                    refine r_goto (tgt := 319) dX12_ticksOn_315 (by decide) ?_
                    refine r_iadd dX12_ticksOn_319 ?_
                    refine r_putI lk_X12_256 (Or.inl rfl) (ln_101 hL) rfl rfl dX12_ticksOn_320 ?_
                    refine r_letI hF (fun I188 hF => ?_)
                    obtain rfl := Option.some.inj hF
                    exact r_return rfl dX12_ticksOn_323 (Nat.le_of_ble_eq_true rfl) (Nat.le_of_ble_eq_true rfl)
          · have hF := fw hF h174
            refine r_iconst (v := 1) dX12_ticksOn_270 (by decide) ?_
            refine r_goto (tgt := 275) dX12_ticksOn_271 (by decide) ?_
            refine r_iadd dX12_ticksOn_275 ?_
            refine r_putI lk_X12_253 (Or.inl rfl) (ln_101 hL) rfl rfl dX12_ticksOn_276 ?_
            refine r_letI hF (fun I189 hF => ?_)
            refine r_aload_n dX12_ticksOn_279 rfl rfl ?_
            refine r_dup dX12_ticksOn_280 rfl ?_
            refine r_getI lk_X12_256 (ln_101 hL) dX12_ticksOn_281 ?_
            refine r_iload_n dX12_ticksOn_284 rfl rfl ?_
            refine r_bipush (v := 27) dX12_ticksOn_285 (by decide) ?_
            refine r_icmp_lt (tgt := 299) dX12_ticksOn_287 (by decide) (fun h190 => ?_) (fun h190 => ?_)
            · have hF := tw hF h190
              refine r_iload_n dX12_ticksOn_299 rfl rfl ?_
              refine r_bipush (v := 8) dX12_ticksOn_300 (by decide) ?_
              refine r_icmp_gt (tgt := 318) dX12_ticksOn_302 (by decide) (fun h191 => ?_) (fun h191 => ?_)
              · have hF := tw hF h191
                refine r_iconst (v := 0) dX12_ticksOn_318 (by decide) ?_
                refine r_iadd dX12_ticksOn_319 ?_
                refine r_putI lk_X12_256 (Or.inl rfl) (ln_101 hL) rfl rfl dX12_ticksOn_320 ?_
                refine r_letI hF (fun I192 hF => ?_)
                obtain rfl := Option.some.inj hF
                exact r_return rfl dX12_ticksOn_323 (Nat.le_of_ble_eq_true rfl) (Nat.le_of_ble_eq_true rfl)
              · have hF := fw hF h191
                refine r_aload_n dX12_ticksOn_305 rfl rfl ?_
                refine r_getI lk_X12_241 (ln_101 hL) dX12_ticksOn_306 ?_
                refine r_bipush (v := 27) dX12_ticksOn_309 (by decide) ?_
                refine r_icmp_lt (tgt := 318) dX12_ticksOn_311 (by decide) (fun h193 => ?_) (fun h193 => ?_)
                · have hF := tw hF h193
                  refine r_iconst (v := 0) dX12_ticksOn_318 (by decide) ?_
                  refine r_iadd dX12_ticksOn_319 ?_
                  refine r_putI lk_X12_256 (Or.inl rfl) (ln_101 hL) rfl rfl dX12_ticksOn_320 ?_
                  refine r_letI hF (fun I194 hF => ?_)
                  obtain rfl := Option.some.inj hF
                  exact r_return rfl dX12_ticksOn_323 (Nat.le_of_ble_eq_true rfl) (Nat.le_of_ble_eq_true rfl)
                · have hF := fw hF h193
                  refine r_iconst (v := 1) dX12_ticksOn_314 (by decide) ?_
                  refine r_goto (tgt := 319) dX12_ticksOn_315 (by decide) ?_
                  refine r_iadd dX12_ticksOn_319 ?_
                  refine r_putI lk_X12_256 (Or.inl rfl) (ln_101 hL) rfl rfl dX12_ticksOn_320 ?_
                  refine r_letI hF (fun I195 hF => ?_)
                  obtain rfl := Option.some.inj hF
                  exact r_return rfl dX12_ticksOn_323 (Nat.le_of_ble_eq_true rfl) (Nat.le_of_ble_eq_true rfl)
            · have hF := fw hF h190
              refine r_aload_n dX12_ticksOn_290 rfl rfl ?_
              refine r_getI lk_X12_241 (ln_101 hL) dX12_ticksOn_291 ?_
              refine r_bipush (v := 8) dX12_ticksOn_294 (by decide) ?_
              refine r_icmp_le (tgt := 314) dX12_ticksOn_296 (by decide) (fun h196 => ?_) (fun h196 => ?_)
              · have hF := tw hF h196
                refine r_iconst (v := 1) dX12_ticksOn_314 (by decide) ?_
                refine r_goto (tgt := 319) dX12_ticksOn_315 (by decide) ?_
                refine r_iadd dX12_ticksOn_319 ?_
                refine r_putI lk_X12_256 (Or.inl rfl) (ln_101 hL) rfl rfl dX12_ticksOn_320 ?_
                refine r_letI hF (fun I197 hF => ?_)
                obtain rfl := Option.some.inj hF
                exact r_return rfl dX12_ticksOn_323 (Nat.le_of_ble_eq_true rfl) (Nat.le_of_ble_eq_true rfl)
              · have hF := fw hF h196
                refine r_iload_n dX12_ticksOn_299 rfl rfl ?_
                refine r_bipush (v := 8) dX12_ticksOn_300 (by decide) ?_
                refine r_icmp_gt (tgt := 318) dX12_ticksOn_302 (by decide) (fun h198 => ?_) (fun h198 => ?_)
                · have hF := tw hF h198
                  refine r_iconst (v := 0) dX12_ticksOn_318 (by decide) ?_
                  refine r_iadd dX12_ticksOn_319 ?_
                  refine r_putI lk_X12_256 (Or.inl rfl) (ln_101 hL) rfl rfl dX12_ticksOn_320 ?_
                  refine r_letI hF (fun I199 hF => ?_)
                  obtain rfl := Option.some.inj hF
                  exact r_return rfl dX12_ticksOn_323 (Nat.le_of_ble_eq_true rfl) (Nat.le_of_ble_eq_true rfl)
                · have hF := fw hF h198
                  refine r_aload_n dX12_ticksOn_305 rfl rfl ?_
                  refine r_getI lk_X12_241 (ln_101 hL) dX12_ticksOn_306 ?_
                  refine r_bipush (v := 27) dX12_ticksOn_309 (by decide) ?_
                  refine r_icmp_lt (tgt := 318) dX12_ticksOn_311 (by decide) (fun h200 => ?_) (fun h200 => ?_)
                  · have hF := tw hF h200
                    refine r_iconst (v := 0) dX12_ticksOn_318 (by decide) ?_
                    refine r_iadd dX12_ticksOn_319 ?_
                    refine r_putI lk_X12_256 (Or.inl rfl) (ln_101 hL) rfl rfl dX12_ticksOn_320 ?_
                    refine r_letI hF (fun I201 hF => ?_)
                    obtain rfl := Option.some.inj hF
                    exact r_return rfl dX12_ticksOn_323 (Nat.le_of_ble_eq_true rfl) (Nat.le_of_ble_eq_true rfl)
                  · have hF := fw hF h200
                    refine r_iconst (v := 1) dX12_ticksOn_314 (by decide) ?_
                    refine r_goto (tgt := 319) dX12_ticksOn_315 (by decide) ?_
                    refine r_iadd dX12_ticksOn_319 ?_
                    refine r_putI lk_X12_256 (Or.inl rfl) (ln_101 hL) rfl rfl dX12_ticksOn_320 ?_
                    refine r_letI hF (fun I202 hF => ?_)
                    obtain rfl := Option.some.inj hF
                    exact r_return rfl dX12_ticksOn_323 (Nat.le_of_ble_eq_true rfl) (Nat.le_of_ble_eq_true rfl)
      · have hF := fw hF h158
        refine r_aload_n dX12_ticksOn_252 rfl rfl ?_
        refine r_getI lk_X12_244 (ln_101 hL) dX12_ticksOn_253 ?_
        refine r_if_lt (tgt := 270) dX12_ticksOn_256 (by decide) (fun h203 => ?_) (fun h203 => ?_)
        · have hF := tw hF h203
          refine r_iconst (v := 1) dX12_ticksOn_270 (by decide) ?_
          refine r_goto (tgt := 275) dX12_ticksOn_271 (by decide) ?_
          refine r_iadd dX12_ticksOn_275 ?_
          refine r_putI lk_X12_253 (Or.inl rfl) (ln_101 hL) rfl rfl dX12_ticksOn_276 ?_
          refine r_letI hF (fun I204 hF => ?_)
          refine r_aload_n dX12_ticksOn_279 rfl rfl ?_
          refine r_dup dX12_ticksOn_280 rfl ?_
          refine r_getI lk_X12_256 (ln_101 hL) dX12_ticksOn_281 ?_
          refine r_iload_n dX12_ticksOn_284 rfl rfl ?_
          refine r_bipush (v := 27) dX12_ticksOn_285 (by decide) ?_
          refine r_icmp_lt (tgt := 299) dX12_ticksOn_287 (by decide) (fun h205 => ?_) (fun h205 => ?_)
          · have hF := tw hF h205
            refine r_iload_n dX12_ticksOn_299 rfl rfl ?_
            refine r_bipush (v := 8) dX12_ticksOn_300 (by decide) ?_
            refine r_icmp_gt (tgt := 318) dX12_ticksOn_302 (by decide) (fun h206 => ?_) (fun h206 => ?_)
            · have hF := tw hF h206
              refine r_iconst (v := 0) dX12_ticksOn_318 (by decide) ?_
              refine r_iadd dX12_ticksOn_319 ?_
              refine r_putI lk_X12_256 (Or.inl rfl) (ln_101 hL) rfl rfl dX12_ticksOn_320 ?_
              refine r_letI hF (fun I207 hF => ?_)
              obtain rfl := Option.some.inj hF
              exact r_return rfl dX12_ticksOn_323 (Nat.le_of_ble_eq_true rfl) (Nat.le_of_ble_eq_true rfl)
            · have hF := fw hF h206
              refine r_aload_n dX12_ticksOn_305 rfl rfl ?_
              refine r_getI lk_X12_241 (ln_101 hL) dX12_ticksOn_306 ?_
              refine r_bipush (v := 27) dX12_ticksOn_309 (by decide) ?_
              refine r_icmp_lt (tgt := 318) dX12_ticksOn_311 (by decide) (fun h208 => ?_) (fun h208 => ?_)
              · have hF := tw hF h208
                refine r_iconst (v := 0) dX12_ticksOn_318 (by decide) ?_
                refine r_iadd dX12_ticksOn_319 ?_
                refine r_putI lk_X12_256 (Or.inl rfl) (ln_101 hL) rfl rfl dX12_ticksOn_320 ?_
                refine r_letI hF (fun I209 hF => ?_)
                obtain rfl := Option.some.inj hF
                exact r_return rfl dX12_ticksOn_323 (Nat.le_of_ble_eq_true rfl) (Nat.le_of_ble_eq_true rfl)
              · have hF := fw hF h208
                refine r_iconst (v := 1) dX12_ticksOn_314 (by decide) ?_
                refine r_goto (tgt := 319) dX12_ticksOn_315 (by decide) ?_
                refine r_iadd dX12_ticksOn_319 ?_
                refine r_putI lk_X12_256 (Or.inl rfl) (ln_101 hL) rfl rfl dX12_ticksOn_320 ?_
                refine r_letI hF (fun I210 hF => ?_)
                obtain rfl := Option.some.inj hF
                exact r_return rfl dX12_ticksOn_323 (Nat.le_of_ble_eq_true rfl) (Nat.le_of_ble_eq_true rfl)
          · have hF := fw hF h205
            refine r_aload_n dX12_ticksOn_290 rfl rfl ?_
            refine r_getI lk_X12_241 (ln_101 hL) dX12_ticksOn_291 ?_
            refine r_bipush (v := 8) dX12_ticksOn_294 (by decide) ?_
            refine r_icmp_le (tgt := 314) dX12_ticksOn_296 (by decide) (fun h211 => ?_) (fun h211 => ?_)
            · have hF := tw hF h211
              refine r_iconst (v := 1) dX12_ticksOn_314 (by decide) ?_
              refine r_goto (tgt := 319) dX12_ticksOn_315 (by decide) ?_
              refine r_iadd dX12_ticksOn_319 ?_
              refine r_putI lk_X12_256 (Or.inl rfl) (ln_101 hL) rfl rfl dX12_ticksOn_320 ?_
              refine r_letI hF (fun I212 hF => ?_)
              obtain rfl := Option.some.inj hF
              exact r_return rfl dX12_ticksOn_323 (Nat.le_of_ble_eq_true rfl) (Nat.le_of_ble_eq_true rfl)
            · have hF := fw hF h211
              refine r_iload_n dX12_ticksOn_299 rfl rfl ?_
              refine r_bipush (v := 8) dX12_ticksOn_300 (by decide) ?_
              refine r_icmp_gt (tgt := 318) dX12_ticksOn_302 (by decide) (fun h213 => ?_) (fun h213 => ?_)
              · have hF := tw hF h213
                refine r_iconst (v := 0) dX12_ticksOn_318 (by decide) ?_
                refine r_iadd dX12_ticksOn_319 ?_
                refine r_putI lk_X12_256 (Or.inl rfl) (ln_101 hL) rfl rfl dX12_ticksOn_320 ?_
                refine r_letI hF (fun I214 hF => ?_)
                obtain rfl := Option.some.inj hF
                exact r_return rfl dX12_ticksOn_323 (Nat.le_of_ble_eq_true rfl) (Nat.le_of_ble_eq_true rfl)
              · have hF := fw hF h213
                refine r_aload_n dX12_ticksOn_305 rfl rfl ?_
                refine r_getI lk_X12_241 (ln_101 hL) dX12_ticksOn_306 ?_
                refine r_bipush (v := 27) dX12_ticksOn_309 (by decide) ?_
                refine r_icmp_lt (tgt := 318) dX12_ticksOn_311 (by decide) (fun h215 => ?_) (fun h215 => ?_)
                · have hF := tw hF h215
                  refine r_iconst (v := 0) dX12_ticksOn_318 (by decide) ?_
                  refine r_iadd dX12_ticksOn_319 ?_
                  refine r_putI lk_X12_256 (Or.inl rfl) (ln_101 hL) rfl rfl dX12_ticksOn_320 ?_
                  refine r_letI hF (fun I216 hF => ?_)
                  obtain rfl := Option.some.inj hF
                  exact r_return rfl dX12_ticksOn_323 (Nat.le_of_ble_eq_true rfl) (Nat.le_of_ble_eq_true rfl)
                · have hF := fw hF h215
                  refine r_iconst (v := 1) dX12_ticksOn_314 (by decide) ?_
                  refine r_goto (tgt := 319) dX12_ticksOn_315 (by decide) ?_
                  refine r_iadd dX12_ticksOn_319 ?_
                  refine r_putI lk_X12_256 (Or.inl rfl) (ln_101 hL) rfl rfl dX12_ticksOn_320 ?_
                  refine r_letI hF (fun I217 hF => ?_)
                  obtain rfl := Option.some.inj hF
                  exact r_return rfl dX12_ticksOn_323 (Nat.le_of_ble_eq_true rfl) (Nat.le_of_ble_eq_true rfl)
        · have hF := fw hF h203
          refine r_iload_n dX12_ticksOn_259 rfl rfl ?_
          refine r_if_ge (tgt := 274) dX12_ticksOn_260 (by decide) (fun h218 => ?_) (fun h218 => ?_)
          · have hF := tw hF h218
            refine r_iconst (v := 0) dX12_ticksOn_274 (by decide) ?_
            refine r_iadd dX12_ticksOn_275 ?_
            refine r_putI lk_X12_253 (Or.inl rfl) (ln_101 hL) rfl rfl dX12_ticksOn_276 ?_
            refine r_letI hF (fun I219 hF => ?_)
            refine r_aload_n dX12_ticksOn_279 rfl rfl ?_
            refine r_dup dX12_ticksOn_280 rfl ?_
            refine r_getI lk_X12_256 (ln_101 hL) dX12_ticksOn_281 ?_
            refine r_iload_n dX12_ticksOn_284 rfl rfl ?_
            refine r_bipush (v := 27) dX12_ticksOn_285 (by decide) ?_
            refine r_icmp_lt (tgt := 299) dX12_ticksOn_287 (by decide) (fun h220 => ?_) (fun h220 => ?_)
            · have hF := tw hF h220
              refine r_iload_n dX12_ticksOn_299 rfl rfl ?_
              refine r_bipush (v := 8) dX12_ticksOn_300 (by decide) ?_
              refine r_icmp_gt (tgt := 318) dX12_ticksOn_302 (by decide) (fun h221 => ?_) (fun h221 => ?_)
              · have hF := tw hF h221
                refine r_iconst (v := 0) dX12_ticksOn_318 (by decide) ?_
                refine r_iadd dX12_ticksOn_319 ?_
                refine r_putI lk_X12_256 (Or.inl rfl) (ln_101 hL) rfl rfl dX12_ticksOn_320 ?_
                refine r_letI hF (fun I222 hF => ?_)
                obtain rfl := Option.some.inj hF
                exact r_return rfl dX12_ticksOn_323 (Nat.le_of_ble_eq_true rfl) (Nat.le_of_ble_eq_true rfl)
              · have hF := fw hF h221
                refine r_aload_n dX12_ticksOn_305 rfl rfl ?_
                refine r_getI lk_X12_241 (ln_101 hL) dX12_ticksOn_306 ?_
                refine r_bipush (v := 27) dX12_ticksOn_309 (by decide) ?_
                refine r_icmp_lt (tgt := 318) dX12_ticksOn_311 (by decide) (fun h223 => ?_) (fun h223 => ?_)
                · have hF := tw hF h223
                  refine r_iconst (v := 0) dX12_ticksOn_318 (by decide) ?_
                  refine r_iadd dX12_ticksOn_319 ?_
                  refine r_putI lk_X12_256 (Or.inl rfl) (ln_101 hL) rfl rfl dX12_ticksOn_320 ?_
                  refine r_letI hF (fun I224 hF => ?_)
                  obtain rfl := Option.some.inj hF
                  exact r_return rfl dX12_ticksOn_323 (Nat.le_of_ble_eq_true rfl) (Nat.le_of_ble_eq_true rfl)
                · have hF := fw hF h223
                  refine r_iconst (v := 1) dX12_ticksOn_314 (by decide) ?_
                  refine r_goto (tgt := 319) dX12_ticksOn_315 (by decide) ?_
                  refine r_iadd dX12_ticksOn_319 ?_
                  refine r_putI lk_X12_256 (Or.inl rfl) (ln_101 hL) rfl rfl dX12_ticksOn_320 ?_
                  refine r_letI hF (fun I225 hF => ?_)
                  obtain rfl := Option.some.inj hF
                  exact r_return rfl dX12_ticksOn_323 (Nat.le_of_ble_eq_true rfl) (Nat.le_of_ble_eq_true rfl)
            · have hF := fw hF h220
              refine r_aload_n dX12_ticksOn_290 rfl rfl ?_
              refine r_getI lk_X12_241 (ln_101 hL) dX12_ticksOn_291 ?_
              refine r_bipush (v := 8) dX12_ticksOn_294 (by decide) ?_
              refine r_icmp_le (tgt := 314) dX12_ticksOn_296 (by decide) (fun h226 => ?_) (fun h226 => ?_)
              · have hF := tw hF h226
                refine r_iconst (v := 1) dX12_ticksOn_314 (by decide) ?_
                refine r_goto (tgt := 319) dX12_ticksOn_315 (by decide) ?_
                refine r_iadd dX12_ticksOn_319 ?_
                refine r_putI lk_X12_256 (Or.inl rfl) (ln_101 hL) rfl rfl dX12_ticksOn_320 ?_
                refine r_letI hF (fun I227 hF => ?_)
                obtain rfl := Option.some.inj hF
                exact r_return rfl dX12_ticksOn_323 (Nat.le_of_ble_eq_true rfl) (Nat.le_of_ble_eq_true rfl)
              · have hF := fw hF h226
                refine r_iload_n dX12_ticksOn_299 rfl rfl ?_
                refine r_bipush (v := 8) dX12_ticksOn_300 (by decide) ?_
                refine r_icmp_gt (tgt := 318) dX12_ticksOn_302 (by decide) (fun h228 => ?_) (fun h228 => ?_)
                · have hF := tw hF h228
                  refine r_iconst (v := 0) dX12_ticksOn_318 (by decide) ?_
                  refine r_iadd dX12_ticksOn_319 ?_
                  refine r_putI lk_X12_256 (Or.inl rfl) (ln_101 hL) rfl rfl dX12_ticksOn_320 ?_
                  refine r_letI hF (fun I229 hF => ?_)
                  obtain rfl := Option.some.inj hF
                  exact r_return rfl dX12_ticksOn_323 (Nat.le_of_ble_eq_true rfl) (Nat.le_of_ble_eq_true rfl)
                · have hF := fw hF h228
                  refine r_aload_n dX12_ticksOn_305 rfl rfl ?_
                  refine r_getI lk_X12_241 (ln_101 hL) dX12_ticksOn_306 ?_
                  refine r_bipush (v := 27) dX12_ticksOn_309 (by decide) ?_
                  refine r_icmp_lt (tgt := 318) dX12_ticksOn_311 (by decide) (fun h230 => ?_) (fun h230 => ?_)
                  · have hF := tw hF h230
                    refine r_iconst (v := 0) dX12_ticksOn_318 (by decide) ?_
                    refine r_iadd dX12_ticksOn_319 ?_
                    refine r_putI lk_X12_256 (Or.inl rfl) (ln_101 hL) rfl rfl dX12_ticksOn_320 ?_
                    refine r_letI hF (fun I231 hF => ?_)
                    obtain rfl := Option.some.inj hF
                    exact r_return rfl dX12_ticksOn_323 (Nat.le_of_ble_eq_true rfl) (Nat.le_of_ble_eq_true rfl)
                  · have hF := fw hF h230
                    refine r_iconst (v := 1) dX12_ticksOn_314 (by decide) ?_
                    refine r_goto (tgt := 319) dX12_ticksOn_315 (by decide) ?_
                    refine r_iadd dX12_ticksOn_319 ?_
                    refine r_putI lk_X12_256 (Or.inl rfl) (ln_101 hL) rfl rfl dX12_ticksOn_320 ?_
                    refine r_letI hF (fun I232 hF => ?_)
                    obtain rfl := Option.some.inj hF
                    exact r_return rfl dX12_ticksOn_323 (Nat.le_of_ble_eq_true rfl) (Nat.le_of_ble_eq_true rfl)
          · have hF := fw hF h218
            refine r_aload_n dX12_ticksOn_263 rfl rfl ?_
            refine r_getI lk_X12_244 (ln_101 hL) dX12_ticksOn_264 ?_
            refine r_if_le (tgt := 274) dX12_ticksOn_267 (by decide) (fun h233 => ?_) (fun h233 => ?_)
            · have hF := tw hF h233
              refine r_iconst (v := 0) dX12_ticksOn_274 (by decide) ?_
              refine r_iadd dX12_ticksOn_275 ?_
              refine r_putI lk_X12_253 (Or.inl rfl) (ln_101 hL) rfl rfl dX12_ticksOn_276 ?_
              refine r_letI hF (fun I234 hF => ?_)
              refine r_aload_n dX12_ticksOn_279 rfl rfl ?_
              refine r_dup dX12_ticksOn_280 rfl ?_
              refine r_getI lk_X12_256 (ln_101 hL) dX12_ticksOn_281 ?_
              refine r_iload_n dX12_ticksOn_284 rfl rfl ?_
              refine r_bipush (v := 27) dX12_ticksOn_285 (by decide) ?_
              refine r_icmp_lt (tgt := 299) dX12_ticksOn_287 (by decide) (fun h235 => ?_) (fun h235 => ?_)
              · have hF := tw hF h235
                refine r_iload_n dX12_ticksOn_299 rfl rfl ?_
                refine r_bipush (v := 8) dX12_ticksOn_300 (by decide) ?_
                refine r_icmp_gt (tgt := 318) dX12_ticksOn_302 (by decide) (fun h236 => ?_) (fun h236 => ?_)
                · have hF := tw hF h236
                  refine r_iconst (v := 0) dX12_ticksOn_318 (by decide) ?_
                  refine r_iadd dX12_ticksOn_319 ?_
                  refine r_putI lk_X12_256 (Or.inl rfl) (ln_101 hL) rfl rfl dX12_ticksOn_320 ?_
                  refine r_letI hF (fun I237 hF => ?_)
                  obtain rfl := Option.some.inj hF
                  exact r_return rfl dX12_ticksOn_323 (Nat.le_of_ble_eq_true rfl) (Nat.le_of_ble_eq_true rfl)
                · have hF := fw hF h236
                  refine r_aload_n dX12_ticksOn_305 rfl rfl ?_
                  refine r_getI lk_X12_241 (ln_101 hL) dX12_ticksOn_306 ?_
                  refine r_bipush (v := 27) dX12_ticksOn_309 (by decide) ?_
                  refine r_icmp_lt (tgt := 318) dX12_ticksOn_311 (by decide) (fun h238 => ?_) (fun h238 => ?_)
                  · have hF := tw hF h238
                    refine r_iconst (v := 0) dX12_ticksOn_318 (by decide) ?_
                    refine r_iadd dX12_ticksOn_319 ?_
                    refine r_putI lk_X12_256 (Or.inl rfl) (ln_101 hL) rfl rfl dX12_ticksOn_320 ?_
                    refine r_letI hF (fun I239 hF => ?_)
                    obtain rfl := Option.some.inj hF
                    exact r_return rfl dX12_ticksOn_323 (Nat.le_of_ble_eq_true rfl) (Nat.le_of_ble_eq_true rfl)
                  · have hF := fw hF h238
                    refine r_iconst (v := 1) dX12_ticksOn_314 (by decide) ?_
                    refine r_goto (tgt := 319) dX12_ticksOn_315 (by decide) ?_
                    refine r_iadd dX12_ticksOn_319 ?_
                    refine r_putI lk_X12_256 (Or.inl rfl) (ln_101 hL) rfl rfl dX12_ticksOn_320 ?_
                    refine r_letI hF (fun I240 hF => ?_)
                    obtain rfl := Option.some.inj hF
                    exact r_return rfl dX12_ticksOn_323 (Nat.le_of_ble_eq_true rfl) (Nat.le_of_ble_eq_true rfl)
              · have hF := fw hF h235
                refine r_aload_n dX12_ticksOn_290 rfl rfl ?_
                refine r_getI lk_X12_241 (ln_101 hL) dX12_ticksOn_291 ?_
                refine r_bipush (v := 8) dX12_ticksOn_294 (by decide) ?_
                refine r_icmp_le (tgt := 314) dX12_ticksOn_296 (by decide) (fun h241 => ?_) (fun h241 => ?_)
                · have hF := tw hF h241
                  refine r_iconst (v := 1) dX12_ticksOn_314 (by decide) ?_
                  refine r_goto (tgt := 319) dX12_ticksOn_315 (by decide) ?_
                  refine r_iadd dX12_ticksOn_319 ?_
                  refine r_putI lk_X12_256 (Or.inl rfl) (ln_101 hL) rfl rfl dX12_ticksOn_320 ?_
                  refine r_letI hF (fun I242 hF => ?_)
                  obtain rfl := Option.some.inj hF
                  exact r_return rfl dX12_ticksOn_323 (Nat.le_of_ble_eq_true rfl) (Nat.le_of_ble_eq_true rfl)
                · have hF := fw hF h241
                  refine r_iload_n dX12_ticksOn_299 rfl rfl ?_
                  refine r_bipush (v := 8) dX12_ticksOn_300 (by decide) ?_
                  refine r_icmp_gt (tgt := 318) dX12_ticksOn_302 (by decide) (fun h243 => ?_) (fun h243 => ?_)
                  · have hF := tw hF h243
                    refine r_iconst (v := 0) dX12_ticksOn_318 (by decide) ?_
                    refine r_iadd dX12_ticksOn_319 ?_
                    refine r_putI lk_X12_256 (Or.inl rfl) (ln_101 hL) rfl rfl dX12_ticksOn_320 ?_
                    refine r_letI hF (fun I244 hF => ?_)
                    obtain rfl := Option.some.inj hF
                    exact r_return rfl dX12_ticksOn_323 (Nat.le_of_ble_eq_true rfl) (Nat.le_of_ble_eq_true rfl)
                  · have hF := fw hF h243
                    refine r_aload_n dX12_ticksOn_305 rfl rfl ?_
                    refine r_getI lk_X12_241 (ln_101 hL) dX12_ticksOn_306 ?_
                    refine r_bipush (v := 27) dX12_ticksOn_309 (by decide) ?_
                    refine r_icmp_lt (tgt := 318) dX12_ticksOn_311 (by decide) (fun h245 => ?_) (fun h245 => ?_)
                    · have hF := tw hF h245
                      refine r_iconst (v := 0) dX12_ticksOn_318 (by decide) ?_
                      refine r_iadd dX12_ticksOn_319 ?_
                      refine r_putI lk_X12_256 (Or.inl rfl) (ln_101 hL) rfl rfl dX12_ticksOn_320 ?_
                      refine r_letI hF (fun I246 hF => ?_)
                      obtain rfl := Option.some.inj hF
                      exact r_return rfl dX12_ticksOn_323 (Nat.le_of_ble_eq_true rfl) (Nat.le_of_ble_eq_true rfl)
                    · have hF := fw hF h245
                      refine r_iconst (v := 1) dX12_ticksOn_314 (by decide) ?_
                      refine r_goto (tgt := 319) dX12_ticksOn_315 (by decide) ?_
                      refine r_iadd dX12_ticksOn_319 ?_
                      refine r_putI lk_X12_256 (Or.inl rfl) (ln_101 hL) rfl rfl dX12_ticksOn_320 ?_
                      refine r_letI hF (fun I247 hF => ?_)
                      obtain rfl := Option.some.inj hF
                      exact r_return rfl dX12_ticksOn_323 (Nat.le_of_ble_eq_true rfl) (Nat.le_of_ble_eq_true rfl)
            · have hF := fw hF h233
              refine r_iconst (v := 1) dX12_ticksOn_270 (by decide) ?_
              refine r_goto (tgt := 275) dX12_ticksOn_271 (by decide) ?_
              refine r_iadd dX12_ticksOn_275 ?_
              refine r_putI lk_X12_253 (Or.inl rfl) (ln_101 hL) rfl rfl dX12_ticksOn_276 ?_
              refine r_letI hF (fun I248 hF => ?_)
              refine r_aload_n dX12_ticksOn_279 rfl rfl ?_
              refine r_dup dX12_ticksOn_280 rfl ?_
              refine r_getI lk_X12_256 (ln_101 hL) dX12_ticksOn_281 ?_
              refine r_iload_n dX12_ticksOn_284 rfl rfl ?_
              refine r_bipush (v := 27) dX12_ticksOn_285 (by decide) ?_
              refine r_icmp_lt (tgt := 299) dX12_ticksOn_287 (by decide) (fun h249 => ?_) (fun h249 => ?_)
              · have hF := tw hF h249
                refine r_iload_n dX12_ticksOn_299 rfl rfl ?_
                refine r_bipush (v := 8) dX12_ticksOn_300 (by decide) ?_
                refine r_icmp_gt (tgt := 318) dX12_ticksOn_302 (by decide) (fun h250 => ?_) (fun h250 => ?_)
                · have hF := tw hF h250
                  refine r_iconst (v := 0) dX12_ticksOn_318 (by decide) ?_
                  refine r_iadd dX12_ticksOn_319 ?_
                  refine r_putI lk_X12_256 (Or.inl rfl) (ln_101 hL) rfl rfl dX12_ticksOn_320 ?_
                  refine r_letI hF (fun I251 hF => ?_)
                  obtain rfl := Option.some.inj hF
                  exact r_return rfl dX12_ticksOn_323 (Nat.le_of_ble_eq_true rfl) (Nat.le_of_ble_eq_true rfl)
                · have hF := fw hF h250
                  refine r_aload_n dX12_ticksOn_305 rfl rfl ?_
                  refine r_getI lk_X12_241 (ln_101 hL) dX12_ticksOn_306 ?_
                  refine r_bipush (v := 27) dX12_ticksOn_309 (by decide) ?_
                  refine r_icmp_lt (tgt := 318) dX12_ticksOn_311 (by decide) (fun h252 => ?_) (fun h252 => ?_)
                  · have hF := tw hF h252
                    refine r_iconst (v := 0) dX12_ticksOn_318 (by decide) ?_
                    refine r_iadd dX12_ticksOn_319 ?_
                    refine r_putI lk_X12_256 (Or.inl rfl) (ln_101 hL) rfl rfl dX12_ticksOn_320 ?_
                    refine r_letI hF (fun I253 hF => ?_)
                    obtain rfl := Option.some.inj hF
                    exact r_return rfl dX12_ticksOn_323 (Nat.le_of_ble_eq_true rfl) (Nat.le_of_ble_eq_true rfl)
                  · have hF := fw hF h252
                    refine r_iconst (v := 1) dX12_ticksOn_314 (by decide) ?_
                    refine r_goto (tgt := 319) dX12_ticksOn_315 (by decide) ?_
                    refine r_iadd dX12_ticksOn_319 ?_
                    refine r_putI lk_X12_256 (Or.inl rfl) (ln_101 hL) rfl rfl dX12_ticksOn_320 ?_
                    refine r_letI hF (fun I254 hF => ?_)
                    obtain rfl := Option.some.inj hF
                    exact r_return rfl dX12_ticksOn_323 (Nat.le_of_ble_eq_true rfl) (Nat.le_of_ble_eq_true rfl)
              · have hF := fw hF h249
                refine r_aload_n dX12_ticksOn_290 rfl rfl ?_
                refine r_getI lk_X12_241 (ln_101 hL) dX12_ticksOn_291 ?_
                refine r_bipush (v := 8) dX12_ticksOn_294 (by decide) ?_
                refine r_icmp_le (tgt := 314) dX12_ticksOn_296 (by decide) (fun h255 => ?_) (fun h255 => ?_)
                · have hF := tw hF h255
                  refine r_iconst (v := 1) dX12_ticksOn_314 (by decide) ?_
                  refine r_goto (tgt := 319) dX12_ticksOn_315 (by decide) ?_
                  refine r_iadd dX12_ticksOn_319 ?_
                  refine r_putI lk_X12_256 (Or.inl rfl) (ln_101 hL) rfl rfl dX12_ticksOn_320 ?_
                  refine r_letI hF (fun I256 hF => ?_)
                  obtain rfl := Option.some.inj hF
                  exact r_return rfl dX12_ticksOn_323 (Nat.le_of_ble_eq_true rfl) (Nat.le_of_ble_eq_true rfl)
                · have hF := fw hF h255
                  refine r_iload_n dX12_ticksOn_299 rfl rfl ?_
                  refine r_bipush (v := 8) dX12_ticksOn_300 (by decide) ?_
                  refine r_icmp_gt (tgt := 318) dX12_ticksOn_302 (by decide) (fun h257 => ?_) (fun h257 => ?_)
                  · have hF := tw hF h257
                    refine r_iconst (v := 0) dX12_ticksOn_318 (by decide) ?_
                    refine r_iadd dX12_ticksOn_319 ?_
                    refine r_putI lk_X12_256 (Or.inl rfl) (ln_101 hL) rfl rfl dX12_ticksOn_320 ?_
                    refine r_letI hF (fun I258 hF => ?_)
                    obtain rfl := Option.some.inj hF
                    exact r_return rfl dX12_ticksOn_323 (Nat.le_of_ble_eq_true rfl) (Nat.le_of_ble_eq_true rfl)
                  · have hF := fw hF h257
                    refine r_aload_n dX12_ticksOn_305 rfl rfl ?_
                    refine r_getI lk_X12_241 (ln_101 hL) dX12_ticksOn_306 ?_
                    refine r_bipush (v := 27) dX12_ticksOn_309 (by decide) ?_
                    refine r_icmp_lt (tgt := 318) dX12_ticksOn_311 (by decide) (fun h259 => ?_) (fun h259 => ?_)
                    · have hF := tw hF h259
                      refine r_iconst (v := 0) dX12_ticksOn_318 (by decide) ?_
                      refine r_iadd dX12_ticksOn_319 ?_
                      refine r_putI lk_X12_256 (Or.inl rfl) (ln_101 hL) rfl rfl dX12_ticksOn_320 ?_
                      refine r_letI hF (fun I260 hF => ?_)
                      obtain rfl := Option.some.inj hF
                      exact r_return rfl dX12_ticksOn_323 (Nat.le_of_ble_eq_true rfl) (Nat.le_of_ble_eq_true rfl)
                    · have hF := fw hF h259
                      refine r_iconst (v := 1) dX12_ticksOn_314 (by decide) ?_
                      refine r_goto (tgt := 319) dX12_ticksOn_315 (by decide) ?_
                      refine r_iadd dX12_ticksOn_319 ?_
                      refine r_putI lk_X12_256 (Or.inl rfl) (ln_101 hL) rfl rfl dX12_ticksOn_320 ?_
                      refine r_letI hF (fun I261 hF => ?_)
                      obtain rfl := Option.some.inj hF
                      exact r_return rfl dX12_ticksOn_323 (Nat.le_of_ble_eq_true rfl) (Nat.le_of_ble_eq_true rfl)
def G_X12_falls_9 (N : Nat) : Nat → IM → Option (Int32 × IM)
  | 0, _ => none
  | n + 1, Iv => (if (F_X12_isLanded Iv) = 0 then (if 400 ≤ (Iv 101 23) then (some ((F_X12_isLanded Iv), Iv)) else ((F_X12_ticksOn Iv).bind (fun x4 => (G_X12_falls_9 N n x4)))) else (some ((F_X12_isLanded Iv), Iv)))
set_option maxHeartbeats 4000000 in
theorem okG_X12_falls_9 {E : GE} {T : TM} {J : JM} {P : PM} {N : Nat} {x : Int32 × IM} (hL : LOK T P) : ∀ (n : Nat) (Iv : IM), G_X12_falls_9 N n Iv = some x → WW E mX12_falls (RM 5 0 0) (ZM E 0 0 (some (.int x.1)) T x.2 J P) 0 0 T Iv J P 9 [(0, .ref 101)] [] := by
  intro n
  induction n with
  | zero =>
    intro Iv hF
    cases hF
  | succ n ih =>
    intro Iv hF
    rw [G_X12_falls_9] at hF
    refine r_aload_n dX12_falls_9 rfl rfl ?_
    refine c_virt_i (As := []) mi_X12_isLanded kw_1231 ks_43 kw_1229 rfl (by decide) (ln_101 hL) (ok_X12_isLanded hL  ) rfl rfl (Nat.le_of_ble_eq_true rfl) ⟨Nat.le_of_ble_eq_true rfl, Nat.le_of_ble_eq_true rfl⟩ ⟨Nat.le_of_ble_eq_true rfl, Nat.le_of_ble_eq_true rfl⟩ dX12_falls_10 ?_
    refine r_if_ne (tgt := 33) dX12_falls_13 (by decide) (fun h2 => ?_) (fun h2 => ?_)
    · have hF := fw hF h2
      refine r_aload_n dX12_falls_33 rfl rfl ?_
      refine c_virt_i (As := []) mi_X12_isLanded kw_1231 ks_43 kw_1229 rfl (by decide) (ln_101 hL) (ok_X12_isLanded hL  ) rfl rfl (Nat.le_of_ble_eq_true rfl) ⟨Nat.le_of_ble_eq_true rfl, Nat.le_of_ble_eq_true rfl⟩ ⟨Nat.le_of_ble_eq_true rfl, Nat.le_of_ble_eq_true rfl⟩ dX12_falls_34 ?_
      obtain rfl := Option.some.inj hF
      exact r_ireturn rfl (nz_X12_isLanded Iv) dX12_falls_37 (Nat.le_of_ble_eq_true rfl) (Nat.le_of_ble_eq_true rfl)
    · have hF := tw hF h2
      refine r_aload_n dX12_falls_16 rfl rfl ?_
      refine r_getI lk_X12_232 (ln_101 hL) dX12_falls_17 ?_
      refine r_sipush (v := 400) dX12_falls_20 (by decide) ?_
      refine r_icmp_ge (tgt := 33) dX12_falls_23 (by decide) (fun h3 => ?_) (fun h3 => ?_)
      · have hF := tw hF h3
        refine r_aload_n dX12_falls_33 rfl rfl ?_
        refine c_virt_i (As := []) mi_X12_isLanded kw_1231 ks_43 kw_1229 rfl (by decide) (ln_101 hL) (ok_X12_isLanded hL  ) rfl rfl (Nat.le_of_ble_eq_true rfl) ⟨Nat.le_of_ble_eq_true rfl, Nat.le_of_ble_eq_true rfl⟩ ⟨Nat.le_of_ble_eq_true rfl, Nat.le_of_ble_eq_true rfl⟩ dX12_falls_34 ?_
        obtain rfl := Option.some.inj hF
        exact r_ireturn rfl (nz_X12_isLanded Iv) dX12_falls_37 (Nat.le_of_ble_eq_true rfl) (Nat.le_of_ble_eq_true rfl)
      · have hF := fw hF h3
        refine r_aload_n dX12_falls_26 rfl rfl ?_
        obtain ⟨x4, hx4, hF⟩ := bnd hF
        refine c_virt_v (As := []) mi_X12_ticksOn kw_1235 ks_44 kw_1233 rfl (by decide) (ln_101 hL) (ok_X12_ticksOn hL  hx4) rfl rfl (Nat.le_of_ble_eq_true rfl) ⟨Nat.le_of_ble_eq_true rfl, Nat.le_of_ble_eq_true rfl⟩ ⟨Nat.le_of_ble_eq_true rfl, Nat.le_of_ble_eq_true rfl⟩ dX12_falls_27 ?_
        refine r_goto (tgt := 9) dX12_falls_30 (by decide) ?_
        refine r_sub (ls' := [(0, .ref 101)]) [0] rfl ?_
        exact ih x4 hF
def F_X12_falls (N : Nat) (I : IM) (p1 : Int32) (p2 : Int32) (p3 : Int32) (p4 : Int32) : Option (Int32 × IM) := ((F_X12_lends I p1 p2 p3 p4).bind (fun x1 => (G_X12_falls_9 N N x1)))
set_option maxHeartbeats 4000000 in
theorem ok_X12_falls {E : GE} {T : TM} {I : IM} {J : JM} {P : PM} {p1 : Int32} {p2 : Int32} {p3 : Int32} {p4 : Int32} {N : Nat} {x : Int32 × IM} (hL : LOK T P) (hF : F_X12_falls N I p1 p2 p3 p4 = some x) : Ctr E mX12_falls 5 0 0 [.ref 101, .int p1, .int p2, .int p3, .int p4] T I J P (some (.int x.1)) T x.2 J P := by
  unfold F_X12_falls at hF
  refine ctr_intro rfl (by decide) (Nat.le_of_ble_eq_true rfl) ?_
  refine r_sub (ls' := [(4, .int p4), (3, .int p3), (2, .int p2), (1, .int p1), (0, .ref 101)]) [4, 3, 2, 1, 0] rfl ?_
  refine r_aload_n dX12_falls_0 rfl rfl ?_
  refine r_iload_n dX12_falls_1 rfl rfl ?_
  refine r_iload_n dX12_falls_2 rfl rfl ?_
  refine r_iload_n dX12_falls_3 rfl rfl ?_
  refine r_iload dX12_falls_4 rfl ?_
  obtain ⟨x1, hx1, hF⟩ := bnd hF
  refine c_virt_v (As := [.int p1, .int p2, .int p3, .int p4]) mi_X12_lends kw_1215 ks_40 kw_1213 rfl (by decide) (ln_101 hL) (ok_X12_lends hL  hx1) rfl rfl (Nat.le_of_ble_eq_true rfl) ⟨Nat.le_of_ble_eq_true rfl, Nat.le_of_ble_eq_true rfl⟩ ⟨Nat.le_of_ble_eq_true rfl, Nat.le_of_ble_eq_true rfl⟩ dX12_falls_6 ?_
  refine r_sub (ls' := [(0, .ref 101)]) [4] rfl ?_
  exact okG_X12_falls_9 hL   N x1 hF
