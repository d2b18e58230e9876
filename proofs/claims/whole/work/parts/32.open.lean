/-! FROM THE ENTRY TO THE LAW'S LOOP -/
def T0 : TM := (0, fun _ => 0, fun _ => 0)
def I0 : IM := fun _ _ => 0
def J0 : JM := fun _ _ => 0
def P0 : PM := fun _ _ => none
def mA : Option (TM × IM × JM × PM) := F_X11_init (nT T0 11 0) (nI0 T0 I0) (nJ0 T0 J0) (nP0 T0 P0) 64
set_option maxRecDepth 100000 in
theorem mA_some : mA.isSome = true := by decide +kernel
def mX : TM × IM × JM × PM := mA.get mA_some
theorem mA_eq : mA = some mX := (Option.some_get mA_some).symm
set_option maxRecDepth 100000 in
theorem mX_37 : mX.1.1 = 37 := by decide +kernel
def mB : Option (TM × IM × JM × PM) := F_X12_init (nT mX.1 12 0) (nI0 mX.1 mX.2.1) (nJ0 mX.1 mX.2.2.1) (nP0 mX.1 mX.2.2.2) 101
set_option maxRecDepth 100000 in
theorem mB_some : mB.isSome = true := by decide +kernel
def mS : TM × IM × JM × PM := mB.get mB_some
theorem mB_eq : mB = some mS := (Option.some_get mB_some).symm
set_option maxRecDepth 100000 in
theorem mS_60 : mS.1.1 = 60 := by decide +kernel
set_option maxRecDepth 100000 in
theorem mS_L : ∀ q ∈ layL, (64 ≤ q.1 ∧ q.1 < 64 + mS.1.1 ∧ mS.1.2.1 q.1 = q.2.1) ∧ mS.1.2.2 q.1 = q.2.2 := by decide +kernel
set_option maxRecDepth 100000 in
theorem mS_P : ∀ q ∈ layP, mS.2.2.2 q.1 q.2.1 = some q.2.2 := by decide +kernel
theorem mS_LOK : LOK mS.1 mS.2.2.2 := ⟨mS_L, mS_P⟩
theorem IS.at {T : TM} {k n a : Nat} (h : 64 + T.1 = a) : IS (nT T k n) a k := h ▸ IS.fresh
set_option maxHeartbeats 4000000 in
theorem law_begin {E : GE} {N n : Nat} (hN : E.2.2.2.2.2.1 ≤ 3584) (hp : G_law E N n 0 mS.1 mS.2.1 mS.2.2.1 mS.2.2.2 = some 1) : WW E mL_law room_1 (ZL E) 0 0 T0 I0 J0 P0 0 [(0, .ref 21)] [] := by
  refine r_newn (n := 16) ciX11 rfl rfl kw_20 ⟨Nat.le_of_ble_eq_true rfl, Nat.le_of_ble_eq_true rfl⟩ dL_law_0 ?_
  refine r_show (st2 := [.ref 64]) rfl ?_
  refine r_dup dL_law_3 rfl ?_
  refine ct_init_v (As := []) mi_X11_init rfl rfl kw_23 kw_22 (ok_X11_init (IS.at rfl) mA_eq) rfl rfl (Nat.le_of_ble_eq_true rfl) ⟨Nat.le_of_ble_eq_true rfl, Nat.le_of_ble_eq_true rfl⟩ ⟨Nat.le_of_ble_eq_true rfl, Nat.le_of_ble_eq_true rfl⟩ dL_law_4 ?_
  intro m0 b0 b1
  have e0 : (nT T0 11 0).1 = 1 := rfl
  refine r_astore_n (ls' := [(1, .ref 64), (0, .ref 21)]) dL_law_7 rfl (by decide) rfl ?_
  refine r_newn (n := 54) ciX12 rfl rfl kw_911 ⟨by show _ ≤ 615142; omega, by show _ ≤ 7256822; omega⟩ dL_law_8 ?_
  refine r_show (st2 := [.ref 101]) (by rw [mX_37]) ?_
  refine r_dup dL_law_11 rfl ?_
  refine ct_init_v (As := []) mi_X12_init rfl rfl kw_914 kw_913 (ok_X12_init (IS.at (by rw [mX_37])) mB_eq) rfl rfl (Nat.le_of_ble_eq_true rfl) ⟨Nat.le_of_ble_eq_true rfl, Nat.le_of_ble_eq_true rfl⟩ ⟨by show _ ≤ 615142; omega, by show _ ≤ 7256822; omega⟩ dL_law_12 ?_
  intro m1 b2 b3
  have e1 : (nT mX.1 12 0).1 = mX.1.1 + 1 := rfl
  refine r_astore_n (ls' := [(2, .ref 101), (1, .ref 64), (0, .ref 21)]) dL_law_15 rfl (by decide) rfl ?_
  refine r_iconst (v := 0) dL_law_16 (by decide) ?_
  refine r_istore_n (ls' := [(3, .int 0), (2, .ref 101), (1, .ref 64), (0, .ref 21)]) dL_law_17 rfl (by decide) rfl ?_
  refine r_sub (ls' := [(0, .ref 21), (1, .ref 64), (2, .ref 101), (3, .int 0)]) [3, 2, 1, 0] rfl ?_
  exact okG_law hN n 0 mS.1 mS.2.1 mS.2.2.1 mS.2.2.2 _ _ (by rw [show (0 : Int32).toInt = 0 from rfl]; omega) (by rw [show (0 : Int32).toInt = 0 from rfl]; omega) (by decide) (by decide) mS_LOK hp
/-- what is left: pure -/
def PURE : Prop := ∀ E : GE, E.2.2.2.2.2.1 ≤ 3584 → ∃ N n : Nat, G_law E N n 0 mS.1 mS.2.1 mS.2.2.1 mS.2.2.2 = some 1
theorem whole_open (hPure : PURE) {p : Program} {e : Env} {s : State} {m : MethodId} {below : List Frame} {meth : Method} {c : Code} (l : Launch) {b L : Nat} {xs : Nat → Int32} (hL : L ≤ 3584) (C0 : lw_At p s m meth c b L xs) : W p l e room_1 s m #[Value.ref b] below meth c s.heap [] 0 0 (lw_Z below #[Value.ref b] s) (entryFrame m ([Value.ref b] : List Value).toArray 4) := by
  obtain ⟨hx, hb, hr, hml, hown, hts, hX, hbl, hlocks, hgv⟩ := C0
  obtain ⟨E, rfl, h2, h3, h4, h5, hST⟩ := st_start l hts hX hbl hgv
  subst h4
  obtain ⟨N, n, hp⟩ := hPure E hL
  have K := law_begin hL hp
  rw [lg_entry_eq]
  have hP0 : HP E T0 I0 J0 P0 s.heap := fun k q h => by simp [wl, T0] at h
  have hT0 : E.2.1 + T0.1 = E.2.1 := rfl
  have ha : ([Value.ref b] : List Value) = ([Value.ref 21] : List Value).map (cv E) := by
    show _ = [Value.ref (q_ E 21)]
    rw [q_lo (by decide), h3]
  have hl := lv_entry ([Value.ref b] : List Value) (n := 4) (Nat.le_of_ble_eq_true rfl)
  have hl2 : lv_has ((lg_sl [Value.ref b] ++ List.replicate (4 - (lg_sl [Value.ref b]).length) Slot.unset).toArray) 4 (([(0, Value.ref 21)] : List (Nat × Value)).map (cv2 E)) := by
    have e2 : ([(0, Value.ref 21)] : List (Nat × Value)).map (cv2 E) = lv_args 0 [Value.ref b] := by
      show [((0 : Nat), Value.ref (q_ E 21))] = _
      rw [q_lo (by decide), h3]
      rfl
    rw [e2]
    exact hl
  intro U hU X
  obtain ⟨t, a1, b1⟩ := K p e s m #[Value.ref b] below meth c s.heap [] _ ⟨hx, hb, hml, hr, hlocks, (fun h => absurd h (by decide)), hown, fun w hw => hts w (tbg_in hw), Nat.le_of_eq h2, hST⟩ (by rw [h2, Nat.add_zero]; rfl) hP0 va_S.rf hl2 U hU X
  exact ⟨t, a1, b1 (by rw [h3]) h2.symm⟩
