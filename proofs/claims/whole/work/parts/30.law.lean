/-! THE CLAIM OUT OF ONE WALK OF THE LAW'S BODY. Your part is whole_start (and what it stands on); all else here is the same for every law, but numbers. -/
def R_law : String := "FallCardsLaw"
def lw_P (b : Addr) (xs : List Int32) (args : Array Value) (s : State) : Prop := args = #[.ref b] ∧ s.IntsAt b xs ∧ xs.length ≤ 3584 ∧ (Jvm.Cond.and given_1 narrow_1).before args s = true
def lw_Q (_ : Array Value) (s : State) (o : Outcome) (t : State) : Prop := o = .returned (some (.int 1)) ∧ Framed s o t [] 615142 7256822
def lw_Z (below : List Frame) (a : Array Value) (s : State) : State → Prop := fun t => ∃ o, t.status = .running ∧ Ended t below o ∧ lw_Q a s o t
/-- the law's own end, with 1 on the stack, nothing written that was there before, its room as the claim has it -/
theorem lw_ret {p : Program} {l : Launch} {e : Env} {s : State} {m : MethodId} {below : List Frame} {meth : Method} {c : Code} {b : Nat} (hx : p.tables.exec = Jvm.exec) (hb : c.code = code) (hr : meth.sig.returnType = ret) (hlocks : meth.locks = false) {pc : Nat} {H : Heap} {ls : Array Slot} (hdg : decode code pc = .ok (.ireturn, 1)) : W p l e room_1 s m #[Value.ref b] below meth c H [] 615142 7256822 (lw_Z below #[Value.ref b] s) (F0 m pc ls [.int 1]) := by
  intro T hT X
  obtain ⟨fs, hret, hrun, hended, hW, hframe⟩ := X.leave (v := some (.int 1)) (hlocks := hlocks) (fun h => by rw [hr] at h; cases h)
  have hmeth' : T.vm.method? m = some meth := X.method'
  refine ⟨T.setFrames fs, ?_, .returned (some (.int 1)), hrun, hended, rfl, ⟨_, rfl⟩, hW, hframe⟩
  jvm_step X.here [X.here.top, hx, hb, hdg, hmeth', hr, ret, narrow_b1]
  (try refine ⟨rfl, ?_⟩); (try refine ⟨rfl, ?_⟩)
  first | (intro acts; rw [hret _ acts rfl rfl rfl]) | rw [hret _ _ rfl rfl rfl]
  exact Steps.refl _
/-- what holds at the law's entry: the machine, the code, the tables' words (any of lw_tbl by 'hts w (by decide +kernel)'), the script of L ints xs at the cell b, what the Statement gives of the start (any of its parts by flat_of_before) -/
def lw_At (p : Program) (s : State) (m : MethodId) (meth : Method) (c : Code) (b L : Nat) (xs : Nat → Int32) : Prop :=
  p.tables.exec = Jvm.exec ∧ c.code = code ∧ meth.sig.returnType = ret ∧ c.maxLocals = 4 ∧ s.vm.findClass R_law = some m.cls ∧ (∀ w ∈ lw_tbl, w.before #[Value.ref b] s = true) ∧ va_X b L xs s s.heap ∧ b < s.heap.size ∧ meth.locks = false ∧ (Jvm.Cond.and given_1 narrow_1).before #[Value.ref b] s = true

/-! THE LAW'S OWN WALK -/
abbrev mL_law : MD := (yL_law, cL_law, 4, some .boolean)
def ZL (E : GE) : State → Array Value → List Frame → State → Prop := fun s args below t => args = #[Value.ref (E.2.2.1 21)] → s.heap.size = E.2.1 → lw_Z below args s t
theorem law_ret {E : GE} {kc ks : Nat} {T : TM} {I : IM} {J : JM} {P : PM} {pc : Nat} {ls : List (Nat × Value)} (hd : decode mL_law.2.1 pc = .ok (.ireturn, 1)) (hc : kc ≤ 615142) (hs : ks ≤ 7256822) : WW E mL_law room_1 (ZL E) kc ks T I J P pc ls [.int 1] := by
  intro p e s m args below meth c H locs la C hz hH hS hl U hU X
  by_cases ha : args = #[Value.ref (E.2.2.1 21)]
  · by_cases hsz : s.heap.size = E.2.1
    · subst ha
      have K : W p E.1 e room_1 s m #[Value.ref (E.2.2.1 21)] below meth c H locs kc ks (lw_Z below #[Value.ref (E.2.2.1 21)] s) (F0 m pc la [.int 1]) := by
        refine va_forget (fun q hq => by rw [hsz]; exact hS.2.2 q hq) ?_
        refine W.widen (k := 615142) (n := 7256822) hc hs ?_
        exact lw_ret C.1 C.2.1 C.2.2.2.1 C.2.2.2.2.1 hd
      obtain ⟨t, a1, b1⟩ := K U hU X
      exact ⟨t, a1, fun _ _ => b1⟩
    · have hlocks := C.2.2.2.2.1
      obtain ⟨t, a1, b1⟩ := (W.zret (Qc := fun _ _ _ _ => True) (free := fun _ => True) (v := 1) C.1 C.2.1 C.2.2.2.1 rfl (fun _ _ _ => trivial) (fun _ _ => trivial) hd hlocks : W p E.1 e room_1 s m args below meth c H locs kc ks (MQ below (fun _ _ _ _ => True) args s kc ks (fun _ => True)) (F0 m pc la [.int 1])) U hU X
      exact ⟨t, a1, fun _ h => absurd h hsz⟩
  · have hlocks := C.2.2.2.2.1
    obtain ⟨t, a1, b1⟩ := (W.zret (Qc := fun _ _ _ _ => True) (free := fun _ => True) (v := 1) C.1 C.2.1 C.2.2.2.1 rfl (fun _ _ _ => trivial) (fun _ _ => trivial) hd hlocks : W p E.1 e room_1 s m args below meth c H locs kc ks (MQ below (fun _ _ _ _ => True) args s kc ks (fun _ => True)) (F0 m pc la [.int 1])) U hU X
    exact ⟨t, a1, fun h => absurd h ha⟩
theorem inc7_toInt {x : Int32} (h0 : 0 ≤ x.toInt) (h : x.toInt ≤ 3577) : (x + 7).toInt = x.toInt + 7 := by
  rw [Int32.toInt_add, show (7 : Int32).toInt = 7 from rfl]
  exact Int.bmod_eq_of_le (by omega) (by omega)
theorem law_lt {L : Nat} {x : Int32} (hN : L ≤ 3584) (h : ¬ (Int32.ofNat L - 7) < x) : x.toInt ≤ 3577 := by
  rw [Int32.lt_iff_toInt_lt, Int32.toInt_sub, show (7 : Int32).toInt = 7 from rfl, show (Int32.ofNat L).toInt = (L : Int) from nI_toInt (by omega)] at h
  rw [Int.bmod_eq_of_le (by omega) (by omega)] at h
  omega
def G_law (E : GE) (N : Nat) : Nat → Int32 → TM → IM → JM → PM → Option Int32
  | 0, _, _, _, _, _ => none
  | n + 1, u3, Tv, Iv, Jv, Pv => (if ((Int32.ofNat E.2.2.2.2.2.1) - 7) < u3 then (some 1) else (if inb u3 E.2.2.2.2.2.1 = true then (if ((E.2.2.2.2.2.2 u3.toNatClampNeg) &&& 63) = 0 then (if inb (u3 + 1) E.2.2.2.2.2.1 = true then (if inb (u3 + 2) E.2.2.2.2.2.1 = true then (if inb (u3 + 3) E.2.2.2.2.2.1 = true then ((F_X11_feed N Iv (((Int32.toInt64 (E.2.2.2.2.2.2 (u3 + 1).toNatClampNeg)) <<< (Int32.toInt64 32 &&& 63)) ||| ((Int32.toInt64 (E.2.2.2.2.2.2 (u3 + 2).toNatClampNeg)) &&& 4294967295)) (E.2.2.2.2.2.2 (u3 + 3).toNatClampNeg)).bind (fun x7 => (if inb (u3 + 1) E.2.2.2.2.2.1 = true then (if inb (u3 + 2) E.2.2.2.2.2.1 = true then (if inb (u3 + 3) E.2.2.2.2.2.1 = true then ((F_X12_feed N x7.2 (((Int32.toInt64 (E.2.2.2.2.2.2 (u3 + 1).toNatClampNeg)) <<< (Int32.toInt64 32 &&& 63)) ||| ((Int32.toInt64 (E.2.2.2.2.2.2 (u3 + 2).toNatClampNeg)) &&& 4294967295)) (E.2.2.2.2.2.2 (u3 + 3).toNatClampNeg)).bind (fun x11 => (if x7.1 = x11.1 then (G_law E N n (u3 + 7) Tv x11.2 Jv Pv) else (some 0)))) else none) else none) else none))) else none) else none) else none) else (if ((E.2.2.2.2.2.2 u3.toNatClampNeg) &&& 63) = 1 then ((F_X11_cards N Tv Iv Jv Pv).bind (fun x14 => ((F_X12_cards N x14.2.2.1 x14.2.2.2.1).bind (fun x16 => (if x14.1 = x16.1 then (G_law E N n (u3 + 7) x14.2.1 x16.2.1 x16.2.2 x14.2.2.2.2) else (some 0)))))) else (if ((E.2.2.2.2.2.2 u3.toNatClampNeg) &&& 63) = 2 then (if inb (u3 + 1) E.2.2.2.2.2.1 = true then (if inb (u3 + 2) E.2.2.2.2.2.1 = true then (if inb (u3 + 3) E.2.2.2.2.2.1 = true then (if inb (u3 + 4) E.2.2.2.2.2.1 = true then ((F_X11_card Tv Iv Jv Pv (E.2.2.2.2.2.2 (u3 + 1).toNatClampNeg) (E.2.2.2.2.2.2 (u3 + 2).toNatClampNeg) (E.2.2.2.2.2.2 (u3 + 3).toNatClampNeg) (E.2.2.2.2.2.2 (u3 + 4).toNatClampNeg)).bind (fun x23 => (if inb (u3 + 1) E.2.2.2.2.2.1 = true then (if inb (u3 + 2) E.2.2.2.2.2.1 = true then (if inb (u3 + 3) E.2.2.2.2.2.1 = true then (if inb (u3 + 4) E.2.2.2.2.2.1 = true then ((F_X12_card x23.2.2.1 (E.2.2.2.2.2.2 (u3 + 1).toNatClampNeg) (E.2.2.2.2.2.2 (u3 + 2).toNatClampNeg) (E.2.2.2.2.2.2 (u3 + 3).toNatClampNeg) (E.2.2.2.2.2.2 (u3 + 4).toNatClampNeg)).bind (fun x29 => (if x23.1 = x29.1 then (G_law E N n (u3 + 7) x23.2.1 x29.2 x23.2.2.2.1 x23.2.2.2.2) else (some 0)))) else none) else none) else none) else none))) else none) else none) else none) else none) else (if ((E.2.2.2.2.2.2 u3.toNatClampNeg) &&& 63) = 3 then (if inb (u3 + 1) E.2.2.2.2.2.1 = true then (if inb (u3 + 2) E.2.2.2.2.2.1 = true then ((F_X11_cardOf Tv Iv Pv (E.2.2.2.2.2.2 (u3 + 1).toNatClampNeg) (E.2.2.2.2.2.2 (u3 + 2).toNatClampNeg)).bind (fun x34 => (if inb (u3 + 1) E.2.2.2.2.2.1 = true then (if inb (u3 + 2) E.2.2.2.2.2.1 = true then ((F_X12_cardOf Iv (E.2.2.2.2.2.2 (u3 + 1).toNatClampNeg) (E.2.2.2.2.2.2 (u3 + 2).toNatClampNeg)).bind (fun x37 => (if x34 = x37 then (G_law E N n (u3 + 7) Tv Iv Jv Pv) else (some 0)))) else none) else none))) else none) else none) else (if ((E.2.2.2.2.2.2 u3.toNatClampNeg) &&& 63) = 4 then (if inb (u3 + 1) E.2.2.2.2.2.1 = true then (if inb (u3 + 2) E.2.2.2.2.2.1 = true then ((F_X11_set Iv (E.2.2.2.2.2.2 (u3 + 1).toNatClampNeg) (E.2.2.2.2.2.2 (u3 + 2).toNatClampNeg)).bind (fun x42 => (if inb (u3 + 1) E.2.2.2.2.2.1 = true then (if inb (u3 + 2) E.2.2.2.2.2.1 = true then ((F_X12_set x42.2 (E.2.2.2.2.2.2 (u3 + 1).toNatClampNeg) (E.2.2.2.2.2.2 (u3 + 2).toNatClampNeg)).bind (fun x45 => (if x42.1 = x45.1 then (G_law E N n (u3 + 7) Tv x45.2 Jv Pv) else (some 0)))) else none) else none))) else none) else none) else (if ((E.2.2.2.2.2.2 u3.toNatClampNeg) &&& 63) = 5 then (if inb (u3 + 1) E.2.2.2.2.2.1 = true then (if inb (u3 + 2) E.2.2.2.2.2.1 = true then ((F_X11_hand N Iv (E.2.2.2.2.2.2 (u3 + 1).toNatClampNeg) (E.2.2.2.2.2.2 (u3 + 2).toNatClampNeg)).bind (fun x50 => (if inb (u3 + 1) E.2.2.2.2.2.1 = true then (if inb (u3 + 2) E.2.2.2.2.2.1 = true then ((F_X12_hand N x50.2 (E.2.2.2.2.2.2 (u3 + 1).toNatClampNeg) (E.2.2.2.2.2.2 (u3 + 2).toNatClampNeg)).bind (fun x53 => (if x50.1 = x53.1 then (G_law E N n (u3 + 7) Tv x53.2 Jv Pv) else (some 0)))) else none) else none))) else none) else none) else (if ((E.2.2.2.2.2.2 u3.toNatClampNeg) &&& 63) = 6 then (if inb (u3 + 1) E.2.2.2.2.2.1 = true then ((F_X11_sine (E.2.2.2.2.2.2 (u3 + 1).toNatClampNeg)).bind (fun x57 => (if inb (u3 + 1) E.2.2.2.2.2.1 = true then ((F_X12_sine Iv (E.2.2.2.2.2.2 (u3 + 1).toNatClampNeg)).bind (fun x59 => (if x57 = x59 then (G_law E N n (u3 + 7) Tv Iv Jv Pv) else (some 0)))) else none))) else none) else (if ((E.2.2.2.2.2.2 u3.toNatClampNeg) &&& 63) = 7 then (if inb (u3 + 1) E.2.2.2.2.2.1 = true then (if inb (u3 + 2) E.2.2.2.2.2.1 = true then (if inb (u3 + 3) E.2.2.2.2.2.1 = true then (if inb (u3 + 4) E.2.2.2.2.2.1 = true then ((F_X11_letGo Tv Iv Pv (E.2.2.2.2.2.2 (u3 + 1).toNatClampNeg) (E.2.2.2.2.2.2 (u3 + 2).toNatClampNeg) (E.2.2.2.2.2.2 (u3 + 3).toNatClampNeg) (E.2.2.2.2.2.2 (u3 + 4).toNatClampNeg)).bind (fun x66 => (if inb (u3 + 1) E.2.2.2.2.2.1 = true then (if inb (u3 + 2) E.2.2.2.2.2.1 = true then (if inb (u3 + 3) E.2.2.2.2.2.1 = true then (if inb (u3 + 4) E.2.2.2.2.2.1 = true then ((F_X12_letGo x66.2.1 (E.2.2.2.2.2.2 (u3 + 1).toNatClampNeg) (E.2.2.2.2.2.2 (u3 + 2).toNatClampNeg) (E.2.2.2.2.2.2 (u3 + 3).toNatClampNeg) (E.2.2.2.2.2.2 (u3 + 4).toNatClampNeg)).bind (fun x71 => (if x66.1 = x71.1 then (G_law E N n (u3 + 7) Tv x71.2 Jv x66.2.2) else (some 0)))) else none) else none) else none) else none))) else none) else none) else none) else none) else (if ((E.2.2.2.2.2.2 u3.toNatClampNeg) &&& 63) = 8 then (if inb (u3 + 1) E.2.2.2.2.2.1 = true then ((F_X11_tick N Tv Iv Pv (E.2.2.2.2.2.2 (u3 + 1).toNatClampNeg)).bind (fun x75 => (if inb (u3 + 1) E.2.2.2.2.2.1 = true then ((F_X12_tick N x75.2 (E.2.2.2.2.2.2 (u3 + 1).toNatClampNeg)).bind (fun x77 => (if x75.1 = x77.1 then (G_law E N n (u3 + 7) Tv x77.2 Jv Pv) else (some 0)))) else none))) else none) else (if ((E.2.2.2.2.2.2 u3.toNatClampNeg) &&& 63) = 9 then (if inb (u3 + 1) E.2.2.2.2.2.1 = true then ((F_X11_air Tv Iv Pv (E.2.2.2.2.2.2 (u3 + 1).toNatClampNeg)).bind (fun x81 => (if inb (u3 + 1) E.2.2.2.2.2.1 = true then ((F_X12_air Iv (E.2.2.2.2.2.2 (u3 + 1).toNatClampNeg)).bind (fun x83 => (if x81 = x83 then (G_law E N n (u3 + 7) Tv Iv Jv Pv) else (some 0)))) else none))) else none) else (if ((E.2.2.2.2.2.2 u3.toNatClampNeg) &&& 63) = 10 then (if inb (u3 + 1) E.2.2.2.2.2.1 = true then (if inb (u3 + 2) E.2.2.2.2.2.1 = true then ((F_X11_gust Iv Pv (E.2.2.2.2.2.2 (u3 + 1).toNatClampNeg) (E.2.2.2.2.2.2 (u3 + 2).toNatClampNeg)).bind (fun x88 => (if inb (u3 + 1) E.2.2.2.2.2.1 = true then (if inb (u3 + 2) E.2.2.2.2.2.1 = true then ((F_X12_gust x88.2 (E.2.2.2.2.2.2 (u3 + 1).toNatClampNeg) (E.2.2.2.2.2.2 (u3 + 2).toNatClampNeg)).bind (fun x91 => (if x88.1 = x91.1 then (G_law E N n (u3 + 7) Tv x91.2 Jv Pv) else (some 0)))) else none) else none))) else none) else none) else (if ((E.2.2.2.2.2.2 u3.toNatClampNeg) &&& 63) = 11 then (if inb (u3 + 1) E.2.2.2.2.2.1 = true then (if inb (u3 + 2) E.2.2.2.2.2.1 = true then (if inb (u3 + 3) E.2.2.2.2.2.1 = true then (if inb (u3 + 4) E.2.2.2.2.2.1 = true then (if inb (u3 + 5) E.2.2.2.2.2.1 = true then ((F_X11_fall N Tv Iv Pv (E.2.2.2.2.2.2 (u3 + 1).toNatClampNeg) (E.2.2.2.2.2.2 (u3 + 2).toNatClampNeg) (E.2.2.2.2.2.2 (u3 + 3).toNatClampNeg) (E.2.2.2.2.2.2 (u3 + 4).toNatClampNeg) (E.2.2.2.2.2.2 (u3 + 5).toNatClampNeg)).bind (fun x99 => (if inb (u3 + 1) E.2.2.2.2.2.1 = true then (if inb (u3 + 2) E.2.2.2.2.2.1 = true then (if inb (u3 + 3) E.2.2.2.2.2.1 = true then (if inb (u3 + 4) E.2.2.2.2.2.1 = true then (if inb (u3 + 5) E.2.2.2.2.2.1 = true then ((F_X12_fall N x99.2.1 (E.2.2.2.2.2.2 (u3 + 1).toNatClampNeg) (E.2.2.2.2.2.2 (u3 + 2).toNatClampNeg) (E.2.2.2.2.2.2 (u3 + 3).toNatClampNeg) (E.2.2.2.2.2.2 (u3 + 4).toNatClampNeg) (E.2.2.2.2.2.2 (u3 + 5).toNatClampNeg)).bind (fun x105 => (if x99.1 = x105.1 then (G_law E N n (u3 + 7) Tv x105.2 Jv x99.2.2) else (some 0)))) else none) else none) else none) else none) else none))) else none) else none) else none) else none) else none) else (if ((E.2.2.2.2.2.2 u3.toNatClampNeg) &&& 63) = 12 then (if inb (u3 + 1) E.2.2.2.2.2.1 = true then (if inb (u3 + 2) E.2.2.2.2.2.1 = true then (if inb (u3 + 3) E.2.2.2.2.2.1 = true then (if inb (u3 + 4) E.2.2.2.2.2.1 = true then (if inb (u3 + 5) E.2.2.2.2.2.1 = true then ((F_X11_line N Tv Iv Pv (E.2.2.2.2.2.2 (u3 + 1).toNatClampNeg) (E.2.2.2.2.2.2 (u3 + 2).toNatClampNeg) (E.2.2.2.2.2.2 (u3 + 3).toNatClampNeg) (E.2.2.2.2.2.2 (u3 + 4).toNatClampNeg) (E.2.2.2.2.2.2 (u3 + 5).toNatClampNeg)).bind (fun x113 => (if inb (u3 + 1) E.2.2.2.2.2.1 = true then (if inb (u3 + 2) E.2.2.2.2.2.1 = true then (if inb (u3 + 3) E.2.2.2.2.2.1 = true then (if inb (u3 + 4) E.2.2.2.2.2.1 = true then (if inb (u3 + 5) E.2.2.2.2.2.1 = true then ((F_X12_line N x113.2.1 (E.2.2.2.2.2.2 (u3 + 1).toNatClampNeg) (E.2.2.2.2.2.2 (u3 + 2).toNatClampNeg) (E.2.2.2.2.2.2 (u3 + 3).toNatClampNeg) (E.2.2.2.2.2.2 (u3 + 4).toNatClampNeg) (E.2.2.2.2.2.2 (u3 + 5).toNatClampNeg)).bind (fun x119 => (if x113.1 = x119.1 then (G_law E N n (u3 + 7) Tv x119.2 Jv x113.2.2) else (some 0)))) else none) else none) else none) else none) else none))) else none) else none) else none) else none) else none) else (if ((E.2.2.2.2.2.2 u3.toNatClampNeg) &&& 63) = 13 then (if inb (u3 + 1) E.2.2.2.2.2.1 = true then (if inb (u3 + 2) E.2.2.2.2.2.1 = true then (if inb (u3 + 3) E.2.2.2.2.2.1 = true then (if inb (u3 + 4) E.2.2.2.2.2.1 = true then (if inb (u3 + 5) E.2.2.2.2.2.1 = true then ((F_X11_parted N Tv Iv Pv (E.2.2.2.2.2.2 (u3 + 1).toNatClampNeg) (E.2.2.2.2.2.2 (u3 + 2).toNatClampNeg) (E.2.2.2.2.2.2 (u3 + 3).toNatClampNeg) (E.2.2.2.2.2.2 (u3 + 4).toNatClampNeg) (E.2.2.2.2.2.2 (u3 + 5).toNatClampNeg)).bind (fun x127 => (if inb (u3 + 1) E.2.2.2.2.2.1 = true then (if inb (u3 + 2) E.2.2.2.2.2.1 = true then (if inb (u3 + 3) E.2.2.2.2.2.1 = true then (if inb (u3 + 4) E.2.2.2.2.2.1 = true then (if inb (u3 + 5) E.2.2.2.2.2.1 = true then ((F_X12_parted N x127.2.1 (E.2.2.2.2.2.2 (u3 + 1).toNatClampNeg) (E.2.2.2.2.2.2 (u3 + 2).toNatClampNeg) (E.2.2.2.2.2.2 (u3 + 3).toNatClampNeg) (E.2.2.2.2.2.2 (u3 + 4).toNatClampNeg) (E.2.2.2.2.2.2 (u3 + 5).toNatClampNeg)).bind (fun x133 => (if x127.1 = x133.1 then (G_law E N n (u3 + 7) Tv x133.2 Jv x127.2.2) else (some 0)))) else none) else none) else none) else none) else none))) else none) else none) else none) else none) else none) else (if ((E.2.2.2.2.2.2 u3.toNatClampNeg) &&& 63) = 14 then (if inb (u3 + 1) E.2.2.2.2.2.1 = true then (if inb (u3 + 2) E.2.2.2.2.2.1 = true then (if inb (u3 + 3) E.2.2.2.2.2.1 = true then (if inb (u3 + 4) E.2.2.2.2.2.1 = true then (if inb (u3 + 5) E.2.2.2.2.2.1 = true then (if inb (u3 + 6) E.2.2.2.2.2.1 = true then ((F_X11_odds N Tv Iv Pv (E.2.2.2.2.2.2 (u3 + 1).toNatClampNeg) (E.2.2.2.2.2.2 (u3 + 2).toNatClampNeg) (E.2.2.2.2.2.2 (u3 + 3).toNatClampNeg) (E.2.2.2.2.2.2 (u3 + 4).toNatClampNeg) (E.2.2.2.2.2.2 (u3 + 5).toNatClampNeg) (E.2.2.2.2.2.2 (u3 + 6).toNatClampNeg)).bind (fun x142 => (if inb (u3 + 1) E.2.2.2.2.2.1 = true then (if inb (u3 + 2) E.2.2.2.2.2.1 = true then (if inb (u3 + 3) E.2.2.2.2.2.1 = true then (if inb (u3 + 4) E.2.2.2.2.2.1 = true then (if inb (u3 + 5) E.2.2.2.2.2.1 = true then (if inb (u3 + 6) E.2.2.2.2.2.1 = true then ((F_X12_odds N x142.2.1 (E.2.2.2.2.2.2 (u3 + 1).toNatClampNeg) (E.2.2.2.2.2.2 (u3 + 2).toNatClampNeg) (E.2.2.2.2.2.2 (u3 + 3).toNatClampNeg) (E.2.2.2.2.2.2 (u3 + 4).toNatClampNeg) (E.2.2.2.2.2.2 (u3 + 5).toNatClampNeg) (E.2.2.2.2.2.2 (u3 + 6).toNatClampNeg)).bind (fun x149 => (if x142.1 = x149.1 then (G_law E N n (u3 + 7) Tv x149.2 Jv x142.2.2) else (some 0)))) else none) else none) else none) else none) else none) else none))) else none) else none) else none) else none) else none) else none) else (if ((E.2.2.2.2.2.2 u3.toNatClampNeg) &&& 63) = 15 then (if inb (u3 + 1) E.2.2.2.2.2.1 = true then (if inb (u3 + 2) E.2.2.2.2.2.1 = true then (if inb (u3 + 3) E.2.2.2.2.2.1 = true then (if inb (u3 + 4) E.2.2.2.2.2.1 = true then ((F_X11_aim N Tv Iv Pv (E.2.2.2.2.2.2 (u3 + 1).toNatClampNeg) (E.2.2.2.2.2.2 (u3 + 2).toNatClampNeg) (E.2.2.2.2.2.2 (u3 + 3).toNatClampNeg) (E.2.2.2.2.2.2 (u3 + 4).toNatClampNeg)).bind (fun x156 => (if inb (u3 + 1) E.2.2.2.2.2.1 = true then (if inb (u3 + 2) E.2.2.2.2.2.1 = true then (if inb (u3 + 3) E.2.2.2.2.2.1 = true then (if inb (u3 + 4) E.2.2.2.2.2.1 = true then ((F_X12_aim N x156.2.1 (E.2.2.2.2.2.2 (u3 + 1).toNatClampNeg) (E.2.2.2.2.2.2 (u3 + 2).toNatClampNeg) (E.2.2.2.2.2.2 (u3 + 3).toNatClampNeg) (E.2.2.2.2.2.2 (u3 + 4).toNatClampNeg)).bind (fun x161 => (if x156.1 = x161.1 then (G_law E N n (u3 + 7) Tv x161.2 Jv x156.2.2) else (some 0)))) else none) else none) else none) else none))) else none) else none) else none) else none) else (if ((E.2.2.2.2.2.2 u3.toNatClampNeg) &&& 63) = 16 then (if inb (u3 + 1) E.2.2.2.2.2.1 = true then (if inb (u3 + 2) E.2.2.2.2.2.1 = true then (if inb (u3 + 3) E.2.2.2.2.2.1 = true then ((F_X11_longest N Tv Iv Pv (E.2.2.2.2.2.2 (u3 + 1).toNatClampNeg) (E.2.2.2.2.2.2 (u3 + 2).toNatClampNeg) (E.2.2.2.2.2.2 (u3 + 3).toNatClampNeg)).bind (fun x167 => (if inb (u3 + 1) E.2.2.2.2.2.1 = true then (if inb (u3 + 2) E.2.2.2.2.2.1 = true then (if inb (u3 + 3) E.2.2.2.2.2.1 = true then ((F_X12_longest N x167.2.1 (E.2.2.2.2.2.2 (u3 + 1).toNatClampNeg) (E.2.2.2.2.2.2 (u3 + 2).toNatClampNeg) (E.2.2.2.2.2.2 (u3 + 3).toNatClampNeg)).bind (fun x171 => (if x167.1 = x171.1 then (G_law E N n (u3 + 7) Tv x171.2 Jv x167.2.2) else (some 0)))) else none) else none) else none))) else none) else none) else none) else (if ((E.2.2.2.2.2.2 u3.toNatClampNeg) &&& 63) = 17 then (if inb (u3 + 1) E.2.2.2.2.2.1 = true then (if inb (u3 + 2) E.2.2.2.2.2.1 = true then (if inb (u3 + 3) E.2.2.2.2.2.1 = true then (if inb (u3 + 4) E.2.2.2.2.2.1 = true then (if inb (u3 + 5) E.2.2.2.2.2.1 = true then (if inb (u3 + 6) E.2.2.2.2.2.1 = true then ((F_X11_fit N Tv Iv Jv Pv (E.2.2.2.2.2.2 (u3 + 1).toNatClampNeg) (E.2.2.2.2.2.2 (u3 + 2).toNatClampNeg) (E.2.2.2.2.2.2 (u3 + 3).toNatClampNeg) (E.2.2.2.2.2.2 (u3 + 4).toNatClampNeg) (E.2.2.2.2.2.2 (u3 + 5).toNatClampNeg) (E.2.2.2.2.2.2 (u3 + 6).toNatClampNeg)).bind (fun x180 => (if inb (u3 + 1) E.2.2.2.2.2.1 = true then (if inb (u3 + 2) E.2.2.2.2.2.1 = true then (if inb (u3 + 3) E.2.2.2.2.2.1 = true then (if inb (u3 + 4) E.2.2.2.2.2.1 = true then (if inb (u3 + 5) E.2.2.2.2.2.1 = true then (if inb (u3 + 6) E.2.2.2.2.2.1 = true then ((F_X12_fit N x180.2.1 Jv (E.2.2.2.2.2.2 (u3 + 1).toNatClampNeg) (E.2.2.2.2.2.2 (u3 + 2).toNatClampNeg) (E.2.2.2.2.2.2 (u3 + 3).toNatClampNeg) (E.2.2.2.2.2.2 (u3 + 4).toNatClampNeg) (E.2.2.2.2.2.2 (u3 + 5).toNatClampNeg) (E.2.2.2.2.2.2 (u3 + 6).toNatClampNeg)).bind (fun x187 => (if x180.1 = x187.1 then (G_law E N n (u3 + 7) Tv x187.2 Jv x180.2.2) else (some 0)))) else none) else none) else none) else none) else none) else none))) else none) else none) else none) else none) else none) else none) else (if ((E.2.2.2.2.2.2 u3.toNatClampNeg) &&& 63) = 18 then (if inb (u3 + 1) E.2.2.2.2.2.1 = true then (if inb (u3 + 2) E.2.2.2.2.2.1 = true then (if inb (u3 + 3) E.2.2.2.2.2.1 = true then (if inb (u3 + 4) E.2.2.2.2.2.1 = true then (if inb (u3 + 5) E.2.2.2.2.2.1 = true then ((F_X11_miss N Tv Iv Jv Pv (E.2.2.2.2.2.2 (u3 + 1).toNatClampNeg) (E.2.2.2.2.2.2 (u3 + 2).toNatClampNeg) (E.2.2.2.2.2.2 (u3 + 3).toNatClampNeg) (E.2.2.2.2.2.2 (u3 + 4).toNatClampNeg) (E.2.2.2.2.2.2 (u3 + 5).toNatClampNeg)).bind (fun x195 => (if inb (u3 + 1) E.2.2.2.2.2.1 = true then (if inb (u3 + 2) E.2.2.2.2.2.1 = true then (if inb (u3 + 3) E.2.2.2.2.2.1 = true then (if inb (u3 + 4) E.2.2.2.2.2.1 = true then (if inb (u3 + 5) E.2.2.2.2.2.1 = true then ((F_X12_miss N x195.2.1 Jv (E.2.2.2.2.2.2 (u3 + 1).toNatClampNeg) (E.2.2.2.2.2.2 (u3 + 2).toNatClampNeg) (E.2.2.2.2.2.2 (u3 + 3).toNatClampNeg) (E.2.2.2.2.2.2 (u3 + 4).toNatClampNeg) (E.2.2.2.2.2.2 (u3 + 5).toNatClampNeg)).bind (fun x201 => (if x195.1 = x201.1 then (G_law E N n (u3 + 7) Tv x201.2 Jv x195.2.2) else (some 0)))) else none) else none) else none) else none) else none))) else none) else none) else none) else none) else none) else (if ((E.2.2.2.2.2.2 u3.toNatClampNeg) &&& 63) = 19 then (if inb (u3 + 1) E.2.2.2.2.2.1 = true then (if inb (u3 + 2) E.2.2.2.2.2.1 = true then (if inb (u3 + 3) E.2.2.2.2.2.1 = true then (if inb (u3 + 4) E.2.2.2.2.2.1 = true then ((F_X11_toss N Tv Iv Pv (E.2.2.2.2.2.2 (u3 + 1).toNatClampNeg) (E.2.2.2.2.2.2 (u3 + 2).toNatClampNeg) (E.2.2.2.2.2.2 (u3 + 3).toNatClampNeg) (E.2.2.2.2.2.2 (u3 + 4).toNatClampNeg)).bind (fun x208 => (if inb (u3 + 1) E.2.2.2.2.2.1 = true then (if inb (u3 + 2) E.2.2.2.2.2.1 = true then (if inb (u3 + 3) E.2.2.2.2.2.1 = true then (if inb (u3 + 4) E.2.2.2.2.2.1 = true then ((F_X12_toss N x208.2.1 (E.2.2.2.2.2.2 (u3 + 1).toNatClampNeg) (E.2.2.2.2.2.2 (u3 + 2).toNatClampNeg) (E.2.2.2.2.2.2 (u3 + 3).toNatClampNeg) (E.2.2.2.2.2.2 (u3 + 4).toNatClampNeg)).bind (fun x213 => (if x208.1 = x213.1 then (G_law E N n (u3 + 7) Tv x213.2 Jv x208.2.2) else (some 0)))) else none) else none) else none) else none))) else none) else none) else none) else none) else (if ((E.2.2.2.2.2.2 u3.toNatClampNeg) &&& 63) = 20 then (if inb (u3 + 1) E.2.2.2.2.2.1 = true then ((F_X11_seed Iv (E.2.2.2.2.2.2 (u3 + 1).toNatClampNeg)).bind (fun x217 => (if inb (u3 + 1) E.2.2.2.2.2.1 = true then ((F_X12_seed x217.2 (E.2.2.2.2.2.2 (u3 + 1).toNatClampNeg)).bind (fun x219 => (if x217.1 = x219.1 then (G_law E N n (u3 + 7) Tv x219.2 Jv Pv) else (some 0)))) else none))) else none) else (if ((E.2.2.2.2.2.2 u3.toNatClampNeg) &&& 63) = 21 then (if inb (u3 + 1) E.2.2.2.2.2.1 = true then ((F_X11_prove N Tv Iv Pv (E.2.2.2.2.2.2 (u3 + 1).toNatClampNeg)).bind (fun x223 => (if inb (u3 + 1) E.2.2.2.2.2.1 = true then ((F_X12_prove N x223.2.1 (E.2.2.2.2.2.2 (u3 + 1).toNatClampNeg)).bind (fun x225 => (if x223.1 = x225.1 then (G_law E N n (u3 + 7) Tv x225.2 Jv x223.2.2) else (some 0)))) else none))) else none) else (if ((E.2.2.2.2.2.2 u3.toNatClampNeg) &&& 63) = 22 then (if inb (u3 + 1) E.2.2.2.2.2.1 = true then (if inb (u3 + 2) E.2.2.2.2.2.1 = true then ((F_X11_row Iv (E.2.2.2.2.2.2 (u3 + 1).toNatClampNeg) (E.2.2.2.2.2.2 (u3 + 2).toNatClampNeg)).bind (fun x230 => (if inb (u3 + 1) E.2.2.2.2.2.1 = true then (if inb (u3 + 2) E.2.2.2.2.2.1 = true then ((F_X12_row Iv (E.2.2.2.2.2.2 (u3 + 1).toNatClampNeg) (E.2.2.2.2.2.2 (u3 + 2).toNatClampNeg)).bind (fun x233 => (if x230 = x233 then (G_law E N n (u3 + 7) Tv Iv Jv Pv) else (some 0)))) else none) else none))) else none) else none) else (if ((E.2.2.2.2.2.2 u3.toNatClampNeg) &&& 63) = 23 then (if inb (u3 + 1) E.2.2.2.2.2.1 = true then (if inb (u3 + 2) E.2.2.2.2.2.1 = true then (if inb (u3 + 3) E.2.2.2.2.2.1 = true then ((F_X11_alterRow Iv (E.2.2.2.2.2.2 (u3 + 1).toNatClampNeg) (E.2.2.2.2.2.2 (u3 + 2).toNatClampNeg) (E.2.2.2.2.2.2 (u3 + 3).toNatClampNeg)).bind (fun x239 => (if inb (u3 + 1) E.2.2.2.2.2.1 = true then (if inb (u3 + 2) E.2.2.2.2.2.1 = true then (if inb (u3 + 3) E.2.2.2.2.2.1 = true then ((F_X12_alterRow x239.2 (E.2.2.2.2.2.2 (u3 + 1).toNatClampNeg) (E.2.2.2.2.2.2 (u3 + 2).toNatClampNeg) (E.2.2.2.2.2.2 (u3 + 3).toNatClampNeg)).bind (fun x243 => (if x239.1 = x243.1 then (G_law E N n (u3 + 7) Tv x243.2 Jv Pv) else (some 0)))) else none) else none) else none))) else none) else none) else none) else (if ((E.2.2.2.2.2.2 u3.toNatClampNeg) &&& 63) = 24 then ((F_X11_judge N Tv Iv Pv).bind (fun x246 => ((F_X12_judge N x246.2.1).bind (fun x247 => (if x246.1 = x247.1 then (G_law E N n (u3 + 7) Tv x247.2 Jv x246.2.2) else (some 0)))))) else (if ((E.2.2.2.2.2.2 u3.toNatClampNeg) &&& 63) = 25 then (if inb (u3 + 1) E.2.2.2.2.2.1 = true then (if inb (u3 + 2) E.2.2.2.2.2.1 = true then (if inb (u3 + 3) E.2.2.2.2.2.1 = true then ((F_X11_sheet N Iv Jv Pv (E.2.2.2.2.2.2 (u3 + 1).toNatClampNeg) (E.2.2.2.2.2.2 (u3 + 2).toNatClampNeg) (E.2.2.2.2.2.2 (u3 + 3).toNatClampNeg)).bind (fun x253 => (if inb (u3 + 1) E.2.2.2.2.2.1 = true then (if inb (u3 + 2) E.2.2.2.2.2.1 = true then (if inb (u3 + 3) E.2.2.2.2.2.1 = true then ((F_X12_sheet N x253.2.1 x253.2.2 (E.2.2.2.2.2.2 (u3 + 1).toNatClampNeg) (E.2.2.2.2.2.2 (u3 + 2).toNatClampNeg) (E.2.2.2.2.2.2 (u3 + 3).toNatClampNeg)).bind (fun x257 => (if x253.1 = x257.1 then (G_law E N n (u3 + 7) Tv x257.2.1 x257.2.2 Pv) else (some 0)))) else none) else none) else none))) else none) else none) else none) else (if ((E.2.2.2.2.2.2 u3.toNatClampNeg) &&& 63) = 26 then (if inb (u3 + 1) E.2.2.2.2.2.1 = true then (if inb (u3 + 2) E.2.2.2.2.2.1 = true then (if inb (u3 + 3) E.2.2.2.2.2.1 = true then ((F_X11_put Iv Jv Pv (E.2.2.2.2.2.2 (u3 + 1).toNatClampNeg) (E.2.2.2.2.2.2 (u3 + 2).toNatClampNeg) (E.2.2.2.2.2.2 (u3 + 3).toNatClampNeg)).bind (fun x263 => (if inb (u3 + 1) E.2.2.2.2.2.1 = true then (if inb (u3 + 2) E.2.2.2.2.2.1 = true then (if inb (u3 + 3) E.2.2.2.2.2.1 = true then ((F_X12_put Iv x263.2 (E.2.2.2.2.2.2 (u3 + 1).toNatClampNeg) (E.2.2.2.2.2.2 (u3 + 2).toNatClampNeg) (E.2.2.2.2.2.2 (u3 + 3).toNatClampNeg)).bind (fun x267 => (if x263.1 = x267.1 then (G_law E N n (u3 + 7) Tv Iv x267.2 Pv) else (some 0)))) else none) else none) else none))) else none) else none) else none) else (if ((E.2.2.2.2.2.2 u3.toNatClampNeg) &&& 63) = 27 then (if inb (u3 + 1) E.2.2.2.2.2.1 = true then (if inb (u3 + 2) E.2.2.2.2.2.1 = true then (if inb (u3 + 3) E.2.2.2.2.2.1 = true then ((F_X11_item Iv Jv Pv (E.2.2.2.2.2.2 (u3 + 1).toNatClampNeg) (E.2.2.2.2.2.2 (u3 + 2).toNatClampNeg) (E.2.2.2.2.2.2 (u3 + 3).toNatClampNeg)).bind (fun x273 => (if inb (u3 + 1) E.2.2.2.2.2.1 = true then (if inb (u3 + 2) E.2.2.2.2.2.1 = true then (if inb (u3 + 3) E.2.2.2.2.2.1 = true then ((F_X12_item Iv Jv (E.2.2.2.2.2.2 (u3 + 1).toNatClampNeg) (E.2.2.2.2.2.2 (u3 + 2).toNatClampNeg) (E.2.2.2.2.2.2 (u3 + 3).toNatClampNeg)).bind (fun x277 => (if x273 = x277 then (G_law E N n (u3 + 7) Tv Iv Jv Pv) else (some 0)))) else none) else none) else none))) else none) else none) else none) else (if ((E.2.2.2.2.2.2 u3.toNatClampNeg) &&& 63) = 28 then (if inb (u3 + 1) E.2.2.2.2.2.1 = true then (if inb (u3 + 2) E.2.2.2.2.2.1 = true then (if inb (u3 + 3) E.2.2.2.2.2.1 = true then ((F_X11_shelf Iv Pv (E.2.2.2.2.2.2 (u3 + 1).toNatClampNeg) (E.2.2.2.2.2.2 (u3 + 2).toNatClampNeg) (E.2.2.2.2.2.2 (u3 + 3).toNatClampNeg)).bind (fun x283 => (if inb (u3 + 1) E.2.2.2.2.2.1 = true then (if inb (u3 + 2) E.2.2.2.2.2.1 = true then (if inb (u3 + 3) E.2.2.2.2.2.1 = true then ((F_X12_shelf x283.2 (E.2.2.2.2.2.2 (u3 + 1).toNatClampNeg) (E.2.2.2.2.2.2 (u3 + 2).toNatClampNeg) (E.2.2.2.2.2.2 (u3 + 3).toNatClampNeg)).bind (fun x287 => (if x283.1 = x287.1 then (G_law E N n (u3 + 7) Tv x287.2 Jv Pv) else (some 0)))) else none) else none) else none))) else none) else none) else none) else (if ((E.2.2.2.2.2.2 u3.toNatClampNeg) &&& 63) = 29 then (if inb (u3 + 1) E.2.2.2.2.2.1 = true then (if inb (u3 + 2) E.2.2.2.2.2.1 = true then ((F_X11_taken Tv Iv Pv (E.2.2.2.2.2.2 (u3 + 1).toNatClampNeg) (E.2.2.2.2.2.2 (u3 + 2).toNatClampNeg)).bind (fun x292 => (if inb (u3 + 1) E.2.2.2.2.2.1 = true then (if inb (u3 + 2) E.2.2.2.2.2.1 = true then ((F_X12_taken Iv (E.2.2.2.2.2.2 (u3 + 1).toNatClampNeg) (E.2.2.2.2.2.2 (u3 + 2).toNatClampNeg)).bind (fun x295 => (if x292 = x295 then (G_law E N n (u3 + 7) Tv Iv Jv Pv) else (some 0)))) else none) else none))) else none) else none) else (if ((E.2.2.2.2.2.2 u3.toNatClampNeg) &&& 63) = 30 then (if inb (u3 + 1) E.2.2.2.2.2.1 = true then (if inb (u3 + 2) E.2.2.2.2.2.1 = true then (if inb (u3 + 3) E.2.2.2.2.2.1 = true then ((F_X11_act Tv Iv Pv (E.2.2.2.2.2.2 (u3 + 1).toNatClampNeg) (E.2.2.2.2.2.2 (u3 + 2).toNatClampNeg) (E.2.2.2.2.2.2 (u3 + 3).toNatClampNeg)).bind (fun x301 => (if inb (u3 + 1) E.2.2.2.2.2.1 = true then (if inb (u3 + 2) E.2.2.2.2.2.1 = true then (if inb (u3 + 3) E.2.2.2.2.2.1 = true then ((F_X12_act x301.2 (E.2.2.2.2.2.2 (u3 + 1).toNatClampNeg) (E.2.2.2.2.2.2 (u3 + 2).toNatClampNeg) (E.2.2.2.2.2.2 (u3 + 3).toNatClampNeg)).bind (fun x305 => (if x301.1 = x305.1 then (G_law E N n (u3 + 7) Tv x305.2 Jv Pv) else (some 0)))) else none) else none) else none))) else none) else none) else none) else (if ((E.2.2.2.2.2.2 u3.toNatClampNeg) &&& 63) = 31 then (if inb (u3 + 1) E.2.2.2.2.2.1 = true then ((F_X11_trace Iv (E.2.2.2.2.2.2 (u3 + 1).toNatClampNeg)).bind (fun x309 => (if inb (u3 + 1) E.2.2.2.2.2.1 = true then ((F_X12_trace Iv (E.2.2.2.2.2.2 (u3 + 1).toNatClampNeg)).bind (fun x311 => (if x309 = x311 then (G_law E N n (u3 + 7) Tv Iv Jv Pv) else (some 0)))) else none))) else none) else (if ((E.2.2.2.2.2.2 u3.toNatClampNeg) &&& 63) = 32 then (if inb (u3 + 1) E.2.2.2.2.2.1 = true then ((F_X11_many N Iv (E.2.2.2.2.2.2 (u3 + 1).toNatClampNeg)).bind (fun x315 => (if inb (u3 + 1) E.2.2.2.2.2.1 = true then ((F_X12_many N Iv (E.2.2.2.2.2.2 (u3 + 1).toNatClampNeg)).bind (fun x317 => (if x315 = x317 then (G_law E N n (u3 + 7) Tv Iv Jv Pv) else (some 0)))) else none))) else none) else (if ((E.2.2.2.2.2.2 u3.toNatClampNeg) &&& 63) = 33 then ((F_X11_keep Tv Iv Pv).bind (fun x320 => ((F_X12_keep N x320.2.1).bind (fun x321 => (if x320.1 = x321.1 then (G_law E N n (u3 + 7) Tv x321.2 Jv x320.2.2) else (some 0)))))) else (if ((E.2.2.2.2.2.2 u3.toNatClampNeg) &&& 63) = 34 then ((F_X11_again Tv Iv Pv).bind (fun x324 => ((F_X12_again N x324.2.1).bind (fun x325 => (if x324.1 = x325.1 then (G_law E N n (u3 + 7) Tv x325.2 Jv x324.2.2) else (some 0)))))) else (G_law E N n (u3 + 7) Tv Iv Jv Pv)))))))))))))))))))))))))))))))))))) else none))
set_option maxHeartbeats 40000000 in
set_option maxRecDepth 100000 in
theorem okG_law {E : GE} {N : Nat} (hN : E.2.2.2.2.2.1 ≤ 3584) : ∀ (n : Nat) (u3 : Int32) (Tv : TM) (Iv : IM) (Jv : JM) (Pv : PM) (kc ks : Nat), 7 * (kc : Int) ≤ 420 + 200 * u3.toInt → 7 * (ks : Int) ≤ 15407 + 800 * u3.toInt → 0 ≤ u3.toInt → u3.toInt ≤ 3584 → LOK Tv Pv → G_law E N n u3 Tv Iv Jv Pv = some 1 → WW E mL_law room_1 (ZL E) kc ks Tv Iv Jv Pv 18 [(0, .ref 21), (1, .ref 64), (2, .ref 101), (3, .int u3)] [] := by
  intro n
  induction n with
  | zero =>
    intro u3 Tv Iv Jv Pv kc ks hkc hks hu0 hu hL hF
    cases hF
  | succ n ih =>
    intro u3 Tv Iv Jv Pv kc ks hkc hks hu0 hu hL hF
    rw [G_law] at hF
    refine r_iload_n dL_law_18 rfl rfl ?_
    refine r_aload_n dL_law_19 rfl rfl ?_
    refine r_slen dL_law_20 ?_
    refine r_bipush (v := 7) dL_law_21 (by decide) ?_
    refine r_isub dL_law_23 ?_
    refine r_icmp_gt (tgt := 1583) dL_law_24 (by decide) (fun h1 => ?_) (fun h1 => ?_)
    · have hF := tw hF h1
      refine r_iconst (v := 1) dL_law_1583 (by decide) ?_
      exact law_ret dL_law_1584 (by omega) (by omega)
    · have hF := fw hF h1
      have hlt : u3.toInt ≤ 3577 := law_lt hN h1
      refine r_aload_n dL_law_27 rfl rfl ?_
      refine r_iload_n dL_law_28 rfl rfl ?_
      obtain ⟨g2, hF⟩ := gd hF
      refine r_sld g2 dL_law_29 ?_
      refine r_bipush (v := 63) dL_law_30 (by decide) ?_
      refine r_iand dL_law_32 ?_
      by_cases h3 : ((E.2.2.2.2.2.2 u3.toNatClampNeg) &&& 63) = 0
      · have hF := tw hF h3
        refine r_tableIn (off := 155) (tgt := 188) dL_law_33 (by rw [h3]; decide) (by rw [h3]; decide) (by rw [h3]; decide) (by decide) ?_
        refine r_aload_n dL_law_188 rfl rfl ?_
        refine r_aload_n dL_law_189 rfl rfl ?_
        refine r_iload_n dL_law_190 rfl rfl ?_
        refine r_iconst (v := 1) dL_law_191 (by decide) ?_
        refine r_iadd dL_law_192 ?_
        obtain ⟨g4, hF⟩ := gd hF
        refine r_sld g4 dL_law_193 ?_
        refine r_i2l dL_law_194 ?_
        refine r_bipush (v := 32) dL_law_195 (by decide) ?_
        refine r_lshl dL_law_197 ?_
        refine r_aload_n dL_law_198 rfl rfl ?_
        refine r_iload_n dL_law_199 rfl rfl ?_
        refine r_iconst (v := 2) dL_law_200 (by decide) ?_
        refine r_iadd dL_law_201 ?_
        obtain ⟨g5, hF⟩ := gd hF
        refine r_sld g5 dL_law_202 ?_
        refine r_i2l dL_law_203 ?_
        refine r_ldc2 dL_law_204 kw_1466 ?_
        refine r_land dL_law_207 ?_
        refine r_lor dL_law_208 ?_
        refine r_aload_n dL_law_209 rfl rfl ?_
        refine r_iload_n dL_law_210 rfl rfl ?_
        refine r_iconst (v := 3) dL_law_211 (by decide) ?_
        refine r_iadd dL_law_212 ?_
        obtain ⟨g6, hF⟩ := gd hF
        refine r_sld g6 dL_law_213 ?_
        obtain ⟨x7, hx7, hF⟩ := bnd hF
        refine c_virt_i (As := [.long (((Int32.toInt64 (E.2.2.2.2.2.2 (u3 + 1).toNatClampNeg)) <<< (Int32.toInt64 32 &&& 63)) ||| ((Int32.toInt64 (E.2.2.2.2.2.2 (u3 + 2).toNatClampNeg)) &&& 4294967295)), .int (E.2.2.2.2.2.2 (u3 + 3).toNatClampNeg)]) mi_X11_feed kw_235 kw_236 kw_234 rfl (by decide) (ln_64 hL) (ok_X11_feed hL  hx7) rfl rfl (Nat.le_of_ble_eq_true rfl) ⟨Nat.le_of_ble_eq_true rfl, Nat.le_of_ble_eq_true rfl⟩ ⟨by show _ ≤ 615142; omega, by show _ ≤ 7256822; omega⟩ dL_law_214 ?_
        refine r_aload_n dL_law_217 rfl rfl ?_
        refine r_aload_n dL_law_218 rfl rfl ?_
        refine r_iload_n dL_law_219 rfl rfl ?_
        refine r_iconst (v := 1) dL_law_220 (by decide) ?_
        refine r_iadd dL_law_221 ?_
        obtain ⟨g8, hF⟩ := gd hF
        refine r_sld g8 dL_law_222 ?_
        refine r_i2l dL_law_223 ?_
        refine r_bipush (v := 32) dL_law_224 (by decide) ?_
        refine r_lshl dL_law_226 ?_
        refine r_aload_n dL_law_227 rfl rfl ?_
        refine r_iload_n dL_law_228 rfl rfl ?_
        refine r_iconst (v := 2) dL_law_229 (by decide) ?_
        refine r_iadd dL_law_230 ?_
        obtain ⟨g9, hF⟩ := gd hF
        refine r_sld g9 dL_law_231 ?_
        refine r_i2l dL_law_232 ?_
        refine r_ldc2 dL_law_233 kw_1466 ?_
        refine r_land dL_law_236 ?_
        refine r_lor dL_law_237 ?_
        refine r_aload_n dL_law_238 rfl rfl ?_
        refine r_iload_n dL_law_239 rfl rfl ?_
        refine r_iconst (v := 3) dL_law_240 (by decide) ?_
        refine r_iadd dL_law_241 ?_
        obtain ⟨g10, hF⟩ := gd hF
        refine r_sld g10 dL_law_242 ?_
        obtain ⟨x11, hx11, hF⟩ := bnd hF
        refine c_virt_i (As := [.long (((Int32.toInt64 (E.2.2.2.2.2.2 (u3 + 1).toNatClampNeg)) <<< (Int32.toInt64 32 &&& 63)) ||| ((Int32.toInt64 (E.2.2.2.2.2.2 (u3 + 2).toNatClampNeg)) &&& 4294967295)), .int (E.2.2.2.2.2.2 (u3 + 3).toNatClampNeg)]) mi_X12_feed kw_1081 kw_1082 kw_1080 rfl (by decide) (ln_101 hL) (ok_X12_feed hL  hx11) rfl rfl (Nat.le_of_ble_eq_true rfl) ⟨Nat.le_of_ble_eq_true rfl, Nat.le_of_ble_eq_true rfl⟩ ⟨by show _ ≤ 615142; omega, by show _ ≤ 7256822; omega⟩ dL_law_243 ?_
        refine r_icmp_eq (tgt := 1577) dL_law_246 (by decide) (fun h12 => ?_) (fun h12 => ?_)
        · have hF := tw hF h12
          refine r_iinc (v := (u3 + 7)) (ls' := [(3, .int (u3 + 7)), (0, .ref 21), (1, .ref 64), (2, .ref 101)]) dL_law_1577 rfl rfl (by decide) rfl ?_
          refine r_goto (tgt := 18) dL_law_1580 (by decide) ?_
          refine r_sub (ls' := [(0, .ref 21), (1, .ref 64), (2, .ref 101), (3, .int (u3 + 7))]) [1, 2, 3, 0] rfl ?_
          exact ih (u3 + 7) Tv x11.2 Jv Pv kc ks (by rw [inc7_toInt hu0 hlt]; omega) (by rw [inc7_toInt hu0 hlt]; omega) (by rw [inc7_toInt hu0 hlt]; omega) (by rw [inc7_toInt hu0 hlt]; omega) hL hF
        · have hF := fw hF h12
          refine r_iconst (v := 0) dL_law_249 (by decide) ?_
          exact absurd (Option.some.inj hF) (by decide)
      · have hF := fw hF h3
        by_cases h13 : ((E.2.2.2.2.2.2 u3.toNatClampNeg) &&& 63) = 1
        · have hF := tw hF h13
          refine r_tableIn (off := 218) (tgt := 251) dL_law_33 (by rw [h13]; decide) (by rw [h13]; decide) (by rw [h13]; decide) (by decide) ?_
          refine r_aload_n dL_law_251 rfl rfl ?_
          obtain ⟨x14, hx14, hF⟩ := bnd hF
          refine ct_virt_i (As := []) mi_X11_cards kw_243 kw_244 kw_242 rfl (by decide) (ln_64 hL) (ok_X11_cards hL  hx14) rfl rfl (Nat.le_of_ble_eq_true rfl) ⟨Nat.le_of_ble_eq_true rfl, Nat.le_of_ble_eq_true rfl⟩ ⟨by show _ ≤ 615142; omega, by show _ ≤ 7256822; omega⟩ dL_law_252 ?_
          intro hL b15a b15b
          refine r_aload_n dL_law_255 rfl rfl ?_
          obtain ⟨x16, hx16, hF⟩ := bnd hF
          refine c_virt_i (As := []) mi_X12_cards kw_1089 kw_1090 kw_1088 rfl (by decide) (ln_101 hL) (ok_X12_cards hL  hx16) rfl rfl (Nat.le_of_ble_eq_true rfl) ⟨Nat.le_of_ble_eq_true rfl, Nat.le_of_ble_eq_true rfl⟩ ⟨by show _ ≤ 615142; omega, by show _ ≤ 7256822; omega⟩ dL_law_256 ?_
          refine r_icmp_eq (tgt := 1577) dL_law_259 (by decide) (fun h17 => ?_) (fun h17 => ?_)
          · have hF := tw hF h17
            refine r_iinc (v := (u3 + 7)) (ls' := [(3, .int (u3 + 7)), (0, .ref 21), (1, .ref 64), (2, .ref 101)]) dL_law_1577 rfl rfl (by decide) rfl ?_
            refine r_goto (tgt := 18) dL_law_1580 (by decide) ?_
            refine r_sub (ls' := [(0, .ref 21), (1, .ref 64), (2, .ref 101), (3, .int (u3 + 7))]) [1, 2, 3, 0] rfl ?_
            exact ih (u3 + 7) x14.2.1 x16.2.1 x16.2.2 x14.2.2.2.2 (kc + (x14.2.1.1 - Tv.1)) (ks + 800) (by rw [inc7_toInt hu0 hlt]; omega) (by rw [inc7_toInt hu0 hlt]; omega) (by rw [inc7_toInt hu0 hlt]; omega) (by rw [inc7_toInt hu0 hlt]; omega) hL hF
          · have hF := fw hF h17
            refine r_iconst (v := 0) dL_law_262 (by decide) ?_
            exact absurd (Option.some.inj hF) (by decide)
        · have hF := fw hF h13
          by_cases h18 : ((E.2.2.2.2.2.2 u3.toNatClampNeg) &&& 63) = 2
          · have hF := tw hF h18
            refine r_tableIn (off := 231) (tgt := 264) dL_law_33 (by rw [h18]; decide) (by rw [h18]; decide) (by rw [h18]; decide) (by decide) ?_
            refine r_aload_n dL_law_264 rfl rfl ?_
            refine r_aload_n dL_law_265 rfl rfl ?_
            refine r_iload_n dL_law_266 rfl rfl ?_
            refine r_iconst (v := 1) dL_law_267 (by decide) ?_
            refine r_iadd dL_law_268 ?_
            obtain ⟨g19, hF⟩ := gd hF
            refine r_sld g19 dL_law_269 ?_
            refine r_aload_n dL_law_270 rfl rfl ?_
            refine r_iload_n dL_law_271 rfl rfl ?_
            refine r_iconst (v := 2) dL_law_272 (by decide) ?_
            refine r_iadd dL_law_273 ?_
            obtain ⟨g20, hF⟩ := gd hF
            refine r_sld g20 dL_law_274 ?_
            refine r_aload_n dL_law_275 rfl rfl ?_
            refine r_iload_n dL_law_276 rfl rfl ?_
            refine r_iconst (v := 3) dL_law_277 (by decide) ?_
            refine r_iadd dL_law_278 ?_
            obtain ⟨g21, hF⟩ := gd hF
            refine r_sld g21 dL_law_279 ?_
            refine r_aload_n dL_law_280 rfl rfl ?_
            refine r_iload_n dL_law_281 rfl rfl ?_
            refine r_iconst (v := 4) dL_law_282 (by decide) ?_
            refine r_iadd dL_law_283 ?_
            obtain ⟨g22, hF⟩ := gd hF
            refine r_sld g22 dL_law_284 ?_
            obtain ⟨x23, hx23, hF⟩ := bnd hF
            refine ct_virt_i (As := [.int (E.2.2.2.2.2.2 (u3 + 1).toNatClampNeg), .int (E.2.2.2.2.2.2 (u3 + 2).toNatClampNeg), .int (E.2.2.2.2.2.2 (u3 + 3).toNatClampNeg), .int (E.2.2.2.2.2.2 (u3 + 4).toNatClampNeg)]) mi_X11_card kw_483 kw_484 kw_482 rfl (by decide) (ln_64 hL) (ok_X11_card hL  hx23) rfl rfl (Nat.le_of_ble_eq_true rfl) ⟨Nat.le_of_ble_eq_true rfl, Nat.le_of_ble_eq_true rfl⟩ ⟨by show _ ≤ 615142; omega, by show _ ≤ 7256822; omega⟩ dL_law_285 ?_
            intro hL b24a b24b
            refine r_aload_n dL_law_288 rfl rfl ?_
            refine r_aload_n dL_law_289 rfl rfl ?_
            refine r_iload_n dL_law_290 rfl rfl ?_
            refine r_iconst (v := 1) dL_law_291 (by decide) ?_
            refine r_iadd dL_law_292 ?_
            obtain ⟨g25, hF⟩ := gd hF
            refine r_sld g25 dL_law_293 ?_
            refine r_aload_n dL_law_294 rfl rfl ?_
            refine r_iload_n dL_law_295 rfl rfl ?_
            refine r_iconst (v := 2) dL_law_296 (by decide) ?_
            refine r_iadd dL_law_297 ?_
            obtain ⟨g26, hF⟩ := gd hF
            refine r_sld g26 dL_law_298 ?_
            refine r_aload_n dL_law_299 rfl rfl ?_
            refine r_iload_n dL_law_300 rfl rfl ?_
            refine r_iconst (v := 3) dL_law_301 (by decide) ?_
            refine r_iadd dL_law_302 ?_
            obtain ⟨g27, hF⟩ := gd hF
            refine r_sld g27 dL_law_303 ?_
            refine r_aload_n dL_law_304 rfl rfl ?_
            refine r_iload_n dL_law_305 rfl rfl ?_
            refine r_iconst (v := 4) dL_law_306 (by decide) ?_
            refine r_iadd dL_law_307 ?_
            obtain ⟨g28, hF⟩ := gd hF
            refine r_sld g28 dL_law_308 ?_
            obtain ⟨x29, hx29, hF⟩ := bnd hF
            refine c_virt_i (As := [.int (E.2.2.2.2.2.2 (u3 + 1).toNatClampNeg), .int (E.2.2.2.2.2.2 (u3 + 2).toNatClampNeg), .int (E.2.2.2.2.2.2 (u3 + 3).toNatClampNeg), .int (E.2.2.2.2.2.2 (u3 + 4).toNatClampNeg)]) mi_X12_card kw_1161 kw_1162 kw_1160 rfl (by decide) (ln_101 hL) (ok_X12_card hL  hx29) rfl rfl (Nat.le_of_ble_eq_true rfl) ⟨Nat.le_of_ble_eq_true rfl, Nat.le_of_ble_eq_true rfl⟩ ⟨by show _ ≤ 615142; omega, by show _ ≤ 7256822; omega⟩ dL_law_309 ?_
            refine r_icmp_eq (tgt := 1577) dL_law_312 (by decide) (fun h30 => ?_) (fun h30 => ?_)
            · have hF := tw hF h30
              refine r_iinc (v := (u3 + 7)) (ls' := [(3, .int (u3 + 7)), (0, .ref 21), (1, .ref 64), (2, .ref 101)]) dL_law_1577 rfl rfl (by decide) rfl ?_
              refine r_goto (tgt := 18) dL_law_1580 (by decide) ?_
              refine r_sub (ls' := [(0, .ref 21), (1, .ref 64), (2, .ref 101), (3, .int (u3 + 7))]) [1, 2, 3, 0] rfl ?_
              exact ih (u3 + 7) x23.2.1 x29.2 x23.2.2.2.1 x23.2.2.2.2 (kc + (x23.2.1.1 - Tv.1)) (ks + 4) (by rw [inc7_toInt hu0 hlt]; omega) (by rw [inc7_toInt hu0 hlt]; omega) (by rw [inc7_toInt hu0 hlt]; omega) (by rw [inc7_toInt hu0 hlt]; omega) hL hF
            · have hF := fw hF h30
              refine r_iconst (v := 0) dL_law_315 (by decide) ?_
              exact absurd (Option.some.inj hF) (by decide)
          · have hF := fw hF h18
            by_cases h31 : ((E.2.2.2.2.2.2 u3.toNatClampNeg) &&& 63) = 3
            · have hF := tw hF h31
              refine r_tableIn (off := 284) (tgt := 317) dL_law_33 (by rw [h31]; decide) (by rw [h31]; decide) (by rw [h31]; decide) (by decide) ?_
              refine r_aload_n dL_law_317 rfl rfl ?_
              refine r_aload_n dL_law_318 rfl rfl ?_
              refine r_iload_n dL_law_319 rfl rfl ?_
              refine r_iconst (v := 1) dL_law_320 (by decide) ?_
              refine r_iadd dL_law_321 ?_
              obtain ⟨g32, hF⟩ := gd hF
              refine r_sld g32 dL_law_322 ?_
              refine r_aload_n dL_law_323 rfl rfl ?_
              refine r_iload_n dL_law_324 rfl rfl ?_
              refine r_iconst (v := 2) dL_law_325 (by decide) ?_
              refine r_iadd dL_law_326 ?_
              obtain ⟨g33, hF⟩ := gd hF
              refine r_sld g33 dL_law_327 ?_
              obtain ⟨x34, hx34, hF⟩ := bnd hF
              refine c_virt_i (As := [.int (E.2.2.2.2.2.2 (u3 + 1).toNatClampNeg), .int (E.2.2.2.2.2.2 (u3 + 2).toNatClampNeg)]) mi_X11_cardOf kw_488 kw_489 kw_487 rfl (by decide) (ln_64 hL) (ok_X11_cardOf hL  hx34) rfl rfl (Nat.le_of_ble_eq_true rfl) ⟨Nat.le_of_ble_eq_true rfl, Nat.le_of_ble_eq_true rfl⟩ ⟨by show _ ≤ 615142; omega, by show _ ≤ 7256822; omega⟩ dL_law_328 ?_
              refine r_aload_n dL_law_331 rfl rfl ?_
              refine r_aload_n dL_law_332 rfl rfl ?_
              refine r_iload_n dL_law_333 rfl rfl ?_
              refine r_iconst (v := 1) dL_law_334 (by decide) ?_
              refine r_iadd dL_law_335 ?_
              obtain ⟨g35, hF⟩ := gd hF
              refine r_sld g35 dL_law_336 ?_
              refine r_aload_n dL_law_337 rfl rfl ?_
              refine r_iload_n dL_law_338 rfl rfl ?_
              refine r_iconst (v := 2) dL_law_339 (by decide) ?_
              refine r_iadd dL_law_340 ?_
              obtain ⟨g36, hF⟩ := gd hF
              refine r_sld g36 dL_law_341 ?_
              obtain ⟨x37, hx37, hF⟩ := bnd hF
              refine c_virt_i (As := [.int (E.2.2.2.2.2.2 (u3 + 1).toNatClampNeg), .int (E.2.2.2.2.2.2 (u3 + 2).toNatClampNeg)]) mi_X12_cardOf kw_1168 kw_1169 kw_1167 rfl (by decide) (ln_101 hL) (ok_X12_cardOf hL  hx37) rfl rfl (Nat.le_of_ble_eq_true rfl) ⟨Nat.le_of_ble_eq_true rfl, Nat.le_of_ble_eq_true rfl⟩ ⟨by show _ ≤ 615142; omega, by show _ ≤ 7256822; omega⟩ dL_law_342 ?_
              refine r_icmp_eq (tgt := 1577) dL_law_345 (by decide) (fun h38 => ?_) (fun h38 => ?_)
              · have hF := tw hF h38
                refine r_iinc (v := (u3 + 7)) (ls' := [(3, .int (u3 + 7)), (0, .ref 21), (1, .ref 64), (2, .ref 101)]) dL_law_1577 rfl rfl (by decide) rfl ?_
                refine r_goto (tgt := 18) dL_law_1580 (by decide) ?_
                refine r_sub (ls' := [(0, .ref 21), (1, .ref 64), (2, .ref 101), (3, .int (u3 + 7))]) [1, 2, 3, 0] rfl ?_
                exact ih (u3 + 7) Tv Iv Jv Pv kc ks (by rw [inc7_toInt hu0 hlt]; omega) (by rw [inc7_toInt hu0 hlt]; omega) (by rw [inc7_toInt hu0 hlt]; omega) (by rw [inc7_toInt hu0 hlt]; omega) hL hF
              · have hF := fw hF h38
                refine r_iconst (v := 0) dL_law_348 (by decide) ?_
                exact absurd (Option.some.inj hF) (by decide)
            · have hF := fw hF h31
              by_cases h39 : ((E.2.2.2.2.2.2 u3.toNatClampNeg) &&& 63) = 4
              · have hF := tw hF h39
                refine r_tableIn (off := 317) (tgt := 350) dL_law_33 (by rw [h39]; decide) (by rw [h39]; decide) (by rw [h39]; decide) (by decide) ?_
                refine r_aload_n dL_law_350 rfl rfl ?_
                refine r_aload_n dL_law_351 rfl rfl ?_
                refine r_iload_n dL_law_352 rfl rfl ?_
                refine r_iconst (v := 1) dL_law_353 (by decide) ?_
                refine r_iadd dL_law_354 ?_
                obtain ⟨g40, hF⟩ := gd hF
                refine r_sld g40 dL_law_355 ?_
                refine r_aload_n dL_law_356 rfl rfl ?_
                refine r_iload_n dL_law_357 rfl rfl ?_
                refine r_iconst (v := 2) dL_law_358 (by decide) ?_
                refine r_iadd dL_law_359 ?_
                obtain ⟨g41, hF⟩ := gd hF
                refine r_sld g41 dL_law_360 ?_
                obtain ⟨x42, hx42, hF⟩ := bnd hF
                refine c_virt_i (As := [.int (E.2.2.2.2.2.2 (u3 + 1).toNatClampNeg), .int (E.2.2.2.2.2.2 (u3 + 2).toNatClampNeg)]) mi_X11_set kw_516 kw_517 kw_515 rfl (by decide) (ln_64 hL) (ok_X11_set hL  hx42) rfl rfl (Nat.le_of_ble_eq_true rfl) ⟨Nat.le_of_ble_eq_true rfl, Nat.le_of_ble_eq_true rfl⟩ ⟨by show _ ≤ 615142; omega, by show _ ≤ 7256822; omega⟩ dL_law_361 ?_
                refine r_aload_n dL_law_364 rfl rfl ?_
                refine r_aload_n dL_law_365 rfl rfl ?_
                refine r_iload_n dL_law_366 rfl rfl ?_
                refine r_iconst (v := 1) dL_law_367 (by decide) ?_
                refine r_iadd dL_law_368 ?_
                obtain ⟨g43, hF⟩ := gd hF
                refine r_sld g43 dL_law_369 ?_
                refine r_aload_n dL_law_370 rfl rfl ?_
                refine r_iload_n dL_law_371 rfl rfl ?_
                refine r_iconst (v := 2) dL_law_372 (by decide) ?_
                refine r_iadd dL_law_373 ?_
                obtain ⟨g44, hF⟩ := gd hF
                refine r_sld g44 dL_law_374 ?_
                obtain ⟨x45, hx45, hF⟩ := bnd hF
                refine c_virt_i (As := [.int (E.2.2.2.2.2.2 (u3 + 1).toNatClampNeg), .int (E.2.2.2.2.2.2 (u3 + 2).toNatClampNeg)]) mi_X12_set kw_1180 kw_1181 kw_1179 rfl (by decide) (ln_101 hL) (ok_X12_set hL  hx45) rfl rfl (Nat.le_of_ble_eq_true rfl) ⟨Nat.le_of_ble_eq_true rfl, Nat.le_of_ble_eq_true rfl⟩ ⟨by show _ ≤ 615142; omega, by show _ ≤ 7256822; omega⟩ dL_law_375 ?_
                refine r_icmp_eq (tgt := 1577) dL_law_378 (by decide) (fun h46 => ?_) (fun h46 => ?_)
                · have hF := tw hF h46
                  refine r_iinc (v := (u3 + 7)) (ls' := [(3, .int (u3 + 7)), (0, .ref 21), (1, .ref 64), (2, .ref 101)]) dL_law_1577 rfl rfl (by decide) rfl ?_
                  refine r_goto (tgt := 18) dL_law_1580 (by decide) ?_
                  refine r_sub (ls' := [(0, .ref 21), (1, .ref 64), (2, .ref 101), (3, .int (u3 + 7))]) [1, 2, 3, 0] rfl ?_
                  exact ih (u3 + 7) Tv x45.2 Jv Pv kc ks (by rw [inc7_toInt hu0 hlt]; omega) (by rw [inc7_toInt hu0 hlt]; omega) (by rw [inc7_toInt hu0 hlt]; omega) (by rw [inc7_toInt hu0 hlt]; omega) hL hF
                · have hF := fw hF h46
                  refine r_iconst (v := 0) dL_law_381 (by decide) ?_
                  exact absurd (Option.some.inj hF) (by decide)
              · have hF := fw hF h39
                by_cases h47 : ((E.2.2.2.2.2.2 u3.toNatClampNeg) &&& 63) = 5
                · have hF := tw hF h47
                  refine r_tableIn (off := 350) (tgt := 383) dL_law_33 (by rw [h47]; decide) (by rw [h47]; decide) (by rw [h47]; decide) (by decide) ?_
                  refine r_aload_n dL_law_383 rfl rfl ?_
                  refine r_aload_n dL_law_384 rfl rfl ?_
                  refine r_iload_n dL_law_385 rfl rfl ?_
                  refine r_iconst (v := 1) dL_law_386 (by decide) ?_
                  refine r_iadd dL_law_387 ?_
                  obtain ⟨g48, hF⟩ := gd hF
                  refine r_sld g48 dL_law_388 ?_
                  refine r_aload_n dL_law_389 rfl rfl ?_
                  refine r_iload_n dL_law_390 rfl rfl ?_
                  refine r_iconst (v := 2) dL_law_391 (by decide) ?_
                  refine r_iadd dL_law_392 ?_
                  obtain ⟨g49, hF⟩ := gd hF
                  refine r_sld g49 dL_law_393 ?_
                  obtain ⟨x50, hx50, hF⟩ := bnd hF
                  refine c_virt_i (As := [.int (E.2.2.2.2.2.2 (u3 + 1).toNatClampNeg), .int (E.2.2.2.2.2.2 (u3 + 2).toNatClampNeg)]) mi_X11_hand kw_520 kw_521 kw_519 rfl (by decide) (ln_64 hL) (ok_X11_hand hL  hx50) rfl rfl (Nat.le_of_ble_eq_true rfl) ⟨Nat.le_of_ble_eq_true rfl, Nat.le_of_ble_eq_true rfl⟩ ⟨by show _ ≤ 615142; omega, by show _ ≤ 7256822; omega⟩ dL_law_394 ?_
                  refine r_aload_n dL_law_397 rfl rfl ?_
                  refine r_aload_n dL_law_398 rfl rfl ?_
                  refine r_iload_n dL_law_399 rfl rfl ?_
                  refine r_iconst (v := 1) dL_law_400 (by decide) ?_
                  refine r_iadd dL_law_401 ?_
                  obtain ⟨g51, hF⟩ := gd hF
                  refine r_sld g51 dL_law_402 ?_
                  refine r_aload_n dL_law_403 rfl rfl ?_
                  refine r_iload_n dL_law_404 rfl rfl ?_
                  refine r_iconst (v := 2) dL_law_405 (by decide) ?_
                  refine r_iadd dL_law_406 ?_
                  obtain ⟨g52, hF⟩ := gd hF
                  refine r_sld g52 dL_law_407 ?_
                  obtain ⟨x53, hx53, hF⟩ := bnd hF
                  refine c_virt_i (As := [.int (E.2.2.2.2.2.2 (u3 + 1).toNatClampNeg), .int (E.2.2.2.2.2.2 (u3 + 2).toNatClampNeg)]) mi_X12_hand kw_1187 kw_1188 kw_1186 rfl (by decide) (ln_101 hL) (ok_X12_hand hL  hx53) rfl rfl (Nat.le_of_ble_eq_true rfl) ⟨Nat.le_of_ble_eq_true rfl, Nat.le_of_ble_eq_true rfl⟩ ⟨by show _ ≤ 615142; omega, by show _ ≤ 7256822; omega⟩ dL_law_408 ?_
                  refine r_icmp_eq (tgt := 1577) dL_law_411 (by decide) (fun h54 => ?_) (fun h54 => ?_)
                  · have hF := tw hF h54
                    refine r_iinc (v := (u3 + 7)) (ls' := [(3, .int (u3 + 7)), (0, .ref 21), (1, .ref 64), (2, .ref 101)]) dL_law_1577 rfl rfl (by decide) rfl ?_
                    refine r_goto (tgt := 18) dL_law_1580 (by decide) ?_
                    refine r_sub (ls' := [(0, .ref 21), (1, .ref 64), (2, .ref 101), (3, .int (u3 + 7))]) [1, 2, 3, 0] rfl ?_
                    exact ih (u3 + 7) Tv x53.2 Jv Pv kc ks (by rw [inc7_toInt hu0 hlt]; omega) (by rw [inc7_toInt hu0 hlt]; omega) (by rw [inc7_toInt hu0 hlt]; omega) (by rw [inc7_toInt hu0 hlt]; omega) hL hF
                  · have hF := fw hF h54
                    refine r_iconst (v := 0) dL_law_414 (by decide) ?_
                    exact absurd (Option.some.inj hF) (by decide)
                · have hF := fw hF h47
                  by_cases h55 : ((E.2.2.2.2.2.2 u3.toNatClampNeg) &&& 63) = 6
                  · have hF := tw hF h55
                    refine r_tableIn (off := 383) (tgt := 416) dL_law_33 (by rw [h55]; decide) (by rw [h55]; decide) (by rw [h55]; decide) (by decide) ?_
                    refine r_aload_n dL_law_416 rfl rfl ?_
                    refine r_aload_n dL_law_417 rfl rfl ?_
                    refine r_iload_n dL_law_418 rfl rfl ?_
                    refine r_iconst (v := 1) dL_law_419 (by decide) ?_
                    refine r_iadd dL_law_420 ?_
                    obtain ⟨g56, hF⟩ := gd hF
                    refine r_sld g56 dL_law_421 ?_
                    obtain ⟨x57, hx57, hF⟩ := bnd hF
                    refine c_virt_i (As := [.int (E.2.2.2.2.2.2 (u3 + 1).toNatClampNeg)]) mi_X11_sine kw_528 kw_529 kw_527 rfl (by decide) (ln_64 hL) (ok_X11_sine hL  hx57) rfl rfl (Nat.le_of_ble_eq_true rfl) ⟨Nat.le_of_ble_eq_true rfl, Nat.le_of_ble_eq_true rfl⟩ ⟨by show _ ≤ 615142; omega, by show _ ≤ 7256822; omega⟩ dL_law_422 ?_
                    refine r_aload_n dL_law_425 rfl rfl ?_
                    refine r_aload_n dL_law_426 rfl rfl ?_
                    refine r_iload_n dL_law_427 rfl rfl ?_
                    refine r_iconst (v := 1) dL_law_428 (by decide) ?_
                    refine r_iadd dL_law_429 ?_
                    obtain ⟨g58, hF⟩ := gd hF
                    refine r_sld g58 dL_law_430 ?_
                    obtain ⟨x59, hx59, hF⟩ := bnd hF
                    refine c_virt_i (As := [.int (E.2.2.2.2.2.2 (u3 + 1).toNatClampNeg)]) mi_X12_sine kw_1195 kw_1196 kw_1194 rfl (by decide) (ln_101 hL) (ok_X12_sine hL  hx59) rfl rfl (Nat.le_of_ble_eq_true rfl) ⟨Nat.le_of_ble_eq_true rfl, Nat.le_of_ble_eq_true rfl⟩ ⟨by show _ ≤ 615142; omega, by show _ ≤ 7256822; omega⟩ dL_law_431 ?_
                    refine r_icmp_eq (tgt := 1577) dL_law_434 (by decide) (fun h60 => ?_) (fun h60 => ?_)
                    · have hF := tw hF h60
                      refine r_iinc (v := (u3 + 7)) (ls' := [(3, .int (u3 + 7)), (0, .ref 21), (1, .ref 64), (2, .ref 101)]) dL_law_1577 rfl rfl (by decide) rfl ?_
                      refine r_goto (tgt := 18) dL_law_1580 (by decide) ?_
                      refine r_sub (ls' := [(0, .ref 21), (1, .ref 64), (2, .ref 101), (3, .int (u3 + 7))]) [1, 2, 3, 0] rfl ?_
                      exact ih (u3 + 7) Tv Iv Jv Pv kc ks (by rw [inc7_toInt hu0 hlt]; omega) (by rw [inc7_toInt hu0 hlt]; omega) (by rw [inc7_toInt hu0 hlt]; omega) (by rw [inc7_toInt hu0 hlt]; omega) hL hF
                    · have hF := fw hF h60
                      refine r_iconst (v := 0) dL_law_437 (by decide) ?_
                      exact absurd (Option.some.inj hF) (by decide)
                  · have hF := fw hF h55
                    by_cases h61 : ((E.2.2.2.2.2.2 u3.toNatClampNeg) &&& 63) = 7
                    · have hF := tw hF h61
                      refine r_tableIn (off := 406) (tgt := 439) dL_law_33 (by rw [h61]; decide) (by rw [h61]; decide) (by rw [h61]; decide) (by decide) ?_
                      refine r_aload_n dL_law_439 rfl rfl ?_
                      refine r_aload_n dL_law_440 rfl rfl ?_
                      refine r_iload_n dL_law_441 rfl rfl ?_
                      refine r_iconst (v := 1) dL_law_442 (by decide) ?_
                      refine r_iadd dL_law_443 ?_
                      obtain ⟨g62, hF⟩ := gd hF
                      refine r_sld g62 dL_law_444 ?_
                      refine r_aload_n dL_law_445 rfl rfl ?_
                      refine r_iload_n dL_law_446 rfl rfl ?_
                      refine r_iconst (v := 2) dL_law_447 (by decide) ?_
                      refine r_iadd dL_law_448 ?_
                      obtain ⟨g63, hF⟩ := gd hF
                      refine r_sld g63 dL_law_449 ?_
                      refine r_aload_n dL_law_450 rfl rfl ?_
                      refine r_iload_n dL_law_451 rfl rfl ?_
                      refine r_iconst (v := 3) dL_law_452 (by decide) ?_
                      refine r_iadd dL_law_453 ?_
                      obtain ⟨g64, hF⟩ := gd hF
                      refine r_sld g64 dL_law_454 ?_
                      refine r_aload_n dL_law_455 rfl rfl ?_
                      refine r_iload_n dL_law_456 rfl rfl ?_
                      refine r_iconst (v := 4) dL_law_457 (by decide) ?_
                      refine r_iadd dL_law_458 ?_
                      obtain ⟨g65, hF⟩ := gd hF
                      refine r_sld g65 dL_law_459 ?_
                      obtain ⟨x66, hx66, hF⟩ := bnd hF
                      refine cp_virt_i (As := [.int (E.2.2.2.2.2.2 (u3 + 1).toNatClampNeg), .int (E.2.2.2.2.2.2 (u3 + 2).toNatClampNeg), .int (E.2.2.2.2.2.2 (u3 + 3).toNatClampNeg), .int (E.2.2.2.2.2.2 (u3 + 4).toNatClampNeg)]) mi_X11_letGo kw_537 kw_538 kw_536 rfl (by decide) (ln_64 hL) (ok_X11_letGo hL  hx66) rfl rfl (Nat.le_of_ble_eq_true rfl) ⟨Nat.le_of_ble_eq_true rfl, Nat.le_of_ble_eq_true rfl⟩ ⟨by show _ ≤ 615142; omega, by show _ ≤ 7256822; omega⟩ dL_law_460 ?_
                      intro hL
                      refine r_aload_n dL_law_463 rfl rfl ?_
                      refine r_aload_n dL_law_464 rfl rfl ?_
                      refine r_iload_n dL_law_465 rfl rfl ?_
                      refine r_iconst (v := 1) dL_law_466 (by decide) ?_
                      refine r_iadd dL_law_467 ?_
                      obtain ⟨g67, hF⟩ := gd hF
                      refine r_sld g67 dL_law_468 ?_
                      refine r_aload_n dL_law_469 rfl rfl ?_
                      refine r_iload_n dL_law_470 rfl rfl ?_
                      refine r_iconst (v := 2) dL_law_471 (by decide) ?_
                      refine r_iadd dL_law_472 ?_
                      obtain ⟨g68, hF⟩ := gd hF
                      refine r_sld g68 dL_law_473 ?_
                      refine r_aload_n dL_law_474 rfl rfl ?_
                      refine r_iload_n dL_law_475 rfl rfl ?_
                      refine r_iconst (v := 3) dL_law_476 (by decide) ?_
                      refine r_iadd dL_law_477 ?_
                      obtain ⟨g69, hF⟩ := gd hF
                      refine r_sld g69 dL_law_478 ?_
                      refine r_aload_n dL_law_479 rfl rfl ?_
                      refine r_iload_n dL_law_480 rfl rfl ?_
                      refine r_iconst (v := 4) dL_law_481 (by decide) ?_
                      refine r_iadd dL_law_482 ?_
                      obtain ⟨g70, hF⟩ := gd hF
                      refine r_sld g70 dL_law_483 ?_
                      obtain ⟨x71, hx71, hF⟩ := bnd hF
                      refine c_virt_i (As := [.int (E.2.2.2.2.2.2 (u3 + 1).toNatClampNeg), .int (E.2.2.2.2.2.2 (u3 + 2).toNatClampNeg), .int (E.2.2.2.2.2.2 (u3 + 3).toNatClampNeg), .int (E.2.2.2.2.2.2 (u3 + 4).toNatClampNeg)]) mi_X12_letGo kw_1203 kw_1204 kw_1202 rfl (by decide) (ln_101 hL) (ok_X12_letGo hL  hx71) rfl rfl (Nat.le_of_ble_eq_true rfl) ⟨Nat.le_of_ble_eq_true rfl, Nat.le_of_ble_eq_true rfl⟩ ⟨by show _ ≤ 615142; omega, by show _ ≤ 7256822; omega⟩ dL_law_484 ?_
                      refine r_icmp_eq (tgt := 1577) dL_law_487 (by decide) (fun h72 => ?_) (fun h72 => ?_)
                      · have hF := tw hF h72
                        refine r_iinc (v := (u3 + 7)) (ls' := [(3, .int (u3 + 7)), (0, .ref 21), (1, .ref 64), (2, .ref 101)]) dL_law_1577 rfl rfl (by decide) rfl ?_
                        refine r_goto (tgt := 18) dL_law_1580 (by decide) ?_
                        refine r_sub (ls' := [(0, .ref 21), (1, .ref 64), (2, .ref 101), (3, .int (u3 + 7))]) [1, 2, 3, 0] rfl ?_
                        exact ih (u3 + 7) Tv x71.2 Jv x66.2.2 kc ks (by rw [inc7_toInt hu0 hlt]; omega) (by rw [inc7_toInt hu0 hlt]; omega) (by rw [inc7_toInt hu0 hlt]; omega) (by rw [inc7_toInt hu0 hlt]; omega) hL hF
                      · have hF := fw hF h72
                        refine r_iconst (v := 0) dL_law_490 (by decide) ?_
                        exact absurd (Option.some.inj hF) (by decide)
                    · have hF := fw hF h61
                      by_cases h73 : ((E.2.2.2.2.2.2 u3.toNatClampNeg) &&& 63) = 8
                      · have hF := tw hF h73
                        refine r_tableIn (off := 459) (tgt := 492) dL_law_33 (by rw [h73]; decide) (by rw [h73]; decide) (by rw [h73]; decide) (by decide) ?_
                        refine r_aload_n dL_law_492 rfl rfl ?_
                        refine r_aload_n dL_law_493 rfl rfl ?_
                        refine r_iload_n dL_law_494 rfl rfl ?_
                        refine r_iconst (v := 1) dL_law_495 (by decide) ?_
                        refine r_iadd dL_law_496 ?_
                        obtain ⟨g74, hF⟩ := gd hF
                        refine r_sld g74 dL_law_497 ?_
                        obtain ⟨x75, hx75, hF⟩ := bnd hF
                        refine c_virt_i (As := [.int (E.2.2.2.2.2.2 (u3 + 1).toNatClampNeg)]) mi_X11_tick kw_552 kw_553 kw_551 rfl (by decide) (ln_64 hL) (ok_X11_tick hL  hx75) rfl rfl (Nat.le_of_ble_eq_true rfl) ⟨Nat.le_of_ble_eq_true rfl, Nat.le_of_ble_eq_true rfl⟩ ⟨by show _ ≤ 615142; omega, by show _ ≤ 7256822; omega⟩ dL_law_498 ?_
                        refine r_aload_n dL_law_501 rfl rfl ?_
                        refine r_aload_n dL_law_502 rfl rfl ?_
                        refine r_iload_n dL_law_503 rfl rfl ?_
                        refine r_iconst (v := 1) dL_law_504 (by decide) ?_
                        refine r_iadd dL_law_505 ?_
                        obtain ⟨g76, hF⟩ := gd hF
                        refine r_sld g76 dL_law_506 ?_
                        obtain ⟨x77, hx77, hF⟩ := bnd hF
                        refine c_virt_i (As := [.int (E.2.2.2.2.2.2 (u3 + 1).toNatClampNeg)]) mi_X12_tick kw_1222 kw_1223 kw_1221 rfl (by decide) (ln_101 hL) (ok_X12_tick hL  hx77) rfl rfl (Nat.le_of_ble_eq_true rfl) ⟨Nat.le_of_ble_eq_true rfl, Nat.le_of_ble_eq_true rfl⟩ ⟨by show _ ≤ 615142; omega, by show _ ≤ 7256822; omega⟩ dL_law_507 ?_
                        refine r_icmp_eq (tgt := 1577) dL_law_510 (by decide) (fun h78 => ?_) (fun h78 => ?_)
                        · have hF := tw hF h78
                          refine r_iinc (v := (u3 + 7)) (ls' := [(3, .int (u3 + 7)), (0, .ref 21), (1, .ref 64), (2, .ref 101)]) dL_law_1577 rfl rfl (by decide) rfl ?_
                          refine r_goto (tgt := 18) dL_law_1580 (by decide) ?_
                          refine r_sub (ls' := [(0, .ref 21), (1, .ref 64), (2, .ref 101), (3, .int (u3 + 7))]) [1, 2, 3, 0] rfl ?_
                          exact ih (u3 + 7) Tv x77.2 Jv Pv kc ks (by rw [inc7_toInt hu0 hlt]; omega) (by rw [inc7_toInt hu0 hlt]; omega) (by rw [inc7_toInt hu0 hlt]; omega) (by rw [inc7_toInt hu0 hlt]; omega) hL hF
                        · have hF := fw hF h78
                          refine r_iconst (v := 0) dL_law_513 (by decide) ?_
                          exact absurd (Option.some.inj hF) (by decide)
                      · have hF := fw hF h73
                        by_cases h79 : ((E.2.2.2.2.2.2 u3.toNatClampNeg) &&& 63) = 9
                        · have hF := tw hF h79
                          refine r_tableIn (off := 482) (tgt := 515) dL_law_33 (by rw [h79]; decide) (by rw [h79]; decide) (by rw [h79]; decide) (by decide) ?_
                          refine r_aload_n dL_law_515 rfl rfl ?_
                          refine r_aload_n dL_law_516 rfl rfl ?_
                          refine r_iload_n dL_law_517 rfl rfl ?_
                          refine r_iconst (v := 1) dL_law_518 (by decide) ?_
                          refine r_iadd dL_law_519 ?_
                          obtain ⟨g80, hF⟩ := gd hF
                          refine r_sld g80 dL_law_520 ?_
                          obtain ⟨x81, hx81, hF⟩ := bnd hF
                          refine c_virt_i (As := [.int (E.2.2.2.2.2.2 (u3 + 1).toNatClampNeg)]) mi_X11_air kw_618 kw_619 kw_617 rfl (by decide) (ln_64 hL) (ok_X11_air hL  hx81) rfl rfl (Nat.le_of_ble_eq_true rfl) ⟨Nat.le_of_ble_eq_true rfl, Nat.le_of_ble_eq_true rfl⟩ ⟨by show _ ≤ 615142; omega, by show _ ≤ 7256822; omega⟩ dL_law_521 ?_
                          refine r_aload_n dL_law_524 rfl rfl ?_
                          refine r_aload_n dL_law_525 rfl rfl ?_
                          refine r_iload_n dL_law_526 rfl rfl ?_
                          refine r_iconst (v := 1) dL_law_527 (by decide) ?_
                          refine r_iadd dL_law_528 ?_
                          obtain ⟨g82, hF⟩ := gd hF
                          refine r_sld g82 dL_law_529 ?_
                          obtain ⟨x83, hx83, hF⟩ := bnd hF
                          refine c_virt_i (As := [.int (E.2.2.2.2.2.2 (u3 + 1).toNatClampNeg)]) mi_X12_air kw_1256 kw_1257 kw_1255 rfl (by decide) (ln_101 hL) (ok_X12_air hL  hx83) rfl rfl (Nat.le_of_ble_eq_true rfl) ⟨Nat.le_of_ble_eq_true rfl, Nat.le_of_ble_eq_true rfl⟩ ⟨by show _ ≤ 615142; omega, by show _ ≤ 7256822; omega⟩ dL_law_530 ?_
                          refine r_icmp_eq (tgt := 1577) dL_law_533 (by decide) (fun h84 => ?_) (fun h84 => ?_)
                          · have hF := tw hF h84
                            refine r_iinc (v := (u3 + 7)) (ls' := [(3, .int (u3 + 7)), (0, .ref 21), (1, .ref 64), (2, .ref 101)]) dL_law_1577 rfl rfl (by decide) rfl ?_
                            refine r_goto (tgt := 18) dL_law_1580 (by decide) ?_
                            refine r_sub (ls' := [(0, .ref 21), (1, .ref 64), (2, .ref 101), (3, .int (u3 + 7))]) [1, 2, 3, 0] rfl ?_
                            exact ih (u3 + 7) Tv Iv Jv Pv kc ks (by rw [inc7_toInt hu0 hlt]; omega) (by rw [inc7_toInt hu0 hlt]; omega) (by rw [inc7_toInt hu0 hlt]; omega) (by rw [inc7_toInt hu0 hlt]; omega) hL hF
                          · have hF := fw hF h84
                            refine r_iconst (v := 0) dL_law_536 (by decide) ?_
                            exact absurd (Option.some.inj hF) (by decide)
                        · have hF := fw hF h79
                          by_cases h85 : ((E.2.2.2.2.2.2 u3.toNatClampNeg) &&& 63) = 10
                          · have hF := tw hF h85
                            refine r_tableIn (off := 505) (tgt := 538) dL_law_33 (by rw [h85]; decide) (by rw [h85]; decide) (by rw [h85]; decide) (by decide) ?_
                            refine r_aload_n dL_law_538 rfl rfl ?_
                            refine r_aload_n dL_law_539 rfl rfl ?_
                            refine r_iload_n dL_law_540 rfl rfl ?_
                            refine r_iconst (v := 1) dL_law_541 (by decide) ?_
                            refine r_iadd dL_law_542 ?_
                            obtain ⟨g86, hF⟩ := gd hF
                            refine r_sld g86 dL_law_543 ?_
                            refine r_aload_n dL_law_544 rfl rfl ?_
                            refine r_iload_n dL_law_545 rfl rfl ?_
                            refine r_iconst (v := 2) dL_law_546 (by decide) ?_
                            refine r_iadd dL_law_547 ?_
                            obtain ⟨g87, hF⟩ := gd hF
                            refine r_sld g87 dL_law_548 ?_
                            obtain ⟨x88, hx88, hF⟩ := bnd hF
                            refine c_virt_i (As := [.int (E.2.2.2.2.2.2 (u3 + 1).toNatClampNeg), .int (E.2.2.2.2.2.2 (u3 + 2).toNatClampNeg)]) mi_X11_gust kw_623 kw_624 kw_622 rfl (by decide) (ln_64 hL) (ok_X11_gust hL  hx88) rfl rfl (Nat.le_of_ble_eq_true rfl) ⟨Nat.le_of_ble_eq_true rfl, Nat.le_of_ble_eq_true rfl⟩ ⟨by show _ ≤ 615142; omega, by show _ ≤ 7256822; omega⟩ dL_law_549 ?_
                            refine r_aload_n dL_law_552 rfl rfl ?_
                            refine r_aload_n dL_law_553 rfl rfl ?_
                            refine r_iload_n dL_law_554 rfl rfl ?_
                            refine r_iconst (v := 1) dL_law_555 (by decide) ?_
                            refine r_iadd dL_law_556 ?_
                            obtain ⟨g89, hF⟩ := gd hF
                            refine r_sld g89 dL_law_557 ?_
                            refine r_aload_n dL_law_558 rfl rfl ?_
                            refine r_iload_n dL_law_559 rfl rfl ?_
                            refine r_iconst (v := 2) dL_law_560 (by decide) ?_
                            refine r_iadd dL_law_561 ?_
                            obtain ⟨g90, hF⟩ := gd hF
                            refine r_sld g90 dL_law_562 ?_
                            obtain ⟨x91, hx91, hF⟩ := bnd hF
                            refine c_virt_i (As := [.int (E.2.2.2.2.2.2 (u3 + 1).toNatClampNeg), .int (E.2.2.2.2.2.2 (u3 + 2).toNatClampNeg)]) mi_X12_gust kw_1261 kw_1262 kw_1260 rfl (by decide) (ln_101 hL) (ok_X12_gust hL  hx91) rfl rfl (Nat.le_of_ble_eq_true rfl) ⟨Nat.le_of_ble_eq_true rfl, Nat.le_of_ble_eq_true rfl⟩ ⟨by show _ ≤ 615142; omega, by show _ ≤ 7256822; omega⟩ dL_law_563 ?_
                            refine r_icmp_eq (tgt := 1577) dL_law_566 (by decide) (fun h92 => ?_) (fun h92 => ?_)
                            · have hF := tw hF h92
                              refine r_iinc (v := (u3 + 7)) (ls' := [(3, .int (u3 + 7)), (0, .ref 21), (1, .ref 64), (2, .ref 101)]) dL_law_1577 rfl rfl (by decide) rfl ?_
                              refine r_goto (tgt := 18) dL_law_1580 (by decide) ?_
                              refine r_sub (ls' := [(0, .ref 21), (1, .ref 64), (2, .ref 101), (3, .int (u3 + 7))]) [1, 2, 3, 0] rfl ?_
                              exact ih (u3 + 7) Tv x91.2 Jv Pv kc ks (by rw [inc7_toInt hu0 hlt]; omega) (by rw [inc7_toInt hu0 hlt]; omega) (by rw [inc7_toInt hu0 hlt]; omega) (by rw [inc7_toInt hu0 hlt]; omega) hL hF
                            · have hF := fw hF h92
                              refine r_iconst (v := 0) dL_law_569 (by decide) ?_
                              exact absurd (Option.some.inj hF) (by decide)
                          · have hF := fw hF h85
                            by_cases h93 : ((E.2.2.2.2.2.2 u3.toNatClampNeg) &&& 63) = 11
                            · have hF := tw hF h93
                              refine r_tableIn (off := 538) (tgt := 571) dL_law_33 (by rw [h93]; decide) (by rw [h93]; decide) (by rw [h93]; decide) (by decide) ?_
                              refine r_aload_n dL_law_571 rfl rfl ?_
                              refine r_aload_n dL_law_572 rfl rfl ?_
                              refine r_iload_n dL_law_573 rfl rfl ?_
                              refine r_iconst (v := 1) dL_law_574 (by decide) ?_
                              refine r_iadd dL_law_575 ?_
                              obtain ⟨g94, hF⟩ := gd hF
                              refine r_sld g94 dL_law_576 ?_
                              refine r_aload_n dL_law_577 rfl rfl ?_
                              refine r_iload_n dL_law_578 rfl rfl ?_
                              refine r_iconst (v := 2) dL_law_579 (by decide) ?_
                              refine r_iadd dL_law_580 ?_
                              obtain ⟨g95, hF⟩ := gd hF
                              refine r_sld g95 dL_law_581 ?_
                              refine r_aload_n dL_law_582 rfl rfl ?_
                              refine r_iload_n dL_law_583 rfl rfl ?_
                              refine r_iconst (v := 3) dL_law_584 (by decide) ?_
                              refine r_iadd dL_law_585 ?_
                              obtain ⟨g96, hF⟩ := gd hF
                              refine r_sld g96 dL_law_586 ?_
                              refine r_aload_n dL_law_587 rfl rfl ?_
                              refine r_iload_n dL_law_588 rfl rfl ?_
                              refine r_iconst (v := 4) dL_law_589 (by decide) ?_
                              refine r_iadd dL_law_590 ?_
                              obtain ⟨g97, hF⟩ := gd hF
                              refine r_sld g97 dL_law_591 ?_
                              refine r_aload_n dL_law_592 rfl rfl ?_
                              refine r_iload_n dL_law_593 rfl rfl ?_
                              refine r_iconst (v := 5) dL_law_594 (by decide) ?_
                              refine r_iadd dL_law_595 ?_
                              obtain ⟨g98, hF⟩ := gd hF
                              refine r_sld g98 dL_law_596 ?_
                              obtain ⟨x99, hx99, hF⟩ := bnd hF
                              refine cp_virt_i (As := [.int (E.2.2.2.2.2.2 (u3 + 1).toNatClampNeg), .int (E.2.2.2.2.2.2 (u3 + 2).toNatClampNeg), .int (E.2.2.2.2.2.2 (u3 + 3).toNatClampNeg), .int (E.2.2.2.2.2.2 (u3 + 4).toNatClampNeg), .int (E.2.2.2.2.2.2 (u3 + 5).toNatClampNeg)]) mi_X11_fall kw_628 kw_629 kw_627 rfl (by decide) (ln_64 hL) (ok_X11_fall hL  hx99) rfl rfl (Nat.le_of_ble_eq_true rfl) ⟨Nat.le_of_ble_eq_true rfl, Nat.le_of_ble_eq_true rfl⟩ ⟨by show _ ≤ 615142; omega, by show _ ≤ 7256822; omega⟩ dL_law_597 ?_
                              intro hL
                              refine r_aload_n dL_law_600 rfl rfl ?_
                              refine r_aload_n dL_law_601 rfl rfl ?_
                              refine r_iload_n dL_law_602 rfl rfl ?_
                              refine r_iconst (v := 1) dL_law_603 (by decide) ?_
                              refine r_iadd dL_law_604 ?_
                              obtain ⟨g100, hF⟩ := gd hF
                              refine r_sld g100 dL_law_605 ?_
                              refine r_aload_n dL_law_606 rfl rfl ?_
                              refine r_iload_n dL_law_607 rfl rfl ?_
                              refine r_iconst (v := 2) dL_law_608 (by decide) ?_
                              refine r_iadd dL_law_609 ?_
                              obtain ⟨g101, hF⟩ := gd hF
                              refine r_sld g101 dL_law_610 ?_
                              refine r_aload_n dL_law_611 rfl rfl ?_
                              refine r_iload_n dL_law_612 rfl rfl ?_
                              refine r_iconst (v := 3) dL_law_613 (by decide) ?_
                              refine r_iadd dL_law_614 ?_
                              obtain ⟨g102, hF⟩ := gd hF
                              refine r_sld g102 dL_law_615 ?_
                              refine r_aload_n dL_law_616 rfl rfl ?_
                              refine r_iload_n dL_law_617 rfl rfl ?_
                              refine r_iconst (v := 4) dL_law_618 (by decide) ?_
                              refine r_iadd dL_law_619 ?_
                              obtain ⟨g103, hF⟩ := gd hF
                              refine r_sld g103 dL_law_620 ?_
                              refine r_aload_n dL_law_621 rfl rfl ?_
                              refine r_iload_n dL_law_622 rfl rfl ?_
                              refine r_iconst (v := 5) dL_law_623 (by decide) ?_
                              refine r_iadd dL_law_624 ?_
                              obtain ⟨g104, hF⟩ := gd hF
                              refine r_sld g104 dL_law_625 ?_
                              obtain ⟨x105, hx105, hF⟩ := bnd hF
                              refine c_virt_i (As := [.int (E.2.2.2.2.2.2 (u3 + 1).toNatClampNeg), .int (E.2.2.2.2.2.2 (u3 + 2).toNatClampNeg), .int (E.2.2.2.2.2.2 (u3 + 3).toNatClampNeg), .int (E.2.2.2.2.2.2 (u3 + 4).toNatClampNeg), .int (E.2.2.2.2.2.2 (u3 + 5).toNatClampNeg)]) mi_X12_fall kw_1265 kw_1266 kw_1264 rfl (by decide) (ln_101 hL) (ok_X12_fall hL  hx105) rfl rfl (Nat.le_of_ble_eq_true rfl) ⟨Nat.le_of_ble_eq_true rfl, Nat.le_of_ble_eq_true rfl⟩ ⟨by show _ ≤ 615142; omega, by show _ ≤ 7256822; omega⟩ dL_law_626 ?_
                              refine r_icmp_eq (tgt := 1577) dL_law_629 (by decide) (fun h106 => ?_) (fun h106 => ?_)
                              · have hF := tw hF h106
                                refine r_iinc (v := (u3 + 7)) (ls' := [(3, .int (u3 + 7)), (0, .ref 21), (1, .ref 64), (2, .ref 101)]) dL_law_1577 rfl rfl (by decide) rfl ?_
                                refine r_goto (tgt := 18) dL_law_1580 (by decide) ?_
                                refine r_sub (ls' := [(0, .ref 21), (1, .ref 64), (2, .ref 101), (3, .int (u3 + 7))]) [1, 2, 3, 0] rfl ?_
                                exact ih (u3 + 7) Tv x105.2 Jv x99.2.2 kc ks (by rw [inc7_toInt hu0 hlt]; omega) (by rw [inc7_toInt hu0 hlt]; omega) (by rw [inc7_toInt hu0 hlt]; omega) (by rw [inc7_toInt hu0 hlt]; omega) hL hF
                              · have hF := fw hF h106
                                refine r_iconst (v := 0) dL_law_632 (by decide) ?_
                                exact absurd (Option.some.inj hF) (by decide)
                            · have hF := fw hF h93
                              by_cases h107 : ((E.2.2.2.2.2.2 u3.toNatClampNeg) &&& 63) = 12
                              · have hF := tw hF h107
                                refine r_tableIn (off := 601) (tgt := 634) dL_law_33 (by rw [h107]; decide) (by rw [h107]; decide) (by rw [h107]; decide) (by decide) ?_
                                refine r_aload_n dL_law_634 rfl rfl ?_
                                refine r_aload_n dL_law_635 rfl rfl ?_
                                refine r_iload_n dL_law_636 rfl rfl ?_
                                refine r_iconst (v := 1) dL_law_637 (by decide) ?_
                                refine r_iadd dL_law_638 ?_
                                obtain ⟨g108, hF⟩ := gd hF
                                refine r_sld g108 dL_law_639 ?_
                                refine r_aload_n dL_law_640 rfl rfl ?_
                                refine r_iload_n dL_law_641 rfl rfl ?_
                                refine r_iconst (v := 2) dL_law_642 (by decide) ?_
                                refine r_iadd dL_law_643 ?_
                                obtain ⟨g109, hF⟩ := gd hF
                                refine r_sld g109 dL_law_644 ?_
                                refine r_aload_n dL_law_645 rfl rfl ?_
                                refine r_iload_n dL_law_646 rfl rfl ?_
                                refine r_iconst (v := 3) dL_law_647 (by decide) ?_
                                refine r_iadd dL_law_648 ?_
                                obtain ⟨g110, hF⟩ := gd hF
                                refine r_sld g110 dL_law_649 ?_
                                refine r_aload_n dL_law_650 rfl rfl ?_
                                refine r_iload_n dL_law_651 rfl rfl ?_
                                refine r_iconst (v := 4) dL_law_652 (by decide) ?_
                                refine r_iadd dL_law_653 ?_
                                obtain ⟨g111, hF⟩ := gd hF
                                refine r_sld g111 dL_law_654 ?_
                                refine r_aload_n dL_law_655 rfl rfl ?_
                                refine r_iload_n dL_law_656 rfl rfl ?_
                                refine r_iconst (v := 5) dL_law_657 (by decide) ?_
                                refine r_iadd dL_law_658 ?_
                                obtain ⟨g112, hF⟩ := gd hF
                                refine r_sld g112 dL_law_659 ?_
                                obtain ⟨x113, hx113, hF⟩ := bnd hF
                                refine cp_virt_i (As := [.int (E.2.2.2.2.2.2 (u3 + 1).toNatClampNeg), .int (E.2.2.2.2.2.2 (u3 + 2).toNatClampNeg), .int (E.2.2.2.2.2.2 (u3 + 3).toNatClampNeg), .int (E.2.2.2.2.2.2 (u3 + 4).toNatClampNeg), .int (E.2.2.2.2.2.2 (u3 + 5).toNatClampNeg)]) mi_X11_line kw_649 kw_650 kw_648 rfl (by decide) (ln_64 hL) (ok_X11_line hL  hx113) rfl rfl (Nat.le_of_ble_eq_true rfl) ⟨Nat.le_of_ble_eq_true rfl, Nat.le_of_ble_eq_true rfl⟩ ⟨by show _ ≤ 615142; omega, by show _ ≤ 7256822; omega⟩ dL_law_660 ?_
                                intro hL
                                refine r_aload_n dL_law_663 rfl rfl ?_
                                refine r_aload_n dL_law_664 rfl rfl ?_
                                refine r_iload_n dL_law_665 rfl rfl ?_
                                refine r_iconst (v := 1) dL_law_666 (by decide) ?_
                                refine r_iadd dL_law_667 ?_
                                obtain ⟨g114, hF⟩ := gd hF
                                refine r_sld g114 dL_law_668 ?_
                                refine r_aload_n dL_law_669 rfl rfl ?_
                                refine r_iload_n dL_law_670 rfl rfl ?_
                                refine r_iconst (v := 2) dL_law_671 (by decide) ?_
                                refine r_iadd dL_law_672 ?_
                                obtain ⟨g115, hF⟩ := gd hF
                                refine r_sld g115 dL_law_673 ?_
                                refine r_aload_n dL_law_674 rfl rfl ?_
                                refine r_iload_n dL_law_675 rfl rfl ?_
                                refine r_iconst (v := 3) dL_law_676 (by decide) ?_
                                refine r_iadd dL_law_677 ?_
                                obtain ⟨g116, hF⟩ := gd hF
                                refine r_sld g116 dL_law_678 ?_
                                refine r_aload_n dL_law_679 rfl rfl ?_
                                refine r_iload_n dL_law_680 rfl rfl ?_
                                refine r_iconst (v := 4) dL_law_681 (by decide) ?_
                                refine r_iadd dL_law_682 ?_
                                obtain ⟨g117, hF⟩ := gd hF
                                refine r_sld g117 dL_law_683 ?_
                                refine r_aload_n dL_law_684 rfl rfl ?_
                                refine r_iload_n dL_law_685 rfl rfl ?_
                                refine r_iconst (v := 5) dL_law_686 (by decide) ?_
                                refine r_iadd dL_law_687 ?_
                                obtain ⟨g118, hF⟩ := gd hF
                                refine r_sld g118 dL_law_688 ?_
                                obtain ⟨x119, hx119, hF⟩ := bnd hF
                                refine c_virt_i (As := [.int (E.2.2.2.2.2.2 (u3 + 1).toNatClampNeg), .int (E.2.2.2.2.2.2 (u3 + 2).toNatClampNeg), .int (E.2.2.2.2.2.2 (u3 + 3).toNatClampNeg), .int (E.2.2.2.2.2.2 (u3 + 4).toNatClampNeg), .int (E.2.2.2.2.2.2 (u3 + 5).toNatClampNeg)]) mi_X12_line kw_1281 kw_1282 kw_1280 rfl (by decide) (ln_101 hL) (ok_X12_line hL  hx119) rfl rfl (Nat.le_of_ble_eq_true rfl) ⟨Nat.le_of_ble_eq_true rfl, Nat.le_of_ble_eq_true rfl⟩ ⟨by show _ ≤ 615142; omega, by show _ ≤ 7256822; omega⟩ dL_law_689 ?_
                                refine r_icmp_eq (tgt := 1577) dL_law_692 (by decide) (fun h120 => ?_) (fun h120 => ?_)
                                · have hF := tw hF h120
                                  refine r_iinc (v := (u3 + 7)) (ls' := [(3, .int (u3 + 7)), (0, .ref 21), (1, .ref 64), (2, .ref 101)]) dL_law_1577 rfl rfl (by decide) rfl ?_
                                  refine r_goto (tgt := 18) dL_law_1580 (by decide) ?_
                                  refine r_sub (ls' := [(0, .ref 21), (1, .ref 64), (2, .ref 101), (3, .int (u3 + 7))]) [1, 2, 3, 0] rfl ?_
                                  exact ih (u3 + 7) Tv x119.2 Jv x113.2.2 kc ks (by rw [inc7_toInt hu0 hlt]; omega) (by rw [inc7_toInt hu0 hlt]; omega) (by rw [inc7_toInt hu0 hlt]; omega) (by rw [inc7_toInt hu0 hlt]; omega) hL hF
                                · have hF := fw hF h120
                                  refine r_iconst (v := 0) dL_law_695 (by decide) ?_
                                  exact absurd (Option.some.inj hF) (by decide)
                              · have hF := fw hF h107
                                by_cases h121 : ((E.2.2.2.2.2.2 u3.toNatClampNeg) &&& 63) = 13
                                · have hF := tw hF h121
                                  refine r_tableIn (off := 664) (tgt := 697) dL_law_33 (by rw [h121]; decide) (by rw [h121]; decide) (by rw [h121]; decide) (by decide) ?_
                                  refine r_aload_n dL_law_697 rfl rfl ?_
                                  refine r_aload_n dL_law_698 rfl rfl ?_
                                  refine r_iload_n dL_law_699 rfl rfl ?_
                                  refine r_iconst (v := 1) dL_law_700 (by decide) ?_
                                  refine r_iadd dL_law_701 ?_
                                  obtain ⟨g122, hF⟩ := gd hF
                                  refine r_sld g122 dL_law_702 ?_
                                  refine r_aload_n dL_law_703 rfl rfl ?_
                                  refine r_iload_n dL_law_704 rfl rfl ?_
                                  refine r_iconst (v := 2) dL_law_705 (by decide) ?_
                                  refine r_iadd dL_law_706 ?_
                                  obtain ⟨g123, hF⟩ := gd hF
                                  refine r_sld g123 dL_law_707 ?_
                                  refine r_aload_n dL_law_708 rfl rfl ?_
                                  refine r_iload_n dL_law_709 rfl rfl ?_
                                  refine r_iconst (v := 3) dL_law_710 (by decide) ?_
                                  refine r_iadd dL_law_711 ?_
                                  obtain ⟨g124, hF⟩ := gd hF
                                  refine r_sld g124 dL_law_712 ?_
                                  refine r_aload_n dL_law_713 rfl rfl ?_
                                  refine r_iload_n dL_law_714 rfl rfl ?_
                                  refine r_iconst (v := 4) dL_law_715 (by decide) ?_
                                  refine r_iadd dL_law_716 ?_
                                  obtain ⟨g125, hF⟩ := gd hF
                                  refine r_sld g125 dL_law_717 ?_
                                  refine r_aload_n dL_law_718 rfl rfl ?_
                                  refine r_iload_n dL_law_719 rfl rfl ?_
                                  refine r_iconst (v := 5) dL_law_720 (by decide) ?_
                                  refine r_iadd dL_law_721 ?_
                                  obtain ⟨g126, hF⟩ := gd hF
                                  refine r_sld g126 dL_law_722 ?_
                                  obtain ⟨x127, hx127, hF⟩ := bnd hF
                                  refine cp_virt_i (As := [.int (E.2.2.2.2.2.2 (u3 + 1).toNatClampNeg), .int (E.2.2.2.2.2.2 (u3 + 2).toNatClampNeg), .int (E.2.2.2.2.2.2 (u3 + 3).toNatClampNeg), .int (E.2.2.2.2.2.2 (u3 + 4).toNatClampNeg), .int (E.2.2.2.2.2.2 (u3 + 5).toNatClampNeg)]) mi_X11_parted kw_653 kw_654 kw_652 rfl (by decide) (ln_64 hL) (ok_X11_parted hL  hx127) rfl rfl (Nat.le_of_ble_eq_true rfl) ⟨Nat.le_of_ble_eq_true rfl, Nat.le_of_ble_eq_true rfl⟩ ⟨by show _ ≤ 615142; omega, by show _ ≤ 7256822; omega⟩ dL_law_723 ?_
                                  intro hL
                                  refine r_aload_n dL_law_726 rfl rfl ?_
                                  refine r_aload_n dL_law_727 rfl rfl ?_
                                  refine r_iload_n dL_law_728 rfl rfl ?_
                                  refine r_iconst (v := 1) dL_law_729 (by decide) ?_
                                  refine r_iadd dL_law_730 ?_
                                  obtain ⟨g128, hF⟩ := gd hF
                                  refine r_sld g128 dL_law_731 ?_
                                  refine r_aload_n dL_law_732 rfl rfl ?_
                                  refine r_iload_n dL_law_733 rfl rfl ?_
                                  refine r_iconst (v := 2) dL_law_734 (by decide) ?_
                                  refine r_iadd dL_law_735 ?_
                                  obtain ⟨g129, hF⟩ := gd hF
                                  refine r_sld g129 dL_law_736 ?_
                                  refine r_aload_n dL_law_737 rfl rfl ?_
                                  refine r_iload_n dL_law_738 rfl rfl ?_
                                  refine r_iconst (v := 3) dL_law_739 (by decide) ?_
                                  refine r_iadd dL_law_740 ?_
                                  obtain ⟨g130, hF⟩ := gd hF
                                  refine r_sld g130 dL_law_741 ?_
                                  refine r_aload_n dL_law_742 rfl rfl ?_
                                  refine r_iload_n dL_law_743 rfl rfl ?_
                                  refine r_iconst (v := 4) dL_law_744 (by decide) ?_
                                  refine r_iadd dL_law_745 ?_
                                  obtain ⟨g131, hF⟩ := gd hF
                                  refine r_sld g131 dL_law_746 ?_
                                  refine r_aload_n dL_law_747 rfl rfl ?_
                                  refine r_iload_n dL_law_748 rfl rfl ?_
                                  refine r_iconst (v := 5) dL_law_749 (by decide) ?_
                                  refine r_iadd dL_law_750 ?_
                                  obtain ⟨g132, hF⟩ := gd hF
                                  refine r_sld g132 dL_law_751 ?_
                                  obtain ⟨x133, hx133, hF⟩ := bnd hF
                                  refine c_virt_i (As := [.int (E.2.2.2.2.2.2 (u3 + 1).toNatClampNeg), .int (E.2.2.2.2.2.2 (u3 + 2).toNatClampNeg), .int (E.2.2.2.2.2.2 (u3 + 3).toNatClampNeg), .int (E.2.2.2.2.2.2 (u3 + 4).toNatClampNeg), .int (E.2.2.2.2.2.2 (u3 + 5).toNatClampNeg)]) mi_X12_parted kw_1285 kw_1286 kw_1284 rfl (by decide) (ln_101 hL) (ok_X12_parted hL  hx133) rfl rfl (Nat.le_of_ble_eq_true rfl) ⟨Nat.le_of_ble_eq_true rfl, Nat.le_of_ble_eq_true rfl⟩ ⟨by show _ ≤ 615142; omega, by show _ ≤ 7256822; omega⟩ dL_law_752 ?_
                                  refine r_icmp_eq (tgt := 1577) dL_law_755 (by decide) (fun h134 => ?_) (fun h134 => ?_)
                                  · have hF := tw hF h134
                                    refine r_iinc (v := (u3 + 7)) (ls' := [(3, .int (u3 + 7)), (0, .ref 21), (1, .ref 64), (2, .ref 101)]) dL_law_1577 rfl rfl (by decide) rfl ?_
                                    refine r_goto (tgt := 18) dL_law_1580 (by decide) ?_
                                    refine r_sub (ls' := [(0, .ref 21), (1, .ref 64), (2, .ref 101), (3, .int (u3 + 7))]) [1, 2, 3, 0] rfl ?_
                                    exact ih (u3 + 7) Tv x133.2 Jv x127.2.2 kc ks (by rw [inc7_toInt hu0 hlt]; omega) (by rw [inc7_toInt hu0 hlt]; omega) (by rw [inc7_toInt hu0 hlt]; omega) (by rw [inc7_toInt hu0 hlt]; omega) hL hF
                                  · have hF := fw hF h134
                                    refine r_iconst (v := 0) dL_law_758 (by decide) ?_
                                    exact absurd (Option.some.inj hF) (by decide)
                                · have hF := fw hF h121
                                  by_cases h135 : ((E.2.2.2.2.2.2 u3.toNatClampNeg) &&& 63) = 14
                                  · have hF := tw hF h135
                                    refine r_tableIn (off := 727) (tgt := 760) dL_law_33 (by rw [h135]; decide) (by rw [h135]; decide) (by rw [h135]; decide) (by decide) ?_
                                    refine r_aload_n dL_law_760 rfl rfl ?_
                                    refine r_aload_n dL_law_761 rfl rfl ?_
                                    refine r_iload_n dL_law_762 rfl rfl ?_
                                    refine r_iconst (v := 1) dL_law_763 (by decide) ?_
                                    refine r_iadd dL_law_764 ?_
                                    obtain ⟨g136, hF⟩ := gd hF
                                    refine r_sld g136 dL_law_765 ?_
                                    refine r_aload_n dL_law_766 rfl rfl ?_
                                    refine r_iload_n dL_law_767 rfl rfl ?_
                                    refine r_iconst (v := 2) dL_law_768 (by decide) ?_
                                    refine r_iadd dL_law_769 ?_
                                    obtain ⟨g137, hF⟩ := gd hF
                                    refine r_sld g137 dL_law_770 ?_
                                    refine r_aload_n dL_law_771 rfl rfl ?_
                                    refine r_iload_n dL_law_772 rfl rfl ?_
                                    refine r_iconst (v := 3) dL_law_773 (by decide) ?_
                                    refine r_iadd dL_law_774 ?_
                                    obtain ⟨g138, hF⟩ := gd hF
                                    refine r_sld g138 dL_law_775 ?_
                                    refine r_aload_n dL_law_776 rfl rfl ?_
                                    refine r_iload_n dL_law_777 rfl rfl ?_
                                    refine r_iconst (v := 4) dL_law_778 (by decide) ?_
                                    refine r_iadd dL_law_779 ?_
                                    obtain ⟨g139, hF⟩ := gd hF
                                    refine r_sld g139 dL_law_780 ?_
                                    refine r_aload_n dL_law_781 rfl rfl ?_
                                    refine r_iload_n dL_law_782 rfl rfl ?_
                                    refine r_iconst (v := 5) dL_law_783 (by decide) ?_
                                    refine r_iadd dL_law_784 ?_
                                    obtain ⟨g140, hF⟩ := gd hF
                                    refine r_sld g140 dL_law_785 ?_
                                    refine r_aload_n dL_law_786 rfl rfl ?_
                                    refine r_iload_n dL_law_787 rfl rfl ?_
                                    refine r_bipush (v := 6) dL_law_788 (by decide) ?_
                                    refine r_iadd dL_law_790 ?_
                                    obtain ⟨g141, hF⟩ := gd hF
                                    refine r_sld g141 dL_law_791 ?_
                                    obtain ⟨x142, hx142, hF⟩ := bnd hF
                                    refine cp_virt_i (As := [.int (E.2.2.2.2.2.2 (u3 + 1).toNatClampNeg), .int (E.2.2.2.2.2.2 (u3 + 2).toNatClampNeg), .int (E.2.2.2.2.2.2 (u3 + 3).toNatClampNeg), .int (E.2.2.2.2.2.2 (u3 + 4).toNatClampNeg), .int (E.2.2.2.2.2.2 (u3 + 5).toNatClampNeg), .int (E.2.2.2.2.2.2 (u3 + 6).toNatClampNeg)]) mi_X11_odds kw_658 kw_659 kw_657 rfl (by decide) (ln_64 hL) (ok_X11_odds hL  hx142) rfl rfl (Nat.le_of_ble_eq_true rfl) ⟨Nat.le_of_ble_eq_true rfl, Nat.le_of_ble_eq_true rfl⟩ ⟨by show _ ≤ 615142; omega, by show _ ≤ 7256822; omega⟩ dL_law_792 ?_
                                    intro hL
                                    refine r_aload_n dL_law_795 rfl rfl ?_
                                    refine r_aload_n dL_law_796 rfl rfl ?_
                                    refine r_iload_n dL_law_797 rfl rfl ?_
                                    refine r_iconst (v := 1) dL_law_798 (by decide) ?_
                                    refine r_iadd dL_law_799 ?_
                                    obtain ⟨g143, hF⟩ := gd hF
                                    refine r_sld g143 dL_law_800 ?_
                                    refine r_aload_n dL_law_801 rfl rfl ?_
                                    refine r_iload_n dL_law_802 rfl rfl ?_
                                    refine r_iconst (v := 2) dL_law_803 (by decide) ?_
                                    refine r_iadd dL_law_804 ?_
                                    obtain ⟨g144, hF⟩ := gd hF
                                    refine r_sld g144 dL_law_805 ?_
                                    refine r_aload_n dL_law_806 rfl rfl ?_
                                    refine r_iload_n dL_law_807 rfl rfl ?_
                                    refine r_iconst (v := 3) dL_law_808 (by decide) ?_
                                    refine r_iadd dL_law_809 ?_
                                    obtain ⟨g145, hF⟩ := gd hF
                                    refine r_sld g145 dL_law_810 ?_
                                    refine r_aload_n dL_law_811 rfl rfl ?_
                                    refine r_iload_n dL_law_812 rfl rfl ?_
                                    refine r_iconst (v := 4) dL_law_813 (by decide) ?_
                                    refine r_iadd dL_law_814 ?_
                                    obtain ⟨g146, hF⟩ := gd hF
                                    refine r_sld g146 dL_law_815 ?_
                                    refine r_aload_n dL_law_816 rfl rfl ?_
                                    refine r_iload_n dL_law_817 rfl rfl ?_
                                    refine r_iconst (v := 5) dL_law_818 (by decide) ?_
                                    refine r_iadd dL_law_819 ?_
                                    obtain ⟨g147, hF⟩ := gd hF
                                    refine r_sld g147 dL_law_820 ?_
                                    refine r_aload_n dL_law_821 rfl rfl ?_
                                    refine r_iload_n dL_law_822 rfl rfl ?_
                                    refine r_bipush (v := 6) dL_law_823 (by decide) ?_
                                    refine r_iadd dL_law_825 ?_
                                    obtain ⟨g148, hF⟩ := gd hF
                                    refine r_sld g148 dL_law_826 ?_
                                    obtain ⟨x149, hx149, hF⟩ := bnd hF
                                    refine c_virt_i (As := [.int (E.2.2.2.2.2.2 (u3 + 1).toNatClampNeg), .int (E.2.2.2.2.2.2 (u3 + 2).toNatClampNeg), .int (E.2.2.2.2.2.2 (u3 + 3).toNatClampNeg), .int (E.2.2.2.2.2.2 (u3 + 4).toNatClampNeg), .int (E.2.2.2.2.2.2 (u3 + 5).toNatClampNeg), .int (E.2.2.2.2.2.2 (u3 + 6).toNatClampNeg)]) mi_X12_odds kw_1293 kw_1294 kw_1292 rfl (by decide) (ln_101 hL) (ok_X12_odds hL  hx149) rfl rfl (Nat.le_of_ble_eq_true rfl) ⟨Nat.le_of_ble_eq_true rfl, Nat.le_of_ble_eq_true rfl⟩ ⟨by show _ ≤ 615142; omega, by show _ ≤ 7256822; omega⟩ dL_law_827 ?_
                                    refine r_icmp_eq (tgt := 1577) dL_law_830 (by decide) (fun h150 => ?_) (fun h150 => ?_)
                                    · have hF := tw hF h150
                                      refine r_iinc (v := (u3 + 7)) (ls' := [(3, .int (u3 + 7)), (0, .ref 21), (1, .ref 64), (2, .ref 101)]) dL_law_1577 rfl rfl (by decide) rfl ?_
                                      refine r_goto (tgt := 18) dL_law_1580 (by decide) ?_
                                      refine r_sub (ls' := [(0, .ref 21), (1, .ref 64), (2, .ref 101), (3, .int (u3 + 7))]) [1, 2, 3, 0] rfl ?_
                                      exact ih (u3 + 7) Tv x149.2 Jv x142.2.2 kc ks (by rw [inc7_toInt hu0 hlt]; omega) (by rw [inc7_toInt hu0 hlt]; omega) (by rw [inc7_toInt hu0 hlt]; omega) (by rw [inc7_toInt hu0 hlt]; omega) hL hF
                                    · have hF := fw hF h150
                                      refine r_iconst (v := 0) dL_law_833 (by decide) ?_
                                      exact absurd (Option.some.inj hF) (by decide)
                                  · have hF := fw hF h135
                                    by_cases h151 : ((E.2.2.2.2.2.2 u3.toNatClampNeg) &&& 63) = 15
                                    · have hF := tw hF h151
                                      refine r_tableIn (off := 802) (tgt := 835) dL_law_33 (by rw [h151]; decide) (by rw [h151]; decide) (by rw [h151]; decide) (by decide) ?_
                                      refine r_aload_n dL_law_835 rfl rfl ?_
                                      refine r_aload_n dL_law_836 rfl rfl ?_
                                      refine r_iload_n dL_law_837 rfl rfl ?_
                                      refine r_iconst (v := 1) dL_law_838 (by decide) ?_
                                      refine r_iadd dL_law_839 ?_
                                      obtain ⟨g152, hF⟩ := gd hF
                                      refine r_sld g152 dL_law_840 ?_
                                      refine r_aload_n dL_law_841 rfl rfl ?_
                                      refine r_iload_n dL_law_842 rfl rfl ?_
                                      refine r_iconst (v := 2) dL_law_843 (by decide) ?_
                                      refine r_iadd dL_law_844 ?_
                                      obtain ⟨g153, hF⟩ := gd hF
                                      refine r_sld g153 dL_law_845 ?_
                                      refine r_aload_n dL_law_846 rfl rfl ?_
                                      refine r_iload_n dL_law_847 rfl rfl ?_
                                      refine r_iconst (v := 3) dL_law_848 (by decide) ?_
                                      refine r_iadd dL_law_849 ?_
                                      obtain ⟨g154, hF⟩ := gd hF
                                      refine r_sld g154 dL_law_850 ?_
                                      refine r_aload_n dL_law_851 rfl rfl ?_
                                      refine r_iload_n dL_law_852 rfl rfl ?_
                                      refine r_iconst (v := 4) dL_law_853 (by decide) ?_
                                      refine r_iadd dL_law_854 ?_
                                      obtain ⟨g155, hF⟩ := gd hF
                                      refine r_sld g155 dL_law_855 ?_
                                      obtain ⟨x156, hx156, hF⟩ := bnd hF
                                      refine cp_virt_i (As := [.int (E.2.2.2.2.2.2 (u3 + 1).toNatClampNeg), .int (E.2.2.2.2.2.2 (u3 + 2).toNatClampNeg), .int (E.2.2.2.2.2.2 (u3 + 3).toNatClampNeg), .int (E.2.2.2.2.2.2 (u3 + 4).toNatClampNeg)]) mi_X11_aim kw_676 kw_677 kw_675 rfl (by decide) (ln_64 hL) (ok_X11_aim hL  hx156) rfl rfl (Nat.le_of_ble_eq_true rfl) ⟨Nat.le_of_ble_eq_true rfl, Nat.le_of_ble_eq_true rfl⟩ ⟨by show _ ≤ 615142; omega, by show _ ≤ 7256822; omega⟩ dL_law_856 ?_
                                      intro hL
                                      refine r_aload_n dL_law_859 rfl rfl ?_
                                      refine r_aload_n dL_law_860 rfl rfl ?_
                                      refine r_iload_n dL_law_861 rfl rfl ?_
                                      refine r_iconst (v := 1) dL_law_862 (by decide) ?_
                                      refine r_iadd dL_law_863 ?_
                                      obtain ⟨g157, hF⟩ := gd hF
                                      refine r_sld g157 dL_law_864 ?_
                                      refine r_aload_n dL_law_865 rfl rfl ?_
                                      refine r_iload_n dL_law_866 rfl rfl ?_
                                      refine r_iconst (v := 2) dL_law_867 (by decide) ?_
                                      refine r_iadd dL_law_868 ?_
                                      obtain ⟨g158, hF⟩ := gd hF
                                      refine r_sld g158 dL_law_869 ?_
                                      refine r_aload_n dL_law_870 rfl rfl ?_
                                      refine r_iload_n dL_law_871 rfl rfl ?_
                                      refine r_iconst (v := 3) dL_law_872 (by decide) ?_
                                      refine r_iadd dL_law_873 ?_
                                      obtain ⟨g159, hF⟩ := gd hF
                                      refine r_sld g159 dL_law_874 ?_
                                      refine r_aload_n dL_law_875 rfl rfl ?_
                                      refine r_iload_n dL_law_876 rfl rfl ?_
                                      refine r_iconst (v := 4) dL_law_877 (by decide) ?_
                                      refine r_iadd dL_law_878 ?_
                                      obtain ⟨g160, hF⟩ := gd hF
                                      refine r_sld g160 dL_law_879 ?_
                                      obtain ⟨x161, hx161, hF⟩ := bnd hF
                                      refine c_virt_i (As := [.int (E.2.2.2.2.2.2 (u3 + 1).toNatClampNeg), .int (E.2.2.2.2.2.2 (u3 + 2).toNatClampNeg), .int (E.2.2.2.2.2.2 (u3 + 3).toNatClampNeg), .int (E.2.2.2.2.2.2 (u3 + 4).toNatClampNeg)]) mi_X12_aim kw_1310 kw_1311 kw_1309 rfl (by decide) (ln_101 hL) (ok_X12_aim hL  hx161) rfl rfl (Nat.le_of_ble_eq_true rfl) ⟨Nat.le_of_ble_eq_true rfl, Nat.le_of_ble_eq_true rfl⟩ ⟨by show _ ≤ 615142; omega, by show _ ≤ 7256822; omega⟩ dL_law_880 ?_
                                      refine r_icmp_eq (tgt := 1577) dL_law_883 (by decide) (fun h162 => ?_) (fun h162 => ?_)
                                      · have hF := tw hF h162
                                        refine r_iinc (v := (u3 + 7)) (ls' := [(3, .int (u3 + 7)), (0, .ref 21), (1, .ref 64), (2, .ref 101)]) dL_law_1577 rfl rfl (by decide) rfl ?_
                                        refine r_goto (tgt := 18) dL_law_1580 (by decide) ?_
                                        refine r_sub (ls' := [(0, .ref 21), (1, .ref 64), (2, .ref 101), (3, .int (u3 + 7))]) [1, 2, 3, 0] rfl ?_
                                        exact ih (u3 + 7) Tv x161.2 Jv x156.2.2 kc ks (by rw [inc7_toInt hu0 hlt]; omega) (by rw [inc7_toInt hu0 hlt]; omega) (by rw [inc7_toInt hu0 hlt]; omega) (by rw [inc7_toInt hu0 hlt]; omega) hL hF
                                      · have hF := fw hF h162
                                        refine r_iconst (v := 0) dL_law_886 (by decide) ?_
                                        exact absurd (Option.some.inj hF) (by decide)
                                    · have hF := fw hF h151
                                      by_cases h163 : ((E.2.2.2.2.2.2 u3.toNatClampNeg) &&& 63) = 16
                                      · have hF := tw hF h163
                                        refine r_tableIn (off := 855) (tgt := 888) dL_law_33 (by rw [h163]; decide) (by rw [h163]; decide) (by rw [h163]; decide) (by decide) ?_
                                        refine r_aload_n dL_law_888 rfl rfl ?_
                                        refine r_aload_n dL_law_889 rfl rfl ?_
                                        refine r_iload_n dL_law_890 rfl rfl ?_
                                        refine r_iconst (v := 1) dL_law_891 (by decide) ?_
                                        refine r_iadd dL_law_892 ?_
                                        obtain ⟨g164, hF⟩ := gd hF
                                        refine r_sld g164 dL_law_893 ?_
                                        refine r_aload_n dL_law_894 rfl rfl ?_
                                        refine r_iload_n dL_law_895 rfl rfl ?_
                                        refine r_iconst (v := 2) dL_law_896 (by decide) ?_
                                        refine r_iadd dL_law_897 ?_
                                        obtain ⟨g165, hF⟩ := gd hF
                                        refine r_sld g165 dL_law_898 ?_
                                        refine r_aload_n dL_law_899 rfl rfl ?_
                                        refine r_iload_n dL_law_900 rfl rfl ?_
                                        refine r_iconst (v := 3) dL_law_901 (by decide) ?_
                                        refine r_iadd dL_law_902 ?_
                                        obtain ⟨g166, hF⟩ := gd hF
                                        refine r_sld g166 dL_law_903 ?_
                                        obtain ⟨x167, hx167, hF⟩ := bnd hF
                                        refine cp_virt_i (As := [.int (E.2.2.2.2.2.2 (u3 + 1).toNatClampNeg), .int (E.2.2.2.2.2.2 (u3 + 2).toNatClampNeg), .int (E.2.2.2.2.2.2 (u3 + 3).toNatClampNeg)]) mi_X11_longest kw_684 kw_685 kw_683 rfl (by decide) (ln_64 hL) (ok_X11_longest hL  hx167) rfl rfl (Nat.le_of_ble_eq_true rfl) ⟨Nat.le_of_ble_eq_true rfl, Nat.le_of_ble_eq_true rfl⟩ ⟨by show _ ≤ 615142; omega, by show _ ≤ 7256822; omega⟩ dL_law_904 ?_
                                        intro hL
                                        refine r_aload_n dL_law_907 rfl rfl ?_
                                        refine r_aload_n dL_law_908 rfl rfl ?_
                                        refine r_iload_n dL_law_909 rfl rfl ?_
                                        refine r_iconst (v := 1) dL_law_910 (by decide) ?_
                                        refine r_iadd dL_law_911 ?_
                                        obtain ⟨g168, hF⟩ := gd hF
                                        refine r_sld g168 dL_law_912 ?_
                                        refine r_aload_n dL_law_913 rfl rfl ?_
                                        refine r_iload_n dL_law_914 rfl rfl ?_
                                        refine r_iconst (v := 2) dL_law_915 (by decide) ?_
                                        refine r_iadd dL_law_916 ?_
                                        obtain ⟨g169, hF⟩ := gd hF
                                        refine r_sld g169 dL_law_917 ?_
                                        refine r_aload_n dL_law_918 rfl rfl ?_
                                        refine r_iload_n dL_law_919 rfl rfl ?_
                                        refine r_iconst (v := 3) dL_law_920 (by decide) ?_
                                        refine r_iadd dL_law_921 ?_
                                        obtain ⟨g170, hF⟩ := gd hF
                                        refine r_sld g170 dL_law_922 ?_
                                        obtain ⟨x171, hx171, hF⟩ := bnd hF
                                        refine c_virt_i (As := [.int (E.2.2.2.2.2.2 (u3 + 1).toNatClampNeg), .int (E.2.2.2.2.2.2 (u3 + 2).toNatClampNeg), .int (E.2.2.2.2.2.2 (u3 + 3).toNatClampNeg)]) mi_X12_longest kw_1314 kw_1315 kw_1313 rfl (by decide) (ln_101 hL) (ok_X12_longest hL  hx171) rfl rfl (Nat.le_of_ble_eq_true rfl) ⟨Nat.le_of_ble_eq_true rfl, Nat.le_of_ble_eq_true rfl⟩ ⟨by show _ ≤ 615142; omega, by show _ ≤ 7256822; omega⟩ dL_law_923 ?_
                                        refine r_icmp_eq (tgt := 1577) dL_law_926 (by decide) (fun h172 => ?_) (fun h172 => ?_)
                                        · have hF := tw hF h172
                                          refine r_iinc (v := (u3 + 7)) (ls' := [(3, .int (u3 + 7)), (0, .ref 21), (1, .ref 64), (2, .ref 101)]) dL_law_1577 rfl rfl (by decide) rfl ?_
                                          refine r_goto (tgt := 18) dL_law_1580 (by decide) ?_
                                          refine r_sub (ls' := [(0, .ref 21), (1, .ref 64), (2, .ref 101), (3, .int (u3 + 7))]) [1, 2, 3, 0] rfl ?_
                                          exact ih (u3 + 7) Tv x171.2 Jv x167.2.2 kc ks (by rw [inc7_toInt hu0 hlt]; omega) (by rw [inc7_toInt hu0 hlt]; omega) (by rw [inc7_toInt hu0 hlt]; omega) (by rw [inc7_toInt hu0 hlt]; omega) hL hF
                                        · have hF := fw hF h172
                                          refine r_iconst (v := 0) dL_law_929 (by decide) ?_
                                          exact absurd (Option.some.inj hF) (by decide)
                                      · have hF := fw hF h163
                                        by_cases h173 : ((E.2.2.2.2.2.2 u3.toNatClampNeg) &&& 63) = 17
                                        · have hF := tw hF h173
                                          refine r_tableIn (off := 898) (tgt := 931) dL_law_33 (by rw [h173]; decide) (by rw [h173]; decide) (by rw [h173]; decide) (by decide) ?_
                                          refine r_aload_n dL_law_931 rfl rfl ?_
                                          refine r_aload_n dL_law_932 rfl rfl ?_
                                          refine r_iload_n dL_law_933 rfl rfl ?_
                                          refine r_iconst (v := 1) dL_law_934 (by decide) ?_
                                          refine r_iadd dL_law_935 ?_
                                          obtain ⟨g174, hF⟩ := gd hF
                                          refine r_sld g174 dL_law_936 ?_
                                          refine r_aload_n dL_law_937 rfl rfl ?_
                                          refine r_iload_n dL_law_938 rfl rfl ?_
                                          refine r_iconst (v := 2) dL_law_939 (by decide) ?_
                                          refine r_iadd dL_law_940 ?_
                                          obtain ⟨g175, hF⟩ := gd hF
                                          refine r_sld g175 dL_law_941 ?_
                                          refine r_aload_n dL_law_942 rfl rfl ?_
                                          refine r_iload_n dL_law_943 rfl rfl ?_
                                          refine r_iconst (v := 3) dL_law_944 (by decide) ?_
                                          refine r_iadd dL_law_945 ?_
                                          obtain ⟨g176, hF⟩ := gd hF
                                          refine r_sld g176 dL_law_946 ?_
                                          refine r_aload_n dL_law_947 rfl rfl ?_
                                          refine r_iload_n dL_law_948 rfl rfl ?_
                                          refine r_iconst (v := 4) dL_law_949 (by decide) ?_
                                          refine r_iadd dL_law_950 ?_
                                          obtain ⟨g177, hF⟩ := gd hF
                                          refine r_sld g177 dL_law_951 ?_
                                          refine r_aload_n dL_law_952 rfl rfl ?_
                                          refine r_iload_n dL_law_953 rfl rfl ?_
                                          refine r_iconst (v := 5) dL_law_954 (by decide) ?_
                                          refine r_iadd dL_law_955 ?_
                                          obtain ⟨g178, hF⟩ := gd hF
                                          refine r_sld g178 dL_law_956 ?_
                                          refine r_aload_n dL_law_957 rfl rfl ?_
                                          refine r_iload_n dL_law_958 rfl rfl ?_
                                          refine r_bipush (v := 6) dL_law_959 (by decide) ?_
                                          refine r_iadd dL_law_961 ?_
                                          obtain ⟨g179, hF⟩ := gd hF
                                          refine r_sld g179 dL_law_962 ?_
                                          obtain ⟨x180, hx180, hF⟩ := bnd hF
                                          refine cp_virt_i (As := [.int (E.2.2.2.2.2.2 (u3 + 1).toNatClampNeg), .int (E.2.2.2.2.2.2 (u3 + 2).toNatClampNeg), .int (E.2.2.2.2.2.2 (u3 + 3).toNatClampNeg), .int (E.2.2.2.2.2.2 (u3 + 4).toNatClampNeg), .int (E.2.2.2.2.2.2 (u3 + 5).toNatClampNeg), .int (E.2.2.2.2.2.2 (u3 + 6).toNatClampNeg)]) mi_X11_fit kw_688 kw_689 kw_687 rfl (by decide) (ln_64 hL) (ok_X11_fit hL  hx180) rfl rfl (Nat.le_of_ble_eq_true rfl) ⟨Nat.le_of_ble_eq_true rfl, Nat.le_of_ble_eq_true rfl⟩ ⟨by show _ ≤ 615142; omega, by show _ ≤ 7256822; omega⟩ dL_law_963 ?_
                                          intro hL
                                          refine r_aload_n dL_law_966 rfl rfl ?_
                                          refine r_aload_n dL_law_967 rfl rfl ?_
                                          refine r_iload_n dL_law_968 rfl rfl ?_
                                          refine r_iconst (v := 1) dL_law_969 (by decide) ?_
                                          refine r_iadd dL_law_970 ?_
                                          obtain ⟨g181, hF⟩ := gd hF
                                          refine r_sld g181 dL_law_971 ?_
                                          refine r_aload_n dL_law_972 rfl rfl ?_
                                          refine r_iload_n dL_law_973 rfl rfl ?_
                                          refine r_iconst (v := 2) dL_law_974 (by decide) ?_
                                          refine r_iadd dL_law_975 ?_
                                          obtain ⟨g182, hF⟩ := gd hF
                                          refine r_sld g182 dL_law_976 ?_
                                          refine r_aload_n dL_law_977 rfl rfl ?_
                                          refine r_iload_n dL_law_978 rfl rfl ?_
                                          refine r_iconst (v := 3) dL_law_979 (by decide) ?_
                                          refine r_iadd dL_law_980 ?_
                                          obtain ⟨g183, hF⟩ := gd hF
                                          refine r_sld g183 dL_law_981 ?_
                                          refine r_aload_n dL_law_982 rfl rfl ?_
                                          refine r_iload_n dL_law_983 rfl rfl ?_
                                          refine r_iconst (v := 4) dL_law_984 (by decide) ?_
                                          refine r_iadd dL_law_985 ?_
                                          obtain ⟨g184, hF⟩ := gd hF
                                          refine r_sld g184 dL_law_986 ?_
                                          refine r_aload_n dL_law_987 rfl rfl ?_
                                          refine r_iload_n dL_law_988 rfl rfl ?_
                                          refine r_iconst (v := 5) dL_law_989 (by decide) ?_
                                          refine r_iadd dL_law_990 ?_
                                          obtain ⟨g185, hF⟩ := gd hF
                                          refine r_sld g185 dL_law_991 ?_
                                          refine r_aload_n dL_law_992 rfl rfl ?_
                                          refine r_iload_n dL_law_993 rfl rfl ?_
                                          refine r_bipush (v := 6) dL_law_994 (by decide) ?_
                                          refine r_iadd dL_law_996 ?_
                                          obtain ⟨g186, hF⟩ := gd hF
                                          refine r_sld g186 dL_law_997 ?_
                                          obtain ⟨x187, hx187, hF⟩ := bnd hF
                                          refine c_virt_i (As := [.int (E.2.2.2.2.2.2 (u3 + 1).toNatClampNeg), .int (E.2.2.2.2.2.2 (u3 + 2).toNatClampNeg), .int (E.2.2.2.2.2.2 (u3 + 3).toNatClampNeg), .int (E.2.2.2.2.2.2 (u3 + 4).toNatClampNeg), .int (E.2.2.2.2.2.2 (u3 + 5).toNatClampNeg), .int (E.2.2.2.2.2.2 (u3 + 6).toNatClampNeg)]) mi_X12_fit kw_1335 kw_1336 kw_1334 rfl (by decide) (ln_101 hL) (ok_X12_fit hL  hx187) rfl rfl (Nat.le_of_ble_eq_true rfl) ⟨Nat.le_of_ble_eq_true rfl, Nat.le_of_ble_eq_true rfl⟩ ⟨by show _ ≤ 615142; omega, by show _ ≤ 7256822; omega⟩ dL_law_998 ?_
                                          refine r_icmp_eq (tgt := 1577) dL_law_1001 (by decide) (fun h188 => ?_) (fun h188 => ?_)
                                          · have hF := tw hF h188
                                            refine r_iinc (v := (u3 + 7)) (ls' := [(3, .int (u3 + 7)), (0, .ref 21), (1, .ref 64), (2, .ref 101)]) dL_law_1577 rfl rfl (by decide) rfl ?_
                                            refine r_goto (tgt := 18) dL_law_1580 (by decide) ?_
                                            refine r_sub (ls' := [(0, .ref 21), (1, .ref 64), (2, .ref 101), (3, .int (u3 + 7))]) [1, 2, 3, 0] rfl ?_
                                            exact ih (u3 + 7) Tv x187.2 Jv x180.2.2 kc ks (by rw [inc7_toInt hu0 hlt]; omega) (by rw [inc7_toInt hu0 hlt]; omega) (by rw [inc7_toInt hu0 hlt]; omega) (by rw [inc7_toInt hu0 hlt]; omega) hL hF
                                          · have hF := fw hF h188
                                            refine r_iconst (v := 0) dL_law_1004 (by decide) ?_
                                            exact absurd (Option.some.inj hF) (by decide)
                                        · have hF := fw hF h173
                                          by_cases h189 : ((E.2.2.2.2.2.2 u3.toNatClampNeg) &&& 63) = 18
                                          · have hF := tw hF h189
                                            refine r_tableIn (off := 973) (tgt := 1006) dL_law_33 (by rw [h189]; decide) (by rw [h189]; decide) (by rw [h189]; decide) (by decide) ?_
                                            refine r_aload_n dL_law_1006 rfl rfl ?_
                                            refine r_aload_n dL_law_1007 rfl rfl ?_
                                            refine r_iload_n dL_law_1008 rfl rfl ?_
                                            refine r_iconst (v := 1) dL_law_1009 (by decide) ?_
                                            refine r_iadd dL_law_1010 ?_
                                            obtain ⟨g190, hF⟩ := gd hF
                                            refine r_sld g190 dL_law_1011 ?_
                                            refine r_aload_n dL_law_1012 rfl rfl ?_
                                            refine r_iload_n dL_law_1013 rfl rfl ?_
                                            refine r_iconst (v := 2) dL_law_1014 (by decide) ?_
                                            refine r_iadd dL_law_1015 ?_
                                            obtain ⟨g191, hF⟩ := gd hF
                                            refine r_sld g191 dL_law_1016 ?_
                                            refine r_aload_n dL_law_1017 rfl rfl ?_
                                            refine r_iload_n dL_law_1018 rfl rfl ?_
                                            refine r_iconst (v := 3) dL_law_1019 (by decide) ?_
                                            refine r_iadd dL_law_1020 ?_
                                            obtain ⟨g192, hF⟩ := gd hF
                                            refine r_sld g192 dL_law_1021 ?_
                                            refine r_aload_n dL_law_1022 rfl rfl ?_
                                            refine r_iload_n dL_law_1023 rfl rfl ?_
                                            refine r_iconst (v := 4) dL_law_1024 (by decide) ?_
                                            refine r_iadd dL_law_1025 ?_
                                            obtain ⟨g193, hF⟩ := gd hF
                                            refine r_sld g193 dL_law_1026 ?_
                                            refine r_aload_n dL_law_1027 rfl rfl ?_
                                            refine r_iload_n dL_law_1028 rfl rfl ?_
                                            refine r_iconst (v := 5) dL_law_1029 (by decide) ?_
                                            refine r_iadd dL_law_1030 ?_
                                            obtain ⟨g194, hF⟩ := gd hF
                                            refine r_sld g194 dL_law_1031 ?_
                                            obtain ⟨x195, hx195, hF⟩ := bnd hF
                                            refine cp_virt_i (As := [.int (E.2.2.2.2.2.2 (u3 + 1).toNatClampNeg), .int (E.2.2.2.2.2.2 (u3 + 2).toNatClampNeg), .int (E.2.2.2.2.2.2 (u3 + 3).toNatClampNeg), .int (E.2.2.2.2.2.2 (u3 + 4).toNatClampNeg), .int (E.2.2.2.2.2.2 (u3 + 5).toNatClampNeg)]) mi_X11_miss kw_711 kw_712 kw_710 rfl (by decide) (ln_64 hL) (ok_X11_miss hL  hx195) rfl rfl (Nat.le_of_ble_eq_true rfl) ⟨Nat.le_of_ble_eq_true rfl, Nat.le_of_ble_eq_true rfl⟩ ⟨by show _ ≤ 615142; omega, by show _ ≤ 7256822; omega⟩ dL_law_1032 ?_
                                            intro hL
                                            refine r_aload_n dL_law_1035 rfl rfl ?_
                                            refine r_aload_n dL_law_1036 rfl rfl ?_
                                            refine r_iload_n dL_law_1037 rfl rfl ?_
                                            refine r_iconst (v := 1) dL_law_1038 (by decide) ?_
                                            refine r_iadd dL_law_1039 ?_
                                            obtain ⟨g196, hF⟩ := gd hF
                                            refine r_sld g196 dL_law_1040 ?_
                                            refine r_aload_n dL_law_1041 rfl rfl ?_
                                            refine r_iload_n dL_law_1042 rfl rfl ?_
                                            refine r_iconst (v := 2) dL_law_1043 (by decide) ?_
                                            refine r_iadd dL_law_1044 ?_
                                            obtain ⟨g197, hF⟩ := gd hF
                                            refine r_sld g197 dL_law_1045 ?_
                                            refine r_aload_n dL_law_1046 rfl rfl ?_
                                            refine r_iload_n dL_law_1047 rfl rfl ?_
                                            refine r_iconst (v := 3) dL_law_1048 (by decide) ?_
                                            refine r_iadd dL_law_1049 ?_
                                            obtain ⟨g198, hF⟩ := gd hF
                                            refine r_sld g198 dL_law_1050 ?_
                                            refine r_aload_n dL_law_1051 rfl rfl ?_
                                            refine r_iload_n dL_law_1052 rfl rfl ?_
                                            refine r_iconst (v := 4) dL_law_1053 (by decide) ?_
                                            refine r_iadd dL_law_1054 ?_
                                            obtain ⟨g199, hF⟩ := gd hF
                                            refine r_sld g199 dL_law_1055 ?_
                                            refine r_aload_n dL_law_1056 rfl rfl ?_
                                            refine r_iload_n dL_law_1057 rfl rfl ?_
                                            refine r_iconst (v := 5) dL_law_1058 (by decide) ?_
                                            refine r_iadd dL_law_1059 ?_
                                            obtain ⟨g200, hF⟩ := gd hF
                                            refine r_sld g200 dL_law_1060 ?_
                                            obtain ⟨x201, hx201, hF⟩ := bnd hF
                                            refine c_virt_i (As := [.int (E.2.2.2.2.2.2 (u3 + 1).toNatClampNeg), .int (E.2.2.2.2.2.2 (u3 + 2).toNatClampNeg), .int (E.2.2.2.2.2.2 (u3 + 3).toNatClampNeg), .int (E.2.2.2.2.2.2 (u3 + 4).toNatClampNeg), .int (E.2.2.2.2.2.2 (u3 + 5).toNatClampNeg)]) mi_X12_miss kw_1318 kw_1319 kw_1317 rfl (by decide) (ln_101 hL) (ok_X12_miss hL  hx201) rfl rfl (Nat.le_of_ble_eq_true rfl) ⟨Nat.le_of_ble_eq_true rfl, Nat.le_of_ble_eq_true rfl⟩ ⟨by show _ ≤ 615142; omega, by show _ ≤ 7256822; omega⟩ dL_law_1061 ?_
                                            refine r_icmp_eq (tgt := 1577) dL_law_1064 (by decide) (fun h202 => ?_) (fun h202 => ?_)
                                            · have hF := tw hF h202
                                              refine r_iinc (v := (u3 + 7)) (ls' := [(3, .int (u3 + 7)), (0, .ref 21), (1, .ref 64), (2, .ref 101)]) dL_law_1577 rfl rfl (by decide) rfl ?_
                                              refine r_goto (tgt := 18) dL_law_1580 (by decide) ?_
                                              refine r_sub (ls' := [(0, .ref 21), (1, .ref 64), (2, .ref 101), (3, .int (u3 + 7))]) [1, 2, 3, 0] rfl ?_
                                              exact ih (u3 + 7) Tv x201.2 Jv x195.2.2 kc ks (by rw [inc7_toInt hu0 hlt]; omega) (by rw [inc7_toInt hu0 hlt]; omega) (by rw [inc7_toInt hu0 hlt]; omega) (by rw [inc7_toInt hu0 hlt]; omega) hL hF
                                            · have hF := fw hF h202
                                              refine r_iconst (v := 0) dL_law_1067 (by decide) ?_
                                              exact absurd (Option.some.inj hF) (by decide)
                                          · have hF := fw hF h189
                                            by_cases h203 : ((E.2.2.2.2.2.2 u3.toNatClampNeg) &&& 63) = 19
                                            · have hF := tw hF h203
                                              refine r_tableIn (off := 1036) (tgt := 1069) dL_law_33 (by rw [h203]; decide) (by rw [h203]; decide) (by rw [h203]; decide) (by decide) ?_
                                              refine r_aload_n dL_law_1069 rfl rfl ?_
                                              refine r_aload_n dL_law_1070 rfl rfl ?_
                                              refine r_iload_n dL_law_1071 rfl rfl ?_
                                              refine r_iconst (v := 1) dL_law_1072 (by decide) ?_
                                              refine r_iadd dL_law_1073 ?_
                                              obtain ⟨g204, hF⟩ := gd hF
                                              refine r_sld g204 dL_law_1074 ?_
                                              refine r_aload_n dL_law_1075 rfl rfl ?_
                                              refine r_iload_n dL_law_1076 rfl rfl ?_
                                              refine r_iconst (v := 2) dL_law_1077 (by decide) ?_
                                              refine r_iadd dL_law_1078 ?_
                                              obtain ⟨g205, hF⟩ := gd hF
                                              refine r_sld g205 dL_law_1079 ?_
                                              refine r_aload_n dL_law_1080 rfl rfl ?_
                                              refine r_iload_n dL_law_1081 rfl rfl ?_
                                              refine r_iconst (v := 3) dL_law_1082 (by decide) ?_
                                              refine r_iadd dL_law_1083 ?_
                                              obtain ⟨g206, hF⟩ := gd hF
                                              refine r_sld g206 dL_law_1084 ?_
                                              refine r_aload_n dL_law_1085 rfl rfl ?_
                                              refine r_iload_n dL_law_1086 rfl rfl ?_
                                              refine r_iconst (v := 4) dL_law_1087 (by decide) ?_
                                              refine r_iadd dL_law_1088 ?_
                                              obtain ⟨g207, hF⟩ := gd hF
                                              refine r_sld g207 dL_law_1089 ?_
                                              obtain ⟨x208, hx208, hF⟩ := bnd hF
                                              refine cp_virt_i (As := [.int (E.2.2.2.2.2.2 (u3 + 1).toNatClampNeg), .int (E.2.2.2.2.2.2 (u3 + 2).toNatClampNeg), .int (E.2.2.2.2.2.2 (u3 + 3).toNatClampNeg), .int (E.2.2.2.2.2.2 (u3 + 4).toNatClampNeg)]) mi_X11_toss kw_715 kw_716 kw_714 rfl (by decide) (ln_64 hL) (ok_X11_toss hL  hx208) rfl rfl (Nat.le_of_ble_eq_true rfl) ⟨Nat.le_of_ble_eq_true rfl, Nat.le_of_ble_eq_true rfl⟩ ⟨by show _ ≤ 615142; omega, by show _ ≤ 7256822; omega⟩ dL_law_1090 ?_
                                              intro hL
                                              refine r_aload_n dL_law_1093 rfl rfl ?_
                                              refine r_aload_n dL_law_1094 rfl rfl ?_
                                              refine r_iload_n dL_law_1095 rfl rfl ?_
                                              refine r_iconst (v := 1) dL_law_1096 (by decide) ?_
                                              refine r_iadd dL_law_1097 ?_
                                              obtain ⟨g209, hF⟩ := gd hF
                                              refine r_sld g209 dL_law_1098 ?_
                                              refine r_aload_n dL_law_1099 rfl rfl ?_
                                              refine r_iload_n dL_law_1100 rfl rfl ?_
                                              refine r_iconst (v := 2) dL_law_1101 (by decide) ?_
                                              refine r_iadd dL_law_1102 ?_
                                              obtain ⟨g210, hF⟩ := gd hF
                                              refine r_sld g210 dL_law_1103 ?_
                                              refine r_aload_n dL_law_1104 rfl rfl ?_
                                              refine r_iload_n dL_law_1105 rfl rfl ?_
                                              refine r_iconst (v := 3) dL_law_1106 (by decide) ?_
                                              refine r_iadd dL_law_1107 ?_
                                              obtain ⟨g211, hF⟩ := gd hF
                                              refine r_sld g211 dL_law_1108 ?_
                                              refine r_aload_n dL_law_1109 rfl rfl ?_
                                              refine r_iload_n dL_law_1110 rfl rfl ?_
                                              refine r_iconst (v := 4) dL_law_1111 (by decide) ?_
                                              refine r_iadd dL_law_1112 ?_
                                              obtain ⟨g212, hF⟩ := gd hF
                                              refine r_sld g212 dL_law_1113 ?_
                                              obtain ⟨x213, hx213, hF⟩ := bnd hF
                                              refine c_virt_i (As := [.int (E.2.2.2.2.2.2 (u3 + 1).toNatClampNeg), .int (E.2.2.2.2.2.2 (u3 + 2).toNatClampNeg), .int (E.2.2.2.2.2.2 (u3 + 3).toNatClampNeg), .int (E.2.2.2.2.2.2 (u3 + 4).toNatClampNeg)]) mi_X12_toss kw_1339 kw_1340 kw_1338 rfl (by decide) (ln_101 hL) (ok_X12_toss hL  hx213) rfl rfl (Nat.le_of_ble_eq_true rfl) ⟨Nat.le_of_ble_eq_true rfl, Nat.le_of_ble_eq_true rfl⟩ ⟨by show _ ≤ 615142; omega, by show _ ≤ 7256822; omega⟩ dL_law_1114 ?_
                                              refine r_icmp_eq (tgt := 1577) dL_law_1117 (by decide) (fun h214 => ?_) (fun h214 => ?_)
                                              · have hF := tw hF h214
                                                refine r_iinc (v := (u3 + 7)) (ls' := [(3, .int (u3 + 7)), (0, .ref 21), (1, .ref 64), (2, .ref 101)]) dL_law_1577 rfl rfl (by decide) rfl ?_
                                                refine r_goto (tgt := 18) dL_law_1580 (by decide) ?_
                                                refine r_sub (ls' := [(0, .ref 21), (1, .ref 64), (2, .ref 101), (3, .int (u3 + 7))]) [1, 2, 3, 0] rfl ?_
                                                exact ih (u3 + 7) Tv x213.2 Jv x208.2.2 kc ks (by rw [inc7_toInt hu0 hlt]; omega) (by rw [inc7_toInt hu0 hlt]; omega) (by rw [inc7_toInt hu0 hlt]; omega) (by rw [inc7_toInt hu0 hlt]; omega) hL hF
                                              · have hF := fw hF h214
                                                refine r_iconst (v := 0) dL_law_1120 (by decide) ?_
                                                exact absurd (Option.some.inj hF) (by decide)
                                            · have hF := fw hF h203
                                              by_cases h215 : ((E.2.2.2.2.2.2 u3.toNatClampNeg) &&& 63) = 20
                                              · have hF := tw hF h215
                                                refine r_tableIn (off := 1089) (tgt := 1122) dL_law_33 (by rw [h215]; decide) (by rw [h215]; decide) (by rw [h215]; decide) (by decide) ?_
                                                refine r_aload_n dL_law_1122 rfl rfl ?_
                                                refine r_aload_n dL_law_1123 rfl rfl ?_
                                                refine r_iload_n dL_law_1124 rfl rfl ?_
                                                refine r_iconst (v := 1) dL_law_1125 (by decide) ?_
                                                refine r_iadd dL_law_1126 ?_
                                                obtain ⟨g216, hF⟩ := gd hF
                                                refine r_sld g216 dL_law_1127 ?_
                                                obtain ⟨x217, hx217, hF⟩ := bnd hF
                                                refine c_virt_i (As := [.int (E.2.2.2.2.2.2 (u3 + 1).toNatClampNeg)]) mi_X11_seed kw_724 kw_725 kw_723 rfl (by decide) (ln_64 hL) (ok_X11_seed hL  hx217) rfl rfl (Nat.le_of_ble_eq_true rfl) ⟨Nat.le_of_ble_eq_true rfl, Nat.le_of_ble_eq_true rfl⟩ ⟨by show _ ≤ 615142; omega, by show _ ≤ 7256822; omega⟩ dL_law_1128 ?_
                                                refine r_aload_n dL_law_1131 rfl rfl ?_
                                                refine r_aload_n dL_law_1132 rfl rfl ?_
                                                refine r_iload_n dL_law_1133 rfl rfl ?_
                                                refine r_iconst (v := 1) dL_law_1134 (by decide) ?_
                                                refine r_iadd dL_law_1135 ?_
                                                obtain ⟨g218, hF⟩ := gd hF
                                                refine r_sld g218 dL_law_1136 ?_
                                                obtain ⟨x219, hx219, hF⟩ := bnd hF
                                                refine c_virt_i (As := [.int (E.2.2.2.2.2.2 (u3 + 1).toNatClampNeg)]) mi_X12_seed kw_1344 kw_1345 kw_1343 rfl (by decide) (ln_101 hL) (ok_X12_seed hL  hx219) rfl rfl (Nat.le_of_ble_eq_true rfl) ⟨Nat.le_of_ble_eq_true rfl, Nat.le_of_ble_eq_true rfl⟩ ⟨by show _ ≤ 615142; omega, by show _ ≤ 7256822; omega⟩ dL_law_1137 ?_
                                                refine r_icmp_eq (tgt := 1577) dL_law_1140 (by decide) (fun h220 => ?_) (fun h220 => ?_)
                                                · have hF := tw hF h220
                                                  refine r_iinc (v := (u3 + 7)) (ls' := [(3, .int (u3 + 7)), (0, .ref 21), (1, .ref 64), (2, .ref 101)]) dL_law_1577 rfl rfl (by decide) rfl ?_
                                                  refine r_goto (tgt := 18) dL_law_1580 (by decide) ?_
                                                  refine r_sub (ls' := [(0, .ref 21), (1, .ref 64), (2, .ref 101), (3, .int (u3 + 7))]) [1, 2, 3, 0] rfl ?_
                                                  exact ih (u3 + 7) Tv x219.2 Jv Pv kc ks (by rw [inc7_toInt hu0 hlt]; omega) (by rw [inc7_toInt hu0 hlt]; omega) (by rw [inc7_toInt hu0 hlt]; omega) (by rw [inc7_toInt hu0 hlt]; omega) hL hF
                                                · have hF := fw hF h220
                                                  refine r_iconst (v := 0) dL_law_1143 (by decide) ?_
                                                  exact absurd (Option.some.inj hF) (by decide)
                                              · have hF := fw hF h215
                                                by_cases h221 : ((E.2.2.2.2.2.2 u3.toNatClampNeg) &&& 63) = 21
                                                · have hF := tw hF h221
                                                  refine r_tableIn (off := 1112) (tgt := 1145) dL_law_33 (by rw [h221]; decide) (by rw [h221]; decide) (by rw [h221]; decide) (by decide) ?_
                                                  refine r_aload_n dL_law_1145 rfl rfl ?_
                                                  refine r_aload_n dL_law_1146 rfl rfl ?_
                                                  refine r_iload_n dL_law_1147 rfl rfl ?_
                                                  refine r_iconst (v := 1) dL_law_1148 (by decide) ?_
                                                  refine r_iadd dL_law_1149 ?_
                                                  obtain ⟨g222, hF⟩ := gd hF
                                                  refine r_sld g222 dL_law_1150 ?_
                                                  obtain ⟨x223, hx223, hF⟩ := bnd hF
                                                  refine cp_virt_i (As := [.int (E.2.2.2.2.2.2 (u3 + 1).toNatClampNeg)]) mi_X11_prove kw_728 kw_729 kw_727 rfl (by decide) (ln_64 hL) (ok_X11_prove hL  hx223) rfl rfl (Nat.le_of_ble_eq_true rfl) ⟨Nat.le_of_ble_eq_true rfl, Nat.le_of_ble_eq_true rfl⟩ ⟨by show _ ≤ 615142; omega, by show _ ≤ 7256822; omega⟩ dL_law_1151 ?_
                                                  intro hL
                                                  refine r_aload_n dL_law_1154 rfl rfl ?_
                                                  refine r_aload_n dL_law_1155 rfl rfl ?_
                                                  refine r_iload_n dL_law_1156 rfl rfl ?_
                                                  refine r_iconst (v := 1) dL_law_1157 (by decide) ?_
                                                  refine r_iadd dL_law_1158 ?_
                                                  obtain ⟨g224, hF⟩ := gd hF
                                                  refine r_sld g224 dL_law_1159 ?_
                                                  obtain ⟨x225, hx225, hF⟩ := bnd hF
                                                  refine c_virt_i (As := [.int (E.2.2.2.2.2.2 (u3 + 1).toNatClampNeg)]) mi_X12_prove kw_1348 kw_1349 kw_1347 rfl (by decide) (ln_101 hL) (ok_X12_prove hL  hx225) rfl rfl (Nat.le_of_ble_eq_true rfl) ⟨Nat.le_of_ble_eq_true rfl, Nat.le_of_ble_eq_true rfl⟩ ⟨by show _ ≤ 615142; omega, by show _ ≤ 7256822; omega⟩ dL_law_1160 ?_
                                                  refine r_icmp_eq (tgt := 1577) dL_law_1163 (by decide) (fun h226 => ?_) (fun h226 => ?_)
                                                  · have hF := tw hF h226
                                                    refine r_iinc (v := (u3 + 7)) (ls' := [(3, .int (u3 + 7)), (0, .ref 21), (1, .ref 64), (2, .ref 101)]) dL_law_1577 rfl rfl (by decide) rfl ?_
                                                    refine r_goto (tgt := 18) dL_law_1580 (by decide) ?_
                                                    refine r_sub (ls' := [(0, .ref 21), (1, .ref 64), (2, .ref 101), (3, .int (u3 + 7))]) [1, 2, 3, 0] rfl ?_
                                                    exact ih (u3 + 7) Tv x225.2 Jv x223.2.2 kc ks (by rw [inc7_toInt hu0 hlt]; omega) (by rw [inc7_toInt hu0 hlt]; omega) (by rw [inc7_toInt hu0 hlt]; omega) (by rw [inc7_toInt hu0 hlt]; omega) hL hF
                                                  · have hF := fw hF h226
                                                    refine r_iconst (v := 0) dL_law_1166 (by decide) ?_
                                                    exact absurd (Option.some.inj hF) (by decide)
                                                · have hF := fw hF h221
                                                  by_cases h227 : ((E.2.2.2.2.2.2 u3.toNatClampNeg) &&& 63) = 22
                                                  · have hF := tw hF h227
                                                    refine r_tableIn (off := 1135) (tgt := 1168) dL_law_33 (by rw [h227]; decide) (by rw [h227]; decide) (by rw [h227]; decide) (by decide) ?_
                                                    refine r_aload_n dL_law_1168 rfl rfl ?_
                                                    refine r_aload_n dL_law_1169 rfl rfl ?_
                                                    refine r_iload_n dL_law_1170 rfl rfl ?_
                                                    refine r_iconst (v := 1) dL_law_1171 (by decide) ?_
                                                    refine r_iadd dL_law_1172 ?_
                                                    obtain ⟨g228, hF⟩ := gd hF
                                                    refine r_sld g228 dL_law_1173 ?_
                                                    refine r_aload_n dL_law_1174 rfl rfl ?_
                                                    refine r_iload_n dL_law_1175 rfl rfl ?_
                                                    refine r_iconst (v := 2) dL_law_1176 (by decide) ?_
                                                    refine r_iadd dL_law_1177 ?_
                                                    obtain ⟨g229, hF⟩ := gd hF
                                                    refine r_sld g229 dL_law_1178 ?_
                                                    obtain ⟨x230, hx230, hF⟩ := bnd hF
                                                    refine c_virt_i (As := [.int (E.2.2.2.2.2.2 (u3 + 1).toNatClampNeg), .int (E.2.2.2.2.2.2 (u3 + 2).toNatClampNeg)]) mi_X11_row kw_733 kw_734 kw_732 rfl (by decide) (ln_64 hL) (ok_X11_row hL  hx230) rfl rfl (Nat.le_of_ble_eq_true rfl) ⟨Nat.le_of_ble_eq_true rfl, Nat.le_of_ble_eq_true rfl⟩ ⟨by show _ ≤ 615142; omega, by show _ ≤ 7256822; omega⟩ dL_law_1179 ?_
                                                    refine r_aload_n dL_law_1182 rfl rfl ?_
                                                    refine r_aload_n dL_law_1183 rfl rfl ?_
                                                    refine r_iload_n dL_law_1184 rfl rfl ?_
                                                    refine r_iconst (v := 1) dL_law_1185 (by decide) ?_
                                                    refine r_iadd dL_law_1186 ?_
                                                    obtain ⟨g231, hF⟩ := gd hF
                                                    refine r_sld g231 dL_law_1187 ?_
                                                    refine r_aload_n dL_law_1188 rfl rfl ?_
                                                    refine r_iload_n dL_law_1189 rfl rfl ?_
                                                    refine r_iconst (v := 2) dL_law_1190 (by decide) ?_
                                                    refine r_iadd dL_law_1191 ?_
                                                    obtain ⟨g232, hF⟩ := gd hF
                                                    refine r_sld g232 dL_law_1192 ?_
                                                    obtain ⟨x233, hx233, hF⟩ := bnd hF
                                                    refine c_virt_i (As := [.int (E.2.2.2.2.2.2 (u3 + 1).toNatClampNeg), .int (E.2.2.2.2.2.2 (u3 + 2).toNatClampNeg)]) mi_X12_row kw_1356 kw_1357 kw_1355 rfl (by decide) (ln_101 hL) (ok_X12_row hL  hx233) rfl rfl (Nat.le_of_ble_eq_true rfl) ⟨Nat.le_of_ble_eq_true rfl, Nat.le_of_ble_eq_true rfl⟩ ⟨by show _ ≤ 615142; omega, by show _ ≤ 7256822; omega⟩ dL_law_1193 ?_
                                                    refine r_icmp_eq (tgt := 1577) dL_law_1196 (by decide) (fun h234 => ?_) (fun h234 => ?_)
                                                    · have hF := tw hF h234
                                                      refine r_iinc (v := (u3 + 7)) (ls' := [(3, .int (u3 + 7)), (0, .ref 21), (1, .ref 64), (2, .ref 101)]) dL_law_1577 rfl rfl (by decide) rfl ?_
                                                      refine r_goto (tgt := 18) dL_law_1580 (by decide) ?_
                                                      refine r_sub (ls' := [(0, .ref 21), (1, .ref 64), (2, .ref 101), (3, .int (u3 + 7))]) [1, 2, 3, 0] rfl ?_
                                                      exact ih (u3 + 7) Tv Iv Jv Pv kc ks (by rw [inc7_toInt hu0 hlt]; omega) (by rw [inc7_toInt hu0 hlt]; omega) (by rw [inc7_toInt hu0 hlt]; omega) (by rw [inc7_toInt hu0 hlt]; omega) hL hF
                                                    · have hF := fw hF h234
                                                      refine r_iconst (v := 0) dL_law_1199 (by decide) ?_
                                                      exact absurd (Option.some.inj hF) (by decide)
                                                  · have hF := fw hF h227
                                                    by_cases h235 : ((E.2.2.2.2.2.2 u3.toNatClampNeg) &&& 63) = 23
                                                    · have hF := tw hF h235
                                                      refine r_tableIn (off := 1168) (tgt := 1201) dL_law_33 (by rw [h235]; decide) (by rw [h235]; decide) (by rw [h235]; decide) (by decide) ?_
                                                      refine r_aload_n dL_law_1201 rfl rfl ?_
                                                      refine r_aload_n dL_law_1202 rfl rfl ?_
                                                      refine r_iload_n dL_law_1203 rfl rfl ?_
                                                      refine r_iconst (v := 1) dL_law_1204 (by decide) ?_
                                                      refine r_iadd dL_law_1205 ?_
                                                      obtain ⟨g236, hF⟩ := gd hF
                                                      refine r_sld g236 dL_law_1206 ?_
                                                      refine r_aload_n dL_law_1207 rfl rfl ?_
                                                      refine r_iload_n dL_law_1208 rfl rfl ?_
                                                      refine r_iconst (v := 2) dL_law_1209 (by decide) ?_
                                                      refine r_iadd dL_law_1210 ?_
                                                      obtain ⟨g237, hF⟩ := gd hF
                                                      refine r_sld g237 dL_law_1211 ?_
                                                      refine r_aload_n dL_law_1212 rfl rfl ?_
                                                      refine r_iload_n dL_law_1213 rfl rfl ?_
                                                      refine r_iconst (v := 3) dL_law_1214 (by decide) ?_
                                                      refine r_iadd dL_law_1215 ?_
                                                      obtain ⟨g238, hF⟩ := gd hF
                                                      refine r_sld g238 dL_law_1216 ?_
                                                      obtain ⟨x239, hx239, hF⟩ := bnd hF
                                                      refine c_virt_i (As := [.int (E.2.2.2.2.2.2 (u3 + 1).toNatClampNeg), .int (E.2.2.2.2.2.2 (u3 + 2).toNatClampNeg), .int (E.2.2.2.2.2.2 (u3 + 3).toNatClampNeg)]) mi_X11_alterRow kw_741 kw_742 kw_740 rfl (by decide) (ln_64 hL) (ok_X11_alterRow hL  hx239) rfl rfl (Nat.le_of_ble_eq_true rfl) ⟨Nat.le_of_ble_eq_true rfl, Nat.le_of_ble_eq_true rfl⟩ ⟨by show _ ≤ 615142; omega, by show _ ≤ 7256822; omega⟩ dL_law_1217 ?_
                                                      refine r_aload_n dL_law_1220 rfl rfl ?_
                                                      refine r_aload_n dL_law_1221 rfl rfl ?_
                                                      refine r_iload_n dL_law_1222 rfl rfl ?_
                                                      refine r_iconst (v := 1) dL_law_1223 (by decide) ?_
                                                      refine r_iadd dL_law_1224 ?_
                                                      obtain ⟨g240, hF⟩ := gd hF
                                                      refine r_sld g240 dL_law_1225 ?_
                                                      refine r_aload_n dL_law_1226 rfl rfl ?_
                                                      refine r_iload_n dL_law_1227 rfl rfl ?_
                                                      refine r_iconst (v := 2) dL_law_1228 (by decide) ?_
                                                      refine r_iadd dL_law_1229 ?_
                                                      obtain ⟨g241, hF⟩ := gd hF
                                                      refine r_sld g241 dL_law_1230 ?_
                                                      refine r_aload_n dL_law_1231 rfl rfl ?_
                                                      refine r_iload_n dL_law_1232 rfl rfl ?_
                                                      refine r_iconst (v := 3) dL_law_1233 (by decide) ?_
                                                      refine r_iadd dL_law_1234 ?_
                                                      obtain ⟨g242, hF⟩ := gd hF
                                                      refine r_sld g242 dL_law_1235 ?_
                                                      obtain ⟨x243, hx243, hF⟩ := bnd hF
                                                      refine c_virt_i (As := [.int (E.2.2.2.2.2.2 (u3 + 1).toNatClampNeg), .int (E.2.2.2.2.2.2 (u3 + 2).toNatClampNeg), .int (E.2.2.2.2.2.2 (u3 + 3).toNatClampNeg)]) mi_X12_alterRow kw_1364 kw_1365 kw_1363 rfl (by decide) (ln_101 hL) (ok_X12_alterRow hL  hx243) rfl rfl (Nat.le_of_ble_eq_true rfl) ⟨Nat.le_of_ble_eq_true rfl, Nat.le_of_ble_eq_true rfl⟩ ⟨by show _ ≤ 615142; omega, by show _ ≤ 7256822; omega⟩ dL_law_1236 ?_
                                                      refine r_icmp_eq (tgt := 1577) dL_law_1239 (by decide) (fun h244 => ?_) (fun h244 => ?_)
                                                      · have hF := tw hF h244
                                                        refine r_iinc (v := (u3 + 7)) (ls' := [(3, .int (u3 + 7)), (0, .ref 21), (1, .ref 64), (2, .ref 101)]) dL_law_1577 rfl rfl (by decide) rfl ?_
                                                        refine r_goto (tgt := 18) dL_law_1580 (by decide) ?_
                                                        refine r_sub (ls' := [(0, .ref 21), (1, .ref 64), (2, .ref 101), (3, .int (u3 + 7))]) [1, 2, 3, 0] rfl ?_
                                                        exact ih (u3 + 7) Tv x243.2 Jv Pv kc ks (by rw [inc7_toInt hu0 hlt]; omega) (by rw [inc7_toInt hu0 hlt]; omega) (by rw [inc7_toInt hu0 hlt]; omega) (by rw [inc7_toInt hu0 hlt]; omega) hL hF
                                                      · have hF := fw hF h244
                                                        refine r_iconst (v := 0) dL_law_1242 (by decide) ?_
                                                        exact absurd (Option.some.inj hF) (by decide)
                                                    · have hF := fw hF h235
                                                      by_cases h245 : ((E.2.2.2.2.2.2 u3.toNatClampNeg) &&& 63) = 24
                                                      · have hF := tw hF h245
                                                        refine r_tableIn (off := 1211) (tgt := 1244) dL_law_33 (by rw [h245]; decide) (by rw [h245]; decide) (by rw [h245]; decide) (by decide) ?_
                                                        refine r_aload_n dL_law_1244 rfl rfl ?_
                                                        obtain ⟨x246, hx246, hF⟩ := bnd hF
                                                        refine cp_virt_i (As := []) mi_X11_judge kw_745 kw_746 kw_744 rfl (by decide) (ln_64 hL) (ok_X11_judge hL  hx246) rfl rfl (Nat.le_of_ble_eq_true rfl) ⟨Nat.le_of_ble_eq_true rfl, Nat.le_of_ble_eq_true rfl⟩ ⟨by show _ ≤ 615142; omega, by show _ ≤ 7256822; omega⟩ dL_law_1245 ?_
                                                        intro hL
                                                        refine r_aload_n dL_law_1248 rfl rfl ?_
                                                        obtain ⟨x247, hx247, hF⟩ := bnd hF
                                                        refine c_virt_i (As := []) mi_X12_judge kw_1368 kw_1369 kw_1367 rfl (by decide) (ln_101 hL) (ok_X12_judge hL  hx247) rfl rfl (Nat.le_of_ble_eq_true rfl) ⟨Nat.le_of_ble_eq_true rfl, Nat.le_of_ble_eq_true rfl⟩ ⟨by show _ ≤ 615142; omega, by show _ ≤ 7256822; omega⟩ dL_law_1249 ?_
                                                        refine r_icmp_eq (tgt := 1577) dL_law_1252 (by decide) (fun h248 => ?_) (fun h248 => ?_)
                                                        · have hF := tw hF h248
                                                          refine r_iinc (v := (u3 + 7)) (ls' := [(3, .int (u3 + 7)), (0, .ref 21), (1, .ref 64), (2, .ref 101)]) dL_law_1577 rfl rfl (by decide) rfl ?_
                                                          refine r_goto (tgt := 18) dL_law_1580 (by decide) ?_
                                                          refine r_sub (ls' := [(0, .ref 21), (1, .ref 64), (2, .ref 101), (3, .int (u3 + 7))]) [1, 2, 3, 0] rfl ?_
                                                          exact ih (u3 + 7) Tv x247.2 Jv x246.2.2 kc ks (by rw [inc7_toInt hu0 hlt]; omega) (by rw [inc7_toInt hu0 hlt]; omega) (by rw [inc7_toInt hu0 hlt]; omega) (by rw [inc7_toInt hu0 hlt]; omega) hL hF
                                                        · have hF := fw hF h248
                                                          refine r_iconst (v := 0) dL_law_1255 (by decide) ?_
                                                          exact absurd (Option.some.inj hF) (by decide)
                                                      · have hF := fw hF h245
                                                        by_cases h249 : ((E.2.2.2.2.2.2 u3.toNatClampNeg) &&& 63) = 25
                                                        · have hF := tw hF h249
                                                          refine r_tableIn (off := 1224) (tgt := 1257) dL_law_33 (by rw [h249]; decide) (by rw [h249]; decide) (by rw [h249]; decide) (by decide) ?_
                                                          refine r_aload_n dL_law_1257 rfl rfl ?_
                                                          refine r_aload_n dL_law_1258 rfl rfl ?_
                                                          refine r_iload_n dL_law_1259 rfl rfl ?_
                                                          refine r_iconst (v := 1) dL_law_1260 (by decide) ?_
                                                          refine r_iadd dL_law_1261 ?_
                                                          obtain ⟨g250, hF⟩ := gd hF
                                                          refine r_sld g250 dL_law_1262 ?_
                                                          refine r_aload_n dL_law_1263 rfl rfl ?_
                                                          refine r_iload_n dL_law_1264 rfl rfl ?_
                                                          refine r_iconst (v := 2) dL_law_1265 (by decide) ?_
                                                          refine r_iadd dL_law_1266 ?_
                                                          obtain ⟨g251, hF⟩ := gd hF
                                                          refine r_sld g251 dL_law_1267 ?_
                                                          refine r_aload_n dL_law_1268 rfl rfl ?_
                                                          refine r_iload_n dL_law_1269 rfl rfl ?_
                                                          refine r_iconst (v := 3) dL_law_1270 (by decide) ?_
                                                          refine r_iadd dL_law_1271 ?_
                                                          obtain ⟨g252, hF⟩ := gd hF
                                                          refine r_sld g252 dL_law_1272 ?_
                                                          obtain ⟨x253, hx253, hF⟩ := bnd hF
                                                          refine c_virt_i (As := [.int (E.2.2.2.2.2.2 (u3 + 1).toNatClampNeg), .int (E.2.2.2.2.2.2 (u3 + 2).toNatClampNeg), .int (E.2.2.2.2.2.2 (u3 + 3).toNatClampNeg)]) mi_X11_sheet kw_749 kw_750 kw_748 rfl (by decide) (ln_64 hL) (ok_X11_sheet hL  hx253) rfl rfl (Nat.le_of_ble_eq_true rfl) ⟨Nat.le_of_ble_eq_true rfl, Nat.le_of_ble_eq_true rfl⟩ ⟨by show _ ≤ 615142; omega, by show _ ≤ 7256822; omega⟩ dL_law_1273 ?_
                                                          refine r_aload_n dL_law_1276 rfl rfl ?_
                                                          refine r_aload_n dL_law_1277 rfl rfl ?_
                                                          refine r_iload_n dL_law_1278 rfl rfl ?_
                                                          refine r_iconst (v := 1) dL_law_1279 (by decide) ?_
                                                          refine r_iadd dL_law_1280 ?_
                                                          obtain ⟨g254, hF⟩ := gd hF
                                                          refine r_sld g254 dL_law_1281 ?_
                                                          refine r_aload_n dL_law_1282 rfl rfl ?_
                                                          refine r_iload_n dL_law_1283 rfl rfl ?_
                                                          refine r_iconst (v := 2) dL_law_1284 (by decide) ?_
                                                          refine r_iadd dL_law_1285 ?_
                                                          obtain ⟨g255, hF⟩ := gd hF
                                                          refine r_sld g255 dL_law_1286 ?_
                                                          refine r_aload_n dL_law_1287 rfl rfl ?_
                                                          refine r_iload_n dL_law_1288 rfl rfl ?_
                                                          refine r_iconst (v := 3) dL_law_1289 (by decide) ?_
                                                          refine r_iadd dL_law_1290 ?_
                                                          obtain ⟨g256, hF⟩ := gd hF
                                                          refine r_sld g256 dL_law_1291 ?_
                                                          obtain ⟨x257, hx257, hF⟩ := bnd hF
                                                          refine c_virt_i (As := [.int (E.2.2.2.2.2.2 (u3 + 1).toNatClampNeg), .int (E.2.2.2.2.2.2 (u3 + 2).toNatClampNeg), .int (E.2.2.2.2.2.2 (u3 + 3).toNatClampNeg)]) mi_X12_sheet kw_1372 kw_1373 kw_1371 rfl (by decide) (ln_101 hL) (ok_X12_sheet hL  hx257) rfl rfl (Nat.le_of_ble_eq_true rfl) ⟨Nat.le_of_ble_eq_true rfl, Nat.le_of_ble_eq_true rfl⟩ ⟨by show _ ≤ 615142; omega, by show _ ≤ 7256822; omega⟩ dL_law_1292 ?_
                                                          refine r_icmp_eq (tgt := 1577) dL_law_1295 (by decide) (fun h258 => ?_) (fun h258 => ?_)
                                                          · have hF := tw hF h258
                                                            refine r_iinc (v := (u3 + 7)) (ls' := [(3, .int (u3 + 7)), (0, .ref 21), (1, .ref 64), (2, .ref 101)]) dL_law_1577 rfl rfl (by decide) rfl ?_
                                                            refine r_goto (tgt := 18) dL_law_1580 (by decide) ?_
                                                            refine r_sub (ls' := [(0, .ref 21), (1, .ref 64), (2, .ref 101), (3, .int (u3 + 7))]) [1, 2, 3, 0] rfl ?_
                                                            exact ih (u3 + 7) Tv x257.2.1 x257.2.2 Pv kc ks (by rw [inc7_toInt hu0 hlt]; omega) (by rw [inc7_toInt hu0 hlt]; omega) (by rw [inc7_toInt hu0 hlt]; omega) (by rw [inc7_toInt hu0 hlt]; omega) hL hF
                                                          · have hF := fw hF h258
                                                            refine r_iconst (v := 0) dL_law_1298 (by decide) ?_
                                                            exact absurd (Option.some.inj hF) (by decide)
                                                        · have hF := fw hF h249
                                                          by_cases h259 : ((E.2.2.2.2.2.2 u3.toNatClampNeg) &&& 63) = 26
                                                          · have hF := tw hF h259
                                                            refine r_tableIn (off := 1267) (tgt := 1300) dL_law_33 (by rw [h259]; decide) (by rw [h259]; decide) (by rw [h259]; decide) (by decide) ?_
                                                            refine r_aload_n dL_law_1300 rfl rfl ?_
                                                            refine r_aload_n dL_law_1301 rfl rfl ?_
                                                            refine r_iload_n dL_law_1302 rfl rfl ?_
                                                            refine r_iconst (v := 1) dL_law_1303 (by decide) ?_
                                                            refine r_iadd dL_law_1304 ?_
                                                            obtain ⟨g260, hF⟩ := gd hF
                                                            refine r_sld g260 dL_law_1305 ?_
                                                            refine r_aload_n dL_law_1306 rfl rfl ?_
                                                            refine r_iload_n dL_law_1307 rfl rfl ?_
                                                            refine r_iconst (v := 2) dL_law_1308 (by decide) ?_
                                                            refine r_iadd dL_law_1309 ?_
                                                            obtain ⟨g261, hF⟩ := gd hF
                                                            refine r_sld g261 dL_law_1310 ?_
                                                            refine r_aload_n dL_law_1311 rfl rfl ?_
                                                            refine r_iload_n dL_law_1312 rfl rfl ?_
                                                            refine r_iconst (v := 3) dL_law_1313 (by decide) ?_
                                                            refine r_iadd dL_law_1314 ?_
                                                            obtain ⟨g262, hF⟩ := gd hF
                                                            refine r_sld g262 dL_law_1315 ?_
                                                            obtain ⟨x263, hx263, hF⟩ := bnd hF
                                                            refine c_virt_i (As := [.int (E.2.2.2.2.2.2 (u3 + 1).toNatClampNeg), .int (E.2.2.2.2.2.2 (u3 + 2).toNatClampNeg), .int (E.2.2.2.2.2.2 (u3 + 3).toNatClampNeg)]) mi_X11_put kw_757 kw_758 kw_756 rfl (by decide) (ln_64 hL) (ok_X11_put hL  hx263) rfl rfl (Nat.le_of_ble_eq_true rfl) ⟨Nat.le_of_ble_eq_true rfl, Nat.le_of_ble_eq_true rfl⟩ ⟨by show _ ≤ 615142; omega, by show _ ≤ 7256822; omega⟩ dL_law_1316 ?_
                                                            refine r_aload_n dL_law_1319 rfl rfl ?_
                                                            refine r_aload_n dL_law_1320 rfl rfl ?_
                                                            refine r_iload_n dL_law_1321 rfl rfl ?_
                                                            refine r_iconst (v := 1) dL_law_1322 (by decide) ?_
                                                            refine r_iadd dL_law_1323 ?_
                                                            obtain ⟨g264, hF⟩ := gd hF
                                                            refine r_sld g264 dL_law_1324 ?_
                                                            refine r_aload_n dL_law_1325 rfl rfl ?_
                                                            refine r_iload_n dL_law_1326 rfl rfl ?_
                                                            refine r_iconst (v := 2) dL_law_1327 (by decide) ?_
                                                            refine r_iadd dL_law_1328 ?_
                                                            obtain ⟨g265, hF⟩ := gd hF
                                                            refine r_sld g265 dL_law_1329 ?_
                                                            refine r_aload_n dL_law_1330 rfl rfl ?_
                                                            refine r_iload_n dL_law_1331 rfl rfl ?_
                                                            refine r_iconst (v := 3) dL_law_1332 (by decide) ?_
                                                            refine r_iadd dL_law_1333 ?_
                                                            obtain ⟨g266, hF⟩ := gd hF
                                                            refine r_sld g266 dL_law_1334 ?_
                                                            obtain ⟨x267, hx267, hF⟩ := bnd hF
                                                            refine c_virt_i (As := [.int (E.2.2.2.2.2.2 (u3 + 1).toNatClampNeg), .int (E.2.2.2.2.2.2 (u3 + 2).toNatClampNeg), .int (E.2.2.2.2.2.2 (u3 + 3).toNatClampNeg)]) mi_X12_put kw_1376 kw_1377 kw_1375 rfl (by decide) (ln_101 hL) (ok_X12_put hL  hx267) rfl rfl (Nat.le_of_ble_eq_true rfl) ⟨Nat.le_of_ble_eq_true rfl, Nat.le_of_ble_eq_true rfl⟩ ⟨by show _ ≤ 615142; omega, by show _ ≤ 7256822; omega⟩ dL_law_1335 ?_
                                                            refine r_icmp_eq (tgt := 1577) dL_law_1338 (by decide) (fun h268 => ?_) (fun h268 => ?_)
                                                            · have hF := tw hF h268
                                                              refine r_iinc (v := (u3 + 7)) (ls' := [(3, .int (u3 + 7)), (0, .ref 21), (1, .ref 64), (2, .ref 101)]) dL_law_1577 rfl rfl (by decide) rfl ?_
                                                              refine r_goto (tgt := 18) dL_law_1580 (by decide) ?_
                                                              refine r_sub (ls' := [(0, .ref 21), (1, .ref 64), (2, .ref 101), (3, .int (u3 + 7))]) [1, 2, 3, 0] rfl ?_
                                                              exact ih (u3 + 7) Tv Iv x267.2 Pv kc ks (by rw [inc7_toInt hu0 hlt]; omega) (by rw [inc7_toInt hu0 hlt]; omega) (by rw [inc7_toInt hu0 hlt]; omega) (by rw [inc7_toInt hu0 hlt]; omega) hL hF
                                                            · have hF := fw hF h268
                                                              refine r_iconst (v := 0) dL_law_1341 (by decide) ?_
                                                              exact absurd (Option.some.inj hF) (by decide)
                                                          · have hF := fw hF h259
                                                            by_cases h269 : ((E.2.2.2.2.2.2 u3.toNatClampNeg) &&& 63) = 27
                                                            · have hF := tw hF h269
                                                              refine r_tableIn (off := 1310) (tgt := 1343) dL_law_33 (by rw [h269]; decide) (by rw [h269]; decide) (by rw [h269]; decide) (by decide) ?_
                                                              refine r_aload_n dL_law_1343 rfl rfl ?_
                                                              refine r_aload_n dL_law_1344 rfl rfl ?_
                                                              refine r_iload_n dL_law_1345 rfl rfl ?_
                                                              refine r_iconst (v := 1) dL_law_1346 (by decide) ?_
                                                              refine r_iadd dL_law_1347 ?_
                                                              obtain ⟨g270, hF⟩ := gd hF
                                                              refine r_sld g270 dL_law_1348 ?_
                                                              refine r_aload_n dL_law_1349 rfl rfl ?_
                                                              refine r_iload_n dL_law_1350 rfl rfl ?_
                                                              refine r_iconst (v := 2) dL_law_1351 (by decide) ?_
                                                              refine r_iadd dL_law_1352 ?_
                                                              obtain ⟨g271, hF⟩ := gd hF
                                                              refine r_sld g271 dL_law_1353 ?_
                                                              refine r_aload_n dL_law_1354 rfl rfl ?_
                                                              refine r_iload_n dL_law_1355 rfl rfl ?_
                                                              refine r_iconst (v := 3) dL_law_1356 (by decide) ?_
                                                              refine r_iadd dL_law_1357 ?_
                                                              obtain ⟨g272, hF⟩ := gd hF
                                                              refine r_sld g272 dL_law_1358 ?_
                                                              obtain ⟨x273, hx273, hF⟩ := bnd hF
                                                              refine c_virt_i (As := [.int (E.2.2.2.2.2.2 (u3 + 1).toNatClampNeg), .int (E.2.2.2.2.2.2 (u3 + 2).toNatClampNeg), .int (E.2.2.2.2.2.2 (u3 + 3).toNatClampNeg)]) mi_X11_item kw_765 kw_766 kw_764 rfl (by decide) (ln_64 hL) (ok_X11_item hL  hx273) rfl rfl (Nat.le_of_ble_eq_true rfl) ⟨Nat.le_of_ble_eq_true rfl, Nat.le_of_ble_eq_true rfl⟩ ⟨by show _ ≤ 615142; omega, by show _ ≤ 7256822; omega⟩ dL_law_1359 ?_
                                                              refine r_aload_n dL_law_1362 rfl rfl ?_
                                                              refine r_aload_n dL_law_1363 rfl rfl ?_
                                                              refine r_iload_n dL_law_1364 rfl rfl ?_
                                                              refine r_iconst (v := 1) dL_law_1365 (by decide) ?_
                                                              refine r_iadd dL_law_1366 ?_
                                                              obtain ⟨g274, hF⟩ := gd hF
                                                              refine r_sld g274 dL_law_1367 ?_
                                                              refine r_aload_n dL_law_1368 rfl rfl ?_
                                                              refine r_iload_n dL_law_1369 rfl rfl ?_
                                                              refine r_iconst (v := 2) dL_law_1370 (by decide) ?_
                                                              refine r_iadd dL_law_1371 ?_
                                                              obtain ⟨g275, hF⟩ := gd hF
                                                              refine r_sld g275 dL_law_1372 ?_
                                                              refine r_aload_n dL_law_1373 rfl rfl ?_
                                                              refine r_iload_n dL_law_1374 rfl rfl ?_
                                                              refine r_iconst (v := 3) dL_law_1375 (by decide) ?_
                                                              refine r_iadd dL_law_1376 ?_
                                                              obtain ⟨g276, hF⟩ := gd hF
                                                              refine r_sld g276 dL_law_1377 ?_
                                                              obtain ⟨x277, hx277, hF⟩ := bnd hF
                                                              refine c_virt_i (As := [.int (E.2.2.2.2.2.2 (u3 + 1).toNatClampNeg), .int (E.2.2.2.2.2.2 (u3 + 2).toNatClampNeg), .int (E.2.2.2.2.2.2 (u3 + 3).toNatClampNeg)]) mi_X12_item kw_1380 kw_1381 kw_1379 rfl (by decide) (ln_101 hL) (ok_X12_item hL  hx277) rfl rfl (Nat.le_of_ble_eq_true rfl) ⟨Nat.le_of_ble_eq_true rfl, Nat.le_of_ble_eq_true rfl⟩ ⟨by show _ ≤ 615142; omega, by show _ ≤ 7256822; omega⟩ dL_law_1378 ?_
                                                              refine r_icmp_eq (tgt := 1577) dL_law_1381 (by decide) (fun h278 => ?_) (fun h278 => ?_)
                                                              · have hF := tw hF h278
                                                                refine r_iinc (v := (u3 + 7)) (ls' := [(3, .int (u3 + 7)), (0, .ref 21), (1, .ref 64), (2, .ref 101)]) dL_law_1577 rfl rfl (by decide) rfl ?_
                                                                refine r_goto (tgt := 18) dL_law_1580 (by decide) ?_
                                                                refine r_sub (ls' := [(0, .ref 21), (1, .ref 64), (2, .ref 101), (3, .int (u3 + 7))]) [1, 2, 3, 0] rfl ?_
                                                                exact ih (u3 + 7) Tv Iv Jv Pv kc ks (by rw [inc7_toInt hu0 hlt]; omega) (by rw [inc7_toInt hu0 hlt]; omega) (by rw [inc7_toInt hu0 hlt]; omega) (by rw [inc7_toInt hu0 hlt]; omega) hL hF
                                                              · have hF := fw hF h278
                                                                refine r_iconst (v := 0) dL_law_1384 (by decide) ?_
                                                                exact absurd (Option.some.inj hF) (by decide)
                                                            · have hF := fw hF h269
                                                              by_cases h279 : ((E.2.2.2.2.2.2 u3.toNatClampNeg) &&& 63) = 28
                                                              · have hF := tw hF h279
                                                                refine r_tableIn (off := 1353) (tgt := 1386) dL_law_33 (by rw [h279]; decide) (by rw [h279]; decide) (by rw [h279]; decide) (by decide) ?_
                                                                refine r_aload_n dL_law_1386 rfl rfl ?_
                                                                refine r_aload_n dL_law_1387 rfl rfl ?_
                                                                refine r_iload_n dL_law_1388 rfl rfl ?_
                                                                refine r_iconst (v := 1) dL_law_1389 (by decide) ?_
                                                                refine r_iadd dL_law_1390 ?_
                                                                obtain ⟨g280, hF⟩ := gd hF
                                                                refine r_sld g280 dL_law_1391 ?_
                                                                refine r_aload_n dL_law_1392 rfl rfl ?_
                                                                refine r_iload_n dL_law_1393 rfl rfl ?_
                                                                refine r_iconst (v := 2) dL_law_1394 (by decide) ?_
                                                                refine r_iadd dL_law_1395 ?_
                                                                obtain ⟨g281, hF⟩ := gd hF
                                                                refine r_sld g281 dL_law_1396 ?_
                                                                refine r_aload_n dL_law_1397 rfl rfl ?_
                                                                refine r_iload_n dL_law_1398 rfl rfl ?_
                                                                refine r_iconst (v := 3) dL_law_1399 (by decide) ?_
                                                                refine r_iadd dL_law_1400 ?_
                                                                obtain ⟨g282, hF⟩ := gd hF
                                                                refine r_sld g282 dL_law_1401 ?_
                                                                obtain ⟨x283, hx283, hF⟩ := bnd hF
                                                                refine c_virt_i (As := [.int (E.2.2.2.2.2.2 (u3 + 1).toNatClampNeg), .int (E.2.2.2.2.2.2 (u3 + 2).toNatClampNeg), .int (E.2.2.2.2.2.2 (u3 + 3).toNatClampNeg)]) mi_X11_shelf kw_769 kw_770 kw_768 rfl (by decide) (ln_64 hL) (ok_X11_shelf hL  hx283) rfl rfl (Nat.le_of_ble_eq_true rfl) ⟨Nat.le_of_ble_eq_true rfl, Nat.le_of_ble_eq_true rfl⟩ ⟨by show _ ≤ 615142; omega, by show _ ≤ 7256822; omega⟩ dL_law_1402 ?_
                                                                refine r_aload_n dL_law_1405 rfl rfl ?_
                                                                refine r_aload_n dL_law_1406 rfl rfl ?_
                                                                refine r_iload_n dL_law_1407 rfl rfl ?_
                                                                refine r_iconst (v := 1) dL_law_1408 (by decide) ?_
                                                                refine r_iadd dL_law_1409 ?_
                                                                obtain ⟨g284, hF⟩ := gd hF
                                                                refine r_sld g284 dL_law_1410 ?_
                                                                refine r_aload_n dL_law_1411 rfl rfl ?_
                                                                refine r_iload_n dL_law_1412 rfl rfl ?_
                                                                refine r_iconst (v := 2) dL_law_1413 (by decide) ?_
                                                                refine r_iadd dL_law_1414 ?_
                                                                obtain ⟨g285, hF⟩ := gd hF
                                                                refine r_sld g285 dL_law_1415 ?_
                                                                refine r_aload_n dL_law_1416 rfl rfl ?_
                                                                refine r_iload_n dL_law_1417 rfl rfl ?_
                                                                refine r_iconst (v := 3) dL_law_1418 (by decide) ?_
                                                                refine r_iadd dL_law_1419 ?_
                                                                obtain ⟨g286, hF⟩ := gd hF
                                                                refine r_sld g286 dL_law_1420 ?_
                                                                obtain ⟨x287, hx287, hF⟩ := bnd hF
                                                                refine c_virt_i (As := [.int (E.2.2.2.2.2.2 (u3 + 1).toNatClampNeg), .int (E.2.2.2.2.2.2 (u3 + 2).toNatClampNeg), .int (E.2.2.2.2.2.2 (u3 + 3).toNatClampNeg)]) mi_X12_shelf kw_1384 kw_1385 kw_1383 rfl (by decide) (ln_101 hL) (ok_X12_shelf hL  hx287) rfl rfl (Nat.le_of_ble_eq_true rfl) ⟨Nat.le_of_ble_eq_true rfl, Nat.le_of_ble_eq_true rfl⟩ ⟨by show _ ≤ 615142; omega, by show _ ≤ 7256822; omega⟩ dL_law_1421 ?_
                                                                refine r_icmp_eq (tgt := 1577) dL_law_1424 (by decide) (fun h288 => ?_) (fun h288 => ?_)
                                                                · have hF := tw hF h288
                                                                  refine r_iinc (v := (u3 + 7)) (ls' := [(3, .int (u3 + 7)), (0, .ref 21), (1, .ref 64), (2, .ref 101)]) dL_law_1577 rfl rfl (by decide) rfl ?_
                                                                  refine r_goto (tgt := 18) dL_law_1580 (by decide) ?_
                                                                  refine r_sub (ls' := [(0, .ref 21), (1, .ref 64), (2, .ref 101), (3, .int (u3 + 7))]) [1, 2, 3, 0] rfl ?_
                                                                  exact ih (u3 + 7) Tv x287.2 Jv Pv kc ks (by rw [inc7_toInt hu0 hlt]; omega) (by rw [inc7_toInt hu0 hlt]; omega) (by rw [inc7_toInt hu0 hlt]; omega) (by rw [inc7_toInt hu0 hlt]; omega) hL hF
                                                                · have hF := fw hF h288
                                                                  refine r_iconst (v := 0) dL_law_1427 (by decide) ?_
                                                                  exact absurd (Option.some.inj hF) (by decide)
                                                              · have hF := fw hF h279
                                                                by_cases h289 : ((E.2.2.2.2.2.2 u3.toNatClampNeg) &&& 63) = 29
                                                                · have hF := tw hF h289
                                                                  refine r_tableIn (off := 1396) (tgt := 1429) dL_law_33 (by rw [h289]; decide) (by rw [h289]; decide) (by rw [h289]; decide) (by decide) ?_
                                                                  refine r_aload_n dL_law_1429 rfl rfl ?_
                                                                  refine r_aload_n dL_law_1430 rfl rfl ?_
                                                                  refine r_iload_n dL_law_1431 rfl rfl ?_
                                                                  refine r_iconst (v := 1) dL_law_1432 (by decide) ?_
                                                                  refine r_iadd dL_law_1433 ?_
                                                                  obtain ⟨g290, hF⟩ := gd hF
                                                                  refine r_sld g290 dL_law_1434 ?_
                                                                  refine r_aload_n dL_law_1435 rfl rfl ?_
                                                                  refine r_iload_n dL_law_1436 rfl rfl ?_
                                                                  refine r_iconst (v := 2) dL_law_1437 (by decide) ?_
                                                                  refine r_iadd dL_law_1438 ?_
                                                                  obtain ⟨g291, hF⟩ := gd hF
                                                                  refine r_sld g291 dL_law_1439 ?_
                                                                  obtain ⟨x292, hx292, hF⟩ := bnd hF
                                                                  refine c_virt_i (As := [.int (E.2.2.2.2.2.2 (u3 + 1).toNatClampNeg), .int (E.2.2.2.2.2.2 (u3 + 2).toNatClampNeg)]) mi_X11_taken kw_784 kw_785 kw_783 rfl (by decide) (ln_64 hL) (ok_X11_taken hL  hx292) rfl rfl (Nat.le_of_ble_eq_true rfl) ⟨Nat.le_of_ble_eq_true rfl, Nat.le_of_ble_eq_true rfl⟩ ⟨by show _ ≤ 615142; omega, by show _ ≤ 7256822; omega⟩ dL_law_1440 ?_
                                                                  refine r_aload_n dL_law_1443 rfl rfl ?_
                                                                  refine r_aload_n dL_law_1444 rfl rfl ?_
                                                                  refine r_iload_n dL_law_1445 rfl rfl ?_
                                                                  refine r_iconst (v := 1) dL_law_1446 (by decide) ?_
                                                                  refine r_iadd dL_law_1447 ?_
                                                                  obtain ⟨g293, hF⟩ := gd hF
                                                                  refine r_sld g293 dL_law_1448 ?_
                                                                  refine r_aload_n dL_law_1449 rfl rfl ?_
                                                                  refine r_iload_n dL_law_1450 rfl rfl ?_
                                                                  refine r_iconst (v := 2) dL_law_1451 (by decide) ?_
                                                                  refine r_iadd dL_law_1452 ?_
                                                                  obtain ⟨g294, hF⟩ := gd hF
                                                                  refine r_sld g294 dL_law_1453 ?_
                                                                  obtain ⟨x295, hx295, hF⟩ := bnd hF
                                                                  refine c_virt_i (As := [.int (E.2.2.2.2.2.2 (u3 + 1).toNatClampNeg), .int (E.2.2.2.2.2.2 (u3 + 2).toNatClampNeg)]) mi_X12_taken kw_1392 kw_1393 kw_1391 rfl (by decide) (ln_101 hL) (ok_X12_taken hL  hx295) rfl rfl (Nat.le_of_ble_eq_true rfl) ⟨Nat.le_of_ble_eq_true rfl, Nat.le_of_ble_eq_true rfl⟩ ⟨by show _ ≤ 615142; omega, by show _ ≤ 7256822; omega⟩ dL_law_1454 ?_
                                                                  refine r_icmp_eq (tgt := 1577) dL_law_1457 (by decide) (fun h296 => ?_) (fun h296 => ?_)
                                                                  · have hF := tw hF h296
                                                                    refine r_iinc (v := (u3 + 7)) (ls' := [(3, .int (u3 + 7)), (0, .ref 21), (1, .ref 64), (2, .ref 101)]) dL_law_1577 rfl rfl (by decide) rfl ?_
                                                                    refine r_goto (tgt := 18) dL_law_1580 (by decide) ?_
                                                                    refine r_sub (ls' := [(0, .ref 21), (1, .ref 64), (2, .ref 101), (3, .int (u3 + 7))]) [1, 2, 3, 0] rfl ?_
                                                                    exact ih (u3 + 7) Tv Iv Jv Pv kc ks (by rw [inc7_toInt hu0 hlt]; omega) (by rw [inc7_toInt hu0 hlt]; omega) (by rw [inc7_toInt hu0 hlt]; omega) (by rw [inc7_toInt hu0 hlt]; omega) hL hF
                                                                  · have hF := fw hF h296
                                                                    refine r_iconst (v := 0) dL_law_1460 (by decide) ?_
                                                                    exact absurd (Option.some.inj hF) (by decide)
                                                                · have hF := fw hF h289
                                                                  by_cases h297 : ((E.2.2.2.2.2.2 u3.toNatClampNeg) &&& 63) = 30
                                                                  · have hF := tw hF h297
                                                                    refine r_tableIn (off := 1429) (tgt := 1462) dL_law_33 (by rw [h297]; decide) (by rw [h297]; decide) (by rw [h297]; decide) (by decide) ?_
                                                                    refine r_aload_n dL_law_1462 rfl rfl ?_
                                                                    refine r_aload_n dL_law_1463 rfl rfl ?_
                                                                    refine r_iload_n dL_law_1464 rfl rfl ?_
                                                                    refine r_iconst (v := 1) dL_law_1465 (by decide) ?_
                                                                    refine r_iadd dL_law_1466 ?_
                                                                    obtain ⟨g298, hF⟩ := gd hF
                                                                    refine r_sld g298 dL_law_1467 ?_
                                                                    refine r_aload_n dL_law_1468 rfl rfl ?_
                                                                    refine r_iload_n dL_law_1469 rfl rfl ?_
                                                                    refine r_iconst (v := 2) dL_law_1470 (by decide) ?_
                                                                    refine r_iadd dL_law_1471 ?_
                                                                    obtain ⟨g299, hF⟩ := gd hF
                                                                    refine r_sld g299 dL_law_1472 ?_
                                                                    refine r_aload_n dL_law_1473 rfl rfl ?_
                                                                    refine r_iload_n dL_law_1474 rfl rfl ?_
                                                                    refine r_iconst (v := 3) dL_law_1475 (by decide) ?_
                                                                    refine r_iadd dL_law_1476 ?_
                                                                    obtain ⟨g300, hF⟩ := gd hF
                                                                    refine r_sld g300 dL_law_1477 ?_
                                                                    obtain ⟨x301, hx301, hF⟩ := bnd hF
                                                                    refine c_virt_i (As := [.int (E.2.2.2.2.2.2 (u3 + 1).toNatClampNeg), .int (E.2.2.2.2.2.2 (u3 + 2).toNatClampNeg), .int (E.2.2.2.2.2.2 (u3 + 3).toNatClampNeg)]) mi_X11_act kw_800 kw_801 kw_799 rfl (by decide) (ln_64 hL) (ok_X11_act hL  hx301) rfl rfl (Nat.le_of_ble_eq_true rfl) ⟨Nat.le_of_ble_eq_true rfl, Nat.le_of_ble_eq_true rfl⟩ ⟨by show _ ≤ 615142; omega, by show _ ≤ 7256822; omega⟩ dL_law_1478 ?_
                                                                    refine r_aload_n dL_law_1481 rfl rfl ?_
                                                                    refine r_aload_n dL_law_1482 rfl rfl ?_
                                                                    refine r_iload_n dL_law_1483 rfl rfl ?_
                                                                    refine r_iconst (v := 1) dL_law_1484 (by decide) ?_
                                                                    refine r_iadd dL_law_1485 ?_
                                                                    obtain ⟨g302, hF⟩ := gd hF
                                                                    refine r_sld g302 dL_law_1486 ?_
                                                                    refine r_aload_n dL_law_1487 rfl rfl ?_
                                                                    refine r_iload_n dL_law_1488 rfl rfl ?_
                                                                    refine r_iconst (v := 2) dL_law_1489 (by decide) ?_
                                                                    refine r_iadd dL_law_1490 ?_
                                                                    obtain ⟨g303, hF⟩ := gd hF
                                                                    refine r_sld g303 dL_law_1491 ?_
                                                                    refine r_aload_n dL_law_1492 rfl rfl ?_
                                                                    refine r_iload_n dL_law_1493 rfl rfl ?_
                                                                    refine r_iconst (v := 3) dL_law_1494 (by decide) ?_
                                                                    refine r_iadd dL_law_1495 ?_
                                                                    obtain ⟨g304, hF⟩ := gd hF
                                                                    refine r_sld g304 dL_law_1496 ?_
                                                                    obtain ⟨x305, hx305, hF⟩ := bnd hF
                                                                    refine c_virt_i (As := [.int (E.2.2.2.2.2.2 (u3 + 1).toNatClampNeg), .int (E.2.2.2.2.2.2 (u3 + 2).toNatClampNeg), .int (E.2.2.2.2.2.2 (u3 + 3).toNatClampNeg)]) mi_X12_act kw_1403 kw_1404 kw_1402 rfl (by decide) (ln_101 hL) (ok_X12_act hL  hx305) rfl rfl (Nat.le_of_ble_eq_true rfl) ⟨Nat.le_of_ble_eq_true rfl, Nat.le_of_ble_eq_true rfl⟩ ⟨by show _ ≤ 615142; omega, by show _ ≤ 7256822; omega⟩ dL_law_1497 ?_
                                                                    refine r_icmp_eq (tgt := 1577) dL_law_1500 (by decide) (fun h306 => ?_) (fun h306 => ?_)
                                                                    · have hF := tw hF h306
                                                                      refine r_iinc (v := (u3 + 7)) (ls' := [(3, .int (u3 + 7)), (0, .ref 21), (1, .ref 64), (2, .ref 101)]) dL_law_1577 rfl rfl (by decide) rfl ?_
                                                                      refine r_goto (tgt := 18) dL_law_1580 (by decide) ?_
                                                                      refine r_sub (ls' := [(0, .ref 21), (1, .ref 64), (2, .ref 101), (3, .int (u3 + 7))]) [1, 2, 3, 0] rfl ?_
                                                                      exact ih (u3 + 7) Tv x305.2 Jv Pv kc ks (by rw [inc7_toInt hu0 hlt]; omega) (by rw [inc7_toInt hu0 hlt]; omega) (by rw [inc7_toInt hu0 hlt]; omega) (by rw [inc7_toInt hu0 hlt]; omega) hL hF
                                                                    · have hF := fw hF h306
                                                                      refine r_iconst (v := 0) dL_law_1503 (by decide) ?_
                                                                      exact absurd (Option.some.inj hF) (by decide)
                                                                  · have hF := fw hF h297
                                                                    by_cases h307 : ((E.2.2.2.2.2.2 u3.toNatClampNeg) &&& 63) = 31
                                                                    · have hF := tw hF h307
                                                                      refine r_tableIn (off := 1472) (tgt := 1505) dL_law_33 (by rw [h307]; decide) (by rw [h307]; decide) (by rw [h307]; decide) (by decide) ?_
                                                                      refine r_aload_n dL_law_1505 rfl rfl ?_
                                                                      refine r_aload_n dL_law_1506 rfl rfl ?_
                                                                      refine r_iload_n dL_law_1507 rfl rfl ?_
                                                                      refine r_iconst (v := 1) dL_law_1508 (by decide) ?_
                                                                      refine r_iadd dL_law_1509 ?_
                                                                      obtain ⟨g308, hF⟩ := gd hF
                                                                      refine r_sld g308 dL_law_1510 ?_
                                                                      obtain ⟨x309, hx309, hF⟩ := bnd hF
                                                                      refine c_virt_i (As := [.int (E.2.2.2.2.2.2 (u3 + 1).toNatClampNeg)]) mi_X11_trace kw_896 kw_897 kw_895 rfl (by decide) (ln_64 hL) (ok_X11_trace hL  hx309) rfl rfl (Nat.le_of_ble_eq_true rfl) ⟨Nat.le_of_ble_eq_true rfl, Nat.le_of_ble_eq_true rfl⟩ ⟨by show _ ≤ 615142; omega, by show _ ≤ 7256822; omega⟩ dL_law_1511 ?_
                                                                      refine r_aload_n dL_law_1514 rfl rfl ?_
                                                                      refine r_aload_n dL_law_1515 rfl rfl ?_
                                                                      refine r_iload_n dL_law_1516 rfl rfl ?_
                                                                      refine r_iconst (v := 1) dL_law_1517 (by decide) ?_
                                                                      refine r_iadd dL_law_1518 ?_
                                                                      obtain ⟨g310, hF⟩ := gd hF
                                                                      refine r_sld g310 dL_law_1519 ?_
                                                                      obtain ⟨x311, hx311, hF⟩ := bnd hF
                                                                      refine c_virt_i (As := [.int (E.2.2.2.2.2.2 (u3 + 1).toNatClampNeg)]) mi_X12_trace kw_1443 kw_1444 kw_1442 rfl (by decide) (ln_101 hL) (ok_X12_trace hL  hx311) rfl rfl (Nat.le_of_ble_eq_true rfl) ⟨Nat.le_of_ble_eq_true rfl, Nat.le_of_ble_eq_true rfl⟩ ⟨by show _ ≤ 615142; omega, by show _ ≤ 7256822; omega⟩ dL_law_1520 ?_
                                                                      refine r_icmp_eq (tgt := 1577) dL_law_1523 (by decide) (fun h312 => ?_) (fun h312 => ?_)
                                                                      · have hF := tw hF h312
                                                                        refine r_iinc (v := (u3 + 7)) (ls' := [(3, .int (u3 + 7)), (0, .ref 21), (1, .ref 64), (2, .ref 101)]) dL_law_1577 rfl rfl (by decide) rfl ?_
                                                                        refine r_goto (tgt := 18) dL_law_1580 (by decide) ?_
                                                                        refine r_sub (ls' := [(0, .ref 21), (1, .ref 64), (2, .ref 101), (3, .int (u3 + 7))]) [1, 2, 3, 0] rfl ?_
                                                                        exact ih (u3 + 7) Tv Iv Jv Pv kc ks (by rw [inc7_toInt hu0 hlt]; omega) (by rw [inc7_toInt hu0 hlt]; omega) (by rw [inc7_toInt hu0 hlt]; omega) (by rw [inc7_toInt hu0 hlt]; omega) hL hF
                                                                      · have hF := fw hF h312
                                                                        refine r_iconst (v := 0) dL_law_1526 (by decide) ?_
                                                                        exact absurd (Option.some.inj hF) (by decide)
                                                                    · have hF := fw hF h307
                                                                      by_cases h313 : ((E.2.2.2.2.2.2 u3.toNatClampNeg) &&& 63) = 32
                                                                      · have hF := tw hF h313
                                                                        refine r_tableIn (off := 1495) (tgt := 1528) dL_law_33 (by rw [h313]; decide) (by rw [h313]; decide) (by rw [h313]; decide) (by decide) ?_
                                                                        refine r_aload_n dL_law_1528 rfl rfl ?_
                                                                        refine r_aload_n dL_law_1529 rfl rfl ?_
                                                                        refine r_iload_n dL_law_1530 rfl rfl ?_
                                                                        refine r_iconst (v := 1) dL_law_1531 (by decide) ?_
                                                                        refine r_iadd dL_law_1532 ?_
                                                                        obtain ⟨g314, hF⟩ := gd hF
                                                                        refine r_sld g314 dL_law_1533 ?_
                                                                        obtain ⟨x315, hx315, hF⟩ := bnd hF
                                                                        refine c_virt_i (As := [.int (E.2.2.2.2.2.2 (u3 + 1).toNatClampNeg)]) mi_X11_many kw_900 kw_901 kw_899 rfl (by decide) (ln_64 hL) (ok_X11_many hL  hx315) rfl rfl (Nat.le_of_ble_eq_true rfl) ⟨Nat.le_of_ble_eq_true rfl, Nat.le_of_ble_eq_true rfl⟩ ⟨by show _ ≤ 615142; omega, by show _ ≤ 7256822; omega⟩ dL_law_1534 ?_
                                                                        refine r_aload_n dL_law_1537 rfl rfl ?_
                                                                        refine r_aload_n dL_law_1538 rfl rfl ?_
                                                                        refine r_iload_n dL_law_1539 rfl rfl ?_
                                                                        refine r_iconst (v := 1) dL_law_1540 (by decide) ?_
                                                                        refine r_iadd dL_law_1541 ?_
                                                                        obtain ⟨g316, hF⟩ := gd hF
                                                                        refine r_sld g316 dL_law_1542 ?_
                                                                        obtain ⟨x317, hx317, hF⟩ := bnd hF
                                                                        refine c_virt_i (As := [.int (E.2.2.2.2.2.2 (u3 + 1).toNatClampNeg)]) mi_X12_many kw_1447 kw_1448 kw_1446 rfl (by decide) (ln_101 hL) (ok_X12_many hL  hx317) rfl rfl (Nat.le_of_ble_eq_true rfl) ⟨Nat.le_of_ble_eq_true rfl, Nat.le_of_ble_eq_true rfl⟩ ⟨by show _ ≤ 615142; omega, by show _ ≤ 7256822; omega⟩ dL_law_1543 ?_
                                                                        refine r_icmp_eq (tgt := 1577) dL_law_1546 (by decide) (fun h318 => ?_) (fun h318 => ?_)
                                                                        · have hF := tw hF h318
                                                                          refine r_iinc (v := (u3 + 7)) (ls' := [(3, .int (u3 + 7)), (0, .ref 21), (1, .ref 64), (2, .ref 101)]) dL_law_1577 rfl rfl (by decide) rfl ?_
                                                                          refine r_goto (tgt := 18) dL_law_1580 (by decide) ?_
                                                                          refine r_sub (ls' := [(0, .ref 21), (1, .ref 64), (2, .ref 101), (3, .int (u3 + 7))]) [1, 2, 3, 0] rfl ?_
                                                                          exact ih (u3 + 7) Tv Iv Jv Pv kc ks (by rw [inc7_toInt hu0 hlt]; omega) (by rw [inc7_toInt hu0 hlt]; omega) (by rw [inc7_toInt hu0 hlt]; omega) (by rw [inc7_toInt hu0 hlt]; omega) hL hF
                                                                        · have hF := fw hF h318
                                                                          refine r_iconst (v := 0) dL_law_1549 (by decide) ?_
                                                                          exact absurd (Option.some.inj hF) (by decide)
                                                                      · have hF := fw hF h313
                                                                        by_cases h319 : ((E.2.2.2.2.2.2 u3.toNatClampNeg) &&& 63) = 33
                                                                        · have hF := tw hF h319
                                                                          refine r_tableIn (off := 1518) (tgt := 1551) dL_law_33 (by rw [h319]; decide) (by rw [h319]; decide) (by rw [h319]; decide) (by decide) ?_
                                                                          refine r_aload_n dL_law_1551 rfl rfl ?_
                                                                          obtain ⟨x320, hx320, hF⟩ := bnd hF
                                                                          refine cp_virt_i (As := []) mi_X11_keep kw_904 kw_905 kw_903 rfl (by decide) (ln_64 hL) (ok_X11_keep hL  hx320) rfl rfl (Nat.le_of_ble_eq_true rfl) ⟨Nat.le_of_ble_eq_true rfl, Nat.le_of_ble_eq_true rfl⟩ ⟨by show _ ≤ 615142; omega, by show _ ≤ 7256822; omega⟩ dL_law_1552 ?_
                                                                          intro hL
                                                                          refine r_aload_n dL_law_1555 rfl rfl ?_
                                                                          obtain ⟨x321, hx321, hF⟩ := bnd hF
                                                                          refine c_virt_i (As := []) mi_X12_keep kw_1451 kw_1452 kw_1450 rfl (by decide) (ln_101 hL) (ok_X12_keep hL  hx321) rfl rfl (Nat.le_of_ble_eq_true rfl) ⟨Nat.le_of_ble_eq_true rfl, Nat.le_of_ble_eq_true rfl⟩ ⟨by show _ ≤ 615142; omega, by show _ ≤ 7256822; omega⟩ dL_law_1556 ?_
                                                                          refine r_icmp_eq (tgt := 1577) dL_law_1559 (by decide) (fun h322 => ?_) (fun h322 => ?_)
                                                                          · have hF := tw hF h322
                                                                            refine r_iinc (v := (u3 + 7)) (ls' := [(3, .int (u3 + 7)), (0, .ref 21), (1, .ref 64), (2, .ref 101)]) dL_law_1577 rfl rfl (by decide) rfl ?_
                                                                            refine r_goto (tgt := 18) dL_law_1580 (by decide) ?_
                                                                            refine r_sub (ls' := [(0, .ref 21), (1, .ref 64), (2, .ref 101), (3, .int (u3 + 7))]) [1, 2, 3, 0] rfl ?_
                                                                            exact ih (u3 + 7) Tv x321.2 Jv x320.2.2 kc ks (by rw [inc7_toInt hu0 hlt]; omega) (by rw [inc7_toInt hu0 hlt]; omega) (by rw [inc7_toInt hu0 hlt]; omega) (by rw [inc7_toInt hu0 hlt]; omega) hL hF
                                                                          · have hF := fw hF h322
                                                                            refine r_iconst (v := 0) dL_law_1562 (by decide) ?_
                                                                            exact absurd (Option.some.inj hF) (by decide)
                                                                        · have hF := fw hF h319
                                                                          by_cases h323 : ((E.2.2.2.2.2.2 u3.toNatClampNeg) &&& 63) = 34
                                                                          · have hF := tw hF h323
                                                                            refine r_tableIn (off := 1531) (tgt := 1564) dL_law_33 (by rw [h323]; decide) (by rw [h323]; decide) (by rw [h323]; decide) (by decide) ?_
                                                                            refine r_aload_n dL_law_1564 rfl rfl ?_
                                                                            obtain ⟨x324, hx324, hF⟩ := bnd hF
                                                                            refine cp_virt_i (As := []) mi_X11_again kw_908 kw_909 kw_907 rfl (by decide) (ln_64 hL) (ok_X11_again hL  hx324) rfl rfl (Nat.le_of_ble_eq_true rfl) ⟨Nat.le_of_ble_eq_true rfl, Nat.le_of_ble_eq_true rfl⟩ ⟨by show _ ≤ 615142; omega, by show _ ≤ 7256822; omega⟩ dL_law_1565 ?_
                                                                            intro hL
                                                                            refine r_aload_n dL_law_1568 rfl rfl ?_
                                                                            obtain ⟨x325, hx325, hF⟩ := bnd hF
                                                                            refine c_virt_i (As := []) mi_X12_again kw_1463 kw_1464 kw_1462 rfl (by decide) (ln_101 hL) (ok_X12_again hL  hx325) rfl rfl (Nat.le_of_ble_eq_true rfl) ⟨Nat.le_of_ble_eq_true rfl, Nat.le_of_ble_eq_true rfl⟩ ⟨by show _ ≤ 615142; omega, by show _ ≤ 7256822; omega⟩ dL_law_1569 ?_
                                                                            refine r_icmp_eq (tgt := 1577) dL_law_1572 (by decide) (fun h326 => ?_) (fun h326 => ?_)
                                                                            · have hF := tw hF h326
                                                                              refine r_iinc (v := (u3 + 7)) (ls' := [(3, .int (u3 + 7)), (0, .ref 21), (1, .ref 64), (2, .ref 101)]) dL_law_1577 rfl rfl (by decide) rfl ?_
                                                                              refine r_goto (tgt := 18) dL_law_1580 (by decide) ?_
                                                                              refine r_sub (ls' := [(0, .ref 21), (1, .ref 64), (2, .ref 101), (3, .int (u3 + 7))]) [1, 2, 3, 0] rfl ?_
                                                                              exact ih (u3 + 7) Tv x325.2 Jv x324.2.2 kc ks (by rw [inc7_toInt hu0 hlt]; omega) (by rw [inc7_toInt hu0 hlt]; omega) (by rw [inc7_toInt hu0 hlt]; omega) (by rw [inc7_toInt hu0 hlt]; omega) hL hF
                                                                            · have hF := fw hF h326
                                                                              refine r_iconst (v := 0) dL_law_1575 (by decide) ?_
                                                                              exact absurd (Option.some.inj hF) (by decide)
                                                                          · have hF := fw hF h323
                                                                            have eh3 := nei 0 (by decide) h3
                                                                            have eh13 := nei 1 (by decide) h13
                                                                            have eh18 := nei 2 (by decide) h18
                                                                            have eh31 := nei 3 (by decide) h31
                                                                            have eh39 := nei 4 (by decide) h39
                                                                            have eh47 := nei 5 (by decide) h47
                                                                            have eh55 := nei 6 (by decide) h55
                                                                            have eh61 := nei 7 (by decide) h61
                                                                            have eh73 := nei 8 (by decide) h73
                                                                            have eh79 := nei 9 (by decide) h79
                                                                            have eh85 := nei 10 (by decide) h85
                                                                            have eh93 := nei 11 (by decide) h93
                                                                            have eh107 := nei 12 (by decide) h107
                                                                            have eh121 := nei 13 (by decide) h121
                                                                            have eh135 := nei 14 (by decide) h135
                                                                            have eh151 := nei 15 (by decide) h151
                                                                            have eh163 := nei 16 (by decide) h163
                                                                            have eh173 := nei 17 (by decide) h173
                                                                            have eh189 := nei 18 (by decide) h189
                                                                            have eh203 := nei 19 (by decide) h203
                                                                            have eh215 := nei 20 (by decide) h215
                                                                            have eh221 := nei 21 (by decide) h221
                                                                            have eh227 := nei 22 (by decide) h227
                                                                            have eh235 := nei 23 (by decide) h235
                                                                            have eh245 := nei 24 (by decide) h245
                                                                            have eh249 := nei 25 (by decide) h249
                                                                            have eh259 := nei 26 (by decide) h259
                                                                            have eh269 := nei 27 (by decide) h269
                                                                            have eh279 := nei 28 (by decide) h279
                                                                            have eh289 := nei 29 (by decide) h289
                                                                            have eh297 := nei 30 (by decide) h297
                                                                            have eh307 := nei 31 (by decide) h307
                                                                            have eh313 := nei 32 (by decide) h313
                                                                            have eh319 := nei 33 (by decide) h319
                                                                            have eh323 := nei 34 (by decide) h323
                                                                            refine r_tableOut (tgt := 1577) dL_law_33 (by omega) (by decide) ?_
                                                                            refine r_iinc (v := (u3 + 7)) (ls' := [(3, .int (u3 + 7)), (0, .ref 21), (1, .ref 64), (2, .ref 101)]) dL_law_1577 rfl rfl (by decide) rfl ?_
                                                                            refine r_goto (tgt := 18) dL_law_1580 (by decide) ?_
                                                                            refine r_sub (ls' := [(0, .ref 21), (1, .ref 64), (2, .ref 101), (3, .int (u3 + 7))]) [1, 2, 3, 0] rfl ?_
                                                                            exact ih (u3 + 7) Tv Iv Jv Pv kc ks (by rw [inc7_toInt hu0 hlt]; omega) (by rw [inc7_toInt hu0 hlt]; omega) (by rw [inc7_toInt hu0 hlt]; omega) (by rw [inc7_toInt hu0 hlt]; omega) hL hF
