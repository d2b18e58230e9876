/-! THE START: what the Statement gives -/
def nf : List Cond := flatC (Jvm.Cond.and given_1 narrow_1)
def tmS (i : Nat) : Term := .string "FallCards$Tape" (strIx.getD i 0)
def tmN : Term := .static "FallCards" "SINES" "[I"
theorem nf_ex_t : ∀ i, i < 15 → nf[([131, 139, 148, 158, 169, 181, 194, 208, 223, 241, 262, 283, 305, 327, 348] : List Nat).getD i 0]? = some (Cond.exactly (tmS i) "java/lang/String") := by decide +kernel
theorem nf_ex : ∀ i, i < 15 → Cond.exactly (tmS i) "java/lang/String" ∈ nf := fun i hi => List.mem_of_getElem? (nf_ex_t i hi)
theorem nf_co_t : ∀ i, i < 15 → nf[([132, 140, 149, 159, 170, 182, 195, 209, 224, 242, 263, 284, 306, 328, 349] : List Nat).getD i 0]? = some (Cond.eq (.field (tmS i) "java/lang/String" "coder" "B") (.int 0)) := by decide +kernel
theorem nf_co : ∀ i, i < 15 → Cond.eq (.field (tmS i) "java/lang/String" "coder" "B") (.int 0) ∈ nf := fun i hi => List.mem_of_getElem? (nf_co_t i hi)
theorem nf_ar_t : ∀ i, i < 15 → nf[([133, 141, 150, 160, 171, 183, 196, 210, 225, 243, 264, 285, 307, 329, 350] : List Nat).getD i 0]? = some (Cond.arrayOf (.field (tmS i) "java/lang/String" "value" "[B") .byte) := by decide +kernel
theorem nf_ar : ∀ i, i < 15 → Cond.arrayOf (.field (tmS i) "java/lang/String" "value" "[B") .byte ∈ nf := fun i hi => List.mem_of_getElem? (nf_ar_t i hi)
theorem nf_le_t : ∀ i, i < 15 → nf[([134, 142, 151, 161, 172, 184, 197, 211, 226, 244, 265, 286, 308, 330, 351] : List Nat).getD i 0]? = some (Cond.eq (.length (.field (tmS i) "java/lang/String" "value" "[B")) (.int (Int32.ofNat (strLn.getD i 0)))) := by decide +kernel
theorem nf_le : ∀ i, i < 15 → Cond.eq (.length (.field (tmS i) "java/lang/String" "value" "[B")) (.int (Int32.ofNat (strLn.getD i 0))) ∈ nf := fun i hi => List.mem_of_getElem? (nf_le_t i hi)
theorem nf_el_t : ∀ i, i < 15 → ∀ j, j < strLn.getD i 0 → nf[(([[135, 136, 137, 138], [143, 144, 145, 146], [152, 153, 154, 155], [162, 163, 164, 165], [173, 174, 175, 176], [185, 186, 187, 188], [198, 199, 200, 201], [212, 213, 214, 215], [227, 228, 229, 230, 231, 232], [245, 246, 247, 248, 249, 250, 251, 252], [266, 267, 268, 269, 270, 271, 272], [287, 288, 289, 290, 291, 292, 293], [309, 310, 311, 312, 313, 314], [331, 332, 333, 334], [352, 353, 354, 355]] : List (List Nat)).getD i []).getD j 0]? = some (Cond.eq (.elem (.field (tmS i) "java/lang/String" "value" "[B") (.int (Int32.ofNat j))) (.int ((strBy.getD i []).getD j 0))) := by decide +kernel
theorem nf_el : ∀ i, i < 15 → ∀ j, j < strLn.getD i 0 → Cond.eq (.elem (.field (tmS i) "java/lang/String" "value" "[B") (.int (Int32.ofNat j))) (.int ((strBy.getD i []).getD j 0)) ∈ nf := fun i hi j hj => List.mem_of_getElem? (nf_el_t i hi j hj)
theorem nf_ne_t : ∀ i, i < 15 → ∀ j, j < i → nf[(([[0, 147, 156, 166, 177, 189, 202, 216, 233, 253, 273, 294, 315, 335, 356], [147, 0, 157, 167, 178, 190, 203, 217, 234, 254, 274, 295, 316, 336, 357], [156, 157, 0, 168, 179, 191, 204, 218, 235, 255, 275, 296, 317, 337, 358], [166, 167, 168, 0, 180, 192, 205, 219, 236, 256, 276, 297, 318, 338, 359], [177, 178, 179, 180, 0, 193, 206, 220, 237, 257, 277, 298, 319, 339, 360], [189, 190, 191, 192, 193, 0, 207, 221, 238, 258, 278, 299, 320, 340, 361], [202, 203, 204, 205, 206, 207, 0, 222, 239, 259, 279, 300, 321, 341, 362], [216, 217, 218, 219, 220, 221, 222, 0, 240, 260, 280, 301, 322, 342, 363], [233, 234, 235, 236, 237, 238, 239, 240, 0, 261, 281, 302, 323, 343, 364], [253, 254, 255, 256, 257, 258, 259, 260, 261, 0, 282, 303, 324, 344, 365], [273, 274, 275, 276, 277, 278, 279, 280, 281, 282, 0, 304, 325, 345, 366], [294, 295, 296, 297, 298, 299, 300, 301, 302, 303, 304, 0, 326, 346, 367], [315, 316, 317, 318, 319, 320, 321, 322, 323, 324, 325, 326, 0, 347, 368], [335, 336, 337, 338, 339, 340, 341, 342, 343, 344, 345, 346, 347, 0, 369], [356, 357, 358, 359, 360, 361, 362, 363, 364, 365, 366, 367, 368, 369, 0]] : List (List Nat)).getD i []).getD j 0]? = some (Cond.not (Cond.eq (tmS j) (tmS i))) := by decide +kernel
theorem nf_ne : ∀ i, i < 15 → ∀ j, j < 15 → i ≠ j → (Cond.not (Cond.eq (tmS i) (tmS j)) ∈ nf ∨ Cond.not (Cond.eq (tmS j) (tmS i)) ∈ nf) := fun i hi j hj hij => by
  rcases Nat.lt_or_gt_of_ne hij with h | h
  · exact Or.inl (List.mem_of_getElem? (nf_ne_t j hj i h))
  · exact Or.inr (List.mem_of_getElem? (nf_ne_t i hi j h))
theorem nf_sa : Cond.arrayOf tmN .int ∈ nf := List.mem_of_getElem? (i := 10) (by decide +kernel)
theorem nf_sl : Cond.eq (.length tmN) (.int (Int32.ofNat 10)) ∈ nf := List.mem_of_getElem? (i := 11) (by decide +kernel)
theorem nf_cs : Cond.eq (.static "java/lang/String" "COMPACT_STRINGS" "Z") (.int 1) ∈ nf := List.mem_of_getElem? (i := 4) (by decide +kernel)
theorem nf_fm : Cond.isRef (.static "jdk/internal/util/Preconditions" "SIOOBE_FORMATTER" "Ljava/util/function/BiFunction;") ∈ nf := List.mem_of_getElem? (i := 5) (by decide +kernel)
theorem nf_se_t : ∀ i, i < 10 → nf[([12, 13, 14, 15, 16, 17, 18, 19, 20, 21] : List Nat).getD i 0]? = some (Cond.eq (.elem tmN (.int (Int32.ofNat i))) (.int (sinV.getD i 0))) := by decide +kernel
theorem nf_se : ∀ i, i < 10 → Cond.eq (.elem tmN (.int (Int32.ofNat i))) (.int (sinV.getD i 0)) ∈ nf := fun i hi => List.mem_of_getElem? (nf_se_t i hi)
theorem nf_nc_t : ∀ i, i < 23 → nf[([32, 44, 55, 67, 79, 40, 52, 63, 75, 29, 53, 64, 76, 30, 41, 65, 77, 42, 54, 78, 31, 43, 66] : List Nat).getD i 0]? = (ncs[i]?).map (fun q => Cond.not (.castable q.1 q.2)) := by decide +kernel
theorem nf_nc : ∀ q ∈ ncs, Cond.not (.castable q.1 q.2) ∈ nf := fun q hq => by
  obtain ⟨i, hi⟩ := List.getElem?_of_mem hq
  have h := nf_nc_t i (by have := (List.getElem?_eq_some_iff.mp hi).1; first | exact this | (simpa [ncs, lsL, cas, nests] using this))
  rw [hi] at h
  exact List.mem_of_getElem? h
def lsL : List (String × String × String) := [("FallCards", "SINES", "[I"), ("java/lang/String", "COMPACT_STRINGS", "Z"), ("jdk/internal/util/Preconditions", "SIOOBE_FORMATTER", "Ljava/util/function/BiFunction;")]
theorem tb_ls_t : ∀ i, i < 3 → tables_1[([535, 299, 319] : List Nat).getD i 0]? = (lsL[i]?).map (fun q => Cond.laysStatic q.1 q.2.1 q.2.2) := by decide +kernel
theorem tb_ls : ∀ q ∈ lsL, Cond.laysStatic q.1 q.2.1 q.2.2 ∈ tables_1 := fun q hq => by
  obtain ⟨i, hi⟩ := List.getElem?_of_mem hq
  have h := tb_ls_t i (by have := (List.getElem?_eq_some_iff.mp hi).1; first | exact this | (simpa [ncs, lsL, cas, nests] using this))
  rw [hi] at h
  exact List.mem_of_getElem? h
theorem tb_ca_t : ∀ i, i < 7 → tables_1[([1467, 1468, 1469, 1470, 1471, 1472, 1473] : List Nat).getD i 0]? = (cas[i]?).map (fun q => Cond.castable q.1 q.2) := by decide +kernel
theorem tb_ca : ∀ q ∈ cas, Cond.castable q.1 q.2 ∈ tables_1 := fun q hq => by
  obtain ⟨i, hi⟩ := List.getElem?_of_mem hq
  have h := tb_ca_t i (by have := (List.getElem?_eq_some_iff.mp hi).1; first | exact this | (simpa [ncs, lsL, cas, nests] using this))
  rw [hi] at h
  exact List.mem_of_getElem? h
theorem tb_ne_t : ∀ i, i < 2 → tables_1[([563, 567] : List Nat).getD i 0]? = (nests[i]?).map (fun q => Cond.methodLinkNest RX1 q.1 q.2 RX11) := by decide +kernel
theorem tb_ne : ∀ q ∈ nests, Cond.methodLinkNest RX1 q.1 q.2 RX11 ∈ tables_1 := fun q hq => by
  obtain ⟨i, hi⟩ := List.getElem?_of_mem hq
  have h := tb_ne_t i (by have := (List.getElem?_eq_some_iff.mp hi).1; first | exact this | (simpa [ncs, lsL, cas, nests] using this))
  rw [hi] at h
  exact List.mem_of_getElem? h
theorem tb_sr_t : ∀ i, i < 15 → tables_1[([280, 281, 282, 283, 284, 285, 361, 377, 378, 379, 380, 381, 382, 383, 384] : List Nat).getD i 0]? = some (Cond.stringRef "FallCards$Tape" (strIx.getD i 0) (strTx.getD i "")) := by decide +kernel
theorem tb_sr : ∀ i, i < 15 → Cond.stringRef "FallCards$Tape" (strIx.getD i 0) (strTx.getD i "") ∈ tables_1 := fun i hi => List.mem_of_getElem? (tb_sr_t i hi)
theorem tb_ao : Cond.arrayOver (.object RX0) ∈ tables_1 ∧ Cond.arrayOver (.object RX3) ∈ tables_1 := ⟨List.mem_of_getElem? (i := 35) (by decide +kernel), List.mem_of_getElem? (i := 163) (by decide +kernel)⟩
theorem tbg_in {w : Cond} (h : w ∈ tbg) : w ∈ lw_tbl := (List.mem_filter.mp h).1
theorem tb1_in {w : Cond} (h : w ∈ tables_1) : w ∈ lw_tbl := List.mem_append_right _ h
theorem arr_of {s : State} {args : Array Value} {ty : FieldType} (h : (Cond.arrayClass ty).before args s = true) (hp : ∀ C, ty ≠ .object C) : ∃ cA : ClassId, ArrOfT s cA ty ∧ va_RA s cA ty := by
  obtain ⟨c, k, comp, h1, h2, h3⟩ := Cond.arrayClass_spec h
  refine ⟨c, fun n z => ⟨fun k h => (by cases h), k, h2, comp, h3⟩, ?_⟩
  cases ty with
  | object C => exact absurd rfl (hp C)
  | _ => exact h1
theorem arr_over {s : State} {args : Array Value} {C : String} (h : (Cond.arrayOver (.object C)).before args s = true) : ∃ cA : ClassId, ArrOfT s cA (.object C) ∧ va_RA s cA (.object C) := by
  obtain ⟨comp, c, k, h1, h2, h3, h4, h5⟩ := Cond.arrayOver_spec h
  exact ⟨c, fun n z => ⟨fun k h => (by cases h), k, h3, comp, h4⟩, k, comp, h3, h4, h1, h5⟩
set_option maxHeartbeats 4000000 in
theorem st_start {s : State} {b L : Nat} {xs : Nat → Int32} (l : Launch) (hts : ∀ w ∈ lw_tbl, w.before #[Value.ref b] s = true) (hX : va_X b L xs s s.heap) (hbl : b < s.heap.size) (hgv : (Jvm.Cond.and given_1 narrow_1).before #[Value.ref b] s = true) : ∃ E : GE, E.1 = l ∧ E.2.1 = s.heap.size ∧ E.2.2.1 21 = b ∧ E.2.2.2.2.2.1 = L ∧ E.2.2.2.2.2.2 = xs ∧ ST E s s.heap := by
  have hs : ∀ c ∈ nf, c.before #[Value.ref b] s = true := flat_of_before _ hgv
  obtain ⟨c0, i0, k0⟩ := u_known (C := RX0) (T := TX0) (N := 4) (n := 4) hts (fun w hw => tbg_in (uwX0 w hw)) (hts _ (tbg_in kw_475))
  obtain ⟨c1, i1, k1⟩ := u_known (C := RX1) (T := TX1) (N := 11) (n := 11) hts (fun w hw => tbg_in (uwX1 w hw)) (hts _ (tbg_in kw_37))
  obtain ⟨c2, i2, k2⟩ := u_known (C := RX2) (T := TX2) (N := 4) (n := 4) hts (fun w hw => tbg_in (uwX2 w hw)) (hts _ (tbg_in kw_454))
  obtain ⟨c3, i3, k3⟩ := u_known (C := RX3) (T := TX3) (N := 3) (n := 3) hts (fun w hw => tbg_in (uwX3 w hw)) (hts _ (tbg_in kw_166))
  obtain ⟨c4, i4, k4⟩ := u_known (C := RX4) (T := TX4) (N := 4) (n := 4) hts (fun w hw => tbg_in (uwX4 w hw)) (hts _ (tbg_in kw_397))
  obtain ⟨c5, i5, k5⟩ := u_known (C := RX5) (T := TX5) (N := 4) (n := 4) hts (fun w hw => tbg_in (uwX5 w hw)) (hts _ (tbg_in kw_432))
  obtain ⟨c6, i6, k6⟩ := u_known (C := RX6) (T := TX6) (N := 4) (n := 4) hts (fun w hw => tbg_in (uwX6 w hw)) (hts _ (tbg_in kw_122))
  obtain ⟨c7, i7, k7⟩ := u_known (C := RX7) (T := TX7) (N := 3) (n := 3) hts (fun w hw => tbg_in (uwX7 w hw)) (hts _ (tbg_in kw_143))
  obtain ⟨c8, i8, k8⟩ := u_known (C := RX8) (T := TX8) (N := 4) (n := 4) hts (fun w hw => tbg_in (uwX8 w hw)) (hts _ (tbg_in kw_443))
  obtain ⟨c9, i9, k9⟩ := u_known (C := RX9) (T := TX9) (N := 4) (n := 4) hts (fun w hw => tbg_in (uwX9 w hw)) (hts _ (tbg_in kw_465))
  obtain ⟨c10, i10, k10⟩ := u_known (C := RX10) (T := TX10) (N := 6) (n := 6) hts (fun w hw => tbg_in (uwX10 w hw)) (hts _ (tbg_in kw_29))
  obtain ⟨c11, i11, k11⟩ := u_known (C := RX11) (T := TX11) (N := 16) (n := 16) hts (fun w hw => tbg_in (uwX11 w hw)) (hts _ (tbg_in kw_21))
  obtain ⟨c12, i12, k12⟩ := u_known (C := RX12) (T := TX12) (N := 54) (n := 54) hts (fun w hw => tbg_in (uwX12 w hw)) (hts _ (tbg_in kw_912))
  obtain ⟨a13, q13⟩ := arr_of (ty := .int) (hts _ (tbg_in kw_93)) (fun C h => by cases h)
  obtain ⟨a14, q14⟩ := arr_of (ty := .long) (hts _ (tbg_in kw_184)) (fun C h => by cases h)
  obtain ⟨a15, q15⟩ := arr_of (ty := .byte) (hts _ (tbg_in kw_141)) (fun C h => by cases h)
  obtain ⟨a16, q16⟩ := arr_over (hts _ (tb1_in tb_ao.1))
  obtain ⟨a17, q17⟩ := arr_over (hts _ (tb1_in tb_ao.2))
  have hA : ∀ a : Nat, a < s.heap.size → ¬ (fun q => s.heap.size ≤ q) a := fun a h => Nat.not_le.mpr h
  obtain ⟨t, ht, hT⟩ := va_Tof (f := fun j => .int (sinV.getD j 0)) (A := fun q => s.heap.size ≤ q) (N := 10) (by decide) (hs _ nf_sa) (va_eqt (hs _ nf_sl)) (fun j hj => va_eqt (hs _ (nf_se j hj))) hA
  have hZ := va_Zof (A := fun q => s.heap.size ≤ q) (hts _ (tb1_in (tb_ls ("FallCards", "SINES", "[I") (by simp [lsL])))) (hts _ (tbg_in kw_1)) ht hA
  have hC := va_Zof (A := fun q => s.heap.size ≤ q) (hts _ (tb1_in (tb_ls ("java/lang/String", "COMPACT_STRINGS", "Z") (by simp [lsL])))) (hts _ (tbg_in kw_9)) (va_eqt (hs _ nf_cs)) hA
  have hM := va_Zqof (A := fun q => s.heap.size ≤ q) (hts _ (tb1_in (tb_ls ("jdk/internal/util/Preconditions", "SIOOBE_FORMATTER", "Ljava/util/function/BiFunction;") (by simp [lsL])))) (hts _ (tbg_in kw_11)) (hs _ nf_fm) hA
  obtain ⟨adK, adV, hS, hSe⟩ := vk_Sof (N := 15) (tm := tmS) (len := strLn) (byt := strBy) (A := fun q => s.heap.size ≤ q) (by decide) (fun i hi => hs _ (nf_ex i hi)) (fun i hi => hs _ (nf_co i hi)) (fun i hi => hs _ (nf_ar i hi)) (fun i hi => hs _ (nf_le i hi)) (fun i hi j hj => hs _ (nf_el i hi j hj)) (fun i j hi hj hij => (nf_ne i hi j hj hij).imp (hs _) (hs _)) hA
  obtain ⟨tf, hM⟩ : ∃ tf : Nat, va_Z "jdk/internal/util/Preconditions" "SIOOBE_FORMATTER" "Ljava/util/function/BiFunction;" .null (fun q => s.heap.size ≤ q) s s.heap ∨ va_Z "jdk/internal/util/Preconditions" "SIOOBE_FORMATTER" "Ljava/util/function/BiFunction;" (.ref tf) (fun q => s.heap.size ≤ q) s s.heap := by
    rcases hM with h | ⟨tf, h⟩
    · exact ⟨0, Or.inl h⟩
    · exact ⟨tf, Or.inr h⟩
  refine ⟨(l, s.heap.size, (fun n => if n < 15 then adK n else if n = 20 then t else if n = 21 then b else if n = 22 then tf else adV (n - 30)), ((fun k => if k = 0 then c0 else if k = 1 then c1 else if k = 2 then c2 else if k = 3 then c3 else if k = 4 then c4 else if k = 5 then c5 else if k = 6 then c6 else if k = 7 then c7 else if k = 8 then c8 else if k = 9 then c9 else if k = 10 then c10 else if k = 11 then c11 else c12), (fun k => if k = 0 then i0 else if k = 1 then i1 else if k = 2 then i2 else if k = 3 then i3 else if k = 4 then i4 else if k = 5 then i5 else if k = 6 then i6 else if k = 7 then i7 else if k = 8 then i8 else if k = 9 then i9 else if k = 10 then i10 else if k = 11 then i11 else i12)), (fun k => if k = 13 then a13 else if k = 14 then a14 else if k = 15 then a15 else if k = 16 then a16 else a17), L, xs), rfl, rfl, rfl, rfl, rfl, ?_⟩
  refine ⟨⟨?_, ?_⟩, hZ, hT, ⟨hC, hM⟩, ⟨fun i hi => ?_, fun i j hi hj he => ?_⟩, fun i hi => ?_, fun q hq => va_Nc.of (hs _ (nf_nc q hq)), hX, hbl, va_AO.of (hts _ (tb1_in tb_ao.1)), va_AO.of (hts _ (tb1_in tb_ao.2)), fun q hq => va_Nw.of rfl (hts _ (tb1_in (tb_ca q hq))), fun x hx => va_Nw.of rfl (hts _ (tb1_in (tb_ne x hx)))⟩
  · intro k q hq
    match k, hq with
    | 0, hq => cases hq; exact k0
    | 1, hq => cases hq; exact k1
    | 2, hq => cases hq; exact k2
    | 3, hq => cases hq; exact k3
    | 4, hq => cases hq; exact k4
    | 5, hq => cases hq; exact k5
    | 6, hq => cases hq; exact k6
    | 7, hq => cases hq; exact k7
    | 8, hq => cases hq; exact k8
    | 9, hq => cases hq; exact k9
    | 10, hq => cases hq; exact k10
    | 11, hq => cases hq; exact k11
    | 12, hq => cases hq; exact k12
    | k + 13, hq => simp [vwCl] at hq
  · intro k q hq
    match k, hq with
    | 0, hq => cases hq; exact q13
    | 1, hq => cases hq; exact q14
    | 2, hq => cases hq; exact q15
    | 3, hq => cases hq; exact q16
    | 4, hq => cases hq; exact q17
    | k + 5, hq => simp [KT] at hq
  · have h1 := hS.1 i hi
    have e1 : (30 + i < 15) = False := by simp; omega
    have e2 : ¬ 30 + i = 20 ∧ ¬ 30 + i = 21 ∧ ¬ 30 + i = 22 ∧ 30 + i - 30 = i := by omega
    simp only [hi, e1, e2.1, e2.2.1, e2.2.2.1, e2.2.2.2, if_true, if_false]
    exact h1
  · simp only [hi, hj, if_true] at he
    exact hS.2 i j hi hj he
  · simp only [hi, if_true]
    exact vk_R.of (hts _ (tb1_in (tb_sr i hi))) (hSe i hi)

