section
-- ===== PART A: goes FIRST, ahead of the names: the tables' words, and 'selects' of the private methods out of them =====
/-- a private method of a class that the tables say can be made, by its rows of tables_1 -/
def lw_okq (q : MethodName × Nat) : Prop := (q.1.cls ≠ "java/lang/invoke/MethodHandle" ∧ q.1.cls ≠ "java/lang/invoke/VarHandle") ∧ Cond.instantiable q.1.cls q.2 ∈ tables_1 ∧ Cond.privateMethod q.1 ∈ tables_1 ∧ Cond.instanceMethod q.1 ∈ tables_1
theorem lw_p0 : lw_okq (⟨"FallCards$Tape", "skipBlanks", "()V"⟩, 4) := ⟨⟨by decide +kernel, by decide +kernel⟩, List.mem_of_getElem? (i := 122) (by decide +kernel), List.mem_of_getElem? (i := 266) (by decide +kernel), List.mem_of_getElem? (i := 267) (by decide +kernel)⟩
theorem lw_p1 : lw_okq (⟨"FallCards$Tape", "isGood", "()Z"⟩, 4) := ⟨⟨by decide +kernel, by decide +kernel⟩, List.mem_of_getElem? (i := 122) (by decide +kernel), List.mem_of_getElem? (i := 270) (by decide +kernel), List.mem_of_getElem? (i := 271) (by decide +kernel)⟩
theorem lw_p2 : lw_okq (⟨"FallCards$Tape", "readPart", "(LFallCards$World;)V"⟩, 4) := ⟨⟨by decide +kernel, by decide +kernel⟩, List.mem_of_getElem? (i := 122) (by decide +kernel), List.mem_of_getElem? (i := 274) (by decide +kernel), List.mem_of_getElem? (i := 275) (by decide +kernel)⟩
theorem lw_p3 : lw_okq (⟨"FallCards$Tape", "passName", "(Ljava/lang/String;)Z"⟩, 4) := ⟨⟨by decide +kernel, by decide +kernel⟩, List.mem_of_getElem? (i := 122) (by decide +kernel), List.mem_of_getElem? (i := 287) (by decide +kernel), List.mem_of_getElem? (i := 288) (by decide +kernel)⟩
theorem lw_p4 : lw_okq (⟨"FallCards$Tape", "isBetween", "(ICC)Z"⟩, 4) := ⟨⟨by decide +kernel, by decide +kernel⟩, List.mem_of_getElem? (i := 122) (by decide +kernel), List.mem_of_getElem? (i := 301) (by decide +kernel), List.mem_of_getElem? (i := 302) (by decide +kernel)⟩
theorem lw_p5 : lw_okq (⟨"FallCards$Tape", "readNumber", "(II)I"⟩, 4) := ⟨⟨by decide +kernel, by decide +kernel⟩, List.mem_of_getElem? (i := 122) (by decide +kernel), List.mem_of_getElem? (i := 343) (by decide +kernel), List.mem_of_getElem? (i := 344) (by decide +kernel)⟩
theorem lw_p6 : lw_okq (⟨"FallCards$Tape", "blameHere", "()V"⟩, 4) := ⟨⟨by decide +kernel, by decide +kernel⟩, List.mem_of_getElem? (i := 122) (by decide +kernel), List.mem_of_getElem? (i := 350) (by decide +kernel), List.mem_of_getElem? (i := 351) (by decide +kernel)⟩
theorem lw_p7 : lw_okq (⟨"FallCards$Tape", "passEnd", "()V"⟩, 4) := ⟨⟨by decide +kernel, by decide +kernel⟩, List.mem_of_getElem? (i := 122) (by decide +kernel), List.mem_of_getElem? (i := 354) (by decide +kernel), List.mem_of_getElem? (i := 355) (by decide +kernel)⟩
theorem lw_p8 : lw_okq (⟨"FallCards$Tape", "passSign", "(C)Z"⟩, 4) := ⟨⟨by decide +kernel, by decide +kernel⟩, List.mem_of_getElem? (i := 122) (by decide +kernel), List.mem_of_getElem? (i := 358) (by decide +kernel), List.mem_of_getElem? (i := 359) (by decide +kernel)⟩
theorem lw_p9 : lw_okq (⟨"FallCards$Tape", "readHand", "(LFallCards$World;)V"⟩, 4) := ⟨⟨by decide +kernel, by decide +kernel⟩, List.mem_of_getElem? (i := 122) (by decide +kernel), List.mem_of_getElem? (i := 363) (by decide +kernel), List.mem_of_getElem? (i := 364) (by decide +kernel)⟩
theorem lw_p10 : lw_okq (⟨"FallCards$Tape", "readCard", "(LFallCards$World;)V"⟩, 4) := ⟨⟨by decide +kernel, by decide +kernel⟩, List.mem_of_getElem? (i := 122) (by decide +kernel), List.mem_of_getElem? (i := 367) (by decide +kernel), List.mem_of_getElem? (i := 368) (by decide +kernel)⟩
theorem lw_p11 : lw_okq (⟨"FallCards$Tape", "passKind", "()I"⟩, 4) := ⟨⟨by decide +kernel, by decide +kernel⟩, List.mem_of_getElem? (i := 122) (by decide +kernel), List.mem_of_getElem? (i := 371) (by decide +kernel), List.mem_of_getElem? (i := 372) (by decide +kernel)⟩
theorem lw_p12 : lw_okq (⟨"FallCards$Tape", "readClip", "()I"⟩, 4) := ⟨⟨by decide +kernel, by decide +kernel⟩, List.mem_of_getElem? (i := 122) (by decide +kernel), List.mem_of_getElem? (i := 386) (by decide +kernel), List.mem_of_getElem? (i := 387) (by decide +kernel)⟩
theorem lw_p13 : lw_okq (⟨"FallCards", "begin", "(LFallCards$Flight;IIII)Z"⟩, 16) := ⟨⟨by decide +kernel, by decide +kernel⟩, List.mem_of_getElem? (i := 21) (by decide +kernel), List.mem_of_getElem? (i := 541) (by decide +kernel), List.mem_of_getElem? (i := 542) (by decide +kernel)⟩
theorem lw_p14 : lw_okq (⟨"FallCards$Flight", "countSwing", "(I)V"⟩, 11) := ⟨⟨by decide +kernel, by decide +kernel⟩, List.mem_of_getElem? (i := 37) (by decide +kernel), List.mem_of_getElem? (i := 610) (by decide +kernel), List.mem_of_getElem? (i := 611) (by decide +kernel)⟩
theorem lw_p15 : lw_okq (⟨"FallCards$Flight", "countRound", "(I)V"⟩, 11) := ⟨⟨by decide +kernel, by decide +kernel⟩, List.mem_of_getElem? (i := 37) (by decide +kernel), List.mem_of_getElem? (i := 614) (by decide +kernel), List.mem_of_getElem? (i := 615) (by decide +kernel)⟩
def lw_privs_1 : List (MethodName × Nat) := [(⟨"FallCards$Tape", "skipBlanks", "()V"⟩, 4), (⟨"FallCards$Tape", "isGood", "()Z"⟩, 4), (⟨"FallCards$Tape", "readPart", "(LFallCards$World;)V"⟩, 4), (⟨"FallCards$Tape", "passName", "(Ljava/lang/String;)Z"⟩, 4), (⟨"FallCards$Tape", "isBetween", "(ICC)Z"⟩, 4), (⟨"FallCards$Tape", "readNumber", "(II)I"⟩, 4), (⟨"FallCards$Tape", "blameHere", "()V"⟩, 4), (⟨"FallCards$Tape", "passEnd", "()V"⟩, 4), (⟨"FallCards$Tape", "passSign", "(C)Z"⟩, 4), (⟨"FallCards$Tape", "readHand", "(LFallCards$World;)V"⟩, 4), (⟨"FallCards$Tape", "readCard", "(LFallCards$World;)V"⟩, 4), (⟨"FallCards$Tape", "passKind", "()I"⟩, 4), (⟨"FallCards$Tape", "readClip", "()I"⟩, 4), (⟨"FallCards", "begin", "(LFallCards$Flight;IIII)Z"⟩, 16), (⟨"FallCards$Flight", "countSwing", "(I)V"⟩, 11), (⟨"FallCards$Flight", "countRound", "(I)V"⟩, 11)]
theorem lw_r1 : ∀ q ∈ lw_privs_1, lw_okq q := List.forall_mem_cons.mpr ⟨lw_p0, List.forall_mem_cons.mpr ⟨lw_p1, List.forall_mem_cons.mpr ⟨lw_p2, List.forall_mem_cons.mpr ⟨lw_p3, List.forall_mem_cons.mpr ⟨lw_p4, List.forall_mem_cons.mpr ⟨lw_p5, List.forall_mem_cons.mpr ⟨lw_p6, List.forall_mem_cons.mpr ⟨lw_p7, List.forall_mem_cons.mpr ⟨lw_p8, List.forall_mem_cons.mpr ⟨lw_p9, List.forall_mem_cons.mpr ⟨lw_p10, List.forall_mem_cons.mpr ⟨lw_p11, List.forall_mem_cons.mpr ⟨lw_p12, List.forall_mem_cons.mpr ⟨lw_p13, List.forall_mem_cons.mpr ⟨lw_p14, List.forall_mem_cons.mpr ⟨lw_p15, fun _ h => absurd h List.not_mem_nil⟩⟩⟩⟩⟩⟩⟩⟩⟩⟩⟩⟩⟩⟩⟩⟩
theorem lw_p16 : lw_okq (⟨"FallCards", "landsOn", "(IIII)I"⟩, 16) := ⟨⟨by decide +kernel, by decide +kernel⟩, List.mem_of_getElem? (i := 21) (by decide +kernel), List.mem_of_getElem? (i := 669) (by decide +kernel), List.mem_of_getElem? (i := 670) (by decide +kernel)⟩
theorem lw_p17 : lw_okq (⟨"FallCards", "weightsToward", "(II)I"⟩, 16) := ⟨⟨by decide +kernel, by decide +kernel⟩, List.mem_of_getElem? (i := 21) (by decide +kernel), List.mem_of_getElem? (i := 680) (by decide +kernel), List.mem_of_getElem? (i := 681) (by decide +kernel)⟩
theorem lw_p18 : lw_okq (⟨"FallCards", "sheetAt", "(I)LFallCards$Sheet;"⟩, 16) := ⟨⟨by decide +kernel, by decide +kernel⟩, List.mem_of_getElem? (i := 21) (by decide +kernel), List.mem_of_getElem? (i := 692) (by decide +kernel), List.mem_of_getElem? (i := 693) (by decide +kernel)⟩
theorem lw_p19 : lw_okq (⟨"FallCards", "handAt", "(I)I"⟩, 16) := ⟨⟨by decide +kernel, by decide +kernel⟩, List.mem_of_getElem? (i := 21) (by decide +kernel), List.mem_of_getElem? (i := 720) (by decide +kernel), List.mem_of_getElem? (i := 721) (by decide +kernel)⟩
theorem lw_p20 : lw_okq (⟨"FallCards", "isRowPart", "(II)Z"⟩, 16) := ⟨⟨by decide +kernel, by decide +kernel⟩, List.mem_of_getElem? (i := 21) (by decide +kernel), List.mem_of_getElem? (i := 737) (by decide +kernel), List.mem_of_getElem? (i := 738) (by decide +kernel)⟩
theorem lw_p21 : lw_okq (⟨"FallCards", "lay", "(IIII)I"⟩, 16) := ⟨⟨by decide +kernel, by decide +kernel⟩, List.mem_of_getElem? (i := 21) (by decide +kernel), List.mem_of_getElem? (i := 776) (by decide +kernel), List.mem_of_getElem? (i := 777) (by decide +kernel)⟩
theorem lw_p22 : lw_okq (⟨"FallCards", "layRow", "(ILFallCards$Sheet;)I"⟩, 16) := ⟨⟨by decide +kernel, by decide +kernel⟩, List.mem_of_getElem? (i := 21) (by decide +kernel), List.mem_of_getElem? (i := 780) (by decide +kernel), List.mem_of_getElem? (i := 781) (by decide +kernel)⟩
theorem lw_p23 : lw_okq (⟨"FallCards", "thingOn", "(I)LFallCards$Fall;"⟩, 16) := ⟨⟨by decide +kernel, by decide +kernel⟩, List.mem_of_getElem? (i := 21) (by decide +kernel), List.mem_of_getElem? (i := 788) (by decide +kernel), List.mem_of_getElem? (i := 789) (by decide +kernel)⟩
theorem lw_p24 : lw_okq (⟨"FallCardsModel", "advance", "()V"⟩, 54) := ⟨⟨by decide +kernel, by decide +kernel⟩, List.mem_of_getElem? (i := 912) (by decide +kernel), List.mem_of_getElem? (i := 1093) (by decide +kernel), List.mem_of_getElem? (i := 1094) (by decide +kernel)⟩
theorem lw_p25 : lw_okq (⟨"FallCardsModel", "byteAt", "(I)I"⟩, 54) := ⟨⟨by decide +kernel, by decide +kernel⟩, List.mem_of_getElem? (i := 912) (by decide +kernel), List.mem_of_getElem? (i := 1097) (by decide +kernel), List.mem_of_getElem? (i := 1098) (by decide +kernel)⟩
theorem lw_p26 : lw_okq (⟨"FallCardsModel", "kindHere", "()I"⟩, 54) := ⟨⟨by decide +kernel, by decide +kernel⟩, List.mem_of_getElem? (i := 912) (by decide +kernel), List.mem_of_getElem? (i := 1110) (by decide +kernel), List.mem_of_getElem? (i := 1111) (by decide +kernel)⟩
theorem lw_p27 : lw_okq (⟨"FallCardsModel", "isWord", "(J)Z"⟩, 54) := ⟨⟨by decide +kernel, by decide +kernel⟩, List.mem_of_getElem? (i := 912) (by decide +kernel), List.mem_of_getElem? (i := 1115) (by decide +kernel), List.mem_of_getElem? (i := 1116) (by decide +kernel)⟩
theorem lw_p28 : lw_okq (⟨"FallCardsModel", "wantCard", "(I)V"⟩, 54) := ⟨⟨by decide +kernel, by decide +kernel⟩, List.mem_of_getElem? (i := 912) (by decide +kernel), List.mem_of_getElem? (i := 1124) (by decide +kernel), List.mem_of_getElem? (i := 1125) (by decide +kernel)⟩
theorem lw_p29 : lw_okq (⟨"FallCardsModel", "wantNumber", "(II)I"⟩, 54) := ⟨⟨by decide +kernel, by decide +kernel⟩, List.mem_of_getElem? (i := 912) (by decide +kernel), List.mem_of_getElem? (i := 1128) (by decide +kernel), List.mem_of_getElem? (i := 1129) (by decide +kernel)⟩
theorem lw_p30 : lw_okq (⟨"FallCardsModel", "wantWord", "(J)V"⟩, 54) := ⟨⟨by decide +kernel, by decide +kernel⟩, List.mem_of_getElem? (i := 912) (by decide +kernel), List.mem_of_getElem? (i := 1133) (by decide +kernel), List.mem_of_getElem? (i := 1134) (by decide +kernel)⟩
theorem lw_p31 : lw_okq (⟨"FallCardsModel", "isMark", "(I)Z"⟩, 54) := ⟨⟨by decide +kernel, by decide +kernel⟩, List.mem_of_getElem? (i := 912) (by decide +kernel), List.mem_of_getElem? (i := 1138) (by decide +kernel), List.mem_of_getElem? (i := 1139) (by decide +kernel)⟩
def lw_privs_2 : List (MethodName × Nat) := [(⟨"FallCards", "landsOn", "(IIII)I"⟩, 16), (⟨"FallCards", "weightsToward", "(II)I"⟩, 16), (⟨"FallCards", "sheetAt", "(I)LFallCards$Sheet;"⟩, 16), (⟨"FallCards", "handAt", "(I)I"⟩, 16), (⟨"FallCards", "isRowPart", "(II)Z"⟩, 16), (⟨"FallCards", "lay", "(IIII)I"⟩, 16), (⟨"FallCards", "layRow", "(ILFallCards$Sheet;)I"⟩, 16), (⟨"FallCards", "thingOn", "(I)LFallCards$Fall;"⟩, 16), (⟨"FallCardsModel", "advance", "()V"⟩, 54), (⟨"FallCardsModel", "byteAt", "(I)I"⟩, 54), (⟨"FallCardsModel", "kindHere", "()I"⟩, 54), (⟨"FallCardsModel", "isWord", "(J)Z"⟩, 54), (⟨"FallCardsModel", "wantCard", "(I)V"⟩, 54), (⟨"FallCardsModel", "wantNumber", "(II)I"⟩, 54), (⟨"FallCardsModel", "wantWord", "(J)V"⟩, 54), (⟨"FallCardsModel", "isMark", "(I)Z"⟩, 54)]
theorem lw_r2 : ∀ q ∈ lw_privs_2, lw_okq q := List.forall_mem_cons.mpr ⟨lw_p16, List.forall_mem_cons.mpr ⟨lw_p17, List.forall_mem_cons.mpr ⟨lw_p18, List.forall_mem_cons.mpr ⟨lw_p19, List.forall_mem_cons.mpr ⟨lw_p20, List.forall_mem_cons.mpr ⟨lw_p21, List.forall_mem_cons.mpr ⟨lw_p22, List.forall_mem_cons.mpr ⟨lw_p23, List.forall_mem_cons.mpr ⟨lw_p24, List.forall_mem_cons.mpr ⟨lw_p25, List.forall_mem_cons.mpr ⟨lw_p26, List.forall_mem_cons.mpr ⟨lw_p27, List.forall_mem_cons.mpr ⟨lw_p28, List.forall_mem_cons.mpr ⟨lw_p29, List.forall_mem_cons.mpr ⟨lw_p30, List.forall_mem_cons.mpr ⟨lw_p31, fun _ h => absurd h List.not_mem_nil⟩⟩⟩⟩⟩⟩⟩⟩⟩⟩⟩⟩⟩⟩⟩⟩
theorem lw_p32 : lw_okq (⟨"FallCardsModel", "wantEnd", "()V"⟩, 54) := ⟨⟨by decide +kernel, by decide +kernel⟩, List.mem_of_getElem? (i := 912) (by decide +kernel), List.mem_of_getElem? (i := 1142) (by decide +kernel), List.mem_of_getElem? (i := 1143) (by decide +kernel)⟩
theorem lw_p33 : lw_okq (⟨"FallCardsModel", "lawHere", "()I"⟩, 54) := ⟨⟨by decide +kernel, by decide +kernel⟩, List.mem_of_getElem? (i := 912) (by decide +kernel), List.mem_of_getElem? (i := 1146) (by decide +kernel), List.mem_of_getElem? (i := 1147) (by decide +kernel)⟩
theorem lw_p34 : lw_okq (⟨"FallCardsModel", "wantHand", "()V"⟩, 54) := ⟨⟨by decide +kernel, by decide +kernel⟩, List.mem_of_getElem? (i := 912) (by decide +kernel), List.mem_of_getElem? (i := 1157) (by decide +kernel), List.mem_of_getElem? (i := 1158) (by decide +kernel)⟩
theorem lw_p35 : lw_okq (⟨"FallCardsModel", "isCard", "(I)Z"⟩, 54) := ⟨⟨by decide +kernel, by decide +kernel⟩, List.mem_of_getElem? (i := 912) (by decide +kernel), List.mem_of_getElem? (i := 1172) (by decide +kernel), List.mem_of_getElem? (i := 1173) (by decide +kernel)⟩
theorem lw_p36 : lw_okq (⟨"FallCardsModel", "its", "(II)I"⟩, 54) := ⟨⟨by decide +kernel, by decide +kernel⟩, List.mem_of_getElem? (i := 912) (by decide +kernel), List.mem_of_getElem? (i := 1176) (by decide +kernel), List.mem_of_getElem? (i := 1177) (by decide +kernel)⟩
theorem lw_p37 : lw_okq (⟨"FallCardsModel", "handMany", "()I"⟩, 54) := ⟨⟨by decide +kernel, by decide +kernel⟩, List.mem_of_getElem? (i := 912) (by decide +kernel), List.mem_of_getElem? (i := 1191) (by decide +kernel), List.mem_of_getElem? (i := 1192) (by decide +kernel)⟩
theorem lw_p38 : lw_okq (⟨"FallCardsModel", "sineOf", "(I)I"⟩, 54) := ⟨⟨by decide +kernel, by decide +kernel⟩, List.mem_of_getElem? (i := 912) (by decide +kernel), List.mem_of_getElem? (i := 1199) (by decide +kernel), List.mem_of_getElem? (i := 1200) (by decide +kernel)⟩
theorem lw_p39 : lw_okq (⟨"FallCardsModel", "isFall", "(IIII)Z"⟩, 54) := ⟨⟨by decide +kernel, by decide +kernel⟩, List.mem_of_getElem? (i := 912) (by decide +kernel), List.mem_of_getElem? (i := 1207) (by decide +kernel), List.mem_of_getElem? (i := 1208) (by decide +kernel)⟩
theorem lw_p40 : lw_okq (⟨"FallCardsModel", "lends", "(IIII)V"⟩, 54) := ⟨⟨by decide +kernel, by decide +kernel⟩, List.mem_of_getElem? (i := 912) (by decide +kernel), List.mem_of_getElem? (i := 1214) (by decide +kernel), List.mem_of_getElem? (i := 1215) (by decide +kernel)⟩
theorem lw_p41 : lw_okq (⟨"FallCardsModel", "givesAir", "()V"⟩, 54) := ⟨⟨by decide +kernel, by decide +kernel⟩, List.mem_of_getElem? (i := 912) (by decide +kernel), List.mem_of_getElem? (i := 1218) (by decide +kernel), List.mem_of_getElem? (i := 1219) (by decide +kernel)⟩
theorem lw_p42 : lw_okq (⟨"FallCardsModel", "takesAir", "()V"⟩, 54) := ⟨⟨by decide +kernel, by decide +kernel⟩, List.mem_of_getElem? (i := 912) (by decide +kernel), List.mem_of_getElem? (i := 1226) (by decide +kernel), List.mem_of_getElem? (i := 1227) (by decide +kernel)⟩
theorem lw_p43 : lw_okq (⟨"FallCardsModel", "isLanded", "()Z"⟩, 54) := ⟨⟨by decide +kernel, by decide +kernel⟩, List.mem_of_getElem? (i := 912) (by decide +kernel), List.mem_of_getElem? (i := 1230) (by decide +kernel), List.mem_of_getElem? (i := 1231) (by decide +kernel)⟩
theorem lw_p44 : lw_okq (⟨"FallCardsModel", "ticksOn", "()V"⟩, 54) := ⟨⟨by decide +kernel, by decide +kernel⟩, List.mem_of_getElem? (i := 912) (by decide +kernel), List.mem_of_getElem? (i := 1234) (by decide +kernel), List.mem_of_getElem? (i := 1235) (by decide +kernel)⟩
theorem lw_p45 : lw_okq (⟨"FallCardsModel", "cosineOf", "(I)I"⟩, 54) := ⟨⟨by decide +kernel, by decide +kernel⟩, List.mem_of_getElem? (i := 912) (by decide +kernel), List.mem_of_getElem? (i := 1238) (by decide +kernel), List.mem_of_getElem? (i := 1239) (by decide +kernel)⟩
theorem lw_p46 : lw_okq (⟨"FallCardsModel", "toldTurn", "()I"⟩, 54) := ⟨⟨by decide +kernel, by decide +kernel⟩, List.mem_of_getElem? (i := 912) (by decide +kernel), List.mem_of_getElem? (i := 1248) (by decide +kernel), List.mem_of_getElem? (i := 1249) (by decide +kernel)⟩
theorem lw_p47 : lw_okq (⟨"FallCardsModel", "plainTurn", "()I"⟩, 54) := ⟨⟨by decide +kernel, by decide +kernel⟩, List.mem_of_getElem? (i := 912) (by decide +kernel), List.mem_of_getElem? (i := 1252) (by decide +kernel), List.mem_of_getElem? (i := 1253) (by decide +kernel)⟩
def lw_privs_3 : List (MethodName × Nat) := [(⟨"FallCardsModel", "wantEnd", "()V"⟩, 54), (⟨"FallCardsModel", "lawHere", "()I"⟩, 54), (⟨"FallCardsModel", "wantHand", "()V"⟩, 54), (⟨"FallCardsModel", "isCard", "(I)Z"⟩, 54), (⟨"FallCardsModel", "its", "(II)I"⟩, 54), (⟨"FallCardsModel", "handMany", "()I"⟩, 54), (⟨"FallCardsModel", "sineOf", "(I)I"⟩, 54), (⟨"FallCardsModel", "isFall", "(IIII)Z"⟩, 54), (⟨"FallCardsModel", "lends", "(IIII)V"⟩, 54), (⟨"FallCardsModel", "givesAir", "()V"⟩, 54), (⟨"FallCardsModel", "takesAir", "()V"⟩, 54), (⟨"FallCardsModel", "isLanded", "()Z"⟩, 54), (⟨"FallCardsModel", "ticksOn", "()V"⟩, 54), (⟨"FallCardsModel", "cosineOf", "(I)I"⟩, 54), (⟨"FallCardsModel", "toldTurn", "()I"⟩, 54), (⟨"FallCardsModel", "plainTurn", "()I"⟩, 54)]
theorem lw_r3 : ∀ q ∈ lw_privs_3, lw_okq q := List.forall_mem_cons.mpr ⟨lw_p32, List.forall_mem_cons.mpr ⟨lw_p33, List.forall_mem_cons.mpr ⟨lw_p34, List.forall_mem_cons.mpr ⟨lw_p35, List.forall_mem_cons.mpr ⟨lw_p36, List.forall_mem_cons.mpr ⟨lw_p37, List.forall_mem_cons.mpr ⟨lw_p38, List.forall_mem_cons.mpr ⟨lw_p39, List.forall_mem_cons.mpr ⟨lw_p40, List.forall_mem_cons.mpr ⟨lw_p41, List.forall_mem_cons.mpr ⟨lw_p42, List.forall_mem_cons.mpr ⟨lw_p43, List.forall_mem_cons.mpr ⟨lw_p44, List.forall_mem_cons.mpr ⟨lw_p45, List.forall_mem_cons.mpr ⟨lw_p46, List.forall_mem_cons.mpr ⟨lw_p47, fun _ h => absurd h List.not_mem_nil⟩⟩⟩⟩⟩⟩⟩⟩⟩⟩⟩⟩⟩⟩⟩⟩
theorem lw_p48 : lw_okq (⟨"FallCardsModel", "falls", "(IIII)Z"⟩, 54) := ⟨⟨by decide +kernel, by decide +kernel⟩, List.mem_of_getElem? (i := 912) (by decide +kernel), List.mem_of_getElem? (i := 1269) (by decide +kernel), List.mem_of_getElem? (i := 1270) (by decide +kernel)⟩
theorem lw_p49 : lw_okq (⟨"FallCardsModel", "sortOf", "()I"⟩, 54) := ⟨⟨by decide +kernel, by decide +kernel⟩, List.mem_of_getElem? (i := 912) (by decide +kernel), List.mem_of_getElem? (i := 1273) (by decide +kernel), List.mem_of_getElem? (i := 1274) (by decide +kernel)⟩
theorem lw_p50 : lw_okq (⟨"FallCardsModel", "squareOf", "()I"⟩, 54) := ⟨⟨by decide +kernel, by decide +kernel⟩, List.mem_of_getElem? (i := 912) (by decide +kernel), List.mem_of_getElem? (i := 1277) (by decide +kernel), List.mem_of_getElem? (i := 1278) (by decide +kernel)⟩
theorem lw_p51 : lw_okq (⟨"FallCardsModel", "films", "([IIIII)I"⟩, 54) := ⟨⟨by decide +kernel, by decide +kernel⟩, List.mem_of_getElem? (i := 912) (by decide +kernel), List.mem_of_getElem? (i := 1289) (by decide +kernel), List.mem_of_getElem? (i := 1290) (by decide +kernel)⟩
theorem lw_p52 : lw_okq (⟨"FallCardsModel", "oftenOn", "(IIIII)I"⟩, 54) := ⟨⟨by decide +kernel, by decide +kernel⟩, List.mem_of_getElem? (i := 912) (by decide +kernel), List.mem_of_getElem? (i := 1303) (by decide +kernel), List.mem_of_getElem? (i := 1304) (by decide +kernel)⟩
theorem lw_p53 : lw_okq (⟨"FallCardsModel", "lacksSort", "(II)I"⟩, 54) := ⟨⟨by decide +kernel, by decide +kernel⟩, List.mem_of_getElem? (i := 912) (by decide +kernel), List.mem_of_getElem? (i := 1325) (by decide +kernel), List.mem_of_getElem? (i := 1326) (by decide +kernel)⟩
theorem lw_p54 : lw_okq (⟨"FallCardsModel", "missOf", "(IIIII)I"⟩, 54) := ⟨⟨by decide +kernel, by decide +kernel⟩, List.mem_of_getElem? (i := 912) (by decide +kernel), List.mem_of_getElem? (i := 1329) (by decide +kernel), List.mem_of_getElem? (i := 1330) (by decide +kernel)⟩
theorem lw_p55 : lw_okq (⟨"FallCardsModel", "findRows", "(I)V"⟩, 54) := ⟨⟨by decide +kernel, by decide +kernel⟩, List.mem_of_getElem? (i := 912) (by decide +kernel), List.mem_of_getElem? (i := 1352) (by decide +kernel), List.mem_of_getElem? (i := 1353) (by decide +kernel)⟩
theorem lw_p56 : lw_okq (⟨"FallCardsModel", "isRow", "(II)Z"⟩, 54) := ⟨⟨by decide +kernel, by decide +kernel⟩, List.mem_of_getElem? (i := 912) (by decide +kernel), List.mem_of_getElem? (i := 1360) (by decide +kernel), List.mem_of_getElem? (i := 1361) (by decide +kernel)⟩
theorem lw_p57 : lw_okq (⟨"FallCardsModel", "isHeld", "(II)Z"⟩, 54) := ⟨⟨by decide +kernel, by decide +kernel⟩, List.mem_of_getElem? (i := 912) (by decide +kernel), List.mem_of_getElem? (i := 1388) (by decide +kernel), List.mem_of_getElem? (i := 1389) (by decide +kernel)⟩
theorem lw_p58 : lw_okq (⟨"FallCardsModel", "kindOn", "(I)I"⟩, 54) := ⟨⟨by decide +kernel, by decide +kernel⟩, List.mem_of_getElem? (i := 912) (by decide +kernel), List.mem_of_getElem? (i := 1396) (by decide +kernel), List.mem_of_getElem? (i := 1397) (by decide +kernel)⟩
theorem lw_p59 : lw_okq (⟨"FallCardsModel", "fallsIt", "(I)I"⟩, 54) := ⟨⟨by decide +kernel, by decide +kernel⟩, List.mem_of_getElem? (i := 912) (by decide +kernel), List.mem_of_getElem? (i := 1407) (by decide +kernel), List.mem_of_getElem? (i := 1408) (by decide +kernel)⟩
theorem lw_p60 : lw_okq (⟨"FallCardsModel", "ran", "(I)V"⟩, 54) := ⟨⟨by decide +kernel, by decide +kernel⟩, List.mem_of_getElem? (i := 912) (by decide +kernel), List.mem_of_getElem? (i := 1411) (by decide +kernel), List.mem_of_getElem? (i := 1412) (by decide +kernel)⟩
theorem lw_p61 : lw_okq (⟨"FallCardsModel", "plainFalls", "(I)I"⟩, 54) := ⟨⟨by decide +kernel, by decide +kernel⟩, List.mem_of_getElem? (i := 912) (by decide +kernel), List.mem_of_getElem? (i := 1415) (by decide +kernel), List.mem_of_getElem? (i := 1416) (by decide +kernel)⟩
theorem lw_p62 : lw_okq (⟨"FallCardsModel", "turnsIt", "(I)I"⟩, 54) := ⟨⟨by decide +kernel, by decide +kernel⟩, List.mem_of_getElem? (i := 912) (by decide +kernel), List.mem_of_getElem? (i := 1419) (by decide +kernel), List.mem_of_getElem? (i := 1420) (by decide +kernel)⟩
theorem lw_p63 : lw_okq (⟨"FallCardsModel", "plainTurns", "(I)I"⟩, 54) := ⟨⟨by decide +kernel, by decide +kernel⟩, List.mem_of_getElem? (i := 912) (by decide +kernel), List.mem_of_getElem? (i := 1423) (by decide +kernel), List.mem_of_getElem? (i := 1424) (by decide +kernel)⟩
def lw_privs_4 : List (MethodName × Nat) := [(⟨"FallCardsModel", "falls", "(IIII)Z"⟩, 54), (⟨"FallCardsModel", "sortOf", "()I"⟩, 54), (⟨"FallCardsModel", "squareOf", "()I"⟩, 54), (⟨"FallCardsModel", "films", "([IIIII)I"⟩, 54), (⟨"FallCardsModel", "oftenOn", "(IIIII)I"⟩, 54), (⟨"FallCardsModel", "lacksSort", "(II)I"⟩, 54), (⟨"FallCardsModel", "missOf", "(IIIII)I"⟩, 54), (⟨"FallCardsModel", "findRows", "(I)V"⟩, 54), (⟨"FallCardsModel", "isRow", "(II)Z"⟩, 54), (⟨"FallCardsModel", "isHeld", "(II)Z"⟩, 54), (⟨"FallCardsModel", "kindOn", "(I)I"⟩, 54), (⟨"FallCardsModel", "fallsIt", "(I)I"⟩, 54), (⟨"FallCardsModel", "ran", "(I)V"⟩, 54), (⟨"FallCardsModel", "plainFalls", "(I)I"⟩, 54), (⟨"FallCardsModel", "turnsIt", "(I)I"⟩, 54), (⟨"FallCardsModel", "plainTurns", "(I)I"⟩, 54)]
theorem lw_r4 : ∀ q ∈ lw_privs_4, lw_okq q := List.forall_mem_cons.mpr ⟨lw_p48, List.forall_mem_cons.mpr ⟨lw_p49, List.forall_mem_cons.mpr ⟨lw_p50, List.forall_mem_cons.mpr ⟨lw_p51, List.forall_mem_cons.mpr ⟨lw_p52, List.forall_mem_cons.mpr ⟨lw_p53, List.forall_mem_cons.mpr ⟨lw_p54, List.forall_mem_cons.mpr ⟨lw_p55, List.forall_mem_cons.mpr ⟨lw_p56, List.forall_mem_cons.mpr ⟨lw_p57, List.forall_mem_cons.mpr ⟨lw_p58, List.forall_mem_cons.mpr ⟨lw_p59, List.forall_mem_cons.mpr ⟨lw_p60, List.forall_mem_cons.mpr ⟨lw_p61, List.forall_mem_cons.mpr ⟨lw_p62, List.forall_mem_cons.mpr ⟨lw_p63, fun _ h => absurd h List.not_mem_nil⟩⟩⟩⟩⟩⟩⟩⟩⟩⟩⟩⟩⟩⟩⟩⟩
theorem lw_p64 : lw_okq (⟨"FallCardsModel", "sharesIt", "(I)I"⟩, 54) := ⟨⟨by decide +kernel, by decide +kernel⟩, List.mem_of_getElem? (i := 912) (by decide +kernel), List.mem_of_getElem? (i := 1427) (by decide +kernel), List.mem_of_getElem? (i := 1428) (by decide +kernel)⟩
theorem lw_p65 : lw_okq (⟨"FallCardsModel", "plainShares", "(I)I"⟩, 54) := ⟨⟨by decide +kernel, by decide +kernel⟩, List.mem_of_getElem? (i := 912) (by decide +kernel), List.mem_of_getElem? (i := 1431) (by decide +kernel), List.mem_of_getElem? (i := 1432) (by decide +kernel)⟩
theorem lw_p66 : lw_okq (⟨"FallCardsModel", "tellsIt", "(I)I"⟩, 54) := ⟨⟨by decide +kernel, by decide +kernel⟩, List.mem_of_getElem? (i := 912) (by decide +kernel), List.mem_of_getElem? (i := 1435) (by decide +kernel), List.mem_of_getElem? (i := 1436) (by decide +kernel)⟩
theorem lw_p67 : lw_okq (⟨"FallCardsModel", "plainTells", "(I)I"⟩, 54) := ⟨⟨by decide +kernel, by decide +kernel⟩, List.mem_of_getElem? (i := 912) (by decide +kernel), List.mem_of_getElem? (i := 1439) (by decide +kernel), List.mem_of_getElem? (i := 1440) (by decide +kernel)⟩
theorem lw_p68 : lw_okq (⟨"FallCardsModel", "moveAll", "(Z)V"⟩, 54) := ⟨⟨by decide +kernel, by decide +kernel⟩, List.mem_of_getElem? (i := 912) (by decide +kernel), List.mem_of_getElem? (i := 1455) (by decide +kernel), List.mem_of_getElem? (i := 1456) (by decide +kernel)⟩
theorem lw_p69 : lw_okq (⟨"FallCardsModel", "move", "([IIZ)V"⟩, 54) := ⟨⟨by decide +kernel, by decide +kernel⟩, List.mem_of_getElem? (i := 912) (by decide +kernel), List.mem_of_getElem? (i := 1459) (by decide +kernel), List.mem_of_getElem? (i := 1460) (by decide +kernel)⟩
def lw_privs_5 : List (MethodName × Nat) := [(⟨"FallCardsModel", "sharesIt", "(I)I"⟩, 54), (⟨"FallCardsModel", "plainShares", "(I)I"⟩, 54), (⟨"FallCardsModel", "tellsIt", "(I)I"⟩, 54), (⟨"FallCardsModel", "plainTells", "(I)I"⟩, 54), (⟨"FallCardsModel", "moveAll", "(Z)V"⟩, 54), (⟨"FallCardsModel", "move", "([IIZ)V"⟩, 54)]
theorem lw_r5 : ∀ q ∈ lw_privs_5, lw_okq q := List.forall_mem_cons.mpr ⟨lw_p64, List.forall_mem_cons.mpr ⟨lw_p65, List.forall_mem_cons.mpr ⟨lw_p66, List.forall_mem_cons.mpr ⟨lw_p67, List.forall_mem_cons.mpr ⟨lw_p68, List.forall_mem_cons.mpr ⟨lw_p69, fun _ h => absurd h List.not_mem_nil⟩⟩⟩⟩⟩⟩
def lw_privs : List (MethodName × Nat) := lw_privs_1 ++ (lw_privs_2 ++ (lw_privs_3 ++ (lw_privs_4 ++ (lw_privs_5))))
def lw_tbl : List Cond := k2_sels lw_privs ++ tables_1
theorem lw_privs_ok : ∀ q ∈ lw_privs, lw_okq q := by
  show ∀ q ∈ lw_privs_1 ++ (lw_privs_2 ++ (lw_privs_3 ++ (lw_privs_4 ++ (lw_privs_5)))), lw_okq q
  exact List.forall_mem_append.mpr ⟨lw_r1, List.forall_mem_append.mpr ⟨lw_r2, List.forall_mem_append.mpr ⟨lw_r3, List.forall_mem_append.mpr ⟨lw_r4, lw_r5⟩⟩⟩⟩
end
section
def RX0 : String := "FallCards$Fall"
def TX0 : u_T := fun k => match k with
  | 0 => ("FallCards$Fall", "number", "I", true)
  | 1 => ("FallCards$Fall", "weight", "I", true)
  | 2 => ("FallCards$Fall", "wide", "I", true)
  | _ => ("FallCards$Fall", "clip", "I", true)
def tyX0 : Nat → FieldType := fun k => match k with
  | 0 => .int
  | 1 => .int
  | 2 => .int
  | _ => .int
theorem nmX0 : ∀ a, a < 4 → ∀ b, b < 4 → a ≠ b → (TX0 a).2.1 ≠ (TX0 b).2.1 := by decide +kernel
theorem tyX0_ok : ∀ k, k < 4 → parseFieldDescriptor (TX0 k).2.2.1 = some (tyX0 k) := by decide +kernel
abbrev cX0_init : ByteArray := prog_2_method_1_code
def yX0_init : MethodName := ⟨RX0, "<init>", "(IIII)V"⟩
abbrev cX0_kind : ByteArray := prog_2_method_2_code
def yX0_kind : MethodName := ⟨RX0, "kind", "()I"⟩
abbrev cX0_downTold : ByteArray := prog_2_method_3_code
def yX0_downTold : MethodName := ⟨RX0, "downTold", "(I)I"⟩
abbrev cX0_turnTold : ByteArray := prog_2_method_4_code
def yX0_turnTold : MethodName := ⟨RX0, "turnTold", "(LFallCards$Flight;I[I)I"⟩
abbrev cX0_falls : ByteArray := prog_2_method_5_code
def yX0_falls : MethodName := ⟨RX0, "falls", "(ILFallCards$Trace;)I"⟩
abbrev cX0_turns : ByteArray := prog_2_method_6_code
def yX0_turns : MethodName := ⟨RX0, "turns", "(ILFallCards$Trace;)I"⟩
abbrev cX0_shares : ByteArray := prog_2_method_7_code
def yX0_shares : MethodName := ⟨RX0, "shares", "(ILFallCards$Trace;)I"⟩
abbrev cX0_tells : ByteArray := prog_2_method_8_code
def yX0_tells : MethodName := ⟨RX0, "tells", "(ILFallCards$Trace;)I"⟩
def RX1 : String := "FallCards$Flight"
def TX1 : u_T := fun k => match k with
  | 0 => ("FallCards$Flight", "card", "LFallCards$Fall;", false)
  | 1 => ("FallCards$Flight", "weight", "I", false)
  | 2 => ("FallCards$Flight", "ticks", "I", false)
  | 3 => ("FallCards$Flight", "across", "I", false)
  | 4 => ("FallCards$Flight", "height", "I", false)
  | 5 => ("FallCards$Flight", "slant", "I", false)
  | 6 => ("FallCards$Flight", "turn", "I", false)
  | 7 => ("FallCards$Flight", "side", "I", false)
  | 8 => ("FallCards$Flight", "down", "I", false)
  | 9 => ("FallCards$Flight", "swings", "I", false)
  | _ => ("FallCards$Flight", "rounds", "I", false)
def tyX1 : Nat → FieldType := fun k => match k with
  | 0 => .object "FallCards$Fall"
  | 1 => .int
  | 2 => .int
  | 3 => .int
  | 4 => .int
  | 5 => .int
  | 6 => .int
  | 7 => .int
  | 8 => .int
  | 9 => .int
  | _ => .int
theorem nmX1 : ∀ a, a < 11 → ∀ b, b < 11 → a ≠ b → (TX1 a).2.1 ≠ (TX1 b).2.1 := by decide +kernel
theorem tyX1_ok : ∀ k, k < 11 → parseFieldDescriptor (TX1 k).2.2.1 = some (tyX1 k) := by decide +kernel
abbrev cX1_init : ByteArray := prog_3_method_1_code
def yX1_init : MethodName := ⟨RX1, "<init>", "()V"⟩
abbrev cX1_start : ByteArray := prog_3_method_2_code
def yX1_start : MethodName := ⟨RX1, "start", "(LFallCards$Fall;III)V"⟩
abbrev cX1_copyFrom : ByteArray := prog_3_method_3_code
def yX1_copyFrom : MethodName := ⟨RX1, "copyFrom", "(LFallCards$Flight;)V"⟩
abbrev cX1_landed : ByteArray := prog_3_method_4_code
def yX1_landed : MethodName := ⟨RX1, "landed", "()Z"⟩
abbrev cX1_step : ByteArray := prog_3_method_5_code
def yX1_step : MethodName := ⟨RX1, "step", "([I)V"⟩
abbrev cX1_countSwing : ByteArray := prog_3_method_6_code
def yX1_countSwing : MethodName := ⟨RX1, "countSwing", "(I)V"⟩
abbrev cX1_countRound : ByteArray := prog_3_method_7_code
def yX1_countRound : MethodName := ⟨RX1, "countRound", "(I)V"⟩
abbrev cX1_runOut : ByteArray := prog_3_method_8_code
def yX1_runOut : MethodName := ⟨RX1, "runOut", "([I)Z"⟩
abbrev cX1_sort : ByteArray := prog_3_method_9_code
def yX1_sort : MethodName := ⟨RX1, "sort", "()I"⟩
abbrev cX1_square : ByteArray := prog_3_method_10_code
def yX1_square : MethodName := ⟨RX1, "square", "()I"⟩
def RX2 : String := "FallCards$Righted"
def TX2 : u_T := fun k => match k with
  | 0 => ("FallCards$Fall", "number", "I", true)
  | 1 => ("FallCards$Fall", "weight", "I", true)
  | 2 => ("FallCards$Fall", "wide", "I", true)
  | _ => ("FallCards$Fall", "clip", "I", true)
def tyX2 : Nat → FieldType := fun k => match k with
  | 0 => .int
  | 1 => .int
  | 2 => .int
  | _ => .int
theorem nmX2 : ∀ a, a < 4 → ∀ b, b < 4 → a ≠ b → (TX2 a).2.1 ≠ (TX2 b).2.1 := by decide +kernel
theorem tyX2_ok : ∀ k, k < 4 → parseFieldDescriptor (TX2 k).2.2.1 = some (tyX2 k) := by decide +kernel
abbrev cX2_init : ByteArray := prog_4_method_1_code
def yX2_init : MethodName := ⟨RX2, "<init>", "(IIII)V"⟩
abbrev cX2_kind : ByteArray := prog_4_method_2_code
def yX2_kind : MethodName := ⟨RX2, "kind", "()I"⟩
abbrev cX2_turnTold : ByteArray := prog_4_method_3_code
def yX2_turnTold : MethodName := ⟨RX2, "turnTold", "(LFallCards$Flight;I[I)I"⟩
abbrev cX2_shares : ByteArray := prog_4_method_4_code
def yX2_shares : MethodName := ⟨RX2, "shares", "(ILFallCards$Trace;)I"⟩
abbrev cX2_falls : ByteArray := prog_4_method_5_code
def yX2_falls : MethodName := ⟨RX2, "falls", "(ILFallCards$Trace;)I"⟩
def RX3 : String := "FallCards$Sheet"
def TX3 : u_T := fun k => match k with
  | 0 => ("FallCards$Sheet", "sort", "I", false)
  | 1 => ("FallCards$Sheet", "length", "I", false)
  | _ => ("FallCards$Sheet", "items", "[J", true)
def tyX3 : Nat → FieldType := fun k => match k with
  | 0 => .int
  | 1 => .int
  | _ => .array .long
theorem nmX3 : ∀ a, a < 3 → ∀ b, b < 3 → a ≠ b → (TX3 a).2.1 ≠ (TX3 b).2.1 := by decide +kernel
theorem tyX3_ok : ∀ k, k < 3 → parseFieldDescriptor (TX3 k).2.2.1 = some (tyX3 k) := by decide +kernel
abbrev cX3_init : ByteArray := prog_5_method_1_code
def yX3_init : MethodName := ⟨RX3, "<init>", "()V"⟩
abbrev cX3_become : ByteArray := prog_5_method_2_code
def yX3_become : MethodName := ⟨RX3, "become", "(II)V"⟩
abbrev cX3_narrowed : ByteArray := prog_5_method_3_code
def yX3_narrowed : MethodName := ⟨RX3, "narrowed", "(I)J"⟩
def RX4 : String := "FallCards$Steady"
def TX4 : u_T := fun k => match k with
  | 0 => ("FallCards$Fall", "number", "I", true)
  | 1 => ("FallCards$Fall", "weight", "I", true)
  | 2 => ("FallCards$Fall", "wide", "I", true)
  | _ => ("FallCards$Fall", "clip", "I", true)
def tyX4 : Nat → FieldType := fun k => match k with
  | 0 => .int
  | 1 => .int
  | 2 => .int
  | _ => .int
theorem nmX4 : ∀ a, a < 4 → ∀ b, b < 4 → a ≠ b → (TX4 a).2.1 ≠ (TX4 b).2.1 := by decide +kernel
theorem tyX4_ok : ∀ k, k < 4 → parseFieldDescriptor (TX4 k).2.2.1 = some (tyX4 k) := by decide +kernel
abbrev cX4_init : ByteArray := prog_6_method_1_code
def yX4_init : MethodName := ⟨RX4, "<init>", "(IIII)V"⟩
abbrev cX4_kind : ByteArray := prog_6_method_2_code
def yX4_kind : MethodName := ⟨RX4, "kind", "()I"⟩
abbrev cX4_turnTold : ByteArray := prog_6_method_3_code
def yX4_turnTold : MethodName := ⟨RX4, "turnTold", "(LFallCards$Flight;I[I)I"⟩
abbrev cX4_turns : ByteArray := prog_6_method_4_code
def yX4_turns : MethodName := ⟨RX4, "turns", "(ILFallCards$Trace;)I"⟩
def RX5 : String := "FallCards$Swinging"
def TX5 : u_T := fun k => match k with
  | 0 => ("FallCards$Fall", "number", "I", true)
  | 1 => ("FallCards$Fall", "weight", "I", true)
  | 2 => ("FallCards$Fall", "wide", "I", true)
  | _ => ("FallCards$Fall", "clip", "I", true)
def tyX5 : Nat → FieldType := fun k => match k with
  | 0 => .int
  | 1 => .int
  | 2 => .int
  | _ => .int
theorem nmX5 : ∀ a, a < 4 → ∀ b, b < 4 → a ≠ b → (TX5 a).2.1 ≠ (TX5 b).2.1 := by decide +kernel
theorem tyX5_ok : ∀ k, k < 4 → parseFieldDescriptor (TX5 k).2.2.1 = some (tyX5 k) := by decide +kernel
abbrev cX5_init : ByteArray := prog_7_method_1_code
def yX5_init : MethodName := ⟨RX5, "<init>", "(IIII)V"⟩
abbrev cX5_kind : ByteArray := prog_7_method_2_code
def yX5_kind : MethodName := ⟨RX5, "kind", "()I"⟩
abbrev cX5_turnTold : ByteArray := prog_7_method_3_code
def yX5_turnTold : MethodName := ⟨RX5, "turnTold", "(LFallCards$Flight;I[I)I"⟩
abbrev cX5_falls : ByteArray := prog_7_method_4_code
def yX5_falls : MethodName := ⟨RX5, "falls", "(ILFallCards$Trace;)I"⟩
abbrev cX5_tells : ByteArray := prog_7_method_5_code
def yX5_tells : MethodName := ⟨RX5, "tells", "(ILFallCards$Trace;)I"⟩
def RX6 : String := "FallCards$Tape"
def TX6 : u_T := fun k => match k with
  | 0 => ("FallCards$Tape", "bytes", "[B", true)
  | 1 => ("FallCards$Tape", "length", "I", false)
  | 2 => ("FallCards$Tape", "place", "I", false)
  | _ => ("FallCards$Tape", "fault", "I", false)
def tyX6 : Nat → FieldType := fun k => match k with
  | 0 => .array .byte
  | 1 => .int
  | 2 => .int
  | _ => .int
theorem nmX6 : ∀ a, a < 4 → ∀ b, b < 4 → a ≠ b → (TX6 a).2.1 ≠ (TX6 b).2.1 := by decide +kernel
theorem tyX6_ok : ∀ k, k < 4 → parseFieldDescriptor (TX6 k).2.2.1 = some (tyX6 k) := by decide +kernel
abbrev cX6_init : ByteArray := prog_8_method_1_code
def yX6_init : MethodName := ⟨RX6, "<init>", "()V"⟩
abbrev cX6_takeBytes : ByteArray := prog_8_method_2_code
def yX6_takeBytes : MethodName := ⟨RX6, "takeBytes", "(JI)Z"⟩
abbrev cX6_readInto : ByteArray := prog_8_method_3_code
def yX6_readInto : MethodName := ⟨RX6, "readInto", "(LFallCards$World;)I"⟩
abbrev cX6_readPart : ByteArray := prog_8_method_4_code
def yX6_readPart : MethodName := ⟨RX6, "readPart", "(LFallCards$World;)V"⟩
abbrev cX6_readHand : ByteArray := prog_8_method_5_code
def yX6_readHand : MethodName := ⟨RX6, "readHand", "(LFallCards$World;)V"⟩
abbrev cX6_readCard : ByteArray := prog_8_method_6_code
def yX6_readCard : MethodName := ⟨RX6, "readCard", "(LFallCards$World;)V"⟩
abbrev cX6_readClip : ByteArray := prog_8_method_7_code
def yX6_readClip : MethodName := ⟨RX6, "readClip", "()I"⟩
abbrev cX6_passKind : ByteArray := prog_8_method_8_code
def yX6_passKind : MethodName := ⟨RX6, "passKind", "()I"⟩
abbrev cX6_passEnd : ByteArray := prog_8_method_9_code
def yX6_passEnd : MethodName := ⟨RX6, "passEnd", "()V"⟩
abbrev cX6_passSign : ByteArray := prog_8_method_10_code
def yX6_passSign : MethodName := ⟨RX6, "passSign", "(C)Z"⟩
abbrev cX6_passName : ByteArray := prog_8_method_11_code
def yX6_passName : MethodName := ⟨RX6, "passName", "(Ljava/lang/String;)Z"⟩
abbrev cX6_readNumber : ByteArray := prog_8_method_12_code
def yX6_readNumber : MethodName := ⟨RX6, "readNumber", "(II)I"⟩
abbrev cX6_isBetween : ByteArray := prog_8_method_13_code
def yX6_isBetween : MethodName := ⟨RX6, "isBetween", "(ICC)Z"⟩
abbrev cX6_skipBlanks : ByteArray := prog_8_method_14_code
def yX6_skipBlanks : MethodName := ⟨RX6, "skipBlanks", "()V"⟩
abbrev cX6_isGood : ByteArray := prog_8_method_15_code
def yX6_isGood : MethodName := ⟨RX6, "isGood", "()Z"⟩
abbrev cX6_blameHere : ByteArray := prog_8_method_16_code
def yX6_blameHere : MethodName := ⟨RX6, "blameHere", "()V"⟩
abbrev cX6_lawName : ByteArray := prog_8_method_17_code
def yX6_lawName : MethodName := ⟨RX6, "lawName", "(I)Ljava/lang/String;"⟩
abbrev cX6_kindName : ByteArray := prog_8_method_18_code
def yX6_kindName : MethodName := ⟨RX6, "kindName", "(I)Ljava/lang/String;"⟩
def RX7 : String := "FallCards$Trace"
def TX7 : u_T := fun k => match k with
  | 0 => ("FallCards$Trace", "numbers", "[I", true)
  | 1 => ("FallCards$Trace", "length", "I", false)
  | _ => ("FallCards$Trace", "broken", "Z", false)
def tyX7 : Nat → FieldType := fun k => match k with
  | 0 => .array .int
  | 1 => .int
  | _ => .boolean
theorem nmX7 : ∀ a, a < 3 → ∀ b, b < 3 → a ≠ b → (TX7 a).2.1 ≠ (TX7 b).2.1 := by decide +kernel
theorem tyX7_ok : ∀ k, k < 3 → parseFieldDescriptor (TX7 k).2.2.1 = some (tyX7 k) := by decide +kernel
abbrev cX7_init : ByteArray := prog_9_method_1_code
def yX7_init : MethodName := ⟨RX7, "<init>", "()V"⟩
abbrev cX7_clear : ByteArray := prog_9_method_2_code
def yX7_clear : MethodName := ⟨RX7, "clear", "()V"⟩
abbrev cX7_began : ByteArray := prog_9_method_3_code
def yX7_began : MethodName := ⟨RX7, "began", "(I)V"⟩
def RX8 : String := "FallCards$Turning"
def TX8 : u_T := fun k => match k with
  | 0 => ("FallCards$Fall", "number", "I", true)
  | 1 => ("FallCards$Fall", "weight", "I", true)
  | 2 => ("FallCards$Fall", "wide", "I", true)
  | _ => ("FallCards$Fall", "clip", "I", true)
def tyX8 : Nat → FieldType := fun k => match k with
  | 0 => .int
  | 1 => .int
  | 2 => .int
  | _ => .int
theorem nmX8 : ∀ a, a < 4 → ∀ b, b < 4 → a ≠ b → (TX8 a).2.1 ≠ (TX8 b).2.1 := by decide +kernel
theorem tyX8_ok : ∀ k, k < 4 → parseFieldDescriptor (TX8 k).2.2.1 = some (tyX8 k) := by decide +kernel
abbrev cX8_init : ByteArray := prog_10_method_1_code
def yX8_init : MethodName := ⟨RX8, "<init>", "(IIII)V"⟩
abbrev cX8_kind : ByteArray := prog_10_method_2_code
def yX8_kind : MethodName := ⟨RX8, "kind", "()I"⟩
abbrev cX8_turnTold : ByteArray := prog_10_method_3_code
def yX8_turnTold : MethodName := ⟨RX8, "turnTold", "(LFallCards$Flight;I[I)I"⟩
abbrev cX8_turns : ByteArray := prog_10_method_4_code
def yX8_turns : MethodName := ⟨RX8, "turns", "(ILFallCards$Trace;)I"⟩
def RX9 : String := "FallCards$Winged"
def TX9 : u_T := fun k => match k with
  | 0 => ("FallCards$Fall", "number", "I", true)
  | 1 => ("FallCards$Fall", "weight", "I", true)
  | 2 => ("FallCards$Fall", "wide", "I", true)
  | _ => ("FallCards$Fall", "clip", "I", true)
def tyX9 : Nat → FieldType := fun k => match k with
  | 0 => .int
  | 1 => .int
  | 2 => .int
  | _ => .int
theorem nmX9 : ∀ a, a < 4 → ∀ b, b < 4 → a ≠ b → (TX9 a).2.1 ≠ (TX9 b).2.1 := by decide +kernel
theorem tyX9_ok : ∀ k, k < 4 → parseFieldDescriptor (TX9 k).2.2.1 = some (tyX9 k) := by decide +kernel
abbrev cX9_init : ByteArray := prog_11_method_1_code
def yX9_init : MethodName := ⟨RX9, "<init>", "(IIII)V"⟩
abbrev cX9_kind : ByteArray := prog_11_method_2_code
def yX9_kind : MethodName := ⟨RX9, "kind", "()I"⟩
abbrev cX9_downTold : ByteArray := prog_11_method_3_code
def yX9_downTold : MethodName := ⟨RX9, "downTold", "(I)I"⟩
abbrev cX9_tells : ByteArray := prog_11_method_4_code
def yX9_tells : MethodName := ⟨RX9, "tells", "(ILFallCards$Trace;)I"⟩
abbrev cX9_shares : ByteArray := prog_11_method_5_code
def yX9_shares : MethodName := ⟨RX9, "shares", "(ILFallCards$Trace;)I"⟩
def RX10 : String := "FallCards$World"
def TX10 : u_T := fun k => match k with
  | 0 => ("FallCards$World", "things", "[LFallCards$Fall;", true)
  | 1 => ("FallCards$World", "count", "I", false)
  | 2 => ("FallCards$World", "laws", "[I", true)
  | 3 => ("FallCards$World", "hand", "[I", true)
  | 4 => ("FallCards$World", "air", "LFallCards$Flight;", true)
  | _ => ("FallCards$World", "z", "I", false)
def tyX10 : Nat → FieldType := fun k => match k with
  | 0 => .array (.object "FallCards$Fall")
  | 1 => .int
  | 2 => .array .int
  | 3 => .array .int
  | 4 => .object "FallCards$Flight"
  | _ => .int
theorem nmX10 : ∀ a, a < 6 → ∀ b, b < 6 → a ≠ b → (TX10 a).2.1 ≠ (TX10 b).2.1 := by decide +kernel
theorem tyX10_ok : ∀ k, k < 6 → parseFieldDescriptor (TX10 k).2.2.1 = some (tyX10 k) := by decide +kernel
abbrev cX10_init : ByteArray := prog_12_method_1_code
def yX10_init : MethodName := ⟨RX10, "<init>", "()V"⟩
abbrev cX10_copyFrom : ByteArray := prog_12_method_2_code
def yX10_copyFrom : MethodName := ⟨RX10, "copyFrom", "(LFallCards$World;)V"⟩
abbrev cX10_clearCards : ByteArray := prog_12_method_3_code
def yX10_clearCards : MethodName := ⟨RX10, "clearCards", "()V"⟩
abbrev cX10_cardAt : ByteArray := prog_12_method_4_code
def yX10_cardAt : MethodName := ⟨RX10, "cardAt", "(I)LFallCards$Fall;"⟩
abbrev cX10_addCard : ByteArray := prog_12_method_5_code
def yX10_addCard : MethodName := ⟨RX10, "addCard", "(IIII)Z"⟩
abbrev cX10_allWeights : ByteArray := prog_12_method_6_code
def yX10_allWeights : MethodName := ⟨RX10, "allWeights", "()I"⟩
abbrev cX10_thingOf : ByteArray := prog_12_method_7_code
def yX10_thingOf : MethodName := ⟨RX10, "thingOf", "(IIIII)LFallCards$Fall;"⟩
def RX11 : String := "FallCards"
def TX11 : u_T := fun k => match k with
  | 0 => ("FallCards", "now", "LFallCards$World;", true)
  | 1 => ("FallCards", "kept", "LFallCards$World;", true)
  | 2 => ("FallCards", "hasKept", "Z", false)
  | 3 => ("FallCards", "draft", "LFallCards$World;", true)
  | 4 => ("FallCards", "tape", "LFallCards$Tape;", true)
  | 5 => ("FallCards", "bodies", "LFallCards$Trace;", true)
  | 6 => ("FallCards", "sheets", "[LFallCards$Sheet;", true)
  | 7 => ("FallCards", "holds", "[I", true)
  | 8 => ("FallCards", "heldNumber", "[I", true)
  | 9 => ("FallCards", "heldLength", "[I", true)
  | 10 => ("FallCards", "rows", "[I", true)
  | 11 => ("FallCards", "rowCount", "I", false)
  | 12 => ("FallCards", "trial", "LFallCards$Flight;", true)
  | 13 => ("FallCards", "other", "LFallCards$Flight;", true)
  | 14 => ("FallCards", "trialLaws", "[I", true)
  | _ => ("FallCards", "squares", "[I", true)
def tyX11 : Nat → FieldType := fun k => match k with
  | 0 => .object "FallCards$World"
  | 1 => .object "FallCards$World"
  | 2 => .boolean
  | 3 => .object "FallCards$World"
  | 4 => .object "FallCards$Tape"
  | 5 => .object "FallCards$Trace"
  | 6 => .array (.object "FallCards$Sheet")
  | 7 => .array .int
  | 8 => .array .int
  | 9 => .array .int
  | 10 => .array .int
  | 11 => .int
  | 12 => .object "FallCards$Flight"
  | 13 => .object "FallCards$Flight"
  | 14 => .array .int
  | _ => .array .int
theorem nmX11 : ∀ a, a < 16 → ∀ b, b < 16 → a ≠ b → (TX11 a).2.1 ≠ (TX11 b).2.1 := by decide +kernel
theorem tyX11_ok : ∀ k, k < 16 → parseFieldDescriptor (TX11 k).2.2.1 = some (tyX11 k) := by decide +kernel
abbrev cX11_init : ByteArray := prog_1_method_1_code
def yX11_init : MethodName := ⟨RX11, "<init>", "()V"⟩
abbrev cX11_feed : ByteArray := prog_1_method_2_code
def yX11_feed : MethodName := ⟨RX11, "feed", "(JI)I"⟩
abbrev cX11_cards : ByteArray := prog_1_method_3_code
def yX11_cards : MethodName := ⟨RX11, "cards", "()I"⟩
abbrev cX11_card : ByteArray := prog_1_method_4_code
def yX11_card : MethodName := ⟨RX11, "card", "(IIII)I"⟩
abbrev cX11_cardOf : ByteArray := prog_1_method_5_code
def yX11_cardOf : MethodName := ⟨RX11, "cardOf", "(II)I"⟩
abbrev cX11_set : ByteArray := prog_1_method_6_code
def yX11_set : MethodName := ⟨RX11, "set", "(II)I"⟩
abbrev cX11_hand : ByteArray := prog_1_method_7_code
def yX11_hand : MethodName := ⟨RX11, "hand", "(II)I"⟩
abbrev cX11_sine : ByteArray := prog_1_method_8_code
def yX11_sine : MethodName := ⟨RX11, "sine", "(I)I"⟩
abbrev cX11_letGo : ByteArray := prog_1_method_9_code
def yX11_letGo : MethodName := ⟨RX11, "letGo", "(IIII)I"⟩
abbrev cX11_tick : ByteArray := prog_1_method_10_code
def yX11_tick : MethodName := ⟨RX11, "tick", "(I)I"⟩
abbrev cX11_air : ByteArray := prog_1_method_11_code
def yX11_air : MethodName := ⟨RX11, "air", "(I)I"⟩
abbrev cX11_gust : ByteArray := prog_1_method_12_code
def yX11_gust : MethodName := ⟨RX11, "gust", "(II)I"⟩
abbrev cX11_fall : ByteArray := prog_1_method_13_code
def yX11_fall : MethodName := ⟨RX11, "fall", "(IIIII)I"⟩
abbrev cX11_line : ByteArray := prog_1_method_14_code
def yX11_line : MethodName := ⟨RX11, "line", "(IIIII)I"⟩
abbrev cX11_parted : ByteArray := prog_1_method_15_code
def yX11_parted : MethodName := ⟨RX11, "parted", "(IIIII)I"⟩
abbrev cX11_odds : ByteArray := prog_1_method_16_code
def yX11_odds : MethodName := ⟨RX11, "odds", "(IIIIII)I"⟩
abbrev cX11_aim : ByteArray := prog_1_method_17_code
def yX11_aim : MethodName := ⟨RX11, "aim", "(IIII)I"⟩
abbrev cX11_longest : ByteArray := prog_1_method_18_code
def yX11_longest : MethodName := ⟨RX11, "longest", "(III)I"⟩
abbrev cX11_fit : ByteArray := prog_1_method_19_code
def yX11_fit : MethodName := ⟨RX11, "fit", "(IIIIII)I"⟩
abbrev cX11_miss : ByteArray := prog_1_method_20_code
def yX11_miss : MethodName := ⟨RX11, "miss", "(IIIII)I"⟩
abbrev cX11_toss : ByteArray := prog_1_method_21_code
def yX11_toss : MethodName := ⟨RX11, "toss", "(IIII)I"⟩
abbrev cX11_seed : ByteArray := prog_1_method_22_code
def yX11_seed : MethodName := ⟨RX11, "seed", "(I)I"⟩
abbrev cX11_prove : ByteArray := prog_1_method_23_code
def yX11_prove : MethodName := ⟨RX11, "prove", "(I)I"⟩
abbrev cX11_row : ByteArray := prog_1_method_24_code
def yX11_row : MethodName := ⟨RX11, "row", "(II)I"⟩
abbrev cX11_alterRow : ByteArray := prog_1_method_25_code
def yX11_alterRow : MethodName := ⟨RX11, "alterRow", "(III)I"⟩
abbrev cX11_judge : ByteArray := prog_1_method_26_code
def yX11_judge : MethodName := ⟨RX11, "judge", "()I"⟩
abbrev cX11_sheet : ByteArray := prog_1_method_27_code
def yX11_sheet : MethodName := ⟨RX11, "sheet", "(III)I"⟩
abbrev cX11_put : ByteArray := prog_1_method_28_code
def yX11_put : MethodName := ⟨RX11, "put", "(III)I"⟩
abbrev cX11_item : ByteArray := prog_1_method_29_code
def yX11_item : MethodName := ⟨RX11, "item", "(III)I"⟩
abbrev cX11_shelf : ByteArray := prog_1_method_30_code
def yX11_shelf : MethodName := ⟨RX11, "shelf", "(III)I"⟩
abbrev cX11_taken : ByteArray := prog_1_method_31_code
def yX11_taken : MethodName := ⟨RX11, "taken", "(II)I"⟩
abbrev cX11_act : ByteArray := prog_1_method_32_code
def yX11_act : MethodName := ⟨RX11, "act", "(III)I"⟩
abbrev cX11_trace : ByteArray := prog_1_method_33_code
def yX11_trace : MethodName := ⟨RX11, "trace", "(I)I"⟩
abbrev cX11_many : ByteArray := prog_1_method_34_code
def yX11_many : MethodName := ⟨RX11, "many", "(I)I"⟩
abbrev cX11_keep : ByteArray := prog_1_method_35_code
def yX11_keep : MethodName := ⟨RX11, "keep", "()I"⟩
abbrev cX11_again : ByteArray := prog_1_method_36_code
def yX11_again : MethodName := ⟨RX11, "again", "()I"⟩
abbrev cX11_sineOf : ByteArray := prog_1_method_37_code
def yX11_sineOf : MethodName := ⟨RX11, "sineOf", "(I)I"⟩
abbrev cX11_heldTo : ByteArray := prog_1_method_38_code
def yX11_heldTo : MethodName := ⟨RX11, "heldTo", "(II)I"⟩
abbrev cX11_commonDivisor : ByteArray := prog_1_method_39_code
def yX11_commonDivisor : MethodName := ⟨RX11, "commonDivisor", "(II)I"⟩
abbrev cX11_isLettingGo : ByteArray := prog_1_method_40_code
def yX11_isLettingGo : MethodName := ⟨RX11, "isLettingGo", "(III)Z"⟩
abbrev cX11_isSquare : ByteArray := prog_1_method_41_code
def yX11_isSquare : MethodName := ⟨RX11, "isSquare", "(I)Z"⟩
abbrev cX11_sheetAt : ByteArray := prog_1_method_42_code
def yX11_sheetAt : MethodName := ⟨RX11, "sheetAt", "(I)LFallCards$Sheet;"⟩
abbrev cX11_isShelf : ByteArray := prog_1_method_43_code
def yX11_isShelf : MethodName := ⟨RX11, "isShelf", "(I)Z"⟩
abbrev cX11_isRowPart : ByteArray := prog_1_method_44_code
def yX11_isRowPart : MethodName := ⟨RX11, "isRowPart", "(II)Z"⟩
abbrev cX11_isOfKind : ByteArray := prog_1_method_45_code
def yX11_isOfKind : MethodName := ⟨RX11, "isOfKind", "(LFallCards$Fall;I)Z"⟩
abbrev cX11_begin : ByteArray := prog_1_method_46_code
def yX11_begin : MethodName := ⟨RX11, "begin", "(LFallCards$Flight;IIII)Z"⟩
abbrev cX11_landsOn : ByteArray := prog_1_method_47_code
def yX11_landsOn : MethodName := ⟨RX11, "landsOn", "(IIII)I"⟩
abbrev cX11_byHand : ByteArray := prog_1_method_48_code
def yX11_byHand : MethodName := ⟨RX11, "byHand", "(II)I"⟩
abbrev cX11_handAt : ByteArray := prog_1_method_49_code
def yX11_handAt : MethodName := ⟨RX11, "handAt", "(I)I"⟩
abbrev cX11_weightsToward : ByteArray := prog_1_method_50_code
def yX11_weightsToward : MethodName := ⟨RX11, "weightsToward", "(II)I"⟩
abbrev cX11_filmRefusal : ByteArray := prog_1_method_51_code
def yX11_filmRefusal : MethodName := ⟨RX11, "filmRefusal", "(LFallCards$Sheet;)I"⟩
abbrev cX11_missOf : ByteArray := prog_1_method_52_code
def yX11_missOf : MethodName := ⟨RX11, "missOf", "(LFallCards$Flight;LFallCards$Sheet;[I)I"⟩
abbrev cX11_lay : ByteArray := prog_1_method_53_code
def yX11_lay : MethodName := ⟨RX11, "lay", "(IIII)I"⟩
abbrev cX11_layRow : ByteArray := prog_1_method_54_code
def yX11_layRow : MethodName := ⟨RX11, "layRow", "(ILFallCards$Sheet;)I"⟩
abbrev cX11_thingOn : ByteArray := prog_1_method_55_code
def yX11_thingOn : MethodName := ⟨RX11, "thingOn", "(I)LFallCards$Fall;"⟩
def RX12 : String := "FallCardsModel"
def TX12 : u_T := fun k => match k with
  | 0 => ("FallCardsModel", "cards", "I", false)
  | 1 => ("FallCardsModel", "card", "[I", true)
  | 2 => ("FallCardsModel", "laws", "[I", true)
  | 3 => ("FallCardsModel", "hand", "[I", true)
  | 4 => ("FallCardsModel", "sines", "[I", true)
  | 5 => ("FallCardsModel", "z", "I", false)
  | 6 => ("FallCardsModel", "air", "[I", true)
  | 7 => ("FallCardsModel", "tape", "[I", true)
  | 8 => ("FallCardsModel", "tapeMany", "I", false)
  | 9 => ("FallCardsModel", "sort", "I", false)
  | 10 => ("FallCardsModel", "begins", "I", false)
  | 11 => ("FallCardsModel", "tokenEnds", "I", false)
  | 12 => ("FallCardsModel", "word", "J", false)
  | 13 => ("FallCardsModel", "value", "I", false)
  | 14 => ("FallCardsModel", "good", "Z", false)
  | 15 => ("FallCardsModel", "freshMany", "I", false)
  | 16 => ("FallCardsModel", "fresh", "[I", true)
  | 17 => ("FallCardsModel", "freshLaws", "[I", true)
  | 18 => ("FallCardsModel", "freshHand", "[I", true)
  | 19 => ("FallCardsModel", "kind", "I", false)
  | 20 => ("FallCardsModel", "weight", "I", false)
  | 21 => ("FallCardsModel", "wide", "I", false)
  | 22 => ("FallCardsModel", "clip", "I", false)
  | 23 => ("FallCardsModel", "ticks", "I", false)
  | 24 => ("FallCardsModel", "across", "I", false)
  | 25 => ("FallCardsModel", "height", "I", false)
  | 26 => ("FallCardsModel", "slant", "I", false)
  | 27 => ("FallCardsModel", "turn", "I", false)
  | 28 => ("FallCardsModel", "side", "I", false)
  | 29 => ("FallCardsModel", "down", "I", false)
  | 30 => ("FallCardsModel", "swings", "I", false)
  | 31 => ("FallCardsModel", "rounds", "I", false)
  | 32 => ("FallCardsModel", "film", "[I", true)
  | 33 => ("FallCardsModel", "film2", "[I", true)
  | 34 => ("FallCardsModel", "rows", "[I", true)
  | 35 => ("FallCardsModel", "must", "[I", true)
  | 36 => ("FallCardsModel", "rowMany", "I", false)
  | 37 => ("FallCardsModel", "mustMany", "I", false)
  | 38 => ("FallCardsModel", "sorts", "[I", true)
  | 39 => ("FallCardsModel", "sizes", "[I", true)
  | 40 => ("FallCardsModel", "sheets", "[J", true)
  | 41 => ("FallCardsModel", "held", "[I", true)
  | 42 => ("FallCardsModel", "heldNumber", "[I", true)
  | 43 => ("FallCardsModel", "heldSize", "[I", true)
  | 44 => ("FallCardsModel", "actKind", "I", false)
  | 45 => ("FallCardsModel", "number", "I", false)
  | 46 => ("FallCardsModel", "own", "I", false)
  | 47 => ("FallCardsModel", "traced", "[I", true)
  | 48 => ("FallCardsModel", "bodies", "I", false)
  | 49 => ("FallCardsModel", "isParted", "Z", false)
  | 50 => ("FallCardsModel", "isKept", "Z", false)
  | 51 => ("FallCardsModel", "keptRow", "[I", true)
  | 52 => ("FallCardsModel", "movedTo", "I", false)
  | _ => ("FallCardsModel", "single", "[I", true)
def tyX12 : Nat → FieldType := fun k => match k with
  | 0 => .int
  | 1 => .array .int
  | 2 => .array .int
  | 3 => .array .int
  | 4 => .array .int
  | 5 => .int
  | 6 => .array .int
  | 7 => .array .int
  | 8 => .int
  | 9 => .int
  | 10 => .int
  | 11 => .int
  | 12 => .long
  | 13 => .int
  | 14 => .boolean
  | 15 => .int
  | 16 => .array .int
  | 17 => .array .int
  | 18 => .array .int
  | 19 => .int
  | 20 => .int
  | 21 => .int
  | 22 => .int
  | 23 => .int
  | 24 => .int
  | 25 => .int
  | 26 => .int
  | 27 => .int
  | 28 => .int
  | 29 => .int
  | 30 => .int
  | 31 => .int
  | 32 => .array .int
  | 33 => .array .int
  | 34 => .array .int
  | 35 => .array .int
  | 36 => .int
  | 37 => .int
  | 38 => .array .int
  | 39 => .array .int
  | 40 => .array .long
  | 41 => .array .int
  | 42 => .array .int
  | 43 => .array .int
  | 44 => .int
  | 45 => .int
  | 46 => .int
  | 47 => .array .int
  | 48 => .int
  | 49 => .boolean
  | 50 => .boolean
  | 51 => .array .int
  | 52 => .int
  | _ => .array .int
theorem nmX12 : ∀ a, a < 54 → ∀ b, b < 54 → a ≠ b → (TX12 a).2.1 ≠ (TX12 b).2.1 := by decide +kernel
theorem tyX12_ok : ∀ k, k < 54 → parseFieldDescriptor (TX12 k).2.2.1 = some (tyX12 k) := by decide +kernel
abbrev cX12_init : ByteArray := prog_14_method_1_code
def yX12_init : MethodName := ⟨RX12, "<init>", "()V"⟩
abbrev cX12_in : ByteArray := prog_14_method_2_code
def yX12_in : MethodName := ⟨RX12, "in", "(III)Z"⟩
abbrev cX12_isCard : ByteArray := prog_14_method_3_code
def yX12_isCard : MethodName := ⟨RX12, "isCard", "(I)Z"⟩
abbrev cX12_isSide : ByteArray := prog_14_method_4_code
def yX12_isSide : MethodName := ⟨RX12, "isSide", "(I)Z"⟩
abbrev cX12_its : ByteArray := prog_14_method_5_code
def yX12_its : MethodName := ⟨RX12, "its", "(II)I"⟩
abbrev cX12_bare : ByteArray := prog_14_method_6_code
def yX12_bare : MethodName := ⟨RX12, "bare", "(I)I"⟩
abbrev cX12_kept : ByteArray := prog_14_method_7_code
def yX12_kept : MethodName := ⟨RX12, "kept", "(II)I"⟩
abbrev cX12_isLike : ByteArray := prog_14_method_8_code
def yX12_isLike : MethodName := ⟨RX12, "isLike", "(IIII)Z"⟩
abbrev cX12_feed : ByteArray := prog_14_method_9_code
def yX12_feed : MethodName := ⟨RX12, "feed", "(JI)I"⟩
abbrev cX12_byteAt : ByteArray := prog_14_method_10_code
def yX12_byteAt : MethodName := ⟨RX12, "byteAt", "(I)I"⟩
abbrev cX12_isLetter : ByteArray := prog_14_method_11_code
def yX12_isLetter : MethodName := ⟨RX12, "isLetter", "(I)Z"⟩
abbrev cX12_isDigit : ByteArray := prog_14_method_12_code
def yX12_isDigit : MethodName := ⟨RX12, "isDigit", "(I)Z"⟩
abbrev cX12_advance : ByteArray := prog_14_method_13_code
def yX12_advance : MethodName := ⟨RX12, "advance", "()V"⟩
abbrev cX12_isWord : ByteArray := prog_14_method_14_code
def yX12_isWord : MethodName := ⟨RX12, "isWord", "(J)Z"⟩
abbrev cX12_isMark : ByteArray := prog_14_method_15_code
def yX12_isMark : MethodName := ⟨RX12, "isMark", "(I)Z"⟩
abbrev cX12_kindHere : ByteArray := prog_14_method_16_code
def yX12_kindHere : MethodName := ⟨RX12, "kindHere", "()I"⟩
abbrev cX12_lawHere : ByteArray := prog_14_method_17_code
def yX12_lawHere : MethodName := ⟨RX12, "lawHere", "()I"⟩
abbrev cX12_wantNumber : ByteArray := prog_14_method_18_code
def yX12_wantNumber : MethodName := ⟨RX12, "wantNumber", "(II)I"⟩
abbrev cX12_wantWord : ByteArray := prog_14_method_19_code
def yX12_wantWord : MethodName := ⟨RX12, "wantWord", "(J)V"⟩
abbrev cX12_wantEnd : ByteArray := prog_14_method_20_code
def yX12_wantEnd : MethodName := ⟨RX12, "wantEnd", "()V"⟩
abbrev cX12_wantCard : ByteArray := prog_14_method_21_code
def yX12_wantCard : MethodName := ⟨RX12, "wantCard", "(I)V"⟩
abbrev cX12_wantHand : ByteArray := prog_14_method_22_code
def yX12_wantHand : MethodName := ⟨RX12, "wantHand", "()V"⟩
abbrev cX12_cards : ByteArray := prog_14_method_23_code
def yX12_cards : MethodName := ⟨RX12, "cards", "()I"⟩
abbrev cX12_card : ByteArray := prog_14_method_24_code
def yX12_card : MethodName := ⟨RX12, "card", "(IIII)I"⟩
abbrev cX12_cardOf : ByteArray := prog_14_method_25_code
def yX12_cardOf : MethodName := ⟨RX12, "cardOf", "(II)I"⟩
abbrev cX12_isLaw : ByteArray := prog_14_method_26_code
def yX12_isLaw : MethodName := ⟨RX12, "isLaw", "(I)Z"⟩
abbrev cX12_set : ByteArray := prog_14_method_27_code
def yX12_set : MethodName := ⟨RX12, "set", "(II)I"⟩
abbrev cX12_handMany : ByteArray := prog_14_method_28_code
def yX12_handMany : MethodName := ⟨RX12, "handMany", "()I"⟩
abbrev cX12_hand : ByteArray := prog_14_method_29_code
def yX12_hand : MethodName := ⟨RX12, "hand", "(II)I"⟩
abbrev cX12_sineOf : ByteArray := prog_14_method_30_code
def yX12_sineOf : MethodName := ⟨RX12, "sineOf", "(I)I"⟩
abbrev cX12_cosineOf : ByteArray := prog_14_method_31_code
def yX12_cosineOf : MethodName := ⟨RX12, "cosineOf", "(I)I"⟩
abbrev cX12_sine : ByteArray := prog_14_method_32_code
def yX12_sine : MethodName := ⟨RX12, "sine", "(I)I"⟩
abbrev cX12_lends : ByteArray := prog_14_method_33_code
def yX12_lends : MethodName := ⟨RX12, "lends", "(IIII)V"⟩
abbrev cX12_isLanded : ByteArray := prog_14_method_34_code
def yX12_isLanded : MethodName := ⟨RX12, "isLanded", "()Z"⟩
abbrev cX12_plainTurn : ByteArray := prog_14_method_35_code
def yX12_plainTurn : MethodName := ⟨RX12, "plainTurn", "()I"⟩
abbrev cX12_toldTurn : ByteArray := prog_14_method_36_code
def yX12_toldTurn : MethodName := ⟨RX12, "toldTurn", "()I"⟩
abbrev cX12_ticksOn : ByteArray := prog_14_method_37_code
def yX12_ticksOn : MethodName := ⟨RX12, "ticksOn", "()V"⟩
abbrev cX12_falls : ByteArray := prog_14_method_38_code
def yX12_falls : MethodName := ⟨RX12, "falls", "(IIII)Z"⟩
abbrev cX12_isLetGo : ByteArray := prog_14_method_39_code
def yX12_isLetGo : MethodName := ⟨RX12, "isLetGo", "(III)Z"⟩
abbrev cX12_isFall : ByteArray := prog_14_method_40_code
def yX12_isFall : MethodName := ⟨RX12, "isFall", "(IIII)Z"⟩
abbrev cX12_takesAir : ByteArray := prog_14_method_41_code
def yX12_takesAir : MethodName := ⟨RX12, "takesAir", "()V"⟩
abbrev cX12_givesAir : ByteArray := prog_14_method_42_code
def yX12_givesAir : MethodName := ⟨RX12, "givesAir", "()V"⟩
abbrev cX12_letGo : ByteArray := prog_14_method_43_code
def yX12_letGo : MethodName := ⟨RX12, "letGo", "(IIII)I"⟩
abbrev cX12_tick : ByteArray := prog_14_method_44_code
def yX12_tick : MethodName := ⟨RX12, "tick", "(I)I"⟩
abbrev cX12_air : ByteArray := prog_14_method_45_code
def yX12_air : MethodName := ⟨RX12, "air", "(I)I"⟩
abbrev cX12_gust : ByteArray := prog_14_method_46_code
def yX12_gust : MethodName := ⟨RX12, "gust", "(II)I"⟩
abbrev cX12_sortOf : ByteArray := prog_14_method_47_code
def yX12_sortOf : MethodName := ⟨RX12, "sortOf", "()I"⟩
abbrev cX12_squareOf : ByteArray := prog_14_method_48_code
def yX12_squareOf : MethodName := ⟨RX12, "squareOf", "()I"⟩
abbrev cX12_fall : ByteArray := prog_14_method_49_code
def yX12_fall : MethodName := ⟨RX12, "fall", "(IIIII)I"⟩
abbrev cX12_line : ByteArray := prog_14_method_50_code
def yX12_line : MethodName := ⟨RX12, "line", "(IIIII)I"⟩
abbrev cX12_films : ByteArray := prog_14_method_51_code
def yX12_films : MethodName := ⟨RX12, "films", "([IIIII)I"⟩
abbrev cX12_parted : ByteArray := prog_14_method_52_code
def yX12_parted : MethodName := ⟨RX12, "parted", "(IIIII)I"⟩
abbrev cX12_oftenOn : ByteArray := prog_14_method_53_code
def yX12_oftenOn : MethodName := ⟨RX12, "oftenOn", "(IIIII)I"⟩
abbrev cX12_isSquare : ByteArray := prog_14_method_54_code
def yX12_isSquare : MethodName := ⟨RX12, "isSquare", "(I)Z"⟩
abbrev cX12_partOf : ByteArray := prog_14_method_55_code
def yX12_partOf : MethodName := ⟨RX12, "partOf", "(III)I"⟩
abbrev cX12_odds : ByteArray := prog_14_method_56_code
def yX12_odds : MethodName := ⟨RX12, "odds", "(IIIIII)I"⟩
abbrev cX12_aim : ByteArray := prog_14_method_57_code
def yX12_aim : MethodName := ⟨RX12, "aim", "(IIII)I"⟩
abbrev cX12_longest : ByteArray := prog_14_method_58_code
def yX12_longest : MethodName := ⟨RX12, "longest", "(III)I"⟩
abbrev cX12_missOf : ByteArray := prog_14_method_59_code
def yX12_missOf : MethodName := ⟨RX12, "missOf", "(IIIII)I"⟩
abbrev cX12_miss : ByteArray := prog_14_method_60_code
def yX12_miss : MethodName := ⟨RX12, "miss", "(IIIII)I"⟩
abbrev cX12_fit : ByteArray := prog_14_method_61_code
def yX12_fit : MethodName := ⟨RX12, "fit", "(IIIIII)I"⟩
abbrev cX12_toss : ByteArray := prog_14_method_62_code
def yX12_toss : MethodName := ⟨RX12, "toss", "(IIII)I"⟩
abbrev cX12_seed : ByteArray := prog_14_method_63_code
def yX12_seed : MethodName := ⟨RX12, "seed", "(I)I"⟩
abbrev cX12_findRows : ByteArray := prog_14_method_64_code
def yX12_findRows : MethodName := ⟨RX12, "findRows", "(I)V"⟩
abbrev cX12_prove : ByteArray := prog_14_method_65_code
def yX12_prove : MethodName := ⟨RX12, "prove", "(I)I"⟩
abbrev cX12_isRow : ByteArray := prog_14_method_66_code
def yX12_isRow : MethodName := ⟨RX12, "isRow", "(II)Z"⟩
abbrev cX12_row : ByteArray := prog_14_method_67_code
def yX12_row : MethodName := ⟨RX12, "row", "(II)I"⟩
abbrev cX12_alterRow : ByteArray := prog_14_method_68_code
def yX12_alterRow : MethodName := ⟨RX12, "alterRow", "(III)I"⟩
abbrev cX12_judge : ByteArray := prog_14_method_69_code
def yX12_judge : MethodName := ⟨RX12, "judge", "()I"⟩
abbrev cX12_isShelf : ByteArray := prog_14_method_70_code
def yX12_isShelf : MethodName := ⟨RX12, "isShelf", "(I)Z"⟩
abbrev cX12_sheet : ByteArray := prog_14_method_71_code
def yX12_sheet : MethodName := ⟨RX12, "sheet", "(III)I"⟩
abbrev cX12_put : ByteArray := prog_14_method_72_code
def yX12_put : MethodName := ⟨RX12, "put", "(III)I"⟩
abbrev cX12_lacksSort : ByteArray := prog_14_method_73_code
def yX12_lacksSort : MethodName := ⟨RX12, "lacksSort", "(II)I"⟩
abbrev cX12_item : ByteArray := prog_14_method_74_code
def yX12_item : MethodName := ⟨RX12, "item", "(III)I"⟩
abbrev cX12_isHeld : ByteArray := prog_14_method_75_code
def yX12_isHeld : MethodName := ⟨RX12, "isHeld", "(II)Z"⟩
abbrev cX12_shelf : ByteArray := prog_14_method_76_code
def yX12_shelf : MethodName := ⟨RX12, "shelf", "(III)I"⟩
abbrev cX12_kindOn : ByteArray := prog_14_method_77_code
def yX12_kindOn : MethodName := ⟨RX12, "kindOn", "(I)I"⟩
abbrev cX12_isUnder : ByteArray := prog_14_method_78_code
def yX12_isUnder : MethodName := ⟨RX12, "isUnder", "(II)Z"⟩
abbrev cX12_taken : ByteArray := prog_14_method_79_code
def yX12_taken : MethodName := ⟨RX12, "taken", "(II)I"⟩
abbrev cX12_ran : ByteArray := prog_14_method_80_code
def yX12_ran : MethodName := ⟨RX12, "ran", "(I)V"⟩
abbrev cX12_plainFalls : ByteArray := prog_14_method_81_code
def yX12_plainFalls : MethodName := ⟨RX12, "plainFalls", "(I)I"⟩
abbrev cX12_fallsIt : ByteArray := prog_14_method_82_code
def yX12_fallsIt : MethodName := ⟨RX12, "fallsIt", "(I)I"⟩
abbrev cX12_plainTurns : ByteArray := prog_14_method_83_code
def yX12_plainTurns : MethodName := ⟨RX12, "plainTurns", "(I)I"⟩
abbrev cX12_turnsIt : ByteArray := prog_14_method_84_code
def yX12_turnsIt : MethodName := ⟨RX12, "turnsIt", "(I)I"⟩
abbrev cX12_plainShares : ByteArray := prog_14_method_85_code
def yX12_plainShares : MethodName := ⟨RX12, "plainShares", "(I)I"⟩
abbrev cX12_sharesIt : ByteArray := prog_14_method_86_code
def yX12_sharesIt : MethodName := ⟨RX12, "sharesIt", "(I)I"⟩
abbrev cX12_plainTells : ByteArray := prog_14_method_87_code
def yX12_plainTells : MethodName := ⟨RX12, "plainTells", "(I)I"⟩
abbrev cX12_tellsIt : ByteArray := prog_14_method_88_code
def yX12_tellsIt : MethodName := ⟨RX12, "tellsIt", "(I)I"⟩
abbrev cX12_act : ByteArray := prog_14_method_89_code
def yX12_act : MethodName := ⟨RX12, "act", "(III)I"⟩
abbrev cX12_trace : ByteArray := prog_14_method_90_code
def yX12_trace : MethodName := ⟨RX12, "trace", "(I)I"⟩
abbrev cX12_many : ByteArray := prog_14_method_91_code
def yX12_many : MethodName := ⟨RX12, "many", "(I)I"⟩
abbrev cX12_move : ByteArray := prog_14_method_92_code
def yX12_move : MethodName := ⟨RX12, "move", "([IIZ)V"⟩
abbrev cX12_moveAll : ByteArray := prog_14_method_93_code
def yX12_moveAll : MethodName := ⟨RX12, "moveAll", "(Z)V"⟩
abbrev cX12_keep : ByteArray := prog_14_method_94_code
def yX12_keep : MethodName := ⟨RX12, "keep", "()I"⟩
abbrev cX12_again : ByteArray := prog_14_method_95_code
def yX12_again : MethodName := ⟨RX12, "again", "()I"⟩
def RJ9 : String := "java/lang/Math"
abbrev cJ9_floorDiv_7cf53 : ByteArray := prog_15_method_47_code
def yJ9_floorDiv_7cf53 : MethodName := ⟨RJ9, "floorDiv", "(II)I"⟩
abbrev cJ9_floorMod_7cf53 : ByteArray := prog_15_method_50_code
def yJ9_floorMod_7cf53 : MethodName := ⟨RJ9, "floorMod", "(II)I"⟩
abbrev cJ9_abs_0f7a4 : ByteArray := prog_15_method_59_code
def yJ9_abs_0f7a4 : MethodName := ⟨RJ9, "abs", "(I)I"⟩
abbrev cJ9_abs_067f4 : ByteArray := prog_15_method_61_code
def yJ9_abs_067f4 : MethodName := ⟨RJ9, "abs", "(J)J"⟩
abbrev cJ9_max_7cf53 : ByteArray := prog_15_method_65_code
def yJ9_max_7cf53 : MethodName := ⟨RJ9, "max", "(II)I"⟩
abbrev cJ9_min_7cf53 : ByteArray := prog_15_method_69_code
def yJ9_min_7cf53 : MethodName := ⟨RJ9, "min", "(II)I"⟩
abbrev cJ9_min_f86c9 : ByteArray := prog_15_method_70_code
def yJ9_min_f86c9 : MethodName := ⟨RJ9, "min", "(JJ)J"⟩
def RJ0 : String := "java/lang/String"
abbrev cJ0_length_8abf5 : ByteArray := prog_16_method_54_code
def yJ0_length_8abf5 : MethodName := ⟨RJ0, "length", "()I"⟩
abbrev cJ0_charAt_5068e : ByteArray := prog_16_method_56_code
def yJ0_charAt_5068e : MethodName := ⟨RJ0, "charAt", "(I)C"⟩
abbrev cJ0_coder_7d493 : ByteArray := prog_16_method_152_code
def yJ0_coder_7d493 : MethodName := ⟨RJ0, "coder", "()B"⟩
abbrev cJ0_isLatin1_aae02 : ByteArray := prog_16_method_154_code
def yJ0_isLatin1_aae02 : MethodName := ⟨RJ0, "isLatin1", "()Z"⟩
abbrev cJ0_checkIndex_df160 : ByteArray := prog_16_method_155_code
def yJ0_checkIndex_df160 : MethodName := ⟨RJ0, "checkIndex", "(II)V"⟩
def RJ1 : String := "java/lang/StringLatin1"
abbrev cJ1_charAt_3b067 : ByteArray := prog_17_method_2_code
def yJ1_charAt_3b067 : MethodName := ⟨RJ1, "charAt", "([BI)C"⟩
def RJ2 : String := "java/lang/StringUTF16"
abbrev cJ2_getChar_3b067 : ByteArray := prog_18_method_5_code
def yJ2_getChar_3b067 : MethodName := ⟨RJ2, "getChar", "([BI)C"⟩
abbrev cJ2_length_9d52b : ByteArray := prog_18_method_6_code
def yJ2_length_9d52b : MethodName := ⟨RJ2, "length", "([B)I"⟩
abbrev cJ2_charAt_3b067 : ByteArray := prog_18_method_83_code
def yJ2_charAt_3b067 : MethodName := ⟨RJ2, "charAt", "([BI)C"⟩
abbrev cJ2_checkIndex_2214a : ByteArray := prog_18_method_91_code
def yJ2_checkIndex_2214a : MethodName := ⟨RJ2, "checkIndex", "(I[B)V"⟩
def RJ10 : String := "java/lang/System"
def RJ3 : String := "jdk/internal/util/Preconditions"
abbrev cJ3_checkIndex_8e157 : ByteArray := prog_20_method_11_code
def yJ3_checkIndex_8e157 : MethodName := ⟨RJ3, "checkIndex", "(IILjava/util/function/BiFunction;)I"⟩
def RL : String := "FallCardsLaw"
abbrev cL_law : ByteArray := code
def yL_law : MethodName := ⟨RL, "law", "([I)Z"⟩
abbrev vwCl : List vw_C := [(RX0, TX0, 4), (RX1, TX1, 11), (RX2, TX2, 4), (RX3, TX3, 3), (RX4, TX4, 4), (RX5, TX5, 4), (RX6, TX6, 4), (RX7, TX7, 3), (RX8, TX8, 4), (RX9, TX9, 4), (RX10, TX10, 6), (RX11, TX11, 16), (RX12, TX12, 54)]
abbrev MD : Type := MethodName × ByteArray × Nat × Option FieldType
abbrev mX0_init : MD := (yX0_init, cX0_init, 5, (none : Option FieldType))
abbrev mX0_kind : MD := (yX0_kind, cX0_kind, 1, ((some FieldType.int) : Option FieldType))
abbrev mX0_downTold : MD := (yX0_downTold, cX0_downTold, 2, ((some FieldType.int) : Option FieldType))
abbrev mX0_turnTold : MD := (yX0_turnTold, cX0_turnTold, 5, ((some FieldType.int) : Option FieldType))
abbrev mX0_falls : MD := (yX0_falls, cX0_falls, 3, ((some FieldType.int) : Option FieldType))
abbrev mX0_turns : MD := (yX0_turns, cX0_turns, 3, ((some FieldType.int) : Option FieldType))
abbrev mX0_shares : MD := (yX0_shares, cX0_shares, 4, ((some FieldType.int) : Option FieldType))
abbrev mX0_tells : MD := (yX0_tells, cX0_tells, 3, ((some FieldType.int) : Option FieldType))
abbrev mX1_init : MD := (yX1_init, cX1_init, 1, (none : Option FieldType))
abbrev mX1_start : MD := (yX1_start, cX1_start, 5, (none : Option FieldType))
abbrev mX1_copyFrom : MD := (yX1_copyFrom, cX1_copyFrom, 2, (none : Option FieldType))
abbrev mX1_landed : MD := (yX1_landed, cX1_landed, 1, ((some FieldType.boolean) : Option FieldType))
abbrev mX1_step : MD := (yX1_step, cX1_step, 8, (none : Option FieldType))
abbrev mX1_countSwing : MD := (yX1_countSwing, cX1_countSwing, 2, (none : Option FieldType))
abbrev mX1_countRound : MD := (yX1_countRound, cX1_countRound, 2, (none : Option FieldType))
abbrev mX1_runOut : MD := (yX1_runOut, cX1_runOut, 3, ((some FieldType.boolean) : Option FieldType))
abbrev mX1_sort : MD := (yX1_sort, cX1_sort, 1, ((some FieldType.int) : Option FieldType))
abbrev mX1_square : MD := (yX1_square, cX1_square, 1, ((some FieldType.int) : Option FieldType))
abbrev mX2_init : MD := (yX2_init, cX2_init, 5, (none : Option FieldType))
abbrev mX2_kind : MD := (yX2_kind, cX2_kind, 1, ((some FieldType.int) : Option FieldType))
abbrev mX2_turnTold : MD := (yX2_turnTold, cX2_turnTold, 4, ((some FieldType.int) : Option FieldType))
abbrev mX2_shares : MD := (yX2_shares, cX2_shares, 3, ((some FieldType.int) : Option FieldType))
abbrev mX2_falls : MD := (yX2_falls, cX2_falls, 3, ((some FieldType.int) : Option FieldType))
abbrev mX3_init : MD := (yX3_init, cX3_init, 1, (none : Option FieldType))
abbrev mX3_become : MD := (yX3_become, cX3_become, 4, (none : Option FieldType))
abbrev mX3_narrowed : MD := (yX3_narrowed, cX3_narrowed, 2, ((some FieldType.long) : Option FieldType))
abbrev mX4_init : MD := (yX4_init, cX4_init, 5, (none : Option FieldType))
abbrev mX4_kind : MD := (yX4_kind, cX4_kind, 1, ((some FieldType.int) : Option FieldType))
abbrev mX4_turnTold : MD := (yX4_turnTold, cX4_turnTold, 4, ((some FieldType.int) : Option FieldType))
abbrev mX4_turns : MD := (yX4_turns, cX4_turns, 3, ((some FieldType.int) : Option FieldType))
abbrev mX5_init : MD := (yX5_init, cX5_init, 5, (none : Option FieldType))
abbrev mX5_kind : MD := (yX5_kind, cX5_kind, 1, ((some FieldType.int) : Option FieldType))
abbrev mX5_turnTold : MD := (yX5_turnTold, cX5_turnTold, 5, ((some FieldType.int) : Option FieldType))
abbrev mX5_falls : MD := (yX5_falls, cX5_falls, 3, ((some FieldType.int) : Option FieldType))
abbrev mX5_tells : MD := (yX5_tells, cX5_tells, 3, ((some FieldType.int) : Option FieldType))
abbrev mX6_init : MD := (yX6_init, cX6_init, 1, (none : Option FieldType))
abbrev mX6_takeBytes : MD := (yX6_takeBytes, cX6_takeBytes, 5, ((some FieldType.boolean) : Option FieldType))
abbrev mX6_readInto : MD := (yX6_readInto, cX6_readInto, 3, ((some FieldType.int) : Option FieldType))
abbrev mX6_readPart : MD := (yX6_readPart, cX6_readPart, 3, (none : Option FieldType))
abbrev mX6_readHand : MD := (yX6_readHand, cX6_readHand, 5, (none : Option FieldType))
abbrev mX6_readCard : MD := (yX6_readCard, cX6_readCard, 6, (none : Option FieldType))
abbrev mX6_readClip : MD := (yX6_readClip, cX6_readClip, 3, ((some FieldType.int) : Option FieldType))
abbrev mX6_passKind : MD := (yX6_passKind, cX6_passKind, 2, ((some FieldType.int) : Option FieldType))
abbrev mX6_passEnd : MD := (yX6_passEnd, cX6_passEnd, 1, (none : Option FieldType))
abbrev mX6_passSign : MD := (yX6_passSign, cX6_passSign, 2, ((some FieldType.boolean) : Option FieldType))
abbrev mX6_passName : MD := (yX6_passName, cX6_passName, 4, ((some FieldType.boolean) : Option FieldType))
abbrev mX6_readNumber : MD := (yX6_readNumber, cX6_readNumber, 6, ((some FieldType.int) : Option FieldType))
abbrev mX6_isBetween : MD := (yX6_isBetween, cX6_isBetween, 4, ((some FieldType.boolean) : Option FieldType))
abbrev mX6_skipBlanks : MD := (yX6_skipBlanks, cX6_skipBlanks, 1, (none : Option FieldType))
abbrev mX6_isGood : MD := (yX6_isGood, cX6_isGood, 1, ((some FieldType.boolean) : Option FieldType))
abbrev mX6_blameHere : MD := (yX6_blameHere, cX6_blameHere, 1, (none : Option FieldType))
abbrev mX6_lawName : MD := (yX6_lawName, cX6_lawName, 1, ((some (FieldType.object "java/lang/String")) : Option FieldType))
abbrev mX6_kindName : MD := (yX6_kindName, cX6_kindName, 1, ((some (FieldType.object "java/lang/String")) : Option FieldType))
abbrev mX7_init : MD := (yX7_init, cX7_init, 1, (none : Option FieldType))
abbrev mX7_clear : MD := (yX7_clear, cX7_clear, 1, (none : Option FieldType))
abbrev mX7_began : MD := (yX7_began, cX7_began, 2, (none : Option FieldType))
abbrev mX8_init : MD := (yX8_init, cX8_init, 5, (none : Option FieldType))
abbrev mX8_kind : MD := (yX8_kind, cX8_kind, 1, ((some FieldType.int) : Option FieldType))
abbrev mX8_turnTold : MD := (yX8_turnTold, cX8_turnTold, 4, ((some FieldType.int) : Option FieldType))
abbrev mX8_turns : MD := (yX8_turns, cX8_turns, 3, ((some FieldType.int) : Option FieldType))
abbrev mX9_init : MD := (yX9_init, cX9_init, 5, (none : Option FieldType))
abbrev mX9_kind : MD := (yX9_kind, cX9_kind, 1, ((some FieldType.int) : Option FieldType))
abbrev mX9_downTold : MD := (yX9_downTold, cX9_downTold, 2, ((some FieldType.int) : Option FieldType))
abbrev mX9_tells : MD := (yX9_tells, cX9_tells, 3, ((some FieldType.int) : Option FieldType))
abbrev mX9_shares : MD := (yX9_shares, cX9_shares, 3, ((some FieldType.int) : Option FieldType))
abbrev mX10_init : MD := (yX10_init, cX10_init, 1, (none : Option FieldType))
abbrev mX10_copyFrom : MD := (yX10_copyFrom, cX10_copyFrom, 2, (none : Option FieldType))
abbrev mX10_clearCards : MD := (yX10_clearCards, cX10_clearCards, 1, (none : Option FieldType))
abbrev mX10_cardAt : MD := (yX10_cardAt, cX10_cardAt, 2, ((some (FieldType.object "FallCards$Fall")) : Option FieldType))
abbrev mX10_addCard : MD := (yX10_addCard, cX10_addCard, 5, ((some FieldType.boolean) : Option FieldType))
abbrev mX10_allWeights : MD := (yX10_allWeights, cX10_allWeights, 3, ((some FieldType.int) : Option FieldType))
abbrev mX10_thingOf : MD := (yX10_thingOf, cX10_thingOf, 5, ((some (FieldType.object "FallCards$Fall")) : Option FieldType))
abbrev mX11_init : MD := (yX11_init, cX11_init, 2, (none : Option FieldType))
abbrev mX11_feed : MD := (yX11_feed, cX11_feed, 4, ((some FieldType.int) : Option FieldType))
abbrev mX11_cards : MD := (yX11_cards, cX11_cards, 2, ((some FieldType.int) : Option FieldType))
abbrev mX11_card : MD := (yX11_card, cX11_card, 5, ((some FieldType.int) : Option FieldType))
abbrev mX11_cardOf : MD := (yX11_cardOf, cX11_cardOf, 4, ((some FieldType.int) : Option FieldType))
abbrev mX11_set : MD := (yX11_set, cX11_set, 4, ((some FieldType.int) : Option FieldType))
abbrev mX11_hand : MD := (yX11_hand, cX11_hand, 4, ((some FieldType.int) : Option FieldType))
abbrev mX11_sine : MD := (yX11_sine, cX11_sine, 2, ((some FieldType.int) : Option FieldType))
abbrev mX11_letGo : MD := (yX11_letGo, cX11_letGo, 6, ((some FieldType.int) : Option FieldType))
abbrev mX11_tick : MD := (yX11_tick, cX11_tick, 3, ((some FieldType.int) : Option FieldType))
abbrev mX11_air : MD := (yX11_air, cX11_air, 3, ((some FieldType.int) : Option FieldType))
abbrev mX11_gust : MD := (yX11_gust, cX11_gust, 3, ((some FieldType.int) : Option FieldType))
abbrev mX11_fall : MD := (yX11_fall, cX11_fall, 6, ((some FieldType.int) : Option FieldType))
abbrev mX11_line : MD := (yX11_line, cX11_line, 7, ((some FieldType.int) : Option FieldType))
abbrev mX11_parted : MD := (yX11_parted, cX11_parted, 7, ((some FieldType.int) : Option FieldType))
abbrev mX11_odds : MD := (yX11_odds, cX11_odds, 10, ((some FieldType.int) : Option FieldType))
abbrev mX11_aim : MD := (yX11_aim, cX11_aim, 9, ((some FieldType.int) : Option FieldType))
abbrev mX11_longest : MD := (yX11_longest, cX11_longest, 7, ((some FieldType.int) : Option FieldType))
abbrev mX11_fit : MD := (yX11_fit, cX11_fit, 13, ((some FieldType.int) : Option FieldType))
abbrev mX11_miss : MD := (yX11_miss, cX11_miss, 8, ((some FieldType.int) : Option FieldType))
abbrev mX11_toss : MD := (yX11_toss, cX11_toss, 6, ((some FieldType.int) : Option FieldType))
abbrev mX11_seed : MD := (yX11_seed, cX11_seed, 3, ((some FieldType.int) : Option FieldType))
abbrev mX11_prove : MD := (yX11_prove, cX11_prove, 3, ((some FieldType.int) : Option FieldType))
abbrev mX11_row : MD := (yX11_row, cX11_row, 3, ((some FieldType.int) : Option FieldType))
abbrev mX11_alterRow : MD := (yX11_alterRow, cX11_alterRow, 5, ((some FieldType.int) : Option FieldType))
abbrev mX11_judge : MD := (yX11_judge, cX11_judge, 3, ((some FieldType.int) : Option FieldType))
abbrev mX11_sheet : MD := (yX11_sheet, cX11_sheet, 5, ((some FieldType.int) : Option FieldType))
abbrev mX11_put : MD := (yX11_put, cX11_put, 5, ((some FieldType.int) : Option FieldType))
abbrev mX11_item : MD := (yX11_item, cX11_item, 5, ((some FieldType.int) : Option FieldType))
abbrev mX11_shelf : MD := (yX11_shelf, cX11_shelf, 4, ((some FieldType.int) : Option FieldType))
abbrev mX11_taken : MD := (yX11_taken, cX11_taken, 6, ((some FieldType.int) : Option FieldType))
abbrev mX11_act : MD := (yX11_act, cX11_act, 6, ((some FieldType.int) : Option FieldType))
abbrev mX11_trace : MD := (yX11_trace, cX11_trace, 2, ((some FieldType.int) : Option FieldType))
abbrev mX11_many : MD := (yX11_many, cX11_many, 2, ((some FieldType.int) : Option FieldType))
abbrev mX11_keep : MD := (yX11_keep, cX11_keep, 1, ((some FieldType.int) : Option FieldType))
abbrev mX11_again : MD := (yX11_again, cX11_again, 1, ((some FieldType.int) : Option FieldType))
abbrev mX11_sineOf : MD := (yX11_sineOf, cX11_sineOf, 3, ((some FieldType.int) : Option FieldType))
abbrev mX11_heldTo : MD := (yX11_heldTo, cX11_heldTo, 2, ((some FieldType.int) : Option FieldType))
abbrev mX11_commonDivisor : MD := (yX11_commonDivisor, cX11_commonDivisor, 6, ((some FieldType.int) : Option FieldType))
abbrev mX11_isLettingGo : MD := (yX11_isLettingGo, cX11_isLettingGo, 3, ((some FieldType.boolean) : Option FieldType))
abbrev mX11_isSquare : MD := (yX11_isSquare, cX11_isSquare, 1, ((some FieldType.boolean) : Option FieldType))
abbrev mX11_sheetAt : MD := (yX11_sheetAt, cX11_sheetAt, 2, ((some (FieldType.object "FallCards$Sheet")) : Option FieldType))
abbrev mX11_isShelf : MD := (yX11_isShelf, cX11_isShelf, 1, ((some FieldType.boolean) : Option FieldType))
abbrev mX11_isRowPart : MD := (yX11_isRowPart, cX11_isRowPart, 3, ((some FieldType.boolean) : Option FieldType))
abbrev mX11_isOfKind : MD := (yX11_isOfKind, cX11_isOfKind, 2, ((some FieldType.boolean) : Option FieldType))
abbrev mX11_begin : MD := (yX11_begin, cX11_begin, 7, ((some FieldType.boolean) : Option FieldType))
abbrev mX11_landsOn : MD := (yX11_landsOn, cX11_landsOn, 5, ((some FieldType.int) : Option FieldType))
abbrev mX11_byHand : MD := (yX11_byHand, cX11_byHand, 2, ((some FieldType.int) : Option FieldType))
abbrev mX11_handAt : MD := (yX11_handAt, cX11_handAt, 4, ((some FieldType.int) : Option FieldType))
abbrev mX11_weightsToward : MD := (yX11_weightsToward, cX11_weightsToward, 5, ((some FieldType.int) : Option FieldType))
abbrev mX11_filmRefusal : MD := (yX11_filmRefusal, cX11_filmRefusal, 1, ((some FieldType.int) : Option FieldType))
abbrev mX11_missOf : MD := (yX11_missOf, cX11_missOf, 6, ((some FieldType.int) : Option FieldType))
abbrev mX11_lay : MD := (yX11_lay, cX11_lay, 5, ((some FieldType.int) : Option FieldType))
abbrev mX11_layRow : MD := (yX11_layRow, cX11_layRow, 3, ((some FieldType.int) : Option FieldType))
abbrev mX11_thingOn : MD := (yX11_thingOn, cX11_thingOn, 2, ((some (FieldType.object "FallCards$Fall")) : Option FieldType))
abbrev mX12_init : MD := (yX12_init, cX12_init, 1, (none : Option FieldType))
abbrev mX12_in : MD := (yX12_in, cX12_in, 3, ((some FieldType.boolean) : Option FieldType))
abbrev mX12_isCard : MD := (yX12_isCard, cX12_isCard, 2, ((some FieldType.boolean) : Option FieldType))
abbrev mX12_isSide : MD := (yX12_isSide, cX12_isSide, 1, ((some FieldType.boolean) : Option FieldType))
abbrev mX12_its : MD := (yX12_its, cX12_its, 3, ((some FieldType.int) : Option FieldType))
abbrev mX12_bare : MD := (yX12_bare, cX12_bare, 1, ((some FieldType.int) : Option FieldType))
abbrev mX12_kept : MD := (yX12_kept, cX12_kept, 2, ((some FieldType.int) : Option FieldType))
abbrev mX12_isLike : MD := (yX12_isLike, cX12_isLike, 4, ((some FieldType.boolean) : Option FieldType))
abbrev mX12_feed : MD := (yX12_feed, cX12_feed, 5, ((some FieldType.int) : Option FieldType))
abbrev mX12_byteAt : MD := (yX12_byteAt, cX12_byteAt, 2, ((some FieldType.int) : Option FieldType))
abbrev mX12_isLetter : MD := (yX12_isLetter, cX12_isLetter, 1, ((some FieldType.boolean) : Option FieldType))
abbrev mX12_isDigit : MD := (yX12_isDigit, cX12_isDigit, 1, ((some FieldType.boolean) : Option FieldType))
abbrev mX12_advance : MD := (yX12_advance, cX12_advance, 2, (none : Option FieldType))
abbrev mX12_isWord : MD := (yX12_isWord, cX12_isWord, 3, ((some FieldType.boolean) : Option FieldType))
abbrev mX12_isMark : MD := (yX12_isMark, cX12_isMark, 2, ((some FieldType.boolean) : Option FieldType))
abbrev mX12_kindHere : MD := (yX12_kindHere, cX12_kindHere, 1, ((some FieldType.int) : Option FieldType))
abbrev mX12_lawHere : MD := (yX12_lawHere, cX12_lawHere, 1, ((some FieldType.int) : Option FieldType))
abbrev mX12_wantNumber : MD := (yX12_wantNumber, cX12_wantNumber, 4, ((some FieldType.int) : Option FieldType))
abbrev mX12_wantWord : MD := (yX12_wantWord, cX12_wantWord, 3, (none : Option FieldType))
abbrev mX12_wantEnd : MD := (yX12_wantEnd, cX12_wantEnd, 1, (none : Option FieldType))
abbrev mX12_wantCard : MD := (yX12_wantCard, cX12_wantCard, 6, (none : Option FieldType))
abbrev mX12_wantHand : MD := (yX12_wantHand, cX12_wantHand, 4, (none : Option FieldType))
abbrev mX12_cards : MD := (yX12_cards, cX12_cards, 2, ((some FieldType.int) : Option FieldType))
abbrev mX12_card : MD := (yX12_card, cX12_card, 5, ((some FieldType.int) : Option FieldType))
abbrev mX12_cardOf : MD := (yX12_cardOf, cX12_cardOf, 3, ((some FieldType.int) : Option FieldType))
abbrev mX12_isLaw : MD := (yX12_isLaw, cX12_isLaw, 1, ((some FieldType.boolean) : Option FieldType))
abbrev mX12_set : MD := (yX12_set, cX12_set, 4, ((some FieldType.int) : Option FieldType))
abbrev mX12_handMany : MD := (yX12_handMany, cX12_handMany, 3, ((some FieldType.int) : Option FieldType))
abbrev mX12_hand : MD := (yX12_hand, cX12_hand, 4, ((some FieldType.int) : Option FieldType))
abbrev mX12_sineOf : MD := (yX12_sineOf, cX12_sineOf, 4, ((some FieldType.int) : Option FieldType))
abbrev mX12_cosineOf : MD := (yX12_cosineOf, cX12_cosineOf, 2, ((some FieldType.int) : Option FieldType))
abbrev mX12_sine : MD := (yX12_sine, cX12_sine, 2, ((some FieldType.int) : Option FieldType))
abbrev mX12_lends : MD := (yX12_lends, cX12_lends, 5, (none : Option FieldType))
abbrev mX12_isLanded : MD := (yX12_isLanded, cX12_isLanded, 1, ((some FieldType.boolean) : Option FieldType))
abbrev mX12_plainTurn : MD := (yX12_plainTurn, cX12_plainTurn, 1, ((some FieldType.int) : Option FieldType))
abbrev mX12_toldTurn : MD := (yX12_toldTurn, cX12_toldTurn, 1, ((some FieldType.int) : Option FieldType))
abbrev mX12_ticksOn : MD := (yX12_ticksOn, cX12_ticksOn, 6, (none : Option FieldType))
abbrev mX12_falls : MD := (yX12_falls, cX12_falls, 5, ((some FieldType.boolean) : Option FieldType))
abbrev mX12_isLetGo : MD := (yX12_isLetGo, cX12_isLetGo, 3, ((some FieldType.boolean) : Option FieldType))
abbrev mX12_isFall : MD := (yX12_isFall, cX12_isFall, 5, ((some FieldType.boolean) : Option FieldType))
abbrev mX12_takesAir : MD := (yX12_takesAir, cX12_takesAir, 1, (none : Option FieldType))
abbrev mX12_givesAir : MD := (yX12_givesAir, cX12_givesAir, 1, (none : Option FieldType))
abbrev mX12_letGo : MD := (yX12_letGo, cX12_letGo, 6, ((some FieldType.int) : Option FieldType))
abbrev mX12_tick : MD := (yX12_tick, cX12_tick, 3, ((some FieldType.int) : Option FieldType))
abbrev mX12_air : MD := (yX12_air, cX12_air, 2, ((some FieldType.int) : Option FieldType))
abbrev mX12_gust : MD := (yX12_gust, cX12_gust, 3, ((some FieldType.int) : Option FieldType))
abbrev mX12_sortOf : MD := (yX12_sortOf, cX12_sortOf, 1, ((some FieldType.int) : Option FieldType))
abbrev mX12_squareOf : MD := (yX12_squareOf, cX12_squareOf, 1, ((some FieldType.int) : Option FieldType))
abbrev mX12_fall : MD := (yX12_fall, cX12_fall, 6, ((some FieldType.int) : Option FieldType))
abbrev mX12_line : MD := (yX12_line, cX12_line, 9, ((some FieldType.int) : Option FieldType))
abbrev mX12_films : MD := (yX12_films, cX12_films, 6, ((some FieldType.int) : Option FieldType))
abbrev mX12_parted : MD := (yX12_parted, cX12_parted, 9, ((some FieldType.int) : Option FieldType))
abbrev mX12_oftenOn : MD := (yX12_oftenOn, cX12_oftenOn, 8, ((some FieldType.int) : Option FieldType))
abbrev mX12_isSquare : MD := (yX12_isSquare, cX12_isSquare, 1, ((some FieldType.boolean) : Option FieldType))
abbrev mX12_partOf : MD := (yX12_partOf, cX12_partOf, 6, ((some FieldType.int) : Option FieldType))
abbrev mX12_odds : MD := (yX12_odds, cX12_odds, 7, ((some FieldType.int) : Option FieldType))
abbrev mX12_aim : MD := (yX12_aim, cX12_aim, 9, ((some FieldType.int) : Option FieldType))
abbrev mX12_longest : MD := (yX12_longest, cX12_longest, 9, ((some FieldType.int) : Option FieldType))
abbrev mX12_missOf : MD := (yX12_missOf, cX12_missOf, 12, ((some FieldType.int) : Option FieldType))
abbrev mX12_miss : MD := (yX12_miss, cX12_miss, 7, ((some FieldType.int) : Option FieldType))
abbrev mX12_fit : MD := (yX12_fit, cX12_fit, 13, ((some FieldType.int) : Option FieldType))
abbrev mX12_toss : MD := (yX12_toss, cX12_toss, 7, ((some FieldType.int) : Option FieldType))
abbrev mX12_seed : MD := (yX12_seed, cX12_seed, 3, ((some FieldType.int) : Option FieldType))
abbrev mX12_findRows : MD := (yX12_findRows, cX12_findRows, 2, (none : Option FieldType))
abbrev mX12_prove : MD := (yX12_prove, cX12_prove, 3, ((some FieldType.int) : Option FieldType))
abbrev mX12_isRow : MD := (yX12_isRow, cX12_isRow, 3, ((some FieldType.boolean) : Option FieldType))
abbrev mX12_row : MD := (yX12_row, cX12_row, 3, ((some FieldType.int) : Option FieldType))
abbrev mX12_alterRow : MD := (yX12_alterRow, cX12_alterRow, 5, ((some FieldType.int) : Option FieldType))
abbrev mX12_judge : MD := (yX12_judge, cX12_judge, 4, ((some FieldType.int) : Option FieldType))
abbrev mX12_isShelf : MD := (yX12_isShelf, cX12_isShelf, 1, ((some FieldType.boolean) : Option FieldType))
abbrev mX12_sheet : MD := (yX12_sheet, cX12_sheet, 5, ((some FieldType.int) : Option FieldType))
abbrev mX12_put : MD := (yX12_put, cX12_put, 4, ((some FieldType.int) : Option FieldType))
abbrev mX12_lacksSort : MD := (yX12_lacksSort, cX12_lacksSort, 3, ((some FieldType.int) : Option FieldType))
abbrev mX12_item : MD := (yX12_item, cX12_item, 5, ((some FieldType.int) : Option FieldType))
abbrev mX12_isHeld : MD := (yX12_isHeld, cX12_isHeld, 3, ((some FieldType.boolean) : Option FieldType))
abbrev mX12_shelf : MD := (yX12_shelf, cX12_shelf, 4, ((some FieldType.int) : Option FieldType))
abbrev mX12_kindOn : MD := (yX12_kindOn, cX12_kindOn, 2, ((some FieldType.int) : Option FieldType))
abbrev mX12_isUnder : MD := (yX12_isUnder, cX12_isUnder, 2, ((some FieldType.boolean) : Option FieldType))
abbrev mX12_taken : MD := (yX12_taken, cX12_taken, 4, ((some FieldType.int) : Option FieldType))
abbrev mX12_ran : MD := (yX12_ran, cX12_ran, 2, (none : Option FieldType))
abbrev mX12_plainFalls : MD := (yX12_plainFalls, cX12_plainFalls, 2, ((some FieldType.int) : Option FieldType))
abbrev mX12_fallsIt : MD := (yX12_fallsIt, cX12_fallsIt, 2, ((some FieldType.int) : Option FieldType))
abbrev mX12_plainTurns : MD := (yX12_plainTurns, cX12_plainTurns, 2, ((some FieldType.int) : Option FieldType))
abbrev mX12_turnsIt : MD := (yX12_turnsIt, cX12_turnsIt, 2, ((some FieldType.int) : Option FieldType))
abbrev mX12_plainShares : MD := (yX12_plainShares, cX12_plainShares, 2, ((some FieldType.int) : Option FieldType))
abbrev mX12_sharesIt : MD := (yX12_sharesIt, cX12_sharesIt, 3, ((some FieldType.int) : Option FieldType))
abbrev mX12_plainTells : MD := (yX12_plainTells, cX12_plainTells, 2, ((some FieldType.int) : Option FieldType))
abbrev mX12_tellsIt : MD := (yX12_tellsIt, cX12_tellsIt, 3, ((some FieldType.int) : Option FieldType))
abbrev mX12_act : MD := (yX12_act, cX12_act, 6, ((some FieldType.int) : Option FieldType))
abbrev mX12_trace : MD := (yX12_trace, cX12_trace, 2, ((some FieldType.int) : Option FieldType))
abbrev mX12_many : MD := (yX12_many, cX12_many, 2, ((some FieldType.int) : Option FieldType))
abbrev mX12_move : MD := (yX12_move, cX12_move, 5, (none : Option FieldType))
abbrev mX12_moveAll : MD := (yX12_moveAll, cX12_moveAll, 2, (none : Option FieldType))
abbrev mX12_keep : MD := (yX12_keep, cX12_keep, 1, ((some FieldType.int) : Option FieldType))
abbrev mX12_again : MD := (yX12_again, cX12_again, 1, ((some FieldType.int) : Option FieldType))
abbrev mJ9_floorDiv_7cf53 : MD := (yJ9_floorDiv_7cf53, cJ9_floorDiv_7cf53, 3, ((some FieldType.int) : Option FieldType))
abbrev mJ9_floorMod_7cf53 : MD := (yJ9_floorMod_7cf53, cJ9_floorMod_7cf53, 3, ((some FieldType.int) : Option FieldType))
abbrev mJ9_abs_0f7a4 : MD := (yJ9_abs_0f7a4, cJ9_abs_0f7a4, 1, ((some FieldType.int) : Option FieldType))
abbrev mJ9_abs_067f4 : MD := (yJ9_abs_067f4, cJ9_abs_067f4, 2, ((some FieldType.long) : Option FieldType))
abbrev mJ9_max_7cf53 : MD := (yJ9_max_7cf53, cJ9_max_7cf53, 2, ((some FieldType.int) : Option FieldType))
abbrev mJ9_min_7cf53 : MD := (yJ9_min_7cf53, cJ9_min_7cf53, 2, ((some FieldType.int) : Option FieldType))
abbrev mJ9_min_f86c9 : MD := (yJ9_min_f86c9, cJ9_min_f86c9, 4, ((some FieldType.long) : Option FieldType))
abbrev mJ0_length_8abf5 : MD := (yJ0_length_8abf5, cJ0_length_8abf5, 1, ((some FieldType.int) : Option FieldType))
abbrev mJ0_charAt_5068e : MD := (yJ0_charAt_5068e, cJ0_charAt_5068e, 2, ((some FieldType.char) : Option FieldType))
abbrev mJ0_coder_7d493 : MD := (yJ0_coder_7d493, cJ0_coder_7d493, 1, ((some FieldType.byte) : Option FieldType))
abbrev mJ0_isLatin1_aae02 : MD := (yJ0_isLatin1_aae02, cJ0_isLatin1_aae02, 1, ((some FieldType.boolean) : Option FieldType))
abbrev mJ0_checkIndex_df160 : MD := (yJ0_checkIndex_df160, cJ0_checkIndex_df160, 2, (none : Option FieldType))
abbrev mJ1_charAt_3b067 : MD := (yJ1_charAt_3b067, cJ1_charAt_3b067, 2, ((some FieldType.char) : Option FieldType))
abbrev mJ2_getChar_3b067 : MD := (yJ2_getChar_3b067, cJ2_getChar_3b067, 2, ((some FieldType.char) : Option FieldType))
abbrev mJ2_length_9d52b : MD := (yJ2_length_9d52b, cJ2_length_9d52b, 1, ((some FieldType.int) : Option FieldType))
abbrev mJ2_charAt_3b067 : MD := (yJ2_charAt_3b067, cJ2_charAt_3b067, 2, ((some FieldType.char) : Option FieldType))
abbrev mJ2_checkIndex_2214a : MD := (yJ2_checkIndex_2214a, cJ2_checkIndex_2214a, 2, (none : Option FieldType))
abbrev mJ3_checkIndex_8e157 : MD := (yJ3_checkIndex_8e157, cJ3_checkIndex_8e157, 3, ((some FieldType.int) : Option FieldType))
end
section
theorem dX0_init_0 : decode cX0_init 0 = .ok (.aload_n 0, 1) := by decide +kernel
theorem dX0_init_1 : decode cX0_init 1 = .ok (.invokespecial 3, 3) := by decide +kernel
theorem dX0_init_4 : decode cX0_init 4 = .ok (.aload_n 0, 1) := by decide +kernel
theorem dX0_init_5 : decode cX0_init 5 = .ok (.iload_n 1, 1) := by decide +kernel
theorem dX0_init_6 : decode cX0_init 6 = .ok (.putfield 9, 3) := by decide +kernel
theorem dX0_init_9 : decode cX0_init 9 = .ok (.aload_n 0, 1) := by decide +kernel
theorem dX0_init_10 : decode cX0_init 10 = .ok (.iload_n 2, 1) := by decide +kernel
theorem dX0_init_11 : decode cX0_init 11 = .ok (.putfield 15, 3) := by decide +kernel
theorem dX0_init_14 : decode cX0_init 14 = .ok (.aload_n 0, 1) := by decide +kernel
theorem dX0_init_15 : decode cX0_init 15 = .ok (.iload_n 3, 1) := by decide +kernel
theorem dX0_init_16 : decode cX0_init 16 = .ok (.putfield 18, 3) := by decide +kernel
theorem dX0_init_19 : decode cX0_init 19 = .ok (.aload_n 0, 1) := by decide +kernel
theorem dX0_init_20 : decode cX0_init 20 = .ok (.iload 4, 2) := by decide +kernel
theorem dX0_init_22 : decode cX0_init 22 = .ok (.putfield 21, 3) := by decide +kernel
theorem dX0_init_25 : decode cX0_init 25 = .ok (.return_, 1) := by decide +kernel
theorem dX0_kind_0 : decode cX0_kind 0 = .ok (.iconst 0, 1) := by decide +kernel
theorem dX0_kind_1 : decode cX0_kind 1 = .ok (.ireturn, 1) := by decide +kernel
theorem dX0_downTold_0 : decode cX0_downTold 0 = .ok (.iload_n 1, 1) := by decide +kernel
theorem dX0_downTold_1 : decode cX0_downTold 1 = .ok (.ireturn, 1) := by decide +kernel
theorem dX0_turnTold_0 : decode cX0_turnTold 0 = .ok (.aload_n 0, 1) := by decide +kernel
theorem dX0_turnTold_1 : decode cX0_turnTold 1 = .ok (.getfield 18, 3) := by decide +kernel
theorem dX0_turnTold_4 : decode cX0_turnTold 4 = .ok (.ifCond .le 15, 3) := by decide +kernel
theorem dX0_turnTold_7 : decode cX0_turnTold 7 = .ok (.aload_n 0, 1) := by decide +kernel
theorem dX0_turnTold_8 : decode cX0_turnTold 8 = .ok (.getfield 21, 3) := by decide +kernel
theorem dX0_turnTold_11 : decode cX0_turnTold 11 = .ok (.aload_n 0, 1) := by decide +kernel
theorem dX0_turnTold_12 : decode cX0_turnTold 12 = .ok (.getfield 18, 3) := by decide +kernel
theorem dX0_turnTold_15 : decode cX0_turnTold 15 = .ok (.idiv, 1) := by decide +kernel
theorem dX0_turnTold_16 : decode cX0_turnTold 16 = .ok (.goto 4, 3) := by decide +kernel
theorem dX0_turnTold_19 : decode cX0_turnTold 19 = .ok (.iconst 0, 1) := by decide +kernel
theorem dX0_turnTold_20 : decode cX0_turnTold 20 = .ok (.istore 4, 2) := by decide +kernel
theorem dX0_turnTold_22 : decode cX0_turnTold 22 = .ok (.aload_n 1, 1) := by decide +kernel
theorem dX0_turnTold_23 : decode cX0_turnTold 23 = .ok (.getfield 24, 3) := by decide +kernel
theorem dX0_turnTold_26 : decode cX0_turnTold 26 = .ok (.aload_n 1, 1) := by decide +kernel
theorem dX0_turnTold_27 : decode cX0_turnTold 27 = .ok (.getfield 29, 3) := by decide +kernel
theorem dX0_turnTold_30 : decode cX0_turnTold 30 = .ok (.iload_n 2, 1) := by decide +kernel
theorem dX0_turnTold_31 : decode cX0_turnTold 31 = .ok (.imul, 1) := by decide +kernel
theorem dX0_turnTold_32 : decode cX0_turnTold 32 = .ok (.sipush 1000, 3) := by decide +kernel
theorem dX0_turnTold_35 : decode cX0_turnTold 35 = .ok (.idiv, 1) := by decide +kernel
theorem dX0_turnTold_36 : decode cX0_turnTold 36 = .ok (.aload_n 3, 1) := by decide +kernel
theorem dX0_turnTold_37 : decode cX0_turnTold 37 = .ok (.iconst 3, 1) := by decide +kernel
theorem dX0_turnTold_38 : decode cX0_turnTold 38 = .ok (.iaload, 1) := by decide +kernel
theorem dX0_turnTold_39 : decode cX0_turnTold 39 = .ok (.imul, 1) := by decide +kernel
theorem dX0_turnTold_40 : decode cX0_turnTold 40 = .ok (.sipush 1024, 3) := by decide +kernel
theorem dX0_turnTold_43 : decode cX0_turnTold 43 = .ok (.idiv, 1) := by decide +kernel
theorem dX0_turnTold_44 : decode cX0_turnTold 44 = .ok (.iadd, 1) := by decide +kernel
theorem dX0_turnTold_45 : decode cX0_turnTold 45 = .ok (.aload_n 1, 1) := by decide +kernel
theorem dX0_turnTold_46 : decode cX0_turnTold 46 = .ok (.getfield 24, 3) := by decide +kernel
theorem dX0_turnTold_49 : decode cX0_turnTold 49 = .ok (.aload_n 3, 1) := by decide +kernel
theorem dX0_turnTold_50 : decode cX0_turnTold 50 = .ok (.iconst 4, 1) := by decide +kernel
theorem dX0_turnTold_51 : decode cX0_turnTold 51 = .ok (.iaload, 1) := by decide +kernel
theorem dX0_turnTold_52 : decode cX0_turnTold 52 = .ok (.imul, 1) := by decide +kernel
theorem dX0_turnTold_53 : decode cX0_turnTold 53 = .ok (.bipush 64, 2) := by decide +kernel
theorem dX0_turnTold_55 : decode cX0_turnTold 55 = .ok (.idiv, 1) := by decide +kernel
theorem dX0_turnTold_56 : decode cX0_turnTold 56 = .ok (.isub, 1) := by decide +kernel
theorem dX0_turnTold_57 : decode cX0_turnTold 57 = .ok (.iload 4, 2) := by decide +kernel
theorem dX0_turnTold_59 : decode cX0_turnTold 59 = .ok (.iadd, 1) := by decide +kernel
theorem dX0_turnTold_60 : decode cX0_turnTold 60 = .ok (.ireturn, 1) := by decide +kernel
theorem dX0_falls_0 : decode cX0_falls 0 = .ok (.aload_n 2, 1) := by decide +kernel
theorem dX0_falls_1 : decode cX0_falls 1 = .ok (.bipush 10, 2) := by decide +kernel
theorem dX0_falls_3 : decode cX0_falls 3 = .ok (.invokevirtual 32, 3) := by decide +kernel
theorem dX0_falls_6 : decode cX0_falls 6 = .ok (.iload_n 1, 1) := by decide +kernel
theorem dX0_falls_7 : decode cX0_falls 7 = .ok (.aload_n 0, 1) := by decide +kernel
theorem dX0_falls_8 : decode cX0_falls 8 = .ok (.getfield 9, 3) := by decide +kernel
theorem dX0_falls_11 : decode cX0_falls 11 = .ok (.iadd, 1) := by decide +kernel
theorem dX0_falls_12 : decode cX0_falls 12 = .ok (.ireturn, 1) := by decide +kernel
theorem dX0_turns_0 : decode cX0_turns 0 = .ok (.aload_n 2, 1) := by decide +kernel
theorem dX0_turns_1 : decode cX0_turns 1 = .ok (.bipush 11, 2) := by decide +kernel
theorem dX0_turns_3 : decode cX0_turns 3 = .ok (.invokevirtual 32, 3) := by decide +kernel
theorem dX0_turns_6 : decode cX0_turns 6 = .ok (.aload_n 0, 1) := by decide +kernel
theorem dX0_turns_7 : decode cX0_turns 7 = .ok (.iload_n 1, 1) := by decide +kernel
theorem dX0_turns_8 : decode cX0_turns 8 = .ok (.aload_n 2, 1) := by decide +kernel
theorem dX0_turns_9 : decode cX0_turns 9 = .ok (.invokevirtual 38, 3) := by decide +kernel
theorem dX0_turns_12 : decode cX0_turns 12 = .ok (.iconst 2, 1) := by decide +kernel
theorem dX0_turns_13 : decode cX0_turns 13 = .ok (.imul, 1) := by decide +kernel
theorem dX0_turns_14 : decode cX0_turns 14 = .ok (.ireturn, 1) := by decide +kernel
theorem dX0_shares_0 : decode cX0_shares 0 = .ok (.aload_n 2, 1) := by decide +kernel
theorem dX0_shares_1 : decode cX0_shares 1 = .ok (.bipush 12, 2) := by decide +kernel
theorem dX0_shares_3 : decode cX0_shares 3 = .ok (.invokevirtual 32, 3) := by decide +kernel
theorem dX0_shares_6 : decode cX0_shares 6 = .ok (.aload_n 0, 1) := by decide +kernel
theorem dX0_shares_7 : decode cX0_shares 7 = .ok (.getfield 15, 3) := by decide +kernel
theorem dX0_shares_10 : decode cX0_shares 10 = .ok (.aload_n 0, 1) := by decide +kernel
theorem dX0_shares_11 : decode cX0_shares 11 = .ok (.getfield 9, 3) := by decide +kernel
theorem dX0_shares_14 : decode cX0_shares 14 = .ok (.isub, 1) := by decide +kernel
theorem dX0_shares_15 : decode cX0_shares 15 = .ok (.istore_n 3, 1) := by decide +kernel
theorem dX0_shares_16 : decode cX0_shares 16 = .ok (.iload_n 3, 1) := by decide +kernel
theorem dX0_shares_17 : decode cX0_shares 17 = .ok (.ifCond .ne 10, 3) := by decide +kernel
theorem dX0_shares_20 : decode cX0_shares 20 = .ok (.aload_n 2, 1) := by decide +kernel
theorem dX0_shares_21 : decode cX0_shares 21 = .ok (.iconst 1, 1) := by decide +kernel
theorem dX0_shares_22 : decode cX0_shares 22 = .ok (.putfield 42, 3) := by decide +kernel
theorem dX0_shares_25 : decode cX0_shares 25 = .ok (.iconst 0, 1) := by decide +kernel
theorem dX0_shares_26 : decode cX0_shares 26 = .ok (.ireturn, 1) := by decide +kernel
theorem dX0_shares_27 : decode cX0_shares 27 = .ok (.iload_n 1, 1) := by decide +kernel
theorem dX0_shares_28 : decode cX0_shares 28 = .ok (.iload_n 3, 1) := by decide +kernel
theorem dX0_shares_29 : decode cX0_shares 29 = .ok (.idiv, 1) := by decide +kernel
theorem dX0_shares_30 : decode cX0_shares 30 = .ok (.ireturn, 1) := by decide +kernel
theorem dX0_tells_0 : decode cX0_tells 0 = .ok (.aload_n 2, 1) := by decide +kernel
theorem dX0_tells_1 : decode cX0_tells 1 = .ok (.bipush 13, 2) := by decide +kernel
theorem dX0_tells_3 : decode cX0_tells 3 = .ok (.invokevirtual 32, 3) := by decide +kernel
theorem dX0_tells_6 : decode cX0_tells 6 = .ok (.aload_n 0, 1) := by decide +kernel
theorem dX0_tells_7 : decode cX0_tells 7 = .ok (.iload_n 1, 1) := by decide +kernel
theorem dX0_tells_8 : decode cX0_tells 8 = .ok (.aload_n 2, 1) := by decide +kernel
theorem dX0_tells_9 : decode cX0_tells 9 = .ok (.invokevirtual 46, 3) := by decide +kernel
theorem dX0_tells_12 : decode cX0_tells 12 = .ok (.aload_n 0, 1) := by decide +kernel
theorem dX0_tells_13 : decode cX0_tells 13 = .ok (.getfield 15, 3) := by decide +kernel
theorem dX0_tells_16 : decode cX0_tells 16 = .ok (.ixor, 1) := by decide +kernel
theorem dX0_tells_17 : decode cX0_tells 17 = .ok (.ireturn, 1) := by decide +kernel
theorem dX1_init_0 : decode cX1_init 0 = .ok (.aload_n 0, 1) := by decide +kernel
theorem dX1_init_1 : decode cX1_init 1 = .ok (.invokespecial 3, 3) := by decide +kernel
theorem dX1_init_4 : decode cX1_init 4 = .ok (.return_, 1) := by decide +kernel
theorem dX1_start_0 : decode cX1_start 0 = .ok (.aload_n 0, 1) := by decide +kernel
theorem dX1_start_1 : decode cX1_start 1 = .ok (.aload_n 1, 1) := by decide +kernel
theorem dX1_start_2 : decode cX1_start 2 = .ok (.putfield 9, 3) := by decide +kernel
theorem dX1_start_5 : decode cX1_start 5 = .ok (.aload_n 0, 1) := by decide +kernel
theorem dX1_start_6 : decode cX1_start 6 = .ok (.aload_n 1, 1) := by decide +kernel
theorem dX1_start_7 : decode cX1_start 7 = .ok (.ifnonnull 7, 3) := by decide +kernel
theorem dX1_start_10 : decode cX1_start 10 = .ok (.iconst 0, 1) := by decide +kernel
theorem dX1_start_11 : decode cX1_start 11 = .ok (.goto 7, 3) := by decide +kernel
theorem dX1_start_14 : decode cX1_start 14 = .ok (.aload_n 1, 1) := by decide +kernel
theorem dX1_start_15 : decode cX1_start 15 = .ok (.getfield 15, 3) := by decide +kernel
theorem dX1_start_18 : decode cX1_start 18 = .ok (.putfield 21, 3) := by decide +kernel
theorem dX1_start_21 : decode cX1_start 21 = .ok (.aload_n 0, 1) := by decide +kernel
theorem dX1_start_22 : decode cX1_start 22 = .ok (.iconst 0, 1) := by decide +kernel
theorem dX1_start_23 : decode cX1_start 23 = .ok (.putfield 22, 3) := by decide +kernel
theorem dX1_start_26 : decode cX1_start 26 = .ok (.aload_n 0, 1) := by decide +kernel
theorem dX1_start_27 : decode cX1_start 27 = .ok (.iconst 0, 1) := by decide +kernel
theorem dX1_start_28 : decode cX1_start 28 = .ok (.putfield 25, 3) := by decide +kernel
theorem dX1_start_31 : decode cX1_start 31 = .ok (.aload_n 0, 1) := by decide +kernel
theorem dX1_start_32 : decode cX1_start 32 = .ok (.iload_n 2, 1) := by decide +kernel
theorem dX1_start_33 : decode cX1_start 33 = .ok (.putfield 28, 3) := by decide +kernel
theorem dX1_start_36 : decode cX1_start 36 = .ok (.aload_n 0, 1) := by decide +kernel
theorem dX1_start_37 : decode cX1_start 37 = .ok (.iload_n 3, 1) := by decide +kernel
theorem dX1_start_38 : decode cX1_start 38 = .ok (.putfield 31, 3) := by decide +kernel
theorem dX1_start_41 : decode cX1_start 41 = .ok (.aload_n 0, 1) := by decide +kernel
theorem dX1_start_42 : decode cX1_start 42 = .ok (.iload 4, 2) := by decide +kernel
theorem dX1_start_44 : decode cX1_start 44 = .ok (.putfield 34, 3) := by decide +kernel
theorem dX1_start_47 : decode cX1_start 47 = .ok (.aload_n 0, 1) := by decide +kernel
theorem dX1_start_48 : decode cX1_start 48 = .ok (.iconst 0, 1) := by decide +kernel
theorem dX1_start_49 : decode cX1_start 49 = .ok (.putfield 37, 3) := by decide +kernel
theorem dX1_start_52 : decode cX1_start 52 = .ok (.aload_n 0, 1) := by decide +kernel
theorem dX1_start_53 : decode cX1_start 53 = .ok (.iconst 0, 1) := by decide +kernel
theorem dX1_start_54 : decode cX1_start 54 = .ok (.putfield 40, 3) := by decide +kernel
theorem dX1_start_57 : decode cX1_start 57 = .ok (.aload_n 0, 1) := by decide +kernel
theorem dX1_start_58 : decode cX1_start 58 = .ok (.iconst 0, 1) := by decide +kernel
theorem dX1_start_59 : decode cX1_start 59 = .ok (.putfield 43, 3) := by decide +kernel
theorem dX1_start_62 : decode cX1_start 62 = .ok (.aload_n 0, 1) := by decide +kernel
theorem dX1_start_63 : decode cX1_start 63 = .ok (.iconst 0, 1) := by decide +kernel
theorem dX1_start_64 : decode cX1_start 64 = .ok (.putfield 46, 3) := by decide +kernel
theorem dX1_start_67 : decode cX1_start 67 = .ok (.return_, 1) := by decide +kernel
theorem dX1_copyFrom_0 : decode cX1_copyFrom 0 = .ok (.aload_n 0, 1) := by decide +kernel
theorem dX1_copyFrom_1 : decode cX1_copyFrom 1 = .ok (.aload_n 1, 1) := by decide +kernel
theorem dX1_copyFrom_2 : decode cX1_copyFrom 2 = .ok (.getfield 9, 3) := by decide +kernel
theorem dX1_copyFrom_5 : decode cX1_copyFrom 5 = .ok (.putfield 9, 3) := by decide +kernel
theorem dX1_copyFrom_8 : decode cX1_copyFrom 8 = .ok (.aload_n 0, 1) := by decide +kernel
theorem dX1_copyFrom_9 : decode cX1_copyFrom 9 = .ok (.aload_n 1, 1) := by decide +kernel
theorem dX1_copyFrom_10 : decode cX1_copyFrom 10 = .ok (.getfield 21, 3) := by decide +kernel
theorem dX1_copyFrom_13 : decode cX1_copyFrom 13 = .ok (.putfield 21, 3) := by decide +kernel
theorem dX1_copyFrom_16 : decode cX1_copyFrom 16 = .ok (.aload_n 0, 1) := by decide +kernel
theorem dX1_copyFrom_17 : decode cX1_copyFrom 17 = .ok (.aload_n 1, 1) := by decide +kernel
theorem dX1_copyFrom_18 : decode cX1_copyFrom 18 = .ok (.getfield 22, 3) := by decide +kernel
theorem dX1_copyFrom_21 : decode cX1_copyFrom 21 = .ok (.putfield 22, 3) := by decide +kernel
theorem dX1_copyFrom_24 : decode cX1_copyFrom 24 = .ok (.aload_n 0, 1) := by decide +kernel
theorem dX1_copyFrom_25 : decode cX1_copyFrom 25 = .ok (.aload_n 1, 1) := by decide +kernel
theorem dX1_copyFrom_26 : decode cX1_copyFrom 26 = .ok (.getfield 25, 3) := by decide +kernel
theorem dX1_copyFrom_29 : decode cX1_copyFrom 29 = .ok (.putfield 25, 3) := by decide +kernel
theorem dX1_copyFrom_32 : decode cX1_copyFrom 32 = .ok (.aload_n 0, 1) := by decide +kernel
theorem dX1_copyFrom_33 : decode cX1_copyFrom 33 = .ok (.aload_n 1, 1) := by decide +kernel
theorem dX1_copyFrom_34 : decode cX1_copyFrom 34 = .ok (.getfield 28, 3) := by decide +kernel
theorem dX1_copyFrom_37 : decode cX1_copyFrom 37 = .ok (.putfield 28, 3) := by decide +kernel
theorem dX1_copyFrom_40 : decode cX1_copyFrom 40 = .ok (.aload_n 0, 1) := by decide +kernel
theorem dX1_copyFrom_41 : decode cX1_copyFrom 41 = .ok (.aload_n 1, 1) := by decide +kernel
theorem dX1_copyFrom_42 : decode cX1_copyFrom 42 = .ok (.getfield 31, 3) := by decide +kernel
theorem dX1_copyFrom_45 : decode cX1_copyFrom 45 = .ok (.putfield 31, 3) := by decide +kernel
theorem dX1_copyFrom_48 : decode cX1_copyFrom 48 = .ok (.aload_n 0, 1) := by decide +kernel
theorem dX1_copyFrom_49 : decode cX1_copyFrom 49 = .ok (.aload_n 1, 1) := by decide +kernel
theorem dX1_copyFrom_50 : decode cX1_copyFrom 50 = .ok (.getfield 34, 3) := by decide +kernel
theorem dX1_copyFrom_53 : decode cX1_copyFrom 53 = .ok (.putfield 34, 3) := by decide +kernel
theorem dX1_copyFrom_56 : decode cX1_copyFrom 56 = .ok (.aload_n 0, 1) := by decide +kernel
theorem dX1_copyFrom_57 : decode cX1_copyFrom 57 = .ok (.aload_n 1, 1) := by decide +kernel
theorem dX1_copyFrom_58 : decode cX1_copyFrom 58 = .ok (.getfield 37, 3) := by decide +kernel
theorem dX1_copyFrom_61 : decode cX1_copyFrom 61 = .ok (.putfield 37, 3) := by decide +kernel
theorem dX1_copyFrom_64 : decode cX1_copyFrom 64 = .ok (.aload_n 0, 1) := by decide +kernel
theorem dX1_copyFrom_65 : decode cX1_copyFrom 65 = .ok (.aload_n 1, 1) := by decide +kernel
theorem dX1_copyFrom_66 : decode cX1_copyFrom 66 = .ok (.getfield 40, 3) := by decide +kernel
theorem dX1_copyFrom_69 : decode cX1_copyFrom 69 = .ok (.putfield 40, 3) := by decide +kernel
theorem dX1_copyFrom_72 : decode cX1_copyFrom 72 = .ok (.aload_n 0, 1) := by decide +kernel
theorem dX1_copyFrom_73 : decode cX1_copyFrom 73 = .ok (.aload_n 1, 1) := by decide +kernel
theorem dX1_copyFrom_74 : decode cX1_copyFrom 74 = .ok (.getfield 43, 3) := by decide +kernel
theorem dX1_copyFrom_77 : decode cX1_copyFrom 77 = .ok (.putfield 43, 3) := by decide +kernel
theorem dX1_copyFrom_80 : decode cX1_copyFrom 80 = .ok (.aload_n 0, 1) := by decide +kernel
theorem dX1_copyFrom_81 : decode cX1_copyFrom 81 = .ok (.aload_n 1, 1) := by decide +kernel
theorem dX1_copyFrom_82 : decode cX1_copyFrom 82 = .ok (.getfield 46, 3) := by decide +kernel
theorem dX1_copyFrom_85 : decode cX1_copyFrom 85 = .ok (.putfield 46, 3) := by decide +kernel
theorem dX1_copyFrom_88 : decode cX1_copyFrom 88 = .ok (.return_, 1) := by decide +kernel
theorem dX1_landed_0 : decode cX1_landed 0 = .ok (.aload_n 0, 1) := by decide +kernel
theorem dX1_landed_1 : decode cX1_landed 1 = .ok (.getfield 28, 3) := by decide +kernel
theorem dX1_landed_4 : decode cX1_landed 4 = .ok (.ifCond .gt 7, 3) := by decide +kernel
theorem dX1_landed_7 : decode cX1_landed 7 = .ok (.iconst 1, 1) := by decide +kernel
theorem dX1_landed_8 : decode cX1_landed 8 = .ok (.goto 4, 3) := by decide +kernel
theorem dX1_landed_11 : decode cX1_landed 11 = .ok (.iconst 0, 1) := by decide +kernel
theorem dX1_landed_12 : decode cX1_landed 12 = .ok (.ireturn, 1) := by decide +kernel
theorem dX1_step_0 : decode cX1_step 0 = .ok (.aload_n 0, 1) := by decide +kernel
theorem dX1_step_1 : decode cX1_step 1 = .ok (.getfield 9, 3) := by decide +kernel
theorem dX1_step_4 : decode cX1_step 4 = .ok (.ifnonnull 4, 3) := by decide +kernel
theorem dX1_step_7 : decode cX1_step 7 = .ok (.return_, 1) := by decide +kernel
theorem dX1_step_8 : decode cX1_step 8 = .ok (.aload_n 0, 1) := by decide +kernel
theorem dX1_step_9 : decode cX1_step 9 = .ok (.getfield 31, 3) := by decide +kernel
theorem dX1_step_12 : decode cX1_step 12 = .ok (.invokestatic 49, 3) := by decide +kernel
theorem dX1_step_15 : decode cX1_step 15 = .ok (.istore_n 2, 1) := by decide +kernel
theorem dX1_step_16 : decode cX1_step 16 = .ok (.aload_n 0, 1) := by decide +kernel
theorem dX1_step_17 : decode cX1_step 17 = .ok (.getfield 31, 3) := by decide +kernel
theorem dX1_step_20 : decode cX1_step 20 = .ok (.bipush 9, 2) := by decide +kernel
theorem dX1_step_22 : decode cX1_step 22 = .ok (.iadd, 1) := by decide +kernel
theorem dX1_step_23 : decode cX1_step 23 = .ok (.bipush 36, 2) := by decide +kernel
theorem dX1_step_25 : decode cX1_step 25 = .ok (.irem, 1) := by decide +kernel
theorem dX1_step_26 : decode cX1_step 26 = .ok (.invokestatic 49, 3) := by decide +kernel
theorem dX1_step_29 : decode cX1_step 29 = .ok (.istore_n 3, 1) := by decide +kernel
theorem dX1_step_30 : decode cX1_step 30 = .ok (.aload_n 0, 1) := by decide +kernel
theorem dX1_step_31 : decode cX1_step 31 = .ok (.getfield 37, 3) := by decide +kernel
theorem dX1_step_34 : decode cX1_step 34 = .ok (.aload_n 0, 1) := by decide +kernel
theorem dX1_step_35 : decode cX1_step 35 = .ok (.getfield 40, 3) := by decide +kernel
theorem dX1_step_38 : decode cX1_step 38 = .ok (.iload_n 2, 1) := by decide +kernel
theorem dX1_step_39 : decode cX1_step 39 = .ok (.imul, 1) := by decide +kernel
theorem dX1_step_40 : decode cX1_step 40 = .ok (.sipush 1000, 3) := by decide +kernel
theorem dX1_step_43 : decode cX1_step 43 = .ok (.idiv, 1) := by decide +kernel
theorem dX1_step_44 : decode cX1_step 44 = .ok (.aload_n 1, 1) := by decide +kernel
theorem dX1_step_45 : decode cX1_step 45 = .ok (.iconst 0, 1) := by decide +kernel
theorem dX1_step_46 : decode cX1_step 46 = .ok (.iaload, 1) := by decide +kernel
theorem dX1_step_47 : decode cX1_step 47 = .ok (.imul, 1) := by decide +kernel
theorem dX1_step_48 : decode cX1_step 48 = .ok (.bipush 32, 2) := by decide +kernel
theorem dX1_step_50 : decode cX1_step 50 = .ok (.idiv, 1) := by decide +kernel
theorem dX1_step_51 : decode cX1_step 51 = .ok (.iadd, 1) := by decide +kernel
theorem dX1_step_52 : decode cX1_step 52 = .ok (.aload_n 0, 1) := by decide +kernel
theorem dX1_step_53 : decode cX1_step 53 = .ok (.getfield 37, 3) := by decide +kernel
theorem dX1_step_56 : decode cX1_step 56 = .ok (.aload_n 1, 1) := by decide +kernel
theorem dX1_step_57 : decode cX1_step 57 = .ok (.iconst 1, 1) := by decide +kernel
theorem dX1_step_58 : decode cX1_step 58 = .ok (.iaload, 1) := by decide +kernel
theorem dX1_step_59 : decode cX1_step 59 = .ok (.imul, 1) := by decide +kernel
theorem dX1_step_60 : decode cX1_step 60 = .ok (.bipush 64, 2) := by decide +kernel
theorem dX1_step_62 : decode cX1_step 62 = .ok (.idiv, 1) := by decide +kernel
theorem dX1_step_63 : decode cX1_step 63 = .ok (.isub, 1) := by decide +kernel
theorem dX1_step_64 : decode cX1_step 64 = .ok (.aload_n 1, 1) := by decide +kernel
theorem dX1_step_65 : decode cX1_step 65 = .ok (.iconst 5, 1) := by decide +kernel
theorem dX1_step_66 : decode cX1_step 66 = .ok (.iaload, 1) := by decide +kernel
theorem dX1_step_67 : decode cX1_step 67 = .ok (.bipush 32, 2) := by decide +kernel
theorem dX1_step_69 : decode cX1_step 69 = .ok (.isub, 1) := by decide +kernel
theorem dX1_step_70 : decode cX1_step 70 = .ok (.iconst 4, 1) := by decide +kernel
theorem dX1_step_71 : decode cX1_step 71 = .ok (.idiv, 1) := by decide +kernel
theorem dX1_step_72 : decode cX1_step 72 = .ok (.iadd, 1) := by decide +kernel
theorem dX1_step_73 : decode cX1_step 73 = .ok (.istore 4, 2) := by decide +kernel
theorem dX1_step_75 : decode cX1_step 75 = .ok (.aload_n 0, 1) := by decide +kernel
theorem dX1_step_76 : decode cX1_step 76 = .ok (.getfield 40, 3) := by decide +kernel
theorem dX1_step_79 : decode cX1_step 79 = .ok (.aload_n 0, 1) := by decide +kernel
theorem dX1_step_80 : decode cX1_step 80 = .ok (.getfield 21, 3) := by decide +kernel
theorem dX1_step_83 : decode cX1_step 83 = .ok (.iadd, 1) := by decide +kernel
theorem dX1_step_84 : decode cX1_step 84 = .ok (.aload_n 0, 1) := by decide +kernel
theorem dX1_step_85 : decode cX1_step 85 = .ok (.getfield 40, 3) := by decide +kernel
theorem dX1_step_88 : decode cX1_step 88 = .ok (.aload_n 1, 1) := by decide +kernel
theorem dX1_step_89 : decode cX1_step 89 = .ok (.iconst 1, 1) := by decide +kernel
theorem dX1_step_90 : decode cX1_step 90 = .ok (.iaload, 1) := by decide +kernel
theorem dX1_step_91 : decode cX1_step 91 = .ok (.aload_n 1, 1) := by decide +kernel
theorem dX1_step_92 : decode cX1_step 92 = .ok (.iconst 2, 1) := by decide +kernel
theorem dX1_step_93 : decode cX1_step 93 = .ok (.iaload, 1) := by decide +kernel
theorem dX1_step_94 : decode cX1_step 94 = .ok (.iload_n 3, 1) := by decide +kernel
theorem dX1_step_95 : decode cX1_step 95 = .ok (.invokestatic 53, 3) := by decide +kernel
theorem dX1_step_98 : decode cX1_step 98 = .ok (.imul, 1) := by decide +kernel
theorem dX1_step_99 : decode cX1_step 99 = .ok (.sipush 1000, 3) := by decide +kernel
theorem dX1_step_102 : decode cX1_step 102 = .ok (.idiv, 1) := by decide +kernel
theorem dX1_step_103 : decode cX1_step 103 = .ok (.iadd, 1) := by decide +kernel
theorem dX1_step_104 : decode cX1_step 104 = .ok (.imul, 1) := by decide +kernel
theorem dX1_step_105 : decode cX1_step 105 = .ok (.bipush 64, 2) := by decide +kernel
theorem dX1_step_107 : decode cX1_step 107 = .ok (.idiv, 1) := by decide +kernel
theorem dX1_step_108 : decode cX1_step 108 = .ok (.isub, 1) := by decide +kernel
theorem dX1_step_109 : decode cX1_step 109 = .ok (.istore 5, 2) := by decide +kernel
theorem dX1_step_111 : decode cX1_step 111 = .ok (.aload_n 0, 1) := by decide +kernel
theorem dX1_step_112 : decode cX1_step 112 = .ok (.iload 4, 2) := by decide +kernel
theorem dX1_step_114 : decode cX1_step 114 = .ok (.sipush 9999, 3) := by decide +kernel
theorem dX1_step_117 : decode cX1_step 117 = .ok (.invokestatic 58, 3) := by decide +kernel
theorem dX1_step_120 : decode cX1_step 120 = .ok (.putfield 37, 3) := by decide +kernel
theorem dX1_step_123 : decode cX1_step 123 = .ok (.aload_n 0, 1) := by decide +kernel
theorem dX1_step_124 : decode cX1_step 124 = .ok (.aload_n 0, 1) := by decide +kernel
theorem dX1_step_125 : decode cX1_step 125 = .ok (.getfield 9, 3) := by decide +kernel
theorem dX1_step_128 : decode cX1_step 128 = .ok (.iload 5, 2) := by decide +kernel
theorem dX1_step_130 : decode cX1_step 130 = .ok (.invokevirtual 62, 3) := by decide +kernel
theorem dX1_step_133 : decode cX1_step 133 = .ok (.sipush 9999, 3) := by decide +kernel
theorem dX1_step_136 : decode cX1_step 136 = .ok (.invokestatic 58, 3) := by decide +kernel
theorem dX1_step_139 : decode cX1_step 139 = .ok (.putfield 40, 3) := by decide +kernel
theorem dX1_step_142 : decode cX1_step 142 = .ok (.aload_n 0, 1) := by decide +kernel
theorem dX1_step_143 : decode cX1_step 143 = .ok (.getfield 34, 3) := by decide +kernel
theorem dX1_step_146 : decode cX1_step 146 = .ok (.istore 6, 2) := by decide +kernel
theorem dX1_step_148 : decode cX1_step 148 = .ok (.aload_n 0, 1) := by decide +kernel
theorem dX1_step_149 : decode cX1_step 149 = .ok (.aload_n 0, 1) := by decide +kernel
theorem dX1_step_150 : decode cX1_step 150 = .ok (.getfield 9, 3) := by decide +kernel
theorem dX1_step_153 : decode cX1_step 153 = .ok (.aload_n 0, 1) := by decide +kernel
theorem dX1_step_154 : decode cX1_step 154 = .ok (.iload_n 3, 1) := by decide +kernel
theorem dX1_step_155 : decode cX1_step 155 = .ok (.aload_n 1, 1) := by decide +kernel
theorem dX1_step_156 : decode cX1_step 156 = .ok (.invokevirtual 65, 3) := by decide +kernel
theorem dX1_step_159 : decode cX1_step 159 = .ok (.bipush 9, 2) := by decide +kernel
theorem dX1_step_161 : decode cX1_step 161 = .ok (.invokestatic 58, 3) := by decide +kernel
theorem dX1_step_164 : decode cX1_step 164 = .ok (.putfield 34, 3) := by decide +kernel
theorem dX1_step_167 : decode cX1_step 167 = .ok (.aload_n 0, 1) := by decide +kernel
theorem dX1_step_168 : decode cX1_step 168 = .ok (.getfield 31, 3) := by decide +kernel
theorem dX1_step_171 : decode cX1_step 171 = .ok (.istore 7, 2) := by decide +kernel
theorem dX1_step_173 : decode cX1_step 173 = .ok (.aload_n 0, 1) := by decide +kernel
theorem dX1_step_174 : decode cX1_step 174 = .ok (.aload_n 0, 1) := by decide +kernel
theorem dX1_step_175 : decode cX1_step 175 = .ok (.getfield 31, 3) := by decide +kernel
theorem dX1_step_178 : decode cX1_step 178 = .ok (.aload_n 0, 1) := by decide +kernel
theorem dX1_step_179 : decode cX1_step 179 = .ok (.getfield 34, 3) := by decide +kernel
theorem dX1_step_182 : decode cX1_step 182 = .ok (.iadd, 1) := by decide +kernel
theorem dX1_step_183 : decode cX1_step 183 = .ok (.bipush 36, 2) := by decide +kernel
theorem dX1_step_185 : decode cX1_step 185 = .ok (.invokestatic 69, 3) := by decide +kernel
theorem dX1_step_188 : decode cX1_step 188 = .ok (.putfield 31, 3) := by decide +kernel
theorem dX1_step_191 : decode cX1_step 191 = .ok (.aload_n 0, 1) := by decide +kernel
theorem dX1_step_192 : decode cX1_step 192 = .ok (.dup, 1) := by decide +kernel
theorem dX1_step_193 : decode cX1_step 193 = .ok (.getfield 25, 3) := by decide +kernel
theorem dX1_step_196 : decode cX1_step 196 = .ok (.aload_n 0, 1) := by decide +kernel
theorem dX1_step_197 : decode cX1_step 197 = .ok (.getfield 37, 3) := by decide +kernel
theorem dX1_step_200 : decode cX1_step 200 = .ok (.bipush 8, 2) := by decide +kernel
theorem dX1_step_202 : decode cX1_step 202 = .ok (.idiv, 1) := by decide +kernel
theorem dX1_step_203 : decode cX1_step 203 = .ok (.iadd, 1) := by decide +kernel
theorem dX1_step_204 : decode cX1_step 204 = .ok (.putfield 25, 3) := by decide +kernel
theorem dX1_step_207 : decode cX1_step 207 = .ok (.aload_n 0, 1) := by decide +kernel
theorem dX1_step_208 : decode cX1_step 208 = .ok (.dup, 1) := by decide +kernel
theorem dX1_step_209 : decode cX1_step 209 = .ok (.getfield 28, 3) := by decide +kernel
theorem dX1_step_212 : decode cX1_step 212 = .ok (.aload_n 0, 1) := by decide +kernel
theorem dX1_step_213 : decode cX1_step 213 = .ok (.getfield 40, 3) := by decide +kernel
theorem dX1_step_216 : decode cX1_step 216 = .ok (.bipush 8, 2) := by decide +kernel
theorem dX1_step_218 : decode cX1_step 218 = .ok (.idiv, 1) := by decide +kernel
theorem dX1_step_219 : decode cX1_step 219 = .ok (.isub, 1) := by decide +kernel
theorem dX1_step_220 : decode cX1_step 220 = .ok (.putfield 28, 3) := by decide +kernel
theorem dX1_step_223 : decode cX1_step 223 = .ok (.aload_n 0, 1) := by decide +kernel
theorem dX1_step_224 : decode cX1_step 224 = .ok (.iload 6, 2) := by decide +kernel
theorem dX1_step_226 : decode cX1_step 226 = .ok (.invokevirtual 72, 3) := by decide +kernel
theorem dX1_step_229 : decode cX1_step 229 = .ok (.aload_n 0, 1) := by decide +kernel
theorem dX1_step_230 : decode cX1_step 230 = .ok (.iload 7, 2) := by decide +kernel
theorem dX1_step_232 : decode cX1_step 232 = .ok (.invokevirtual 76, 3) := by decide +kernel
theorem dX1_step_235 : decode cX1_step 235 = .ok (.aload_n 0, 1) := by decide +kernel
theorem dX1_step_236 : decode cX1_step 236 = .ok (.dup, 1) := by decide +kernel
theorem dX1_step_237 : decode cX1_step 237 = .ok (.getfield 22, 3) := by decide +kernel
theorem dX1_step_240 : decode cX1_step 240 = .ok (.iconst 1, 1) := by decide +kernel
theorem dX1_step_241 : decode cX1_step 241 = .ok (.iadd, 1) := by decide +kernel
theorem dX1_step_242 : decode cX1_step 242 = .ok (.putfield 22, 3) := by decide +kernel
theorem dX1_step_245 : decode cX1_step 245 = .ok (.return_, 1) := by decide +kernel
theorem dX1_countSwing_0 : decode cX1_countSwing 0 = .ok (.aload_n 0, 1) := by decide +kernel
theorem dX1_countSwing_1 : decode cX1_countSwing 1 = .ok (.getfield 22, 3) := by decide +kernel
theorem dX1_countSwing_4 : decode cX1_countSwing 4 = .ok (.ifCond .le 35, 3) := by decide +kernel
theorem dX1_countSwing_7 : decode cX1_countSwing 7 = .ok (.iload_n 1, 1) := by decide +kernel
theorem dX1_countSwing_8 : decode cX1_countSwing 8 = .ok (.ifCond .le 10, 3) := by decide +kernel
theorem dX1_countSwing_11 : decode cX1_countSwing 11 = .ok (.aload_n 0, 1) := by decide +kernel
theorem dX1_countSwing_12 : decode cX1_countSwing 12 = .ok (.getfield 34, 3) := by decide +kernel
theorem dX1_countSwing_15 : decode cX1_countSwing 15 = .ok (.ifCond .lt 14, 3) := by decide +kernel
theorem dX1_countSwing_18 : decode cX1_countSwing 18 = .ok (.iload_n 1, 1) := by decide +kernel
theorem dX1_countSwing_19 : decode cX1_countSwing 19 = .ok (.ifCond .ge 20, 3) := by decide +kernel
theorem dX1_countSwing_22 : decode cX1_countSwing 22 = .ok (.aload_n 0, 1) := by decide +kernel
theorem dX1_countSwing_23 : decode cX1_countSwing 23 = .ok (.getfield 34, 3) := by decide +kernel
theorem dX1_countSwing_26 : decode cX1_countSwing 26 = .ok (.ifCond .le 13, 3) := by decide +kernel
theorem dX1_countSwing_29 : decode cX1_countSwing 29 = .ok (.aload_n 0, 1) := by decide +kernel
theorem dX1_countSwing_30 : decode cX1_countSwing 30 = .ok (.dup, 1) := by decide +kernel
theorem dX1_countSwing_31 : decode cX1_countSwing 31 = .ok (.getfield 43, 3) := by decide +kernel
theorem dX1_countSwing_34 : decode cX1_countSwing 34 = .ok (.iconst 1, 1) := by decide +kernel
theorem dX1_countSwing_35 : decode cX1_countSwing 35 = .ok (.iadd, 1) := by decide +kernel
theorem dX1_countSwing_36 : decode cX1_countSwing 36 = .ok (.putfield 43, 3) := by decide +kernel
theorem dX1_countSwing_39 : decode cX1_countSwing 39 = .ok (.return_, 1) := by decide +kernel
theorem dX1_countRound_0 : decode cX1_countRound 0 = .ok (.iload_n 1, 1) := by decide +kernel
theorem dX1_countRound_1 : decode cX1_countRound 1 = .ok (.bipush 27, 2) := by decide +kernel
theorem dX1_countRound_3 : decode cX1_countRound 3 = .ok (.if_icmp .lt 12, 3) := by decide +kernel
theorem dX1_countRound_6 : decode cX1_countRound 6 = .ok (.aload_n 0, 1) := by decide +kernel
theorem dX1_countRound_7 : decode cX1_countRound 7 = .ok (.getfield 31, 3) := by decide +kernel
theorem dX1_countRound_10 : decode cX1_countRound 10 = .ok (.bipush 8, 2) := by decide +kernel
theorem dX1_countRound_12 : decode cX1_countRound 12 = .ok (.if_icmp .le 18, 3) := by decide +kernel
theorem dX1_countRound_15 : decode cX1_countRound 15 = .ok (.iload_n 1, 1) := by decide +kernel
theorem dX1_countRound_16 : decode cX1_countRound 16 = .ok (.bipush 8, 2) := by decide +kernel
theorem dX1_countRound_18 : decode cX1_countRound 18 = .ok (.if_icmp .gt 22, 3) := by decide +kernel
theorem dX1_countRound_21 : decode cX1_countRound 21 = .ok (.aload_n 0, 1) := by decide +kernel
theorem dX1_countRound_22 : decode cX1_countRound 22 = .ok (.getfield 31, 3) := by decide +kernel
theorem dX1_countRound_25 : decode cX1_countRound 25 = .ok (.bipush 27, 2) := by decide +kernel
theorem dX1_countRound_27 : decode cX1_countRound 27 = .ok (.if_icmp .lt 13, 3) := by decide +kernel
theorem dX1_countRound_30 : decode cX1_countRound 30 = .ok (.aload_n 0, 1) := by decide +kernel
theorem dX1_countRound_31 : decode cX1_countRound 31 = .ok (.dup, 1) := by decide +kernel
theorem dX1_countRound_32 : decode cX1_countRound 32 = .ok (.getfield 46, 3) := by decide +kernel
theorem dX1_countRound_35 : decode cX1_countRound 35 = .ok (.iconst 1, 1) := by decide +kernel
theorem dX1_countRound_36 : decode cX1_countRound 36 = .ok (.iadd, 1) := by decide +kernel
theorem dX1_countRound_37 : decode cX1_countRound 37 = .ok (.putfield 46, 3) := by decide +kernel
theorem dX1_countRound_40 : decode cX1_countRound 40 = .ok (.return_, 1) := by decide +kernel
theorem dX1_runOut_0 : decode cX1_runOut 0 = .ok (.iconst 0, 1) := by decide +kernel
theorem dX1_runOut_1 : decode cX1_runOut 1 = .ok (.istore_n 2, 1) := by decide +kernel
theorem dX1_runOut_2 : decode cX1_runOut 2 = .ok (.iload_n 2, 1) := by decide +kernel
theorem dX1_runOut_3 : decode cX1_runOut 3 = .ok (.sipush 400, 3) := by decide +kernel
theorem dX1_runOut_6 : decode cX1_runOut 6 = .ok (.if_icmp .ge 21, 3) := by decide +kernel
theorem dX1_runOut_9 : decode cX1_runOut 9 = .ok (.aload_n 0, 1) := by decide +kernel
theorem dX1_runOut_10 : decode cX1_runOut 10 = .ok (.invokevirtual 79, 3) := by decide +kernel
theorem dX1_runOut_13 : decode cX1_runOut 13 = .ok (.ifCond .ne 14, 3) := by decide +kernel
theorem dX1_runOut_16 : decode cX1_runOut 16 = .ok (.aload_n 0, 1) := by decide +kernel
theorem dX1_runOut_17 : decode cX1_runOut 17 = .ok (.aload_n 1, 1) := by decide +kernel
theorem dX1_runOut_18 : decode cX1_runOut 18 = .ok (.invokevirtual 83, 3) := by decide +kernel
theorem dX1_runOut_21 : decode cX1_runOut 21 = .ok (.iinc 2 1, 3) := by decide +kernel
theorem dX1_runOut_24 : decode cX1_runOut 24 = .ok (.goto (-22), 3) := by decide +kernel
theorem dX1_runOut_27 : decode cX1_runOut 27 = .ok (.aload_n 0, 1) := by decide +kernel
theorem dX1_runOut_28 : decode cX1_runOut 28 = .ok (.invokevirtual 79, 3) := by decide +kernel
theorem dX1_runOut_31 : decode cX1_runOut 31 = .ok (.ireturn, 1) := by decide +kernel
theorem dX1_sort_0 : decode cX1_sort 0 = .ok (.aload_n 0, 1) := by decide +kernel
theorem dX1_sort_1 : decode cX1_sort 1 = .ok (.getfield 43, 3) := by decide +kernel
theorem dX1_sort_4 : decode cX1_sort 4 = .ok (.ifCond .le 7, 3) := by decide +kernel
theorem dX1_sort_7 : decode cX1_sort 7 = .ok (.iconst 1, 1) := by decide +kernel
theorem dX1_sort_8 : decode cX1_sort 8 = .ok (.goto 4, 3) := by decide +kernel
theorem dX1_sort_11 : decode cX1_sort 11 = .ok (.iconst 0, 1) := by decide +kernel
theorem dX1_sort_12 : decode cX1_sort 12 = .ok (.aload_n 0, 1) := by decide +kernel
theorem dX1_sort_13 : decode cX1_sort 13 = .ok (.getfield 46, 3) := by decide +kernel
theorem dX1_sort_16 : decode cX1_sort 16 = .ok (.ifCond .le 7, 3) := by decide +kernel
theorem dX1_sort_19 : decode cX1_sort 19 = .ok (.iconst 2, 1) := by decide +kernel
theorem dX1_sort_20 : decode cX1_sort 20 = .ok (.goto 4, 3) := by decide +kernel
theorem dX1_sort_23 : decode cX1_sort 23 = .ok (.iconst 0, 1) := by decide +kernel
theorem dX1_sort_24 : decode cX1_sort 24 = .ok (.iadd, 1) := by decide +kernel
theorem dX1_sort_25 : decode cX1_sort 25 = .ok (.ireturn, 1) := by decide +kernel
theorem dX1_square_0 : decode cX1_square 0 = .ok (.aload_n 0, 1) := by decide +kernel
theorem dX1_square_1 : decode cX1_square 1 = .ok (.getfield 25, 3) := by decide +kernel
theorem dX1_square_4 : decode cX1_square 4 = .ok (.bipush 100, 2) := by decide +kernel
theorem dX1_square_6 : decode cX1_square 6 = .ok (.invokestatic 87, 3) := by decide +kernel
theorem dX1_square_9 : decode cX1_square 9 = .ok (.ireturn, 1) := by decide +kernel
theorem dX2_init_0 : decode cX2_init 0 = .ok (.aload_n 0, 1) := by decide +kernel
theorem dX2_init_1 : decode cX2_init 1 = .ok (.iload_n 1, 1) := by decide +kernel
theorem dX2_init_2 : decode cX2_init 2 = .ok (.iload_n 2, 1) := by decide +kernel
theorem dX2_init_3 : decode cX2_init 3 = .ok (.iload_n 3, 1) := by decide +kernel
theorem dX2_init_4 : decode cX2_init 4 = .ok (.iload 4, 2) := by decide +kernel
theorem dX2_init_6 : decode cX2_init 6 = .ok (.invokespecial 1, 3) := by decide +kernel
theorem dX2_init_9 : decode cX2_init 9 = .ok (.return_, 1) := by decide +kernel
theorem dX2_kind_0 : decode cX2_kind 0 = .ok (.iconst 4, 1) := by decide +kernel
theorem dX2_kind_1 : decode cX2_kind 1 = .ok (.ireturn, 1) := by decide +kernel
theorem dX2_turnTold_0 : decode cX2_turnTold 0 = .ok (.aload_n 1, 1) := by decide +kernel
theorem dX2_turnTold_1 : decode cX2_turnTold 1 = .ok (.getfield 7, 3) := by decide +kernel
theorem dX2_turnTold_4 : decode cX2_turnTold 4 = .ok (.ifCond .ne 5, 3) := by decide +kernel
theorem dX2_turnTold_7 : decode cX2_turnTold 7 = .ok (.iconst 0, 1) := by decide +kernel
theorem dX2_turnTold_8 : decode cX2_turnTold 8 = .ok (.ireturn, 1) := by decide +kernel
theorem dX2_turnTold_9 : decode cX2_turnTold 9 = .ok (.aload_n 1, 1) := by decide +kernel
theorem dX2_turnTold_10 : decode cX2_turnTold 10 = .ok (.getfield 7, 3) := by decide +kernel
theorem dX2_turnTold_13 : decode cX2_turnTold 13 = .ok (.bipush 18, 2) := by decide +kernel
theorem dX2_turnTold_15 : decode cX2_turnTold 15 = .ok (.if_icmp .gt 7, 3) := by decide +kernel
theorem dX2_turnTold_18 : decode cX2_turnTold 18 = .ok (.iconst (-1), 1) := by decide +kernel
theorem dX2_turnTold_19 : decode cX2_turnTold 19 = .ok (.goto 4, 3) := by decide +kernel
theorem dX2_turnTold_22 : decode cX2_turnTold 22 = .ok (.iconst 1, 1) := by decide +kernel
theorem dX2_turnTold_23 : decode cX2_turnTold 23 = .ok (.ireturn, 1) := by decide +kernel
theorem dX2_shares_0 : decode cX2_shares 0 = .ok (.aload_n 2, 1) := by decide +kernel
theorem dX2_shares_1 : decode cX2_shares 1 = .ok (.bipush 50, 2) := by decide +kernel
theorem dX2_shares_3 : decode cX2_shares 3 = .ok (.invokevirtual 13, 3) := by decide +kernel
theorem dX2_shares_6 : decode cX2_shares 6 = .ok (.aload_n 0, 1) := by decide +kernel
theorem dX2_shares_7 : decode cX2_shares 7 = .ok (.iload_n 1, 1) := by decide +kernel
theorem dX2_shares_8 : decode cX2_shares 8 = .ok (.iconst 2, 1) := by decide +kernel
theorem dX2_shares_9 : decode cX2_shares 9 = .ok (.iadd, 1) := by decide +kernel
theorem dX2_shares_10 : decode cX2_shares 10 = .ok (.aload_n 2, 1) := by decide +kernel
theorem dX2_shares_11 : decode cX2_shares 11 = .ok (.invokespecial 19, 3) := by decide +kernel
theorem dX2_shares_14 : decode cX2_shares 14 = .ok (.iconst 1, 1) := by decide +kernel
theorem dX2_shares_15 : decode cX2_shares 15 = .ok (.ixor, 1) := by decide +kernel
theorem dX2_shares_16 : decode cX2_shares 16 = .ok (.ireturn, 1) := by decide +kernel
theorem dX2_falls_0 : decode cX2_falls 0 = .ok (.aload_n 2, 1) := by decide +kernel
theorem dX2_falls_1 : decode cX2_falls 1 = .ok (.bipush 51, 2) := by decide +kernel
theorem dX2_falls_3 : decode cX2_falls 3 = .ok (.invokevirtual 13, 3) := by decide +kernel
theorem dX2_falls_6 : decode cX2_falls 6 = .ok (.aload_n 0, 1) := by decide +kernel
theorem dX2_falls_7 : decode cX2_falls 7 = .ok (.iload_n 1, 1) := by decide +kernel
theorem dX2_falls_8 : decode cX2_falls 8 = .ok (.aload_n 2, 1) := by decide +kernel
theorem dX2_falls_9 : decode cX2_falls 9 = .ok (.invokespecial 23, 3) := by decide +kernel
theorem dX2_falls_12 : decode cX2_falls 12 = .ok (.aload_n 0, 1) := by decide +kernel
theorem dX2_falls_13 : decode cX2_falls 13 = .ok (.getfield 26, 3) := by decide +kernel
theorem dX2_falls_16 : decode cX2_falls 16 = .ok (.isub, 1) := by decide +kernel
theorem dX2_falls_17 : decode cX2_falls 17 = .ok (.ireturn, 1) := by decide +kernel
theorem dX3_init_0 : decode cX3_init 0 = .ok (.aload_n 0, 1) := by decide +kernel
theorem dX3_init_1 : decode cX3_init 1 = .ok (.invokespecial 3, 3) := by decide +kernel
theorem dX3_init_4 : decode cX3_init 4 = .ok (.aload_n 0, 1) := by decide +kernel
theorem dX3_init_5 : decode cX3_init 5 = .ok (.iconst (-1), 1) := by decide +kernel
theorem dX3_init_6 : decode cX3_init 6 = .ok (.putfield 9, 3) := by decide +kernel
theorem dX3_init_9 : decode cX3_init 9 = .ok (.aload_n 0, 1) := by decide +kernel
theorem dX3_init_10 : decode cX3_init 10 = .ok (.bipush 40, 2) := by decide +kernel
theorem dX3_init_12 : decode cX3_init 12 = .ok (.newarray .long, 2) := by decide +kernel
theorem dX3_init_14 : decode cX3_init 14 = .ok (.putfield 15, 3) := by decide +kernel
theorem dX3_init_17 : decode cX3_init 17 = .ok (.return_, 1) := by decide +kernel
theorem dX3_become_0 : decode cX3_become 0 = .ok (.aload_n 0, 1) := by decide +kernel
theorem dX3_become_1 : decode cX3_become 1 = .ok (.iload_n 1, 1) := by decide +kernel
theorem dX3_become_2 : decode cX3_become 2 = .ok (.putfield 9, 3) := by decide +kernel
theorem dX3_become_5 : decode cX3_become 5 = .ok (.aload_n 0, 1) := by decide +kernel
theorem dX3_become_6 : decode cX3_become 6 = .ok (.iload_n 2, 1) := by decide +kernel
theorem dX3_become_7 : decode cX3_become 7 = .ok (.putfield 19, 3) := by decide +kernel
theorem dX3_become_10 : decode cX3_become 10 = .ok (.iconst 0, 1) := by decide +kernel
theorem dX3_become_11 : decode cX3_become 11 = .ok (.istore_n 3, 1) := by decide +kernel
theorem dX3_become_12 : decode cX3_become 12 = .ok (.iload_n 3, 1) := by decide +kernel
theorem dX3_become_13 : decode cX3_become 13 = .ok (.bipush 40, 2) := by decide +kernel
theorem dX3_become_15 : decode cX3_become 15 = .ok (.if_icmp .ge 16, 3) := by decide +kernel
theorem dX3_become_18 : decode cX3_become 18 = .ok (.aload_n 0, 1) := by decide +kernel
theorem dX3_become_19 : decode cX3_become 19 = .ok (.getfield 15, 3) := by decide +kernel
theorem dX3_become_22 : decode cX3_become 22 = .ok (.iload_n 3, 1) := by decide +kernel
theorem dX3_become_23 : decode cX3_become 23 = .ok (.lconst 0, 1) := by decide +kernel
theorem dX3_become_24 : decode cX3_become 24 = .ok (.lastore, 1) := by decide +kernel
theorem dX3_become_25 : decode cX3_become 25 = .ok (.iinc 3 1, 3) := by decide +kernel
theorem dX3_become_28 : decode cX3_become 28 = .ok (.goto (-16), 3) := by decide +kernel
theorem dX3_become_31 : decode cX3_become 31 = .ok (.return_, 1) := by decide +kernel
theorem dX3_narrowed_0 : decode cX3_narrowed 0 = .ok (.aload_n 0, 1) := by decide +kernel
theorem dX3_narrowed_1 : decode cX3_narrowed 1 = .ok (.getfield 9, 3) := by decide +kernel
theorem dX3_narrowed_4 : decode cX3_narrowed 4 = .ok (.lookupswitch 36 #[(0, 28), (1, 32)], 28) := by decide +kernel
theorem dX3_narrowed_32 : decode cX3_narrowed 32 = .ok (.iload_n 1, 1) := by decide +kernel
theorem dX3_narrowed_33 : decode cX3_narrowed 33 = .ok (.i2b, 1) := by decide +kernel
theorem dX3_narrowed_34 : decode cX3_narrowed 34 = .ok (.i2l, 1) := by decide +kernel
theorem dX3_narrowed_35 : decode cX3_narrowed 35 = .ok (.lreturn, 1) := by decide +kernel
theorem dX3_narrowed_36 : decode cX3_narrowed 36 = .ok (.iload_n 1, 1) := by decide +kernel
theorem dX3_narrowed_37 : decode cX3_narrowed 37 = .ok (.i2s, 1) := by decide +kernel
theorem dX3_narrowed_38 : decode cX3_narrowed 38 = .ok (.i2l, 1) := by decide +kernel
theorem dX3_narrowed_39 : decode cX3_narrowed 39 = .ok (.lreturn, 1) := by decide +kernel
theorem dX3_narrowed_40 : decode cX3_narrowed 40 = .ok (.iload_n 1, 1) := by decide +kernel
theorem dX3_narrowed_41 : decode cX3_narrowed 41 = .ok (.i2l, 1) := by decide +kernel
theorem dX3_narrowed_42 : decode cX3_narrowed 42 = .ok (.lreturn, 1) := by decide +kernel
theorem dX4_init_0 : decode cX4_init 0 = .ok (.aload_n 0, 1) := by decide +kernel
theorem dX4_init_1 : decode cX4_init 1 = .ok (.iload_n 1, 1) := by decide +kernel
theorem dX4_init_2 : decode cX4_init 2 = .ok (.iload_n 2, 1) := by decide +kernel
theorem dX4_init_3 : decode cX4_init 3 = .ok (.iload_n 3, 1) := by decide +kernel
theorem dX4_init_4 : decode cX4_init 4 = .ok (.iload 4, 2) := by decide +kernel
theorem dX4_init_6 : decode cX4_init 6 = .ok (.invokespecial 1, 3) := by decide +kernel
theorem dX4_init_9 : decode cX4_init 9 = .ok (.return_, 1) := by decide +kernel
theorem dX4_kind_0 : decode cX4_kind 0 = .ok (.iconst 1, 1) := by decide +kernel
theorem dX4_kind_1 : decode cX4_kind 1 = .ok (.ireturn, 1) := by decide +kernel
theorem dX4_turnTold_0 : decode cX4_turnTold 0 = .ok (.iconst 0, 1) := by decide +kernel
theorem dX4_turnTold_1 : decode cX4_turnTold 1 = .ok (.ireturn, 1) := by decide +kernel
theorem dX4_turns_0 : decode cX4_turns 0 = .ok (.aload_n 2, 1) := by decide +kernel
theorem dX4_turns_1 : decode cX4_turns 1 = .ok (.bipush 20, 2) := by decide +kernel
theorem dX4_turns_3 : decode cX4_turns 3 = .ok (.invokevirtual 7, 3) := by decide +kernel
theorem dX4_turns_6 : decode cX4_turns 6 = .ok (.aload_n 0, 1) := by decide +kernel
theorem dX4_turns_7 : decode cX4_turns 7 = .ok (.iload_n 1, 1) := by decide +kernel
theorem dX4_turns_8 : decode cX4_turns 8 = .ok (.aload_n 2, 1) := by decide +kernel
theorem dX4_turns_9 : decode cX4_turns 9 = .ok (.invokespecial 13, 3) := by decide +kernel
theorem dX4_turns_12 : decode cX4_turns 12 = .ok (.aload_n 0, 1) := by decide +kernel
theorem dX4_turns_13 : decode cX4_turns 13 = .ok (.getfield 17, 3) := by decide +kernel
theorem dX4_turns_16 : decode cX4_turns 16 = .ok (.isub, 1) := by decide +kernel
theorem dX4_turns_17 : decode cX4_turns 17 = .ok (.ireturn, 1) := by decide +kernel
theorem dX5_init_0 : decode cX5_init 0 = .ok (.aload_n 0, 1) := by decide +kernel
theorem dX5_init_1 : decode cX5_init 1 = .ok (.iload_n 1, 1) := by decide +kernel
theorem dX5_init_2 : decode cX5_init 2 = .ok (.iload_n 2, 1) := by decide +kernel
theorem dX5_init_3 : decode cX5_init 3 = .ok (.iload_n 3, 1) := by decide +kernel
theorem dX5_init_4 : decode cX5_init 4 = .ok (.iload 4, 2) := by decide +kernel
theorem dX5_init_6 : decode cX5_init 6 = .ok (.invokespecial 1, 3) := by decide +kernel
theorem dX5_init_9 : decode cX5_init 9 = .ok (.return_, 1) := by decide +kernel
theorem dX5_kind_0 : decode cX5_kind 0 = .ok (.iconst 2, 1) := by decide +kernel
theorem dX5_kind_1 : decode cX5_kind 1 = .ok (.ireturn, 1) := by decide +kernel
theorem dX5_turnTold_0 : decode cX5_turnTold 0 = .ok (.aload_n 0, 1) := by decide +kernel
theorem dX5_turnTold_1 : decode cX5_turnTold 1 = .ok (.aload_n 1, 1) := by decide +kernel
theorem dX5_turnTold_2 : decode cX5_turnTold 2 = .ok (.iload_n 2, 1) := by decide +kernel
theorem dX5_turnTold_3 : decode cX5_turnTold 3 = .ok (.aload_n 3, 1) := by decide +kernel
theorem dX5_turnTold_4 : decode cX5_turnTold 4 = .ok (.invokespecial 7, 3) := by decide +kernel
theorem dX5_turnTold_7 : decode cX5_turnTold 7 = .ok (.istore 4, 2) := by decide +kernel
theorem dX5_turnTold_9 : decode cX5_turnTold 9 = .ok (.aload_n 1, 1) := by decide +kernel
theorem dX5_turnTold_10 : decode cX5_turnTold 10 = .ok (.getfield 11, 3) := by decide +kernel
theorem dX5_turnTold_13 : decode cX5_turnTold 13 = .ok (.bipush 10, 2) := by decide +kernel
theorem dX5_turnTold_15 : decode cX5_turnTold 15 = .ok (.if_icmp .lt 18, 3) := by decide +kernel
theorem dX5_turnTold_18 : decode cX5_turnTold 18 = .ok (.aload_n 1, 1) := by decide +kernel
theorem dX5_turnTold_19 : decode cX5_turnTold 19 = .ok (.getfield 11, 3) := by decide +kernel
theorem dX5_turnTold_22 : decode cX5_turnTold 22 = .ok (.bipush 26, 2) := by decide +kernel
theorem dX5_turnTold_24 : decode cX5_turnTold 24 = .ok (.if_icmp .gt 9, 3) := by decide +kernel
theorem dX5_turnTold_27 : decode cX5_turnTold 27 = .ok (.iload 4, 2) := by decide +kernel
theorem dX5_turnTold_29 : decode cX5_turnTold 29 = .ok (.ineg, 1) := by decide +kernel
theorem dX5_turnTold_30 : decode cX5_turnTold 30 = .ok (.goto 5, 3) := by decide +kernel
theorem dX5_turnTold_33 : decode cX5_turnTold 33 = .ok (.iload 4, 2) := by decide +kernel
theorem dX5_turnTold_35 : decode cX5_turnTold 35 = .ok (.ireturn, 1) := by decide +kernel
theorem dX5_falls_0 : decode cX5_falls 0 = .ok (.aload_n 2, 1) := by decide +kernel
theorem dX5_falls_1 : decode cX5_falls 1 = .ok (.bipush 30, 2) := by decide +kernel
theorem dX5_falls_3 : decode cX5_falls 3 = .ok (.invokevirtual 17, 3) := by decide +kernel
theorem dX5_falls_6 : decode cX5_falls 6 = .ok (.aload_n 0, 1) := by decide +kernel
theorem dX5_falls_7 : decode cX5_falls 7 = .ok (.iload_n 1, 1) := by decide +kernel
theorem dX5_falls_8 : decode cX5_falls 8 = .ok (.aload_n 2, 1) := by decide +kernel
theorem dX5_falls_9 : decode cX5_falls 9 = .ok (.invokespecial 23, 3) := by decide +kernel
theorem dX5_falls_12 : decode cX5_falls 12 = .ok (.iconst 3, 1) := by decide +kernel
theorem dX5_falls_13 : decode cX5_falls 13 = .ok (.imul, 1) := by decide +kernel
theorem dX5_falls_14 : decode cX5_falls 14 = .ok (.ireturn, 1) := by decide +kernel
theorem dX5_tells_0 : decode cX5_tells 0 = .ok (.aload_n 2, 1) := by decide +kernel
theorem dX5_tells_1 : decode cX5_tells 1 = .ok (.bipush 31, 2) := by decide +kernel
theorem dX5_tells_3 : decode cX5_tells 3 = .ok (.invokevirtual 17, 3) := by decide +kernel
theorem dX5_tells_6 : decode cX5_tells 6 = .ok (.aload_n 0, 1) := by decide +kernel
theorem dX5_tells_7 : decode cX5_tells 7 = .ok (.iload_n 1, 1) := by decide +kernel
theorem dX5_tells_8 : decode cX5_tells 8 = .ok (.aload_n 2, 1) := by decide +kernel
theorem dX5_tells_9 : decode cX5_tells 9 = .ok (.invokespecial 27, 3) := by decide +kernel
theorem dX5_tells_12 : decode cX5_tells 12 = .ok (.aload_n 0, 1) := by decide +kernel
theorem dX5_tells_13 : decode cX5_tells 13 = .ok (.aload_n 0, 1) := by decide +kernel
theorem dX5_tells_14 : decode cX5_tells 14 = .ok (.getfield 30, 3) := by decide +kernel
theorem dX5_tells_17 : decode cX5_tells 17 = .ok (.aload_n 2, 1) := by decide +kernel
theorem dX5_tells_18 : decode cX5_tells 18 = .ok (.invokevirtual 35, 3) := by decide +kernel
theorem dX5_tells_21 : decode cX5_tells 21 = .ok (.iadd, 1) := by decide +kernel
theorem dX5_tells_22 : decode cX5_tells 22 = .ok (.ireturn, 1) := by decide +kernel
theorem dX6_init_0 : decode cX6_init 0 = .ok (.aload_n 0, 1) := by decide +kernel
theorem dX6_init_1 : decode cX6_init 1 = .ok (.invokespecial 3, 3) := by decide +kernel
theorem dX6_init_4 : decode cX6_init 4 = .ok (.aload_n 0, 1) := by decide +kernel
theorem dX6_init_5 : decode cX6_init 5 = .ok (.sipush 200, 3) := by decide +kernel
theorem dX6_init_8 : decode cX6_init 8 = .ok (.newarray .byte, 2) := by decide +kernel
theorem dX6_init_10 : decode cX6_init 10 = .ok (.putfield 9, 3) := by decide +kernel
theorem dX6_init_13 : decode cX6_init 13 = .ok (.return_, 1) := by decide +kernel
theorem dX6_takeBytes_0 : decode cX6_takeBytes 0 = .ok (.iload_n 3, 1) := by decide +kernel
theorem dX6_takeBytes_1 : decode cX6_takeBytes 1 = .ok (.ifCond .lt 15, 3) := by decide +kernel
theorem dX6_takeBytes_4 : decode cX6_takeBytes 4 = .ok (.iload_n 3, 1) := by decide +kernel
theorem dX6_takeBytes_5 : decode cX6_takeBytes 5 = .ok (.sipush 200, 3) := by decide +kernel
theorem dX6_takeBytes_8 : decode cX6_takeBytes 8 = .ok (.aload_n 0, 1) := by decide +kernel
theorem dX6_takeBytes_9 : decode cX6_takeBytes 9 = .ok (.getfield 15, 3) := by decide +kernel
theorem dX6_takeBytes_12 : decode cX6_takeBytes 12 = .ok (.isub, 1) := by decide +kernel
theorem dX6_takeBytes_13 : decode cX6_takeBytes 13 = .ok (.if_icmp .le 5, 3) := by decide +kernel
theorem dX6_takeBytes_16 : decode cX6_takeBytes 16 = .ok (.iconst 0, 1) := by decide +kernel
theorem dX6_takeBytes_17 : decode cX6_takeBytes 17 = .ok (.ireturn, 1) := by decide +kernel
theorem dX6_takeBytes_18 : decode cX6_takeBytes 18 = .ok (.iconst 0, 1) := by decide +kernel
theorem dX6_takeBytes_19 : decode cX6_takeBytes 19 = .ok (.istore 4, 2) := by decide +kernel
theorem dX6_takeBytes_21 : decode cX6_takeBytes 21 = .ok (.iload 4, 2) := by decide +kernel
theorem dX6_takeBytes_23 : decode cX6_takeBytes 23 = .ok (.iload_n 3, 1) := by decide +kernel
theorem dX6_takeBytes_24 : decode cX6_takeBytes 24 = .ok (.if_icmp .ge 37, 3) := by decide +kernel
theorem dX6_takeBytes_27 : decode cX6_takeBytes 27 = .ok (.aload_n 0, 1) := by decide +kernel
theorem dX6_takeBytes_28 : decode cX6_takeBytes 28 = .ok (.getfield 9, 3) := by decide +kernel
theorem dX6_takeBytes_31 : decode cX6_takeBytes 31 = .ok (.aload_n 0, 1) := by decide +kernel
theorem dX6_takeBytes_32 : decode cX6_takeBytes 32 = .ok (.getfield 15, 3) := by decide +kernel
theorem dX6_takeBytes_35 : decode cX6_takeBytes 35 = .ok (.lload_n 1, 1) := by decide +kernel
theorem dX6_takeBytes_36 : decode cX6_takeBytes 36 = .ok (.bipush 8, 2) := by decide +kernel
theorem dX6_takeBytes_38 : decode cX6_takeBytes 38 = .ok (.iload 4, 2) := by decide +kernel
theorem dX6_takeBytes_40 : decode cX6_takeBytes 40 = .ok (.imul, 1) := by decide +kernel
theorem dX6_takeBytes_41 : decode cX6_takeBytes 41 = .ok (.lshr, 1) := by decide +kernel
theorem dX6_takeBytes_42 : decode cX6_takeBytes 42 = .ok (.l2i, 1) := by decide +kernel
theorem dX6_takeBytes_43 : decode cX6_takeBytes 43 = .ok (.i2b, 1) := by decide +kernel
theorem dX6_takeBytes_44 : decode cX6_takeBytes 44 = .ok (.bastore, 1) := by decide +kernel
theorem dX6_takeBytes_45 : decode cX6_takeBytes 45 = .ok (.aload_n 0, 1) := by decide +kernel
theorem dX6_takeBytes_46 : decode cX6_takeBytes 46 = .ok (.dup, 1) := by decide +kernel
theorem dX6_takeBytes_47 : decode cX6_takeBytes 47 = .ok (.getfield 15, 3) := by decide +kernel
theorem dX6_takeBytes_50 : decode cX6_takeBytes 50 = .ok (.iconst 1, 1) := by decide +kernel
theorem dX6_takeBytes_51 : decode cX6_takeBytes 51 = .ok (.iadd, 1) := by decide +kernel
theorem dX6_takeBytes_52 : decode cX6_takeBytes 52 = .ok (.putfield 15, 3) := by decide +kernel
theorem dX6_takeBytes_55 : decode cX6_takeBytes 55 = .ok (.iinc 4 1, 3) := by decide +kernel
theorem dX6_takeBytes_58 : decode cX6_takeBytes 58 = .ok (.goto (-37), 3) := by decide +kernel
theorem dX6_takeBytes_61 : decode cX6_takeBytes 61 = .ok (.iconst 1, 1) := by decide +kernel
theorem dX6_takeBytes_62 : decode cX6_takeBytes 62 = .ok (.ireturn, 1) := by decide +kernel
theorem dX6_readInto_0 : decode cX6_readInto 0 = .ok (.aload_n 0, 1) := by decide +kernel
theorem dX6_readInto_1 : decode cX6_readInto 1 = .ok (.iconst 0, 1) := by decide +kernel
theorem dX6_readInto_2 : decode cX6_readInto 2 = .ok (.putfield 19, 3) := by decide +kernel
theorem dX6_readInto_5 : decode cX6_readInto 5 = .ok (.aload_n 0, 1) := by decide +kernel
theorem dX6_readInto_6 : decode cX6_readInto 6 = .ok (.iconst (-1), 1) := by decide +kernel
theorem dX6_readInto_7 : decode cX6_readInto 7 = .ok (.putfield 22, 3) := by decide +kernel
theorem dX6_readInto_10 : decode cX6_readInto 10 = .ok (.aload_n 0, 1) := by decide +kernel
theorem dX6_readInto_11 : decode cX6_readInto 11 = .ok (.invokevirtual 25, 3) := by decide +kernel
theorem dX6_readInto_14 : decode cX6_readInto 14 = .ok (.iconst 0, 1) := by decide +kernel
theorem dX6_readInto_15 : decode cX6_readInto 15 = .ok (.istore_n 2, 1) := by decide +kernel
theorem dX6_readInto_16 : decode cX6_readInto 16 = .ok (.iload_n 2, 1) := by decide +kernel
theorem dX6_readInto_17 : decode cX6_readInto 17 = .ok (.sipush 200, 3) := by decide +kernel
theorem dX6_readInto_20 : decode cX6_readInto 20 = .ok (.if_icmp .ge 36, 3) := by decide +kernel
theorem dX6_readInto_23 : decode cX6_readInto 23 = .ok (.aload_n 0, 1) := by decide +kernel
theorem dX6_readInto_24 : decode cX6_readInto 24 = .ok (.invokevirtual 28, 3) := by decide +kernel
theorem dX6_readInto_27 : decode cX6_readInto 27 = .ok (.ifCond .eq 29, 3) := by decide +kernel
theorem dX6_readInto_30 : decode cX6_readInto 30 = .ok (.aload_n 0, 1) := by decide +kernel
theorem dX6_readInto_31 : decode cX6_readInto 31 = .ok (.getfield 19, 3) := by decide +kernel
theorem dX6_readInto_34 : decode cX6_readInto 34 = .ok (.aload_n 0, 1) := by decide +kernel
theorem dX6_readInto_35 : decode cX6_readInto 35 = .ok (.getfield 15, 3) := by decide +kernel
theorem dX6_readInto_38 : decode cX6_readInto 38 = .ok (.if_icmp .ge 18, 3) := by decide +kernel
theorem dX6_readInto_41 : decode cX6_readInto 41 = .ok (.aload_n 0, 1) := by decide +kernel
theorem dX6_readInto_42 : decode cX6_readInto 42 = .ok (.aload_n 1, 1) := by decide +kernel
theorem dX6_readInto_43 : decode cX6_readInto 43 = .ok (.invokevirtual 32, 3) := by decide +kernel
theorem dX6_readInto_46 : decode cX6_readInto 46 = .ok (.aload_n 0, 1) := by decide +kernel
theorem dX6_readInto_47 : decode cX6_readInto 47 = .ok (.invokevirtual 25, 3) := by decide +kernel
theorem dX6_readInto_50 : decode cX6_readInto 50 = .ok (.iinc 2 1, 3) := by decide +kernel
theorem dX6_readInto_53 : decode cX6_readInto 53 = .ok (.goto (-37), 3) := by decide +kernel
theorem dX6_readInto_56 : decode cX6_readInto 56 = .ok (.aload_n 0, 1) := by decide +kernel
theorem dX6_readInto_57 : decode cX6_readInto 57 = .ok (.getfield 22, 3) := by decide +kernel
theorem dX6_readInto_60 : decode cX6_readInto 60 = .ok (.ireturn, 1) := by decide +kernel
theorem dX6_readPart_0 : decode cX6_readPart 0 = .ok (.iconst 0, 1) := by decide +kernel
theorem dX6_readPart_1 : decode cX6_readPart 1 = .ok (.istore_n 2, 1) := by decide +kernel
theorem dX6_readPart_2 : decode cX6_readPart 2 = .ok (.iload_n 2, 1) := by decide +kernel
theorem dX6_readPart_3 : decode cX6_readPart 3 = .ok (.bipush 6, 2) := by decide +kernel
theorem dX6_readPart_5 : decode cX6_readPart 5 = .ok (.if_icmp .ge 38, 3) := by decide +kernel
theorem dX6_readPart_8 : decode cX6_readPart 8 = .ok (.aload_n 0, 1) := by decide +kernel
theorem dX6_readPart_9 : decode cX6_readPart 9 = .ok (.iload_n 2, 1) := by decide +kernel
theorem dX6_readPart_10 : decode cX6_readPart 10 = .ok (.invokestatic 36, 3) := by decide +kernel
theorem dX6_readPart_13 : decode cX6_readPart 13 = .ok (.invokevirtual 40, 3) := by decide +kernel
theorem dX6_readPart_16 : decode cX6_readPart 16 = .ok (.ifCond .eq 21, 3) := by decide +kernel
theorem dX6_readPart_19 : decode cX6_readPart 19 = .ok (.aload_n 1, 1) := by decide +kernel
theorem dX6_readPart_20 : decode cX6_readPart 20 = .ok (.getfield 44, 3) := by decide +kernel
theorem dX6_readPart_23 : decode cX6_readPart 23 = .ok (.iload_n 2, 1) := by decide +kernel
theorem dX6_readPart_24 : decode cX6_readPart 24 = .ok (.aload_n 0, 1) := by decide +kernel
theorem dX6_readPart_25 : decode cX6_readPart 25 = .ok (.iconst 0, 1) := by decide +kernel
theorem dX6_readPart_26 : decode cX6_readPart 26 = .ok (.bipush 63, 2) := by decide +kernel
theorem dX6_readPart_28 : decode cX6_readPart 28 = .ok (.invokevirtual 50, 3) := by decide +kernel
theorem dX6_readPart_31 : decode cX6_readPart 31 = .ok (.iastore, 1) := by decide +kernel
theorem dX6_readPart_32 : decode cX6_readPart 32 = .ok (.aload_n 0, 1) := by decide +kernel
theorem dX6_readPart_33 : decode cX6_readPart 33 = .ok (.invokevirtual 54, 3) := by decide +kernel
theorem dX6_readPart_36 : decode cX6_readPart 36 = .ok (.return_, 1) := by decide +kernel
theorem dX6_readPart_37 : decode cX6_readPart 37 = .ok (.iinc 2 1, 3) := by decide +kernel
theorem dX6_readPart_40 : decode cX6_readPart 40 = .ok (.goto (-38), 3) := by decide +kernel
theorem dX6_readPart_43 : decode cX6_readPart 43 = .ok (.aload_n 0, 1) := by decide +kernel
theorem dX6_readPart_44 : decode cX6_readPart 44 = .ok (.ldc 57, 2) := by decide +kernel
theorem dX6_readPart_46 : decode cX6_readPart 46 = .ok (.invokevirtual 40, 3) := by decide +kernel
theorem dX6_readPart_49 : decode cX6_readPart 49 = .ok (.ifCond .eq 11, 3) := by decide +kernel
theorem dX6_readPart_52 : decode cX6_readPart 52 = .ok (.aload_n 0, 1) := by decide +kernel
theorem dX6_readPart_53 : decode cX6_readPart 53 = .ok (.aload_n 1, 1) := by decide +kernel
theorem dX6_readPart_54 : decode cX6_readPart 54 = .ok (.invokevirtual 59, 3) := by decide +kernel
theorem dX6_readPart_57 : decode cX6_readPart 57 = .ok (.goto 8, 3) := by decide +kernel
theorem dX6_readPart_60 : decode cX6_readPart 60 = .ok (.aload_n 0, 1) := by decide +kernel
theorem dX6_readPart_61 : decode cX6_readPart 61 = .ok (.aload_n 1, 1) := by decide +kernel
theorem dX6_readPart_62 : decode cX6_readPart 62 = .ok (.invokevirtual 62, 3) := by decide +kernel
theorem dX6_readPart_65 : decode cX6_readPart 65 = .ok (.return_, 1) := by decide +kernel
theorem dX6_readHand_0 : decode cX6_readHand 0 = .ok (.iconst 0, 1) := by decide +kernel
theorem dX6_readHand_1 : decode cX6_readHand 1 = .ok (.istore_n 2, 1) := by decide +kernel
theorem dX6_readHand_2 : decode cX6_readHand 2 = .ok (.iconst 0, 1) := by decide +kernel
theorem dX6_readHand_3 : decode cX6_readHand 3 = .ok (.istore_n 3, 1) := by decide +kernel
theorem dX6_readHand_4 : decode cX6_readHand 4 = .ok (.iload_n 3, 1) := by decide +kernel
theorem dX6_readHand_5 : decode cX6_readHand 5 = .ok (.iconst 5, 1) := by decide +kernel
theorem dX6_readHand_6 : decode cX6_readHand 6 = .ok (.if_icmp .ge 48, 3) := by decide +kernel
theorem dX6_readHand_9 : decode cX6_readHand 9 = .ok (.iload_n 3, 1) := by decide +kernel
theorem dX6_readHand_10 : decode cX6_readHand 10 = .ok (.iconst 4, 1) := by decide +kernel
theorem dX6_readHand_11 : decode cX6_readHand 11 = .ok (.if_icmp .ne 11, 3) := by decide +kernel
theorem dX6_readHand_14 : decode cX6_readHand 14 = .ok (.iload_n 2, 1) := by decide +kernel
theorem dX6_readHand_15 : decode cX6_readHand 15 = .ok (.ifCond .ne 7, 3) := by decide +kernel
theorem dX6_readHand_18 : decode cX6_readHand 18 = .ok (.iconst 1, 1) := by decide +kernel
theorem dX6_readHand_19 : decode cX6_readHand 19 = .ok (.goto 4, 3) := by decide +kernel
theorem dX6_readHand_22 : decode cX6_readHand 22 = .ok (.iconst 0, 1) := by decide +kernel
theorem dX6_readHand_23 : decode cX6_readHand 23 = .ok (.istore 4, 2) := by decide +kernel
theorem dX6_readHand_25 : decode cX6_readHand 25 = .ok (.aload_n 1, 1) := by decide +kernel
theorem dX6_readHand_26 : decode cX6_readHand 26 = .ok (.getfield 65, 3) := by decide +kernel
theorem dX6_readHand_29 : decode cX6_readHand 29 = .ok (.iload_n 3, 1) := by decide +kernel
theorem dX6_readHand_30 : decode cX6_readHand 30 = .ok (.aload_n 0, 1) := by decide +kernel
theorem dX6_readHand_31 : decode cX6_readHand 31 = .ok (.iload 4, 2) := by decide +kernel
theorem dX6_readHand_33 : decode cX6_readHand 33 = .ok (.bipush 9, 2) := by decide +kernel
theorem dX6_readHand_35 : decode cX6_readHand 35 = .ok (.invokevirtual 50, 3) := by decide +kernel
theorem dX6_readHand_38 : decode cX6_readHand 38 = .ok (.iastore, 1) := by decide +kernel
theorem dX6_readHand_39 : decode cX6_readHand 39 = .ok (.iload_n 2, 1) := by decide +kernel
theorem dX6_readHand_40 : decode cX6_readHand 40 = .ok (.aload_n 1, 1) := by decide +kernel
theorem dX6_readHand_41 : decode cX6_readHand 41 = .ok (.getfield 65, 3) := by decide +kernel
theorem dX6_readHand_44 : decode cX6_readHand 44 = .ok (.iload_n 3, 1) := by decide +kernel
theorem dX6_readHand_45 : decode cX6_readHand 45 = .ok (.iaload, 1) := by decide +kernel
theorem dX6_readHand_46 : decode cX6_readHand 46 = .ok (.iadd, 1) := by decide +kernel
theorem dX6_readHand_47 : decode cX6_readHand 47 = .ok (.istore_n 2, 1) := by decide +kernel
theorem dX6_readHand_48 : decode cX6_readHand 48 = .ok (.iinc 3 1, 3) := by decide +kernel
theorem dX6_readHand_51 : decode cX6_readHand 51 = .ok (.goto (-47), 3) := by decide +kernel
theorem dX6_readHand_54 : decode cX6_readHand 54 = .ok (.aload_n 0, 1) := by decide +kernel
theorem dX6_readHand_55 : decode cX6_readHand 55 = .ok (.invokevirtual 54, 3) := by decide +kernel
theorem dX6_readHand_58 : decode cX6_readHand 58 = .ok (.return_, 1) := by decide +kernel
theorem dX6_readCard_0 : decode cX6_readCard 0 = .ok (.aload_n 1, 1) := by decide +kernel
theorem dX6_readCard_1 : decode cX6_readCard 1 = .ok (.getfield 67, 3) := by decide +kernel
theorem dX6_readCard_4 : decode cX6_readCard 4 = .ok (.bipush 6, 2) := by decide +kernel
theorem dX6_readCard_6 : decode cX6_readCard 6 = .ok (.if_icmp .ge 10, 3) := by decide +kernel
theorem dX6_readCard_9 : decode cX6_readCard 9 = .ok (.aload_n 0, 1) := by decide +kernel
theorem dX6_readCard_10 : decode cX6_readCard 10 = .ok (.invokevirtual 70, 3) := by decide +kernel
theorem dX6_readCard_13 : decode cX6_readCard 13 = .ok (.goto 4, 3) := by decide +kernel
theorem dX6_readCard_16 : decode cX6_readCard 16 = .ok (.iconst (-1), 1) := by decide +kernel
theorem dX6_readCard_17 : decode cX6_readCard 17 = .ok (.istore_n 2, 1) := by decide +kernel
theorem dX6_readCard_18 : decode cX6_readCard 18 = .ok (.iload_n 2, 1) := by decide +kernel
theorem dX6_readCard_19 : decode cX6_readCard 19 = .ok (.ifCond .ge 8, 3) := by decide +kernel
theorem dX6_readCard_22 : decode cX6_readCard 22 = .ok (.aload_n 0, 1) := by decide +kernel
theorem dX6_readCard_23 : decode cX6_readCard 23 = .ok (.invokevirtual 74, 3) := by decide +kernel
theorem dX6_readCard_26 : decode cX6_readCard 26 = .ok (.return_, 1) := by decide +kernel
theorem dX6_readCard_27 : decode cX6_readCard 27 = .ok (.aload_n 0, 1) := by decide +kernel
theorem dX6_readCard_28 : decode cX6_readCard 28 = .ok (.iconst 1, 1) := by decide +kernel
theorem dX6_readCard_29 : decode cX6_readCard 29 = .ok (.bipush 99, 2) := by decide +kernel
theorem dX6_readCard_31 : decode cX6_readCard 31 = .ok (.invokevirtual 50, 3) := by decide +kernel
theorem dX6_readCard_34 : decode cX6_readCard 34 = .ok (.istore_n 3, 1) := by decide +kernel
theorem dX6_readCard_35 : decode cX6_readCard 35 = .ok (.aload_n 0, 1) := by decide +kernel
theorem dX6_readCard_36 : decode cX6_readCard 36 = .ok (.ldc 77, 2) := by decide +kernel
theorem dX6_readCard_38 : decode cX6_readCard 38 = .ok (.invokevirtual 40, 3) := by decide +kernel
theorem dX6_readCard_41 : decode cX6_readCard 41 = .ok (.ifCond .ne 7, 3) := by decide +kernel
theorem dX6_readCard_44 : decode cX6_readCard 44 = .ok (.aload_n 0, 1) := by decide +kernel
theorem dX6_readCard_45 : decode cX6_readCard 45 = .ok (.invokevirtual 74, 3) := by decide +kernel
theorem dX6_readCard_48 : decode cX6_readCard 48 = .ok (.aload_n 0, 1) := by decide +kernel
theorem dX6_readCard_49 : decode cX6_readCard 49 = .ok (.iconst 1, 1) := by decide +kernel
theorem dX6_readCard_50 : decode cX6_readCard 50 = .ok (.bipush 9, 2) := by decide +kernel
theorem dX6_readCard_52 : decode cX6_readCard 52 = .ok (.invokevirtual 50, 3) := by decide +kernel
theorem dX6_readCard_55 : decode cX6_readCard 55 = .ok (.istore 4, 2) := by decide +kernel
theorem dX6_readCard_57 : decode cX6_readCard 57 = .ok (.aload_n 0, 1) := by decide +kernel
theorem dX6_readCard_58 : decode cX6_readCard 58 = .ok (.ldc 79, 2) := by decide +kernel
theorem dX6_readCard_60 : decode cX6_readCard 60 = .ok (.invokevirtual 40, 3) := by decide +kernel
theorem dX6_readCard_63 : decode cX6_readCard 63 = .ok (.ifCond .eq 10, 3) := by decide +kernel
theorem dX6_readCard_66 : decode cX6_readCard 66 = .ok (.aload_n 0, 1) := by decide +kernel
theorem dX6_readCard_67 : decode cX6_readCard 67 = .ok (.invokevirtual 81, 3) := by decide +kernel
theorem dX6_readCard_70 : decode cX6_readCard 70 = .ok (.goto 4, 3) := by decide +kernel
theorem dX6_readCard_73 : decode cX6_readCard 73 = .ok (.iconst 0, 1) := by decide +kernel
theorem dX6_readCard_74 : decode cX6_readCard 74 = .ok (.istore 5, 2) := by decide +kernel
theorem dX6_readCard_76 : decode cX6_readCard 76 = .ok (.aload_n 0, 1) := by decide +kernel
theorem dX6_readCard_77 : decode cX6_readCard 77 = .ok (.invokevirtual 54, 3) := by decide +kernel
theorem dX6_readCard_80 : decode cX6_readCard 80 = .ok (.aload_n 0, 1) := by decide +kernel
theorem dX6_readCard_81 : decode cX6_readCard 81 = .ok (.invokevirtual 28, 3) := by decide +kernel
theorem dX6_readCard_84 : decode cX6_readCard 84 = .ok (.ifCond .eq 14, 3) := by decide +kernel
theorem dX6_readCard_87 : decode cX6_readCard 87 = .ok (.aload_n 1, 1) := by decide +kernel
theorem dX6_readCard_88 : decode cX6_readCard 88 = .ok (.iload_n 2, 1) := by decide +kernel
theorem dX6_readCard_89 : decode cX6_readCard 89 = .ok (.iload_n 3, 1) := by decide +kernel
theorem dX6_readCard_90 : decode cX6_readCard 90 = .ok (.iload 4, 2) := by decide +kernel
theorem dX6_readCard_92 : decode cX6_readCard 92 = .ok (.iload 5, 2) := by decide +kernel
theorem dX6_readCard_94 : decode cX6_readCard 94 = .ok (.invokevirtual 84, 3) := by decide +kernel
theorem dX6_readCard_97 : decode cX6_readCard 97 = .ok (.pop, 1) := by decide +kernel
theorem dX6_readCard_98 : decode cX6_readCard 98 = .ok (.return_, 1) := by decide +kernel
theorem dX6_readClip_0 : decode cX6_readClip 0 = .ok (.aload_n 0, 1) := by decide +kernel
theorem dX6_readClip_1 : decode cX6_readClip 1 = .ok (.bipush 45, 2) := by decide +kernel
theorem dX6_readClip_3 : decode cX6_readClip 3 = .ok (.invokevirtual 88, 3) := by decide +kernel
theorem dX6_readClip_6 : decode cX6_readClip 6 = .ok (.istore_n 1, 1) := by decide +kernel
theorem dX6_readClip_7 : decode cX6_readClip 7 = .ok (.aload_n 0, 1) := by decide +kernel
theorem dX6_readClip_8 : decode cX6_readClip 8 = .ok (.iconst 0, 1) := by decide +kernel
theorem dX6_readClip_9 : decode cX6_readClip 9 = .ok (.iconst 4, 1) := by decide +kernel
theorem dX6_readClip_10 : decode cX6_readClip 10 = .ok (.invokevirtual 50, 3) := by decide +kernel
theorem dX6_readClip_13 : decode cX6_readClip 13 = .ok (.istore_n 2, 1) := by decide +kernel
theorem dX6_readClip_14 : decode cX6_readClip 14 = .ok (.iload_n 1, 1) := by decide +kernel
theorem dX6_readClip_15 : decode cX6_readClip 15 = .ok (.ifCond .eq 8, 3) := by decide +kernel
theorem dX6_readClip_18 : decode cX6_readClip 18 = .ok (.iload_n 2, 1) := by decide +kernel
theorem dX6_readClip_19 : decode cX6_readClip 19 = .ok (.ineg, 1) := by decide +kernel
theorem dX6_readClip_20 : decode cX6_readClip 20 = .ok (.goto 4, 3) := by decide +kernel
theorem dX6_readClip_23 : decode cX6_readClip 23 = .ok (.iload_n 2, 1) := by decide +kernel
theorem dX6_readClip_24 : decode cX6_readClip 24 = .ok (.ireturn, 1) := by decide +kernel
theorem dX6_passKind_0 : decode cX6_passKind 0 = .ok (.iconst 0, 1) := by decide +kernel
theorem dX6_passKind_1 : decode cX6_passKind 1 = .ok (.istore_n 1, 1) := by decide +kernel
theorem dX6_passKind_2 : decode cX6_passKind 2 = .ok (.iload_n 1, 1) := by decide +kernel
theorem dX6_passKind_3 : decode cX6_passKind 3 = .ok (.iconst 5, 1) := by decide +kernel
theorem dX6_passKind_4 : decode cX6_passKind 4 = .ok (.if_icmp .gt 22, 3) := by decide +kernel
theorem dX6_passKind_7 : decode cX6_passKind 7 = .ok (.aload_n 0, 1) := by decide +kernel
theorem dX6_passKind_8 : decode cX6_passKind 8 = .ok (.iload_n 1, 1) := by decide +kernel
theorem dX6_passKind_9 : decode cX6_passKind 9 = .ok (.invokestatic 92, 3) := by decide +kernel
theorem dX6_passKind_12 : decode cX6_passKind 12 = .ok (.invokevirtual 40, 3) := by decide +kernel
theorem dX6_passKind_15 : decode cX6_passKind 15 = .ok (.ifCond .eq 5, 3) := by decide +kernel
theorem dX6_passKind_18 : decode cX6_passKind 18 = .ok (.iload_n 1, 1) := by decide +kernel
theorem dX6_passKind_19 : decode cX6_passKind 19 = .ok (.ireturn, 1) := by decide +kernel
theorem dX6_passKind_20 : decode cX6_passKind 20 = .ok (.iinc 1 1, 3) := by decide +kernel
theorem dX6_passKind_23 : decode cX6_passKind 23 = .ok (.goto (-21), 3) := by decide +kernel
theorem dX6_passKind_26 : decode cX6_passKind 26 = .ok (.iconst (-1), 1) := by decide +kernel
theorem dX6_passKind_27 : decode cX6_passKind 27 = .ok (.ireturn, 1) := by decide +kernel
theorem dX6_passEnd_0 : decode cX6_passEnd 0 = .ok (.aload_n 0, 1) := by decide +kernel
theorem dX6_passEnd_1 : decode cX6_passEnd 1 = .ok (.bipush 59, 2) := by decide +kernel
theorem dX6_passEnd_3 : decode cX6_passEnd 3 = .ok (.invokevirtual 88, 3) := by decide +kernel
theorem dX6_passEnd_6 : decode cX6_passEnd 6 = .ok (.ifCond .ne 7, 3) := by decide +kernel
theorem dX6_passEnd_9 : decode cX6_passEnd 9 = .ok (.aload_n 0, 1) := by decide +kernel
theorem dX6_passEnd_10 : decode cX6_passEnd 10 = .ok (.invokevirtual 74, 3) := by decide +kernel
theorem dX6_passEnd_13 : decode cX6_passEnd 13 = .ok (.return_, 1) := by decide +kernel
theorem dX6_passSign_0 : decode cX6_passSign 0 = .ok (.aload_n 0, 1) := by decide +kernel
theorem dX6_passSign_1 : decode cX6_passSign 1 = .ok (.invokevirtual 25, 3) := by decide +kernel
theorem dX6_passSign_4 : decode cX6_passSign 4 = .ok (.aload_n 0, 1) := by decide +kernel
theorem dX6_passSign_5 : decode cX6_passSign 5 = .ok (.invokevirtual 28, 3) := by decide +kernel
theorem dX6_passSign_8 : decode cX6_passSign 8 = .ok (.ifCond .eq 27, 3) := by decide +kernel
theorem dX6_passSign_11 : decode cX6_passSign 11 = .ok (.aload_n 0, 1) := by decide +kernel
theorem dX6_passSign_12 : decode cX6_passSign 12 = .ok (.getfield 19, 3) := by decide +kernel
theorem dX6_passSign_15 : decode cX6_passSign 15 = .ok (.aload_n 0, 1) := by decide +kernel
theorem dX6_passSign_16 : decode cX6_passSign 16 = .ok (.getfield 15, 3) := by decide +kernel
theorem dX6_passSign_19 : decode cX6_passSign 19 = .ok (.if_icmp .ge 16, 3) := by decide +kernel
theorem dX6_passSign_22 : decode cX6_passSign 22 = .ok (.aload_n 0, 1) := by decide +kernel
theorem dX6_passSign_23 : decode cX6_passSign 23 = .ok (.getfield 9, 3) := by decide +kernel
theorem dX6_passSign_26 : decode cX6_passSign 26 = .ok (.aload_n 0, 1) := by decide +kernel
theorem dX6_passSign_27 : decode cX6_passSign 27 = .ok (.getfield 19, 3) := by decide +kernel
theorem dX6_passSign_30 : decode cX6_passSign 30 = .ok (.baload, 1) := by decide +kernel
theorem dX6_passSign_31 : decode cX6_passSign 31 = .ok (.iload_n 1, 1) := by decide +kernel
theorem dX6_passSign_32 : decode cX6_passSign 32 = .ok (.if_icmp .eq 5, 3) := by decide +kernel
theorem dX6_passSign_35 : decode cX6_passSign 35 = .ok (.iconst 0, 1) := by decide +kernel
theorem dX6_passSign_36 : decode cX6_passSign 36 = .ok (.ireturn, 1) := by decide +kernel
theorem dX6_passSign_37 : decode cX6_passSign 37 = .ok (.aload_n 0, 1) := by decide +kernel
theorem dX6_passSign_38 : decode cX6_passSign 38 = .ok (.dup, 1) := by decide +kernel
theorem dX6_passSign_39 : decode cX6_passSign 39 = .ok (.getfield 19, 3) := by decide +kernel
theorem dX6_passSign_42 : decode cX6_passSign 42 = .ok (.iconst 1, 1) := by decide +kernel
theorem dX6_passSign_43 : decode cX6_passSign 43 = .ok (.iadd, 1) := by decide +kernel
theorem dX6_passSign_44 : decode cX6_passSign 44 = .ok (.putfield 19, 3) := by decide +kernel
theorem dX6_passSign_47 : decode cX6_passSign 47 = .ok (.iconst 1, 1) := by decide +kernel
theorem dX6_passSign_48 : decode cX6_passSign 48 = .ok (.ireturn, 1) := by decide +kernel
theorem dX6_passName_0 : decode cX6_passName 0 = .ok (.aload_n 0, 1) := by decide +kernel
theorem dX6_passName_1 : decode cX6_passName 1 = .ok (.invokevirtual 25, 3) := by decide +kernel
theorem dX6_passName_4 : decode cX6_passName 4 = .ok (.aload_n 0, 1) := by decide +kernel
theorem dX6_passName_5 : decode cX6_passName 5 = .ok (.getfield 19, 3) := by decide +kernel
theorem dX6_passName_8 : decode cX6_passName 8 = .ok (.aload_n 1, 1) := by decide +kernel
theorem dX6_passName_9 : decode cX6_passName 9 = .ok (.invokevirtual 95, 3) := by decide +kernel
theorem dX6_passName_12 : decode cX6_passName 12 = .ok (.iadd, 1) := by decide +kernel
theorem dX6_passName_13 : decode cX6_passName 13 = .ok (.istore_n 2, 1) := by decide +kernel
theorem dX6_passName_14 : decode cX6_passName 14 = .ok (.aload_n 0, 1) := by decide +kernel
theorem dX6_passName_15 : decode cX6_passName 15 = .ok (.invokevirtual 28, 3) := by decide +kernel
theorem dX6_passName_18 : decode cX6_passName 18 = .ok (.ifCond .eq 23, 3) := by decide +kernel
theorem dX6_passName_21 : decode cX6_passName 21 = .ok (.iload_n 2, 1) := by decide +kernel
theorem dX6_passName_22 : decode cX6_passName 22 = .ok (.aload_n 0, 1) := by decide +kernel
theorem dX6_passName_23 : decode cX6_passName 23 = .ok (.getfield 15, 3) := by decide +kernel
theorem dX6_passName_26 : decode cX6_passName 26 = .ok (.if_icmp .gt 15, 3) := by decide +kernel
theorem dX6_passName_29 : decode cX6_passName 29 = .ok (.aload_n 0, 1) := by decide +kernel
theorem dX6_passName_30 : decode cX6_passName 30 = .ok (.iload_n 2, 1) := by decide +kernel
theorem dX6_passName_31 : decode cX6_passName 31 = .ok (.bipush 97, 2) := by decide +kernel
theorem dX6_passName_33 : decode cX6_passName 33 = .ok (.bipush 122, 2) := by decide +kernel
theorem dX6_passName_35 : decode cX6_passName 35 = .ok (.invokevirtual 99, 3) := by decide +kernel
theorem dX6_passName_38 : decode cX6_passName 38 = .ok (.ifCond .eq 5, 3) := by decide +kernel
theorem dX6_passName_41 : decode cX6_passName 41 = .ok (.iconst 0, 1) := by decide +kernel
theorem dX6_passName_42 : decode cX6_passName 42 = .ok (.ireturn, 1) := by decide +kernel
theorem dX6_passName_43 : decode cX6_passName 43 = .ok (.iconst 0, 1) := by decide +kernel
theorem dX6_passName_44 : decode cX6_passName 44 = .ok (.istore_n 3, 1) := by decide +kernel
theorem dX6_passName_45 : decode cX6_passName 45 = .ok (.iload_n 3, 1) := by decide +kernel
theorem dX6_passName_46 : decode cX6_passName 46 = .ok (.aload_n 1, 1) := by decide +kernel
theorem dX6_passName_47 : decode cX6_passName 47 = .ok (.invokevirtual 95, 3) := by decide +kernel
theorem dX6_passName_50 : decode cX6_passName 50 = .ok (.if_icmp .ge 30, 3) := by decide +kernel
theorem dX6_passName_53 : decode cX6_passName 53 = .ok (.aload_n 0, 1) := by decide +kernel
theorem dX6_passName_54 : decode cX6_passName 54 = .ok (.getfield 9, 3) := by decide +kernel
theorem dX6_passName_57 : decode cX6_passName 57 = .ok (.aload_n 0, 1) := by decide +kernel
theorem dX6_passName_58 : decode cX6_passName 58 = .ok (.getfield 19, 3) := by decide +kernel
theorem dX6_passName_61 : decode cX6_passName 61 = .ok (.iload_n 3, 1) := by decide +kernel
theorem dX6_passName_62 : decode cX6_passName 62 = .ok (.iadd, 1) := by decide +kernel
theorem dX6_passName_63 : decode cX6_passName 63 = .ok (.baload, 1) := by decide +kernel
theorem dX6_passName_64 : decode cX6_passName 64 = .ok (.aload_n 1, 1) := by decide +kernel
theorem dX6_passName_65 : decode cX6_passName 65 = .ok (.iload_n 3, 1) := by decide +kernel
theorem dX6_passName_66 : decode cX6_passName 66 = .ok (.invokevirtual 103, 3) := by decide +kernel
theorem dX6_passName_69 : decode cX6_passName 69 = .ok (.if_icmp .eq 5, 3) := by decide +kernel
theorem dX6_passName_72 : decode cX6_passName 72 = .ok (.iconst 0, 1) := by decide +kernel
theorem dX6_passName_73 : decode cX6_passName 73 = .ok (.ireturn, 1) := by decide +kernel
theorem dX6_passName_74 : decode cX6_passName 74 = .ok (.iinc 3 1, 3) := by decide +kernel
theorem dX6_passName_77 : decode cX6_passName 77 = .ok (.goto (-32), 3) := by decide +kernel
theorem dX6_passName_80 : decode cX6_passName 80 = .ok (.aload_n 0, 1) := by decide +kernel
theorem dX6_passName_81 : decode cX6_passName 81 = .ok (.iload_n 2, 1) := by decide +kernel
theorem dX6_passName_82 : decode cX6_passName 82 = .ok (.putfield 19, 3) := by decide +kernel
theorem dX6_passName_85 : decode cX6_passName 85 = .ok (.iconst 1, 1) := by decide +kernel
theorem dX6_passName_86 : decode cX6_passName 86 = .ok (.ireturn, 1) := by decide +kernel
theorem dX6_readNumber_0 : decode cX6_readNumber 0 = .ok (.aload_n 0, 1) := by decide +kernel
theorem dX6_readNumber_1 : decode cX6_readNumber 1 = .ok (.invokevirtual 25, 3) := by decide +kernel
theorem dX6_readNumber_4 : decode cX6_readNumber 4 = .ok (.aload_n 0, 1) := by decide +kernel
theorem dX6_readNumber_5 : decode cX6_readNumber 5 = .ok (.getfield 19, 3) := by decide +kernel
theorem dX6_readNumber_8 : decode cX6_readNumber 8 = .ok (.istore_n 3, 1) := by decide +kernel
theorem dX6_readNumber_9 : decode cX6_readNumber 9 = .ok (.iconst 0, 1) := by decide +kernel
theorem dX6_readNumber_10 : decode cX6_readNumber 10 = .ok (.istore 4, 2) := by decide +kernel
theorem dX6_readNumber_12 : decode cX6_readNumber 12 = .ok (.iload_n 3, 1) := by decide +kernel
theorem dX6_readNumber_13 : decode cX6_readNumber 13 = .ok (.aload_n 0, 1) := by decide +kernel
theorem dX6_readNumber_14 : decode cX6_readNumber 14 = .ok (.getfield 15, 3) := by decide +kernel
theorem dX6_readNumber_17 : decode cX6_readNumber 17 = .ok (.if_icmp .ge 43, 3) := by decide +kernel
theorem dX6_readNumber_20 : decode cX6_readNumber 20 = .ok (.aload_n 0, 1) := by decide +kernel
theorem dX6_readNumber_21 : decode cX6_readNumber 21 = .ok (.iload_n 3, 1) := by decide +kernel
theorem dX6_readNumber_22 : decode cX6_readNumber 22 = .ok (.bipush 48, 2) := by decide +kernel
theorem dX6_readNumber_24 : decode cX6_readNumber 24 = .ok (.bipush 57, 2) := by decide +kernel
theorem dX6_readNumber_26 : decode cX6_readNumber 26 = .ok (.invokevirtual 99, 3) := by decide +kernel
theorem dX6_readNumber_29 : decode cX6_readNumber 29 = .ok (.ifCond .eq 31, 3) := by decide +kernel
theorem dX6_readNumber_32 : decode cX6_readNumber 32 = .ok (.iload 4, 2) := by decide +kernel
theorem dX6_readNumber_34 : decode cX6_readNumber 34 = .ok (.bipush 10, 2) := by decide +kernel
theorem dX6_readNumber_36 : decode cX6_readNumber 36 = .ok (.imul, 1) := by decide +kernel
theorem dX6_readNumber_37 : decode cX6_readNumber 37 = .ok (.aload_n 0, 1) := by decide +kernel
theorem dX6_readNumber_38 : decode cX6_readNumber 38 = .ok (.getfield 9, 3) := by decide +kernel
theorem dX6_readNumber_41 : decode cX6_readNumber 41 = .ok (.iload_n 3, 1) := by decide +kernel
theorem dX6_readNumber_42 : decode cX6_readNumber 42 = .ok (.baload, 1) := by decide +kernel
theorem dX6_readNumber_43 : decode cX6_readNumber 43 = .ok (.iadd, 1) := by decide +kernel
theorem dX6_readNumber_44 : decode cX6_readNumber 44 = .ok (.bipush 48, 2) := by decide +kernel
theorem dX6_readNumber_46 : decode cX6_readNumber 46 = .ok (.isub, 1) := by decide +kernel
theorem dX6_readNumber_47 : decode cX6_readNumber 47 = .ok (.bipush 100, 2) := by decide +kernel
theorem dX6_readNumber_49 : decode cX6_readNumber 49 = .ok (.invokestatic 107, 3) := by decide +kernel
theorem dX6_readNumber_52 : decode cX6_readNumber 52 = .ok (.istore 4, 2) := by decide +kernel
theorem dX6_readNumber_54 : decode cX6_readNumber 54 = .ok (.iinc 3 1, 3) := by decide +kernel
theorem dX6_readNumber_57 : decode cX6_readNumber 57 = .ok (.goto (-45), 3) := by decide +kernel
theorem dX6_readNumber_60 : decode cX6_readNumber 60 = .ok (.iload_n 3, 1) := by decide +kernel
theorem dX6_readNumber_61 : decode cX6_readNumber 61 = .ok (.aload_n 0, 1) := by decide +kernel
theorem dX6_readNumber_62 : decode cX6_readNumber 62 = .ok (.getfield 19, 3) := by decide +kernel
theorem dX6_readNumber_65 : decode cX6_readNumber 65 = .ok (.isub, 1) := by decide +kernel
theorem dX6_readNumber_66 : decode cX6_readNumber 66 = .ok (.istore 5, 2) := by decide +kernel
theorem dX6_readNumber_68 : decode cX6_readNumber 68 = .ok (.aload_n 0, 1) := by decide +kernel
theorem dX6_readNumber_69 : decode cX6_readNumber 69 = .ok (.invokevirtual 28, 3) := by decide +kernel
theorem dX6_readNumber_72 : decode cX6_readNumber 72 = .ok (.ifCond .eq 27, 3) := by decide +kernel
theorem dX6_readNumber_75 : decode cX6_readNumber 75 = .ok (.iload 5, 2) := by decide +kernel
theorem dX6_readNumber_77 : decode cX6_readNumber 77 = .ok (.iconst 1, 1) := by decide +kernel
theorem dX6_readNumber_78 : decode cX6_readNumber 78 = .ok (.if_icmp .lt 21, 3) := by decide +kernel
theorem dX6_readNumber_81 : decode cX6_readNumber 81 = .ok (.iload 5, 2) := by decide +kernel
theorem dX6_readNumber_83 : decode cX6_readNumber 83 = .ok (.iconst 2, 1) := by decide +kernel
theorem dX6_readNumber_84 : decode cX6_readNumber 84 = .ok (.if_icmp .gt 15, 3) := by decide +kernel
theorem dX6_readNumber_87 : decode cX6_readNumber 87 = .ok (.iload 4, 2) := by decide +kernel
theorem dX6_readNumber_89 : decode cX6_readNumber 89 = .ok (.iload_n 1, 1) := by decide +kernel
theorem dX6_readNumber_90 : decode cX6_readNumber 90 = .ok (.if_icmp .lt 9, 3) := by decide +kernel
theorem dX6_readNumber_93 : decode cX6_readNumber 93 = .ok (.iload 4, 2) := by decide +kernel
theorem dX6_readNumber_95 : decode cX6_readNumber 95 = .ok (.iload_n 2, 1) := by decide +kernel
theorem dX6_readNumber_96 : decode cX6_readNumber 96 = .ok (.if_icmp .le 9, 3) := by decide +kernel
theorem dX6_readNumber_99 : decode cX6_readNumber 99 = .ok (.aload_n 0, 1) := by decide +kernel
theorem dX6_readNumber_100 : decode cX6_readNumber 100 = .ok (.invokevirtual 74, 3) := by decide +kernel
theorem dX6_readNumber_103 : decode cX6_readNumber 103 = .ok (.iconst 0, 1) := by decide +kernel
theorem dX6_readNumber_104 : decode cX6_readNumber 104 = .ok (.ireturn, 1) := by decide +kernel
theorem dX6_readNumber_105 : decode cX6_readNumber 105 = .ok (.aload_n 0, 1) := by decide +kernel
theorem dX6_readNumber_106 : decode cX6_readNumber 106 = .ok (.iload_n 3, 1) := by decide +kernel
theorem dX6_readNumber_107 : decode cX6_readNumber 107 = .ok (.putfield 19, 3) := by decide +kernel
theorem dX6_readNumber_110 : decode cX6_readNumber 110 = .ok (.iload 4, 2) := by decide +kernel
theorem dX6_readNumber_112 : decode cX6_readNumber 112 = .ok (.ireturn, 1) := by decide +kernel
theorem dX6_isBetween_0 : decode cX6_isBetween 0 = .ok (.iload_n 1, 1) := by decide +kernel
theorem dX6_isBetween_1 : decode cX6_isBetween 1 = .ok (.ifCond .lt 35, 3) := by decide +kernel
theorem dX6_isBetween_4 : decode cX6_isBetween 4 = .ok (.iload_n 1, 1) := by decide +kernel
theorem dX6_isBetween_5 : decode cX6_isBetween 5 = .ok (.aload_n 0, 1) := by decide +kernel
theorem dX6_isBetween_6 : decode cX6_isBetween 6 = .ok (.getfield 15, 3) := by decide +kernel
theorem dX6_isBetween_9 : decode cX6_isBetween 9 = .ok (.if_icmp .ge 27, 3) := by decide +kernel
theorem dX6_isBetween_12 : decode cX6_isBetween 12 = .ok (.aload_n 0, 1) := by decide +kernel
theorem dX6_isBetween_13 : decode cX6_isBetween 13 = .ok (.getfield 9, 3) := by decide +kernel
theorem dX6_isBetween_16 : decode cX6_isBetween 16 = .ok (.iload_n 1, 1) := by decide +kernel
theorem dX6_isBetween_17 : decode cX6_isBetween 17 = .ok (.baload, 1) := by decide +kernel
theorem dX6_isBetween_18 : decode cX6_isBetween 18 = .ok (.iload_n 2, 1) := by decide +kernel
theorem dX6_isBetween_19 : decode cX6_isBetween 19 = .ok (.if_icmp .lt 17, 3) := by decide +kernel
theorem dX6_isBetween_22 : decode cX6_isBetween 22 = .ok (.aload_n 0, 1) := by decide +kernel
theorem dX6_isBetween_23 : decode cX6_isBetween 23 = .ok (.getfield 9, 3) := by decide +kernel
theorem dX6_isBetween_26 : decode cX6_isBetween 26 = .ok (.iload_n 1, 1) := by decide +kernel
theorem dX6_isBetween_27 : decode cX6_isBetween 27 = .ok (.baload, 1) := by decide +kernel
theorem dX6_isBetween_28 : decode cX6_isBetween 28 = .ok (.iload_n 3, 1) := by decide +kernel
theorem dX6_isBetween_29 : decode cX6_isBetween 29 = .ok (.if_icmp .gt 7, 3) := by decide +kernel
theorem dX6_isBetween_32 : decode cX6_isBetween 32 = .ok (.iconst 1, 1) := by decide +kernel
theorem dX6_isBetween_33 : decode cX6_isBetween 33 = .ok (.goto 4, 3) := by decide +kernel
theorem dX6_isBetween_36 : decode cX6_isBetween 36 = .ok (.iconst 0, 1) := by decide +kernel
theorem dX6_isBetween_37 : decode cX6_isBetween 37 = .ok (.ireturn, 1) := by decide +kernel
theorem dX6_skipBlanks_0 : decode cX6_skipBlanks 0 = .ok (.aload_n 0, 1) := by decide +kernel
theorem dX6_skipBlanks_1 : decode cX6_skipBlanks 1 = .ok (.getfield 19, 3) := by decide +kernel
theorem dX6_skipBlanks_4 : decode cX6_skipBlanks 4 = .ok (.aload_n 0, 1) := by decide +kernel
theorem dX6_skipBlanks_5 : decode cX6_skipBlanks 5 = .ok (.getfield 15, 3) := by decide +kernel
theorem dX6_skipBlanks_8 : decode cX6_skipBlanks 8 = .ok (.if_icmp .ge 30, 3) := by decide +kernel
theorem dX6_skipBlanks_11 : decode cX6_skipBlanks 11 = .ok (.aload_n 0, 1) := by decide +kernel
theorem dX6_skipBlanks_12 : decode cX6_skipBlanks 12 = .ok (.getfield 9, 3) := by decide +kernel
theorem dX6_skipBlanks_15 : decode cX6_skipBlanks 15 = .ok (.aload_n 0, 1) := by decide +kernel
theorem dX6_skipBlanks_16 : decode cX6_skipBlanks 16 = .ok (.getfield 19, 3) := by decide +kernel
theorem dX6_skipBlanks_19 : decode cX6_skipBlanks 19 = .ok (.baload, 1) := by decide +kernel
theorem dX6_skipBlanks_20 : decode cX6_skipBlanks 20 = .ok (.bipush 32, 2) := by decide +kernel
theorem dX6_skipBlanks_22 : decode cX6_skipBlanks 22 = .ok (.if_icmp .ne 16, 3) := by decide +kernel
theorem dX6_skipBlanks_25 : decode cX6_skipBlanks 25 = .ok (.aload_n 0, 1) := by decide +kernel
theorem dX6_skipBlanks_26 : decode cX6_skipBlanks 26 = .ok (.dup, 1) := by decide +kernel
theorem dX6_skipBlanks_27 : decode cX6_skipBlanks 27 = .ok (.getfield 19, 3) := by decide +kernel
theorem dX6_skipBlanks_30 : decode cX6_skipBlanks 30 = .ok (.iconst 1, 1) := by decide +kernel
theorem dX6_skipBlanks_31 : decode cX6_skipBlanks 31 = .ok (.iadd, 1) := by decide +kernel
theorem dX6_skipBlanks_32 : decode cX6_skipBlanks 32 = .ok (.putfield 19, 3) := by decide +kernel
theorem dX6_skipBlanks_35 : decode cX6_skipBlanks 35 = .ok (.goto (-35), 3) := by decide +kernel
theorem dX6_skipBlanks_38 : decode cX6_skipBlanks 38 = .ok (.return_, 1) := by decide +kernel
theorem dX6_isGood_0 : decode cX6_isGood 0 = .ok (.aload_n 0, 1) := by decide +kernel
theorem dX6_isGood_1 : decode cX6_isGood 1 = .ok (.getfield 22, 3) := by decide +kernel
theorem dX6_isGood_4 : decode cX6_isGood 4 = .ok (.iconst (-1), 1) := by decide +kernel
theorem dX6_isGood_5 : decode cX6_isGood 5 = .ok (.if_icmp .ne 7, 3) := by decide +kernel
theorem dX6_isGood_8 : decode cX6_isGood 8 = .ok (.iconst 1, 1) := by decide +kernel
theorem dX6_isGood_9 : decode cX6_isGood 9 = .ok (.goto 4, 3) := by decide +kernel
theorem dX6_isGood_12 : decode cX6_isGood 12 = .ok (.iconst 0, 1) := by decide +kernel
theorem dX6_isGood_13 : decode cX6_isGood 13 = .ok (.ireturn, 1) := by decide +kernel
theorem dX6_blameHere_0 : decode cX6_blameHere 0 = .ok (.aload_n 0, 1) := by decide +kernel
theorem dX6_blameHere_1 : decode cX6_blameHere 1 = .ok (.invokevirtual 28, 3) := by decide +kernel
theorem dX6_blameHere_4 : decode cX6_blameHere 4 = .ok (.ifCond .eq 11, 3) := by decide +kernel
theorem dX6_blameHere_7 : decode cX6_blameHere 7 = .ok (.aload_n 0, 1) := by decide +kernel
theorem dX6_blameHere_8 : decode cX6_blameHere 8 = .ok (.aload_n 0, 1) := by decide +kernel
theorem dX6_blameHere_9 : decode cX6_blameHere 9 = .ok (.getfield 19, 3) := by decide +kernel
theorem dX6_blameHere_12 : decode cX6_blameHere 12 = .ok (.putfield 22, 3) := by decide +kernel
theorem dX6_blameHere_15 : decode cX6_blameHere 15 = .ok (.return_, 1) := by decide +kernel
theorem dX6_lawName_0 : decode cX6_lawName 0 = .ok (.iload_n 0, 1) := by decide +kernel
theorem dX6_lawName_1 : decode cX6_lawName 1 = .ok (.tableswitch 50 0 4 #[35, 38, 41, 44, 47], 35) := by decide +kernel
theorem dX6_lawName_36 : decode cX6_lawName 36 = .ok (.ldc 112, 2) := by decide +kernel
theorem dX6_lawName_38 : decode cX6_lawName 38 = .ok (.areturn, 1) := by decide +kernel
theorem dX6_lawName_39 : decode cX6_lawName 39 = .ok (.ldc 114, 2) := by decide +kernel
theorem dX6_lawName_41 : decode cX6_lawName 41 = .ok (.areturn, 1) := by decide +kernel
theorem dX6_lawName_42 : decode cX6_lawName 42 = .ok (.ldc 116, 2) := by decide +kernel
theorem dX6_lawName_44 : decode cX6_lawName 44 = .ok (.areturn, 1) := by decide +kernel
theorem dX6_lawName_45 : decode cX6_lawName 45 = .ok (.ldc 118, 2) := by decide +kernel
theorem dX6_lawName_47 : decode cX6_lawName 47 = .ok (.areturn, 1) := by decide +kernel
theorem dX6_lawName_48 : decode cX6_lawName 48 = .ok (.ldc 120, 2) := by decide +kernel
theorem dX6_lawName_50 : decode cX6_lawName 50 = .ok (.areturn, 1) := by decide +kernel
theorem dX6_lawName_51 : decode cX6_lawName 51 = .ok (.ldc 122, 2) := by decide +kernel
theorem dX6_lawName_53 : decode cX6_lawName 53 = .ok (.areturn, 1) := by decide +kernel
theorem dX6_kindName_0 : decode cX6_kindName 0 = .ok (.iload_n 0, 1) := by decide +kernel
theorem dX6_kindName_1 : decode cX6_kindName 1 = .ok (.tableswitch 50 0 4 #[35, 38, 41, 44, 47], 35) := by decide +kernel
theorem dX6_kindName_36 : decode cX6_kindName 36 = .ok (.ldc 124, 2) := by decide +kernel
theorem dX6_kindName_38 : decode cX6_kindName 38 = .ok (.areturn, 1) := by decide +kernel
theorem dX6_kindName_39 : decode cX6_kindName 39 = .ok (.ldc 126, 2) := by decide +kernel
theorem dX6_kindName_41 : decode cX6_kindName 41 = .ok (.areturn, 1) := by decide +kernel
theorem dX6_kindName_42 : decode cX6_kindName 42 = .ok (.ldc 128, 2) := by decide +kernel
theorem dX6_kindName_44 : decode cX6_kindName 44 = .ok (.areturn, 1) := by decide +kernel
theorem dX6_kindName_45 : decode cX6_kindName 45 = .ok (.ldc 130, 2) := by decide +kernel
theorem dX6_kindName_47 : decode cX6_kindName 47 = .ok (.areturn, 1) := by decide +kernel
theorem dX6_kindName_48 : decode cX6_kindName 48 = .ok (.ldc 132, 2) := by decide +kernel
theorem dX6_kindName_50 : decode cX6_kindName 50 = .ok (.areturn, 1) := by decide +kernel
theorem dX6_kindName_51 : decode cX6_kindName 51 = .ok (.ldc 134, 2) := by decide +kernel
theorem dX6_kindName_53 : decode cX6_kindName 53 = .ok (.areturn, 1) := by decide +kernel
theorem dX7_init_0 : decode cX7_init 0 = .ok (.aload_n 0, 1) := by decide +kernel
theorem dX7_init_1 : decode cX7_init 1 = .ok (.invokespecial 3, 3) := by decide +kernel
theorem dX7_init_4 : decode cX7_init 4 = .ok (.aload_n 0, 1) := by decide +kernel
theorem dX7_init_5 : decode cX7_init 5 = .ok (.bipush 30, 2) := by decide +kernel
theorem dX7_init_7 : decode cX7_init 7 = .ok (.newarray .int, 2) := by decide +kernel
theorem dX7_init_9 : decode cX7_init 9 = .ok (.putfield 9, 3) := by decide +kernel
theorem dX7_init_12 : decode cX7_init 12 = .ok (.return_, 1) := by decide +kernel
theorem dX7_clear_0 : decode cX7_clear 0 = .ok (.aload_n 0, 1) := by decide +kernel
theorem dX7_clear_1 : decode cX7_clear 1 = .ok (.iconst 0, 1) := by decide +kernel
theorem dX7_clear_2 : decode cX7_clear 2 = .ok (.putfield 15, 3) := by decide +kernel
theorem dX7_clear_5 : decode cX7_clear 5 = .ok (.aload_n 0, 1) := by decide +kernel
theorem dX7_clear_6 : decode cX7_clear 6 = .ok (.iconst 0, 1) := by decide +kernel
theorem dX7_clear_7 : decode cX7_clear 7 = .ok (.putfield 19, 3) := by decide +kernel
theorem dX7_clear_10 : decode cX7_clear 10 = .ok (.return_, 1) := by decide +kernel
theorem dX7_began_0 : decode cX7_began 0 = .ok (.aload_n 0, 1) := by decide +kernel
theorem dX7_began_1 : decode cX7_began 1 = .ok (.getfield 19, 3) := by decide +kernel
theorem dX7_began_4 : decode cX7_began 4 = .ok (.ifCond .ne 32, 3) := by decide +kernel
theorem dX7_began_7 : decode cX7_began 7 = .ok (.aload_n 0, 1) := by decide +kernel
theorem dX7_began_8 : decode cX7_began 8 = .ok (.getfield 15, 3) := by decide +kernel
theorem dX7_began_11 : decode cX7_began 11 = .ok (.bipush 30, 2) := by decide +kernel
theorem dX7_began_13 : decode cX7_began 13 = .ok (.if_icmp .ge 23, 3) := by decide +kernel
theorem dX7_began_16 : decode cX7_began 16 = .ok (.aload_n 0, 1) := by decide +kernel
theorem dX7_began_17 : decode cX7_began 17 = .ok (.getfield 9, 3) := by decide +kernel
theorem dX7_began_20 : decode cX7_began 20 = .ok (.aload_n 0, 1) := by decide +kernel
theorem dX7_began_21 : decode cX7_began 21 = .ok (.getfield 15, 3) := by decide +kernel
theorem dX7_began_24 : decode cX7_began 24 = .ok (.iload_n 1, 1) := by decide +kernel
theorem dX7_began_25 : decode cX7_began 25 = .ok (.iastore, 1) := by decide +kernel
theorem dX7_began_26 : decode cX7_began 26 = .ok (.aload_n 0, 1) := by decide +kernel
theorem dX7_began_27 : decode cX7_began 27 = .ok (.dup, 1) := by decide +kernel
theorem dX7_began_28 : decode cX7_began 28 = .ok (.getfield 15, 3) := by decide +kernel
theorem dX7_began_31 : decode cX7_began 31 = .ok (.iconst 1, 1) := by decide +kernel
theorem dX7_began_32 : decode cX7_began 32 = .ok (.iadd, 1) := by decide +kernel
theorem dX7_began_33 : decode cX7_began 33 = .ok (.putfield 15, 3) := by decide +kernel
theorem dX7_began_36 : decode cX7_began 36 = .ok (.return_, 1) := by decide +kernel
theorem dX8_init_0 : decode cX8_init 0 = .ok (.aload_n 0, 1) := by decide +kernel
theorem dX8_init_1 : decode cX8_init 1 = .ok (.iload_n 1, 1) := by decide +kernel
theorem dX8_init_2 : decode cX8_init 2 = .ok (.iload_n 2, 1) := by decide +kernel
theorem dX8_init_3 : decode cX8_init 3 = .ok (.iload_n 3, 1) := by decide +kernel
theorem dX8_init_4 : decode cX8_init 4 = .ok (.iload 4, 2) := by decide +kernel
theorem dX8_init_6 : decode cX8_init 6 = .ok (.invokespecial 1, 3) := by decide +kernel
theorem dX8_init_9 : decode cX8_init 9 = .ok (.return_, 1) := by decide +kernel
theorem dX8_kind_0 : decode cX8_kind 0 = .ok (.iconst 3, 1) := by decide +kernel
theorem dX8_kind_1 : decode cX8_kind 1 = .ok (.ireturn, 1) := by decide +kernel
theorem dX8_turnTold_0 : decode cX8_turnTold 0 = .ok (.aload_n 0, 1) := by decide +kernel
theorem dX8_turnTold_1 : decode cX8_turnTold 1 = .ok (.aload_n 1, 1) := by decide +kernel
theorem dX8_turnTold_2 : decode cX8_turnTold 2 = .ok (.iload_n 2, 1) := by decide +kernel
theorem dX8_turnTold_3 : decode cX8_turnTold 3 = .ok (.aload_n 3, 1) := by decide +kernel
theorem dX8_turnTold_4 : decode cX8_turnTold 4 = .ok (.invokespecial 7, 3) := by decide +kernel
theorem dX8_turnTold_7 : decode cX8_turnTold 7 = .ok (.aload_n 1, 1) := by decide +kernel
theorem dX8_turnTold_8 : decode cX8_turnTold 8 = .ok (.getfield 11, 3) := by decide +kernel
theorem dX8_turnTold_11 : decode cX8_turnTold 11 = .ok (.ifCond .lt 7, 3) := by decide +kernel
theorem dX8_turnTold_14 : decode cX8_turnTold 14 = .ok (.iconst 1, 1) := by decide +kernel
theorem dX8_turnTold_15 : decode cX8_turnTold 15 = .ok (.goto 4, 3) := by decide +kernel
theorem dX8_turnTold_18 : decode cX8_turnTold 18 = .ok (.iconst (-1), 1) := by decide +kernel
theorem dX8_turnTold_19 : decode cX8_turnTold 19 = .ok (.iadd, 1) := by decide +kernel
theorem dX8_turnTold_20 : decode cX8_turnTold 20 = .ok (.ireturn, 1) := by decide +kernel
theorem dX8_turns_0 : decode cX8_turns 0 = .ok (.aload_n 2, 1) := by decide +kernel
theorem dX8_turns_1 : decode cX8_turns 1 = .ok (.bipush 40, 2) := by decide +kernel
theorem dX8_turns_3 : decode cX8_turns 3 = .ok (.invokevirtual 17, 3) := by decide +kernel
theorem dX8_turns_6 : decode cX8_turns 6 = .ok (.iconst 0, 1) := by decide +kernel
theorem dX8_turns_7 : decode cX8_turns 7 = .ok (.aload_n 0, 1) := by decide +kernel
theorem dX8_turns_8 : decode cX8_turns 8 = .ok (.iload_n 1, 1) := by decide +kernel
theorem dX8_turns_9 : decode cX8_turns 9 = .ok (.aload_n 2, 1) := by decide +kernel
theorem dX8_turns_10 : decode cX8_turns 10 = .ok (.invokespecial 23, 3) := by decide +kernel
theorem dX8_turns_13 : decode cX8_turns 13 = .ok (.isub, 1) := by decide +kernel
theorem dX8_turns_14 : decode cX8_turns 14 = .ok (.ireturn, 1) := by decide +kernel
theorem dX9_init_0 : decode cX9_init 0 = .ok (.aload_n 0, 1) := by decide +kernel
theorem dX9_init_1 : decode cX9_init 1 = .ok (.iload_n 1, 1) := by decide +kernel
theorem dX9_init_2 : decode cX9_init 2 = .ok (.iload_n 2, 1) := by decide +kernel
theorem dX9_init_3 : decode cX9_init 3 = .ok (.iload_n 3, 1) := by decide +kernel
theorem dX9_init_4 : decode cX9_init 4 = .ok (.iload 4, 2) := by decide +kernel
theorem dX9_init_6 : decode cX9_init 6 = .ok (.invokespecial 1, 3) := by decide +kernel
theorem dX9_init_9 : decode cX9_init 9 = .ok (.return_, 1) := by decide +kernel
theorem dX9_kind_0 : decode cX9_kind 0 = .ok (.iconst 5, 1) := by decide +kernel
theorem dX9_kind_1 : decode cX9_kind 1 = .ok (.ireturn, 1) := by decide +kernel
theorem dX9_downTold_0 : decode cX9_downTold 0 = .ok (.iload_n 1, 1) := by decide +kernel
theorem dX9_downTold_1 : decode cX9_downTold 1 = .ok (.iconst 2, 1) := by decide +kernel
theorem dX9_downTold_2 : decode cX9_downTold 2 = .ok (.idiv, 1) := by decide +kernel
theorem dX9_downTold_3 : decode cX9_downTold 3 = .ok (.ireturn, 1) := by decide +kernel
theorem dX9_tells_0 : decode cX9_tells 0 = .ok (.aload_n 2, 1) := by decide +kernel
theorem dX9_tells_1 : decode cX9_tells 1 = .ok (.bipush 60, 2) := by decide +kernel
theorem dX9_tells_3 : decode cX9_tells 3 = .ok (.invokevirtual 7, 3) := by decide +kernel
theorem dX9_tells_6 : decode cX9_tells 6 = .ok (.aload_n 0, 1) := by decide +kernel
theorem dX9_tells_7 : decode cX9_tells 7 = .ok (.iload_n 1, 1) := by decide +kernel
theorem dX9_tells_8 : decode cX9_tells 8 = .ok (.aload_n 2, 1) := by decide +kernel
theorem dX9_tells_9 : decode cX9_tells 9 = .ok (.invokespecial 13, 3) := by decide +kernel
theorem dX9_tells_12 : decode cX9_tells 12 = .ok (.iconst 2, 1) := by decide +kernel
theorem dX9_tells_13 : decode cX9_tells 13 = .ok (.imul, 1) := by decide +kernel
theorem dX9_tells_14 : decode cX9_tells 14 = .ok (.ireturn, 1) := by decide +kernel
theorem dX9_shares_0 : decode cX9_shares 0 = .ok (.aload_n 2, 1) := by decide +kernel
theorem dX9_shares_1 : decode cX9_shares 1 = .ok (.bipush 61, 2) := by decide +kernel
theorem dX9_shares_3 : decode cX9_shares 3 = .ok (.invokevirtual 7, 3) := by decide +kernel
theorem dX9_shares_6 : decode cX9_shares 6 = .ok (.aload_n 0, 1) := by decide +kernel
theorem dX9_shares_7 : decode cX9_shares 7 = .ok (.iload_n 1, 1) := by decide +kernel
theorem dX9_shares_8 : decode cX9_shares 8 = .ok (.aload_n 2, 1) := by decide +kernel
theorem dX9_shares_9 : decode cX9_shares 9 = .ok (.invokespecial 17, 3) := by decide +kernel
theorem dX9_shares_12 : decode cX9_shares 12 = .ok (.aload_n 0, 1) := by decide +kernel
theorem dX9_shares_13 : decode cX9_shares 13 = .ok (.aload_n 0, 1) := by decide +kernel
theorem dX9_shares_14 : decode cX9_shares 14 = .ok (.getfield 20, 3) := by decide +kernel
theorem dX9_shares_17 : decode cX9_shares 17 = .ok (.aload_n 2, 1) := by decide +kernel
theorem dX9_shares_18 : decode cX9_shares 18 = .ok (.invokevirtual 26, 3) := by decide +kernel
theorem dX9_shares_21 : decode cX9_shares 21 = .ok (.iadd, 1) := by decide +kernel
theorem dX9_shares_22 : decode cX9_shares 22 = .ok (.ireturn, 1) := by decide +kernel
theorem dX10_init_0 : decode cX10_init 0 = .ok (.aload_n 0, 1) := by decide +kernel
theorem dX10_init_1 : decode cX10_init 1 = .ok (.invokespecial 3, 3) := by decide +kernel
theorem dX10_init_4 : decode cX10_init 4 = .ok (.aload_n 0, 1) := by decide +kernel
theorem dX10_init_5 : decode cX10_init 5 = .ok (.bipush 6, 2) := by decide +kernel
theorem dX10_init_7 : decode cX10_init 7 = .ok (.anewarray 9, 3) := by decide +kernel
theorem dX10_init_10 : decode cX10_init 10 = .ok (.putfield 11, 3) := by decide +kernel
theorem dX10_init_13 : decode cX10_init 13 = .ok (.aload_n 0, 1) := by decide +kernel
theorem dX10_init_14 : decode cX10_init 14 = .ok (.bipush 6, 2) := by decide +kernel
theorem dX10_init_16 : decode cX10_init 16 = .ok (.newarray .int, 2) := by decide +kernel
theorem dX10_init_18 : decode cX10_init 18 = .ok (.dup, 1) := by decide +kernel
theorem dX10_init_19 : decode cX10_init 19 = .ok (.iconst 0, 1) := by decide +kernel
theorem dX10_init_20 : decode cX10_init 20 = .ok (.bipush 16, 2) := by decide +kernel
theorem dX10_init_22 : decode cX10_init 22 = .ok (.iastore, 1) := by decide +kernel
theorem dX10_init_23 : decode cX10_init 23 = .ok (.dup, 1) := by decide +kernel
theorem dX10_init_24 : decode cX10_init 24 = .ok (.iconst 1, 1) := by decide +kernel
theorem dX10_init_25 : decode cX10_init 25 = .ok (.bipush 8, 2) := by decide +kernel
theorem dX10_init_27 : decode cX10_init 27 = .ok (.iastore, 1) := by decide +kernel
theorem dX10_init_28 : decode cX10_init 28 = .ok (.dup, 1) := by decide +kernel
theorem dX10_init_29 : decode cX10_init 29 = .ok (.iconst 2, 1) := by decide +kernel
theorem dX10_init_30 : decode cX10_init 30 = .ok (.bipush 24, 2) := by decide +kernel
theorem dX10_init_32 : decode cX10_init 32 = .ok (.iastore, 1) := by decide +kernel
theorem dX10_init_33 : decode cX10_init 33 = .ok (.dup, 1) := by decide +kernel
theorem dX10_init_34 : decode cX10_init 34 = .ok (.iconst 3, 1) := by decide +kernel
theorem dX10_init_35 : decode cX10_init 35 = .ok (.bipush 20, 2) := by decide +kernel
theorem dX10_init_37 : decode cX10_init 37 = .ok (.iastore, 1) := by decide +kernel
theorem dX10_init_38 : decode cX10_init 38 = .ok (.dup, 1) := by decide +kernel
theorem dX10_init_39 : decode cX10_init 39 = .ok (.iconst 4, 1) := by decide +kernel
theorem dX10_init_40 : decode cX10_init 40 = .ok (.bipush 12, 2) := by decide +kernel
theorem dX10_init_42 : decode cX10_init 42 = .ok (.iastore, 1) := by decide +kernel
theorem dX10_init_43 : decode cX10_init 43 = .ok (.dup, 1) := by decide +kernel
theorem dX10_init_44 : decode cX10_init 44 = .ok (.iconst 5, 1) := by decide +kernel
theorem dX10_init_45 : decode cX10_init 45 = .ok (.bipush 32, 2) := by decide +kernel
theorem dX10_init_47 : decode cX10_init 47 = .ok (.iastore, 1) := by decide +kernel
theorem dX10_init_48 : decode cX10_init 48 = .ok (.putfield 17, 3) := by decide +kernel
theorem dX10_init_51 : decode cX10_init 51 = .ok (.aload_n 0, 1) := by decide +kernel
theorem dX10_init_52 : decode cX10_init 52 = .ok (.iconst 5, 1) := by decide +kernel
theorem dX10_init_53 : decode cX10_init 53 = .ok (.newarray .int, 2) := by decide +kernel
theorem dX10_init_55 : decode cX10_init 55 = .ok (.dup, 1) := by decide +kernel
theorem dX10_init_56 : decode cX10_init 56 = .ok (.iconst 0, 1) := by decide +kernel
theorem dX10_init_57 : decode cX10_init 57 = .ok (.iconst 0, 1) := by decide +kernel
theorem dX10_init_58 : decode cX10_init 58 = .ok (.iastore, 1) := by decide +kernel
theorem dX10_init_59 : decode cX10_init 59 = .ok (.dup, 1) := by decide +kernel
theorem dX10_init_60 : decode cX10_init 60 = .ok (.iconst 1, 1) := by decide +kernel
theorem dX10_init_61 : decode cX10_init 61 = .ok (.iconst 0, 1) := by decide +kernel
theorem dX10_init_62 : decode cX10_init 62 = .ok (.iastore, 1) := by decide +kernel
theorem dX10_init_63 : decode cX10_init 63 = .ok (.dup, 1) := by decide +kernel
theorem dX10_init_64 : decode cX10_init 64 = .ok (.iconst 2, 1) := by decide +kernel
theorem dX10_init_65 : decode cX10_init 65 = .ok (.iconst 1, 1) := by decide +kernel
theorem dX10_init_66 : decode cX10_init 66 = .ok (.iastore, 1) := by decide +kernel
theorem dX10_init_67 : decode cX10_init 67 = .ok (.dup, 1) := by decide +kernel
theorem dX10_init_68 : decode cX10_init 68 = .ok (.iconst 3, 1) := by decide +kernel
theorem dX10_init_69 : decode cX10_init 69 = .ok (.iconst 0, 1) := by decide +kernel
theorem dX10_init_70 : decode cX10_init 70 = .ok (.iastore, 1) := by decide +kernel
theorem dX10_init_71 : decode cX10_init 71 = .ok (.dup, 1) := by decide +kernel
theorem dX10_init_72 : decode cX10_init 72 = .ok (.iconst 4, 1) := by decide +kernel
theorem dX10_init_73 : decode cX10_init 73 = .ok (.iconst 0, 1) := by decide +kernel
theorem dX10_init_74 : decode cX10_init 74 = .ok (.iastore, 1) := by decide +kernel
theorem dX10_init_75 : decode cX10_init 75 = .ok (.putfield 21, 3) := by decide +kernel
theorem dX10_init_78 : decode cX10_init 78 = .ok (.aload_n 0, 1) := by decide +kernel
theorem dX10_init_79 : decode cX10_init 79 = .ok (.new 24, 3) := by decide +kernel
theorem dX10_init_82 : decode cX10_init 82 = .ok (.dup, 1) := by decide +kernel
theorem dX10_init_83 : decode cX10_init 83 = .ok (.invokespecial 26, 3) := by decide +kernel
theorem dX10_init_86 : decode cX10_init 86 = .ok (.putfield 27, 3) := by decide +kernel
theorem dX10_init_89 : decode cX10_init 89 = .ok (.aload_n 0, 1) := by decide +kernel
theorem dX10_init_90 : decode cX10_init 90 = .ok (.iconst 1, 1) := by decide +kernel
theorem dX10_init_91 : decode cX10_init 91 = .ok (.putfield 31, 3) := by decide +kernel
theorem dX10_init_94 : decode cX10_init 94 = .ok (.return_, 1) := by decide +kernel
theorem dX10_copyFrom_0 : decode cX10_copyFrom 0 = .ok (.aload_n 1, 1) := by decide +kernel
theorem dX10_copyFrom_1 : decode cX10_copyFrom 1 = .ok (.getfield 11, 3) := by decide +kernel
theorem dX10_copyFrom_4 : decode cX10_copyFrom 4 = .ok (.iconst 0, 1) := by decide +kernel
theorem dX10_copyFrom_5 : decode cX10_copyFrom 5 = .ok (.aload_n 0, 1) := by decide +kernel
theorem dX10_copyFrom_6 : decode cX10_copyFrom 6 = .ok (.getfield 11, 3) := by decide +kernel
theorem dX10_copyFrom_9 : decode cX10_copyFrom 9 = .ok (.iconst 0, 1) := by decide +kernel
theorem dX10_copyFrom_10 : decode cX10_copyFrom 10 = .ok (.bipush 6, 2) := by decide +kernel
theorem dX10_copyFrom_12 : decode cX10_copyFrom 12 = .ok (.invokestatic 35, 3) := by decide +kernel
theorem dX10_copyFrom_15 : decode cX10_copyFrom 15 = .ok (.aload_n 0, 1) := by decide +kernel
theorem dX10_copyFrom_16 : decode cX10_copyFrom 16 = .ok (.aload_n 1, 1) := by decide +kernel
theorem dX10_copyFrom_17 : decode cX10_copyFrom 17 = .ok (.getfield 41, 3) := by decide +kernel
theorem dX10_copyFrom_20 : decode cX10_copyFrom 20 = .ok (.putfield 41, 3) := by decide +kernel
theorem dX10_copyFrom_23 : decode cX10_copyFrom 23 = .ok (.aload_n 1, 1) := by decide +kernel
theorem dX10_copyFrom_24 : decode cX10_copyFrom 24 = .ok (.getfield 17, 3) := by decide +kernel
theorem dX10_copyFrom_27 : decode cX10_copyFrom 27 = .ok (.iconst 0, 1) := by decide +kernel
theorem dX10_copyFrom_28 : decode cX10_copyFrom 28 = .ok (.aload_n 0, 1) := by decide +kernel
theorem dX10_copyFrom_29 : decode cX10_copyFrom 29 = .ok (.getfield 17, 3) := by decide +kernel
theorem dX10_copyFrom_32 : decode cX10_copyFrom 32 = .ok (.iconst 0, 1) := by decide +kernel
theorem dX10_copyFrom_33 : decode cX10_copyFrom 33 = .ok (.bipush 6, 2) := by decide +kernel
theorem dX10_copyFrom_35 : decode cX10_copyFrom 35 = .ok (.invokestatic 35, 3) := by decide +kernel
theorem dX10_copyFrom_38 : decode cX10_copyFrom 38 = .ok (.aload_n 1, 1) := by decide +kernel
theorem dX10_copyFrom_39 : decode cX10_copyFrom 39 = .ok (.getfield 21, 3) := by decide +kernel
theorem dX10_copyFrom_42 : decode cX10_copyFrom 42 = .ok (.iconst 0, 1) := by decide +kernel
theorem dX10_copyFrom_43 : decode cX10_copyFrom 43 = .ok (.aload_n 0, 1) := by decide +kernel
theorem dX10_copyFrom_44 : decode cX10_copyFrom 44 = .ok (.getfield 21, 3) := by decide +kernel
theorem dX10_copyFrom_47 : decode cX10_copyFrom 47 = .ok (.iconst 0, 1) := by decide +kernel
theorem dX10_copyFrom_48 : decode cX10_copyFrom 48 = .ok (.iconst 5, 1) := by decide +kernel
theorem dX10_copyFrom_49 : decode cX10_copyFrom 49 = .ok (.invokestatic 35, 3) := by decide +kernel
theorem dX10_copyFrom_52 : decode cX10_copyFrom 52 = .ok (.aload_n 0, 1) := by decide +kernel
theorem dX10_copyFrom_53 : decode cX10_copyFrom 53 = .ok (.getfield 27, 3) := by decide +kernel
theorem dX10_copyFrom_56 : decode cX10_copyFrom 56 = .ok (.aload_n 1, 1) := by decide +kernel
theorem dX10_copyFrom_57 : decode cX10_copyFrom 57 = .ok (.getfield 27, 3) := by decide +kernel
theorem dX10_copyFrom_60 : decode cX10_copyFrom 60 = .ok (.invokevirtual 44, 3) := by decide +kernel
theorem dX10_copyFrom_63 : decode cX10_copyFrom 63 = .ok (.aload_n 0, 1) := by decide +kernel
theorem dX10_copyFrom_64 : decode cX10_copyFrom 64 = .ok (.aload_n 1, 1) := by decide +kernel
theorem dX10_copyFrom_65 : decode cX10_copyFrom 65 = .ok (.getfield 31, 3) := by decide +kernel
theorem dX10_copyFrom_68 : decode cX10_copyFrom 68 = .ok (.putfield 31, 3) := by decide +kernel
theorem dX10_copyFrom_71 : decode cX10_copyFrom 71 = .ok (.return_, 1) := by decide +kernel
theorem dX10_clearCards_0 : decode cX10_clearCards 0 = .ok (.aload_n 0, 1) := by decide +kernel
theorem dX10_clearCards_1 : decode cX10_clearCards 1 = .ok (.iconst 0, 1) := by decide +kernel
theorem dX10_clearCards_2 : decode cX10_clearCards 2 = .ok (.putfield 41, 3) := by decide +kernel
theorem dX10_clearCards_5 : decode cX10_clearCards 5 = .ok (.aload_n 0, 1) := by decide +kernel
theorem dX10_clearCards_6 : decode cX10_clearCards 6 = .ok (.getfield 27, 3) := by decide +kernel
theorem dX10_clearCards_9 : decode cX10_clearCards 9 = .ok (.aconst_null, 1) := by decide +kernel
theorem dX10_clearCards_10 : decode cX10_clearCards 10 = .ok (.putfield 48, 3) := by decide +kernel
theorem dX10_clearCards_13 : decode cX10_clearCards 13 = .ok (.return_, 1) := by decide +kernel
theorem dX10_cardAt_0 : decode cX10_cardAt 0 = .ok (.iload_n 1, 1) := by decide +kernel
theorem dX10_cardAt_1 : decode cX10_cardAt 1 = .ok (.ifCond .lt 26, 3) := by decide +kernel
theorem dX10_cardAt_4 : decode cX10_cardAt 4 = .ok (.iload_n 1, 1) := by decide +kernel
theorem dX10_cardAt_5 : decode cX10_cardAt 5 = .ok (.aload_n 0, 1) := by decide +kernel
theorem dX10_cardAt_6 : decode cX10_cardAt 6 = .ok (.getfield 41, 3) := by decide +kernel
theorem dX10_cardAt_9 : decode cX10_cardAt 9 = .ok (.if_icmp .ge 18, 3) := by decide +kernel
theorem dX10_cardAt_12 : decode cX10_cardAt 12 = .ok (.iload_n 1, 1) := by decide +kernel
theorem dX10_cardAt_13 : decode cX10_cardAt 13 = .ok (.bipush 6, 2) := by decide +kernel
theorem dX10_cardAt_15 : decode cX10_cardAt 15 = .ok (.if_icmp .ge 12, 3) := by decide +kernel
theorem dX10_cardAt_18 : decode cX10_cardAt 18 = .ok (.aload_n 0, 1) := by decide +kernel
theorem dX10_cardAt_19 : decode cX10_cardAt 19 = .ok (.getfield 11, 3) := by decide +kernel
theorem dX10_cardAt_22 : decode cX10_cardAt 22 = .ok (.iload_n 1, 1) := by decide +kernel
theorem dX10_cardAt_23 : decode cX10_cardAt 23 = .ok (.aaload, 1) := by decide +kernel
theorem dX10_cardAt_24 : decode cX10_cardAt 24 = .ok (.goto 4, 3) := by decide +kernel
theorem dX10_cardAt_27 : decode cX10_cardAt 27 = .ok (.aconst_null, 1) := by decide +kernel
theorem dX10_cardAt_28 : decode cX10_cardAt 28 = .ok (.areturn, 1) := by decide +kernel
theorem dX10_addCard_0 : decode cX10_addCard 0 = .ok (.aload_n 0, 1) := by decide +kernel
theorem dX10_addCard_1 : decode cX10_addCard 1 = .ok (.getfield 41, 3) := by decide +kernel
theorem dX10_addCard_4 : decode cX10_addCard 4 = .ok (.ifCond .lt 12, 3) := by decide +kernel
theorem dX10_addCard_7 : decode cX10_addCard 7 = .ok (.aload_n 0, 1) := by decide +kernel
theorem dX10_addCard_8 : decode cX10_addCard 8 = .ok (.getfield 41, 3) := by decide +kernel
theorem dX10_addCard_11 : decode cX10_addCard 11 = .ok (.bipush 6, 2) := by decide +kernel
theorem dX10_addCard_13 : decode cX10_addCard 13 = .ok (.if_icmp .lt 5, 3) := by decide +kernel
theorem dX10_addCard_16 : decode cX10_addCard 16 = .ok (.iconst 0, 1) := by decide +kernel
theorem dX10_addCard_17 : decode cX10_addCard 17 = .ok (.ireturn, 1) := by decide +kernel
theorem dX10_addCard_18 : decode cX10_addCard 18 = .ok (.aload_n 0, 1) := by decide +kernel
theorem dX10_addCard_19 : decode cX10_addCard 19 = .ok (.getfield 11, 3) := by decide +kernel
theorem dX10_addCard_22 : decode cX10_addCard 22 = .ok (.aload_n 0, 1) := by decide +kernel
theorem dX10_addCard_23 : decode cX10_addCard 23 = .ok (.getfield 41, 3) := by decide +kernel
theorem dX10_addCard_26 : decode cX10_addCard 26 = .ok (.iload_n 1, 1) := by decide +kernel
theorem dX10_addCard_27 : decode cX10_addCard 27 = .ok (.aload_n 0, 1) := by decide +kernel
theorem dX10_addCard_28 : decode cX10_addCard 28 = .ok (.getfield 41, 3) := by decide +kernel
theorem dX10_addCard_31 : decode cX10_addCard 31 = .ok (.iload_n 2, 1) := by decide +kernel
theorem dX10_addCard_32 : decode cX10_addCard 32 = .ok (.iload_n 3, 1) := by decide +kernel
theorem dX10_addCard_33 : decode cX10_addCard 33 = .ok (.iload 4, 2) := by decide +kernel
theorem dX10_addCard_35 : decode cX10_addCard 35 = .ok (.invokestatic 52, 3) := by decide +kernel
theorem dX10_addCard_38 : decode cX10_addCard 38 = .ok (.aastore, 1) := by decide +kernel
theorem dX10_addCard_39 : decode cX10_addCard 39 = .ok (.aload_n 0, 1) := by decide +kernel
theorem dX10_addCard_40 : decode cX10_addCard 40 = .ok (.dup, 1) := by decide +kernel
theorem dX10_addCard_41 : decode cX10_addCard 41 = .ok (.getfield 41, 3) := by decide +kernel
theorem dX10_addCard_44 : decode cX10_addCard 44 = .ok (.iconst 1, 1) := by decide +kernel
theorem dX10_addCard_45 : decode cX10_addCard 45 = .ok (.iadd, 1) := by decide +kernel
theorem dX10_addCard_46 : decode cX10_addCard 46 = .ok (.putfield 41, 3) := by decide +kernel
theorem dX10_addCard_49 : decode cX10_addCard 49 = .ok (.iconst 1, 1) := by decide +kernel
theorem dX10_addCard_50 : decode cX10_addCard 50 = .ok (.ireturn, 1) := by decide +kernel
theorem dX10_allWeights_0 : decode cX10_allWeights 0 = .ok (.iconst 0, 1) := by decide +kernel
theorem dX10_allWeights_1 : decode cX10_allWeights 1 = .ok (.istore_n 1, 1) := by decide +kernel
theorem dX10_allWeights_2 : decode cX10_allWeights 2 = .ok (.iconst 0, 1) := by decide +kernel
theorem dX10_allWeights_3 : decode cX10_allWeights 3 = .ok (.istore_n 2, 1) := by decide +kernel
theorem dX10_allWeights_4 : decode cX10_allWeights 4 = .ok (.iload_n 2, 1) := by decide +kernel
theorem dX10_allWeights_5 : decode cX10_allWeights 5 = .ok (.iconst 5, 1) := by decide +kernel
theorem dX10_allWeights_6 : decode cX10_allWeights 6 = .ok (.if_icmp .ge 18, 3) := by decide +kernel
theorem dX10_allWeights_9 : decode cX10_allWeights 9 = .ok (.iload_n 1, 1) := by decide +kernel
theorem dX10_allWeights_10 : decode cX10_allWeights 10 = .ok (.aload_n 0, 1) := by decide +kernel
theorem dX10_allWeights_11 : decode cX10_allWeights 11 = .ok (.getfield 21, 3) := by decide +kernel
theorem dX10_allWeights_14 : decode cX10_allWeights 14 = .ok (.iload_n 2, 1) := by decide +kernel
theorem dX10_allWeights_15 : decode cX10_allWeights 15 = .ok (.iaload, 1) := by decide +kernel
theorem dX10_allWeights_16 : decode cX10_allWeights 16 = .ok (.iadd, 1) := by decide +kernel
theorem dX10_allWeights_17 : decode cX10_allWeights 17 = .ok (.istore_n 1, 1) := by decide +kernel
theorem dX10_allWeights_18 : decode cX10_allWeights 18 = .ok (.iinc 2 1, 3) := by decide +kernel
theorem dX10_allWeights_21 : decode cX10_allWeights 21 = .ok (.goto (-17), 3) := by decide +kernel
theorem dX10_allWeights_24 : decode cX10_allWeights 24 = .ok (.iload_n 1, 1) := by decide +kernel
theorem dX10_allWeights_25 : decode cX10_allWeights 25 = .ok (.ireturn, 1) := by decide +kernel
theorem dX10_thingOf_0 : decode cX10_thingOf 0 = .ok (.iload_n 0, 1) := by decide +kernel
theorem dX10_thingOf_1 : decode cX10_thingOf 1 = .ok (.tableswitch 100 1 5 #[35, 48, 61, 74, 87], 35) := by decide +kernel
theorem dX10_thingOf_36 : decode cX10_thingOf 36 = .ok (.new 56, 3) := by decide +kernel
theorem dX10_thingOf_39 : decode cX10_thingOf 39 = .ok (.dup, 1) := by decide +kernel
theorem dX10_thingOf_40 : decode cX10_thingOf 40 = .ok (.iload_n 1, 1) := by decide +kernel
theorem dX10_thingOf_41 : decode cX10_thingOf 41 = .ok (.iload_n 2, 1) := by decide +kernel
theorem dX10_thingOf_42 : decode cX10_thingOf 42 = .ok (.iload_n 3, 1) := by decide +kernel
theorem dX10_thingOf_43 : decode cX10_thingOf 43 = .ok (.iload 4, 2) := by decide +kernel
theorem dX10_thingOf_45 : decode cX10_thingOf 45 = .ok (.invokespecial 58, 3) := by decide +kernel
theorem dX10_thingOf_48 : decode cX10_thingOf 48 = .ok (.areturn, 1) := by decide +kernel
theorem dX10_thingOf_49 : decode cX10_thingOf 49 = .ok (.new 61, 3) := by decide +kernel
theorem dX10_thingOf_52 : decode cX10_thingOf 52 = .ok (.dup, 1) := by decide +kernel
theorem dX10_thingOf_53 : decode cX10_thingOf 53 = .ok (.iload_n 1, 1) := by decide +kernel
theorem dX10_thingOf_54 : decode cX10_thingOf 54 = .ok (.iload_n 2, 1) := by decide +kernel
theorem dX10_thingOf_55 : decode cX10_thingOf 55 = .ok (.iload_n 3, 1) := by decide +kernel
theorem dX10_thingOf_56 : decode cX10_thingOf 56 = .ok (.iload 4, 2) := by decide +kernel
theorem dX10_thingOf_58 : decode cX10_thingOf 58 = .ok (.invokespecial 63, 3) := by decide +kernel
theorem dX10_thingOf_61 : decode cX10_thingOf 61 = .ok (.areturn, 1) := by decide +kernel
theorem dX10_thingOf_62 : decode cX10_thingOf 62 = .ok (.new 64, 3) := by decide +kernel
theorem dX10_thingOf_65 : decode cX10_thingOf 65 = .ok (.dup, 1) := by decide +kernel
theorem dX10_thingOf_66 : decode cX10_thingOf 66 = .ok (.iload_n 1, 1) := by decide +kernel
theorem dX10_thingOf_67 : decode cX10_thingOf 67 = .ok (.iload_n 2, 1) := by decide +kernel
theorem dX10_thingOf_68 : decode cX10_thingOf 68 = .ok (.iload_n 3, 1) := by decide +kernel
theorem dX10_thingOf_69 : decode cX10_thingOf 69 = .ok (.iload 4, 2) := by decide +kernel
theorem dX10_thingOf_71 : decode cX10_thingOf 71 = .ok (.invokespecial 66, 3) := by decide +kernel
theorem dX10_thingOf_74 : decode cX10_thingOf 74 = .ok (.areturn, 1) := by decide +kernel
theorem dX10_thingOf_75 : decode cX10_thingOf 75 = .ok (.new 67, 3) := by decide +kernel
theorem dX10_thingOf_78 : decode cX10_thingOf 78 = .ok (.dup, 1) := by decide +kernel
theorem dX10_thingOf_79 : decode cX10_thingOf 79 = .ok (.iload_n 1, 1) := by decide +kernel
theorem dX10_thingOf_80 : decode cX10_thingOf 80 = .ok (.iload_n 2, 1) := by decide +kernel
theorem dX10_thingOf_81 : decode cX10_thingOf 81 = .ok (.iload_n 3, 1) := by decide +kernel
theorem dX10_thingOf_82 : decode cX10_thingOf 82 = .ok (.iload 4, 2) := by decide +kernel
theorem dX10_thingOf_84 : decode cX10_thingOf 84 = .ok (.invokespecial 69, 3) := by decide +kernel
theorem dX10_thingOf_87 : decode cX10_thingOf 87 = .ok (.areturn, 1) := by decide +kernel
theorem dX10_thingOf_88 : decode cX10_thingOf 88 = .ok (.new 70, 3) := by decide +kernel
theorem dX10_thingOf_91 : decode cX10_thingOf 91 = .ok (.dup, 1) := by decide +kernel
theorem dX10_thingOf_92 : decode cX10_thingOf 92 = .ok (.iload_n 1, 1) := by decide +kernel
theorem dX10_thingOf_93 : decode cX10_thingOf 93 = .ok (.iload_n 2, 1) := by decide +kernel
theorem dX10_thingOf_94 : decode cX10_thingOf 94 = .ok (.iload_n 3, 1) := by decide +kernel
theorem dX10_thingOf_95 : decode cX10_thingOf 95 = .ok (.iload 4, 2) := by decide +kernel
theorem dX10_thingOf_97 : decode cX10_thingOf 97 = .ok (.invokespecial 72, 3) := by decide +kernel
theorem dX10_thingOf_100 : decode cX10_thingOf 100 = .ok (.areturn, 1) := by decide +kernel
theorem dX10_thingOf_101 : decode cX10_thingOf 101 = .ok (.new 9, 3) := by decide +kernel
theorem dX10_thingOf_104 : decode cX10_thingOf 104 = .ok (.dup, 1) := by decide +kernel
theorem dX10_thingOf_105 : decode cX10_thingOf 105 = .ok (.iload_n 1, 1) := by decide +kernel
theorem dX10_thingOf_106 : decode cX10_thingOf 106 = .ok (.iload_n 2, 1) := by decide +kernel
theorem dX10_thingOf_107 : decode cX10_thingOf 107 = .ok (.iload_n 3, 1) := by decide +kernel
theorem dX10_thingOf_108 : decode cX10_thingOf 108 = .ok (.iload 4, 2) := by decide +kernel
theorem dX10_thingOf_110 : decode cX10_thingOf 110 = .ok (.invokespecial 73, 3) := by decide +kernel
theorem dX10_thingOf_113 : decode cX10_thingOf 113 = .ok (.areturn, 1) := by decide +kernel
theorem dJ9_floorDiv_7cf53_0 : decode cJ9_floorDiv_7cf53 0 = .ok (.iload_n 0, 1) := by decide +kernel
theorem dJ9_floorDiv_7cf53_1 : decode cJ9_floorDiv_7cf53 1 = .ok (.iload_n 1, 1) := by decide +kernel
theorem dJ9_floorDiv_7cf53_2 : decode cJ9_floorDiv_7cf53 2 = .ok (.idiv, 1) := by decide +kernel
theorem dJ9_floorDiv_7cf53_3 : decode cJ9_floorDiv_7cf53 3 = .ok (.istore_n 2, 1) := by decide +kernel
theorem dJ9_floorDiv_7cf53_4 : decode cJ9_floorDiv_7cf53 4 = .ok (.iload_n 0, 1) := by decide +kernel
theorem dJ9_floorDiv_7cf53_5 : decode cJ9_floorDiv_7cf53 5 = .ok (.iload_n 1, 1) := by decide +kernel
theorem dJ9_floorDiv_7cf53_6 : decode cJ9_floorDiv_7cf53 6 = .ok (.ixor, 1) := by decide +kernel
theorem dJ9_floorDiv_7cf53_7 : decode cJ9_floorDiv_7cf53 7 = .ok (.ifCond .ge 14, 3) := by decide +kernel
theorem dJ9_floorDiv_7cf53_10 : decode cJ9_floorDiv_7cf53 10 = .ok (.iload_n 2, 1) := by decide +kernel
theorem dJ9_floorDiv_7cf53_11 : decode cJ9_floorDiv_7cf53 11 = .ok (.iload_n 1, 1) := by decide +kernel
theorem dJ9_floorDiv_7cf53_12 : decode cJ9_floorDiv_7cf53 12 = .ok (.imul, 1) := by decide +kernel
theorem dJ9_floorDiv_7cf53_13 : decode cJ9_floorDiv_7cf53 13 = .ok (.iload_n 0, 1) := by decide +kernel
theorem dJ9_floorDiv_7cf53_14 : decode cJ9_floorDiv_7cf53 14 = .ok (.if_icmp .eq 7, 3) := by decide +kernel
theorem dJ9_floorDiv_7cf53_17 : decode cJ9_floorDiv_7cf53 17 = .ok (.iload_n 2, 1) := by decide +kernel
theorem dJ9_floorDiv_7cf53_18 : decode cJ9_floorDiv_7cf53 18 = .ok (.iconst 1, 1) := by decide +kernel
theorem dJ9_floorDiv_7cf53_19 : decode cJ9_floorDiv_7cf53 19 = .ok (.isub, 1) := by decide +kernel
theorem dJ9_floorDiv_7cf53_20 : decode cJ9_floorDiv_7cf53 20 = .ok (.ireturn, 1) := by decide +kernel
theorem dJ9_floorDiv_7cf53_21 : decode cJ9_floorDiv_7cf53 21 = .ok (.iload_n 2, 1) := by decide +kernel
theorem dJ9_floorDiv_7cf53_22 : decode cJ9_floorDiv_7cf53 22 = .ok (.ireturn, 1) := by decide +kernel
theorem dJ9_floorMod_7cf53_0 : decode cJ9_floorMod_7cf53 0 = .ok (.iload_n 0, 1) := by decide +kernel
theorem dJ9_floorMod_7cf53_1 : decode cJ9_floorMod_7cf53 1 = .ok (.iload_n 1, 1) := by decide +kernel
theorem dJ9_floorMod_7cf53_2 : decode cJ9_floorMod_7cf53 2 = .ok (.irem, 1) := by decide +kernel
theorem dJ9_floorMod_7cf53_3 : decode cJ9_floorMod_7cf53 3 = .ok (.istore_n 2, 1) := by decide +kernel
theorem dJ9_floorMod_7cf53_4 : decode cJ9_floorMod_7cf53 4 = .ok (.iload_n 0, 1) := by decide +kernel
theorem dJ9_floorMod_7cf53_5 : decode cJ9_floorMod_7cf53 5 = .ok (.iload_n 1, 1) := by decide +kernel
theorem dJ9_floorMod_7cf53_6 : decode cJ9_floorMod_7cf53 6 = .ok (.ixor, 1) := by decide +kernel
theorem dJ9_floorMod_7cf53_7 : decode cJ9_floorMod_7cf53 7 = .ok (.ifCond .ge 11, 3) := by decide +kernel
theorem dJ9_floorMod_7cf53_10 : decode cJ9_floorMod_7cf53 10 = .ok (.iload_n 2, 1) := by decide +kernel
theorem dJ9_floorMod_7cf53_11 : decode cJ9_floorMod_7cf53 11 = .ok (.ifCond .eq 7, 3) := by decide +kernel
theorem dJ9_floorMod_7cf53_14 : decode cJ9_floorMod_7cf53 14 = .ok (.iload_n 2, 1) := by decide +kernel
theorem dJ9_floorMod_7cf53_15 : decode cJ9_floorMod_7cf53 15 = .ok (.iload_n 1, 1) := by decide +kernel
theorem dJ9_floorMod_7cf53_16 : decode cJ9_floorMod_7cf53 16 = .ok (.iadd, 1) := by decide +kernel
theorem dJ9_floorMod_7cf53_17 : decode cJ9_floorMod_7cf53 17 = .ok (.ireturn, 1) := by decide +kernel
theorem dJ9_floorMod_7cf53_18 : decode cJ9_floorMod_7cf53 18 = .ok (.iload_n 2, 1) := by decide +kernel
theorem dJ9_floorMod_7cf53_19 : decode cJ9_floorMod_7cf53 19 = .ok (.ireturn, 1) := by decide +kernel
theorem dJ9_abs_0f7a4_0 : decode cJ9_abs_0f7a4 0 = .ok (.iload_n 0, 1) := by decide +kernel
theorem dJ9_abs_0f7a4_1 : decode cJ9_abs_0f7a4 1 = .ok (.ifCond .ge 8, 3) := by decide +kernel
theorem dJ9_abs_0f7a4_4 : decode cJ9_abs_0f7a4 4 = .ok (.iload_n 0, 1) := by decide +kernel
theorem dJ9_abs_0f7a4_5 : decode cJ9_abs_0f7a4 5 = .ok (.ineg, 1) := by decide +kernel
theorem dJ9_abs_0f7a4_6 : decode cJ9_abs_0f7a4 6 = .ok (.goto 4, 3) := by decide +kernel
theorem dJ9_abs_0f7a4_9 : decode cJ9_abs_0f7a4 9 = .ok (.iload_n 0, 1) := by decide +kernel
theorem dJ9_abs_0f7a4_10 : decode cJ9_abs_0f7a4 10 = .ok (.ireturn, 1) := by decide +kernel
theorem dJ9_abs_067f4_0 : decode cJ9_abs_067f4 0 = .ok (.lload_n 0, 1) := by decide +kernel
theorem dJ9_abs_067f4_1 : decode cJ9_abs_067f4 1 = .ok (.lconst 0, 1) := by decide +kernel
theorem dJ9_abs_067f4_2 : decode cJ9_abs_067f4 2 = .ok (.lcmp, 1) := by decide +kernel
theorem dJ9_abs_067f4_3 : decode cJ9_abs_067f4 3 = .ok (.ifCond .ge 8, 3) := by decide +kernel
theorem dJ9_abs_067f4_6 : decode cJ9_abs_067f4 6 = .ok (.lload_n 0, 1) := by decide +kernel
theorem dJ9_abs_067f4_7 : decode cJ9_abs_067f4 7 = .ok (.lneg, 1) := by decide +kernel
theorem dJ9_abs_067f4_8 : decode cJ9_abs_067f4 8 = .ok (.goto 4, 3) := by decide +kernel
theorem dJ9_abs_067f4_11 : decode cJ9_abs_067f4 11 = .ok (.lload_n 0, 1) := by decide +kernel
theorem dJ9_abs_067f4_12 : decode cJ9_abs_067f4 12 = .ok (.lreturn, 1) := by decide +kernel
theorem dJ9_max_7cf53_0 : decode cJ9_max_7cf53 0 = .ok (.iload_n 0, 1) := by decide +kernel
theorem dJ9_max_7cf53_1 : decode cJ9_max_7cf53 1 = .ok (.iload_n 1, 1) := by decide +kernel
theorem dJ9_max_7cf53_2 : decode cJ9_max_7cf53 2 = .ok (.if_icmp .lt 7, 3) := by decide +kernel
theorem dJ9_max_7cf53_5 : decode cJ9_max_7cf53 5 = .ok (.iload_n 0, 1) := by decide +kernel
theorem dJ9_max_7cf53_6 : decode cJ9_max_7cf53 6 = .ok (.goto 4, 3) := by decide +kernel
theorem dJ9_max_7cf53_9 : decode cJ9_max_7cf53 9 = .ok (.iload_n 1, 1) := by decide +kernel
theorem dJ9_max_7cf53_10 : decode cJ9_max_7cf53 10 = .ok (.ireturn, 1) := by decide +kernel
theorem dJ9_min_7cf53_0 : decode cJ9_min_7cf53 0 = .ok (.iload_n 0, 1) := by decide +kernel
theorem dJ9_min_7cf53_1 : decode cJ9_min_7cf53 1 = .ok (.iload_n 1, 1) := by decide +kernel
theorem dJ9_min_7cf53_2 : decode cJ9_min_7cf53 2 = .ok (.if_icmp .gt 7, 3) := by decide +kernel
theorem dJ9_min_7cf53_5 : decode cJ9_min_7cf53 5 = .ok (.iload_n 0, 1) := by decide +kernel
theorem dJ9_min_7cf53_6 : decode cJ9_min_7cf53 6 = .ok (.goto 4, 3) := by decide +kernel
theorem dJ9_min_7cf53_9 : decode cJ9_min_7cf53 9 = .ok (.iload_n 1, 1) := by decide +kernel
theorem dJ9_min_7cf53_10 : decode cJ9_min_7cf53 10 = .ok (.ireturn, 1) := by decide +kernel
theorem dJ9_min_f86c9_0 : decode cJ9_min_f86c9 0 = .ok (.lload_n 0, 1) := by decide +kernel
theorem dJ9_min_f86c9_1 : decode cJ9_min_f86c9 1 = .ok (.lload_n 2, 1) := by decide +kernel
theorem dJ9_min_f86c9_2 : decode cJ9_min_f86c9 2 = .ok (.lcmp, 1) := by decide +kernel
theorem dJ9_min_f86c9_3 : decode cJ9_min_f86c9 3 = .ok (.ifCond .gt 7, 3) := by decide +kernel
theorem dJ9_min_f86c9_6 : decode cJ9_min_f86c9 6 = .ok (.lload_n 0, 1) := by decide +kernel
theorem dJ9_min_f86c9_7 : decode cJ9_min_f86c9 7 = .ok (.goto 4, 3) := by decide +kernel
theorem dJ9_min_f86c9_10 : decode cJ9_min_f86c9 10 = .ok (.lload_n 2, 1) := by decide +kernel
theorem dJ9_min_f86c9_11 : decode cJ9_min_f86c9 11 = .ok (.lreturn, 1) := by decide +kernel
theorem dJ0_length_8abf5_0 : decode cJ0_length_8abf5 0 = .ok (.aload_n 0, 1) := by decide +kernel
theorem dJ0_length_8abf5_1 : decode cJ0_length_8abf5 1 = .ok (.getfield 9, 3) := by decide +kernel
theorem dJ0_length_8abf5_4 : decode cJ0_length_8abf5 4 = .ok (.arraylength, 1) := by decide +kernel
theorem dJ0_length_8abf5_5 : decode cJ0_length_8abf5 5 = .ok (.aload_n 0, 1) := by decide +kernel
theorem dJ0_length_8abf5_6 : decode cJ0_length_8abf5 6 = .ok (.invokevirtual 335, 3) := by decide +kernel
theorem dJ0_length_8abf5_9 : decode cJ0_length_8abf5 9 = .ok (.ishr, 1) := by decide +kernel
theorem dJ0_length_8abf5_10 : decode cJ0_length_8abf5 10 = .ok (.ireturn, 1) := by decide +kernel
theorem dJ0_charAt_5068e_0 : decode cJ0_charAt_5068e 0 = .ok (.aload_n 0, 1) := by decide +kernel
theorem dJ0_charAt_5068e_1 : decode cJ0_charAt_5068e 1 = .ok (.invokevirtual 492, 3) := by decide +kernel
theorem dJ0_charAt_5068e_4 : decode cJ0_charAt_5068e 4 = .ok (.ifCond .eq 12, 3) := by decide +kernel
theorem dJ0_charAt_5068e_7 : decode cJ0_charAt_5068e 7 = .ok (.aload_n 0, 1) := by decide +kernel
theorem dJ0_charAt_5068e_8 : decode cJ0_charAt_5068e 8 = .ok (.getfield 9, 3) := by decide +kernel
theorem dJ0_charAt_5068e_11 : decode cJ0_charAt_5068e 11 = .ok (.iload_n 1, 1) := by decide +kernel
theorem dJ0_charAt_5068e_12 : decode cJ0_charAt_5068e 12 = .ok (.invokestatic 495, 3) := by decide +kernel
theorem dJ0_charAt_5068e_15 : decode cJ0_charAt_5068e 15 = .ok (.ireturn, 1) := by decide +kernel
theorem dJ0_charAt_5068e_16 : decode cJ0_charAt_5068e 16 = .ok (.aload_n 0, 1) := by decide +kernel
theorem dJ0_charAt_5068e_17 : decode cJ0_charAt_5068e 17 = .ok (.getfield 9, 3) := by decide +kernel
theorem dJ0_charAt_5068e_20 : decode cJ0_charAt_5068e 20 = .ok (.iload_n 1, 1) := by decide +kernel
theorem dJ0_charAt_5068e_21 : decode cJ0_charAt_5068e 21 = .ok (.invokestatic 498, 3) := by decide +kernel
theorem dJ0_charAt_5068e_24 : decode cJ0_charAt_5068e 24 = .ok (.ireturn, 1) := by decide +kernel
theorem dJ0_coder_7d493_0 : decode cJ0_coder_7d493 0 = .ok (.getstatic 38, 3) := by decide +kernel
theorem dJ0_coder_7d493_3 : decode cJ0_coder_7d493 3 = .ok (.ifCond .eq 10, 3) := by decide +kernel
theorem dJ0_coder_7d493_6 : decode cJ0_coder_7d493 6 = .ok (.aload_n 0, 1) := by decide +kernel
theorem dJ0_coder_7d493_7 : decode cJ0_coder_7d493 7 = .ok (.getfield 15, 3) := by decide +kernel
theorem dJ0_coder_7d493_10 : decode cJ0_coder_7d493 10 = .ok (.goto 4, 3) := by decide +kernel
theorem dJ0_coder_7d493_13 : decode cJ0_coder_7d493 13 = .ok (.iconst 1, 1) := by decide +kernel
theorem dJ0_coder_7d493_14 : decode cJ0_coder_7d493 14 = .ok (.ireturn, 1) := by decide +kernel
theorem dJ0_isLatin1_aae02_0 : decode cJ0_isLatin1_aae02 0 = .ok (.getstatic 38, 3) := by decide +kernel
theorem dJ0_isLatin1_aae02_3 : decode cJ0_isLatin1_aae02 3 = .ok (.ifCond .eq 14, 3) := by decide +kernel
theorem dJ0_isLatin1_aae02_6 : decode cJ0_isLatin1_aae02 6 = .ok (.aload_n 0, 1) := by decide +kernel
theorem dJ0_isLatin1_aae02_7 : decode cJ0_isLatin1_aae02 7 = .ok (.getfield 15, 3) := by decide +kernel
theorem dJ0_isLatin1_aae02_10 : decode cJ0_isLatin1_aae02 10 = .ok (.ifCond .ne 7, 3) := by decide +kernel
theorem dJ0_isLatin1_aae02_13 : decode cJ0_isLatin1_aae02 13 = .ok (.iconst 1, 1) := by decide +kernel
theorem dJ0_isLatin1_aae02_14 : decode cJ0_isLatin1_aae02 14 = .ok (.goto 4, 3) := by decide +kernel
theorem dJ0_isLatin1_aae02_17 : decode cJ0_isLatin1_aae02 17 = .ok (.iconst 0, 1) := by decide +kernel
theorem dJ0_isLatin1_aae02_18 : decode cJ0_isLatin1_aae02 18 = .ok (.ireturn, 1) := by decide +kernel
theorem dJ0_checkIndex_df160_0 : decode cJ0_checkIndex_df160 0 = .ok (.iload_n 0, 1) := by decide +kernel
theorem dJ0_checkIndex_df160_1 : decode cJ0_checkIndex_df160 1 = .ok (.iload_n 1, 1) := by decide +kernel
theorem dJ0_checkIndex_df160_2 : decode cJ0_checkIndex_df160 2 = .ok (.getstatic 1053, 3) := by decide +kernel
theorem dJ0_checkIndex_df160_5 : decode cJ0_checkIndex_df160 5 = .ok (.invokestatic 1059, 3) := by decide +kernel
theorem dJ0_checkIndex_df160_8 : decode cJ0_checkIndex_df160 8 = .ok (.pop, 1) := by decide +kernel
theorem dJ0_checkIndex_df160_9 : decode cJ0_checkIndex_df160 9 = .ok (.return_, 1) := by decide +kernel
theorem dJ1_charAt_3b067_0 : decode cJ1_charAt_3b067 0 = .ok (.iload_n 1, 1) := by decide +kernel
theorem dJ1_charAt_3b067_1 : decode cJ1_charAt_3b067 1 = .ok (.aload_n 0, 1) := by decide +kernel
theorem dJ1_charAt_3b067_2 : decode cJ1_charAt_3b067 2 = .ok (.arraylength, 1) := by decide +kernel
theorem dJ1_charAt_3b067_3 : decode cJ1_charAt_3b067 3 = .ok (.invokestatic 9, 3) := by decide +kernel
theorem dJ1_charAt_3b067_6 : decode cJ1_charAt_3b067 6 = .ok (.aload_n 0, 1) := by decide +kernel
theorem dJ1_charAt_3b067_7 : decode cJ1_charAt_3b067 7 = .ok (.iload_n 1, 1) := by decide +kernel
theorem dJ1_charAt_3b067_8 : decode cJ1_charAt_3b067 8 = .ok (.baload, 1) := by decide +kernel
theorem dJ1_charAt_3b067_9 : decode cJ1_charAt_3b067 9 = .ok (.sipush 255, 3) := by decide +kernel
theorem dJ1_charAt_3b067_12 : decode cJ1_charAt_3b067 12 = .ok (.iand, 1) := by decide +kernel
theorem dJ1_charAt_3b067_13 : decode cJ1_charAt_3b067 13 = .ok (.i2c, 1) := by decide +kernel
theorem dJ1_charAt_3b067_14 : decode cJ1_charAt_3b067 14 = .ok (.ireturn, 1) := by decide +kernel
theorem dJ2_getChar_3b067_0 : decode cJ2_getChar_3b067 0 = .ok (.getstatic 44, 3) := by decide +kernel
theorem dJ2_getChar_3b067_3 : decode cJ2_getChar_3b067 3 = .ok (.ifCond .ne 25, 3) := by decide +kernel
theorem dJ2_getChar_3b067_6 : decode cJ2_getChar_3b067 6 = .ok (.iload_n 1, 1) := by decide +kernel
theorem dJ2_getChar_3b067_7 : decode cJ2_getChar_3b067 7 = .ok (.ifCond .lt 11, 3) := by decide +kernel
theorem dJ2_getChar_3b067_10 : decode cJ2_getChar_3b067 10 = .ok (.iload_n 1, 1) := by decide +kernel
theorem dJ2_getChar_3b067_11 : decode cJ2_getChar_3b067 11 = .ok (.aload_n 0, 1) := by decide +kernel
theorem dJ2_getChar_3b067_12 : decode cJ2_getChar_3b067 12 = .ok (.invokestatic 48, 3) := by decide +kernel
theorem dJ2_getChar_3b067_15 : decode cJ2_getChar_3b067 15 = .ok (.if_icmp .lt 13, 3) := by decide +kernel
theorem dJ2_getChar_3b067_18 : decode cJ2_getChar_3b067 18 = .ok (.new 52, 3) := by decide +kernel
theorem dJ2_getChar_3b067_21 : decode cJ2_getChar_3b067 21 = .ok (.dup, 1) := by decide +kernel
theorem dJ2_getChar_3b067_22 : decode cJ2_getChar_3b067 22 = .ok (.ldc 54, 2) := by decide +kernel
theorem dJ2_getChar_3b067_24 : decode cJ2_getChar_3b067 24 = .ok (.invokespecial 56, 3) := by decide +kernel
theorem dJ2_getChar_3b067_27 : decode cJ2_getChar_3b067 27 = .ok (.athrow, 1) := by decide +kernel
theorem dJ2_getChar_3b067_28 : decode cJ2_getChar_3b067 28 = .ok (.iload_n 1, 1) := by decide +kernel
theorem dJ2_getChar_3b067_29 : decode cJ2_getChar_3b067 29 = .ok (.iconst 1, 1) := by decide +kernel
theorem dJ2_getChar_3b067_30 : decode cJ2_getChar_3b067 30 = .ok (.ishl, 1) := by decide +kernel
theorem dJ2_getChar_3b067_31 : decode cJ2_getChar_3b067 31 = .ok (.istore_n 1, 1) := by decide +kernel
theorem dJ2_getChar_3b067_32 : decode cJ2_getChar_3b067 32 = .ok (.aload_n 0, 1) := by decide +kernel
theorem dJ2_getChar_3b067_33 : decode cJ2_getChar_3b067 33 = .ok (.iload_n 1, 1) := by decide +kernel
theorem dJ2_getChar_3b067_34 : decode cJ2_getChar_3b067 34 = .ok (.iinc 1 1, 3) := by decide +kernel
theorem dJ2_getChar_3b067_37 : decode cJ2_getChar_3b067 37 = .ok (.baload, 1) := by decide +kernel
theorem dJ2_getChar_3b067_38 : decode cJ2_getChar_3b067 38 = .ok (.sipush 255, 3) := by decide +kernel
theorem dJ2_getChar_3b067_41 : decode cJ2_getChar_3b067 41 = .ok (.iand, 1) := by decide +kernel
theorem dJ2_getChar_3b067_42 : decode cJ2_getChar_3b067 42 = .ok (.getstatic 59, 3) := by decide +kernel
theorem dJ2_getChar_3b067_45 : decode cJ2_getChar_3b067 45 = .ok (.ishl, 1) := by decide +kernel
theorem dJ2_getChar_3b067_46 : decode cJ2_getChar_3b067 46 = .ok (.aload_n 0, 1) := by decide +kernel
theorem dJ2_getChar_3b067_47 : decode cJ2_getChar_3b067 47 = .ok (.iload_n 1, 1) := by decide +kernel
theorem dJ2_getChar_3b067_48 : decode cJ2_getChar_3b067 48 = .ok (.baload, 1) := by decide +kernel
theorem dJ2_getChar_3b067_49 : decode cJ2_getChar_3b067 49 = .ok (.sipush 255, 3) := by decide +kernel
theorem dJ2_getChar_3b067_52 : decode cJ2_getChar_3b067 52 = .ok (.iand, 1) := by decide +kernel
theorem dJ2_getChar_3b067_53 : decode cJ2_getChar_3b067 53 = .ok (.getstatic 63, 3) := by decide +kernel
theorem dJ2_getChar_3b067_56 : decode cJ2_getChar_3b067 56 = .ok (.ishl, 1) := by decide +kernel
theorem dJ2_getChar_3b067_57 : decode cJ2_getChar_3b067 57 = .ok (.ior, 1) := by decide +kernel
theorem dJ2_getChar_3b067_58 : decode cJ2_getChar_3b067 58 = .ok (.i2c, 1) := by decide +kernel
theorem dJ2_getChar_3b067_59 : decode cJ2_getChar_3b067 59 = .ok (.ireturn, 1) := by decide +kernel
theorem dJ2_length_9d52b_0 : decode cJ2_length_9d52b 0 = .ok (.aload_n 0, 1) := by decide +kernel
theorem dJ2_length_9d52b_1 : decode cJ2_length_9d52b 1 = .ok (.arraylength, 1) := by decide +kernel
theorem dJ2_length_9d52b_2 : decode cJ2_length_9d52b 2 = .ok (.iconst 1, 1) := by decide +kernel
theorem dJ2_length_9d52b_3 : decode cJ2_length_9d52b 3 = .ok (.ishr, 1) := by decide +kernel
theorem dJ2_length_9d52b_4 : decode cJ2_length_9d52b 4 = .ok (.ireturn, 1) := by decide +kernel
theorem dJ2_charAt_3b067_0 : decode cJ2_charAt_3b067 0 = .ok (.iload_n 1, 1) := by decide +kernel
theorem dJ2_charAt_3b067_1 : decode cJ2_charAt_3b067 1 = .ok (.aload_n 0, 1) := by decide +kernel
theorem dJ2_charAt_3b067_2 : decode cJ2_charAt_3b067 2 = .ok (.invokestatic 67, 3) := by decide +kernel
theorem dJ2_charAt_3b067_5 : decode cJ2_charAt_3b067 5 = .ok (.aload_n 0, 1) := by decide +kernel
theorem dJ2_charAt_3b067_6 : decode cJ2_charAt_3b067 6 = .ok (.iload_n 1, 1) := by decide +kernel
theorem dJ2_charAt_3b067_7 : decode cJ2_charAt_3b067 7 = .ok (.invokestatic 71, 3) := by decide +kernel
theorem dJ2_charAt_3b067_10 : decode cJ2_charAt_3b067 10 = .ok (.ireturn, 1) := by decide +kernel
theorem dJ2_checkIndex_2214a_0 : decode cJ2_checkIndex_2214a 0 = .ok (.iload_n 0, 1) := by decide +kernel
theorem dJ2_checkIndex_2214a_1 : decode cJ2_checkIndex_2214a 1 = .ok (.aload_n 1, 1) := by decide +kernel
theorem dJ2_checkIndex_2214a_2 : decode cJ2_checkIndex_2214a 2 = .ok (.invokestatic 48, 3) := by decide +kernel
theorem dJ2_checkIndex_2214a_5 : decode cJ2_checkIndex_2214a 5 = .ok (.invokestatic 414, 3) := by decide +kernel
theorem dJ2_checkIndex_2214a_8 : decode cJ2_checkIndex_2214a 8 = .ok (.return_, 1) := by decide +kernel
theorem dJ3_checkIndex_8e157_0 : decode cJ3_checkIndex_8e157 0 = .ok (.iload_n 0, 1) := by decide +kernel
theorem dJ3_checkIndex_8e157_1 : decode cJ3_checkIndex_8e157 1 = .ok (.ifCond .lt 8, 3) := by decide +kernel
theorem dJ3_checkIndex_8e157_4 : decode cJ3_checkIndex_8e157 4 = .ok (.iload_n 0, 1) := by decide +kernel
theorem dJ3_checkIndex_8e157_5 : decode cJ3_checkIndex_8e157 5 = .ok (.iload_n 1, 1) := by decide +kernel
theorem dJ3_checkIndex_8e157_6 : decode cJ3_checkIndex_8e157 6 = .ok (.if_icmp .lt 10, 3) := by decide +kernel
theorem dJ3_checkIndex_8e157_9 : decode cJ3_checkIndex_8e157 9 = .ok (.aload_n 2, 1) := by decide +kernel
theorem dJ3_checkIndex_8e157_10 : decode cJ3_checkIndex_8e157 10 = .ok (.iload_n 0, 1) := by decide +kernel
theorem dJ3_checkIndex_8e157_11 : decode cJ3_checkIndex_8e157 11 = .ok (.iload_n 1, 1) := by decide +kernel
theorem dJ3_checkIndex_8e157_12 : decode cJ3_checkIndex_8e157 12 = .ok (.invokestatic 95, 3) := by decide +kernel
theorem dJ3_checkIndex_8e157_15 : decode cJ3_checkIndex_8e157 15 = .ok (.athrow, 1) := by decide +kernel
theorem dJ3_checkIndex_8e157_16 : decode cJ3_checkIndex_8e157 16 = .ok (.iload_n 0, 1) := by decide +kernel
theorem dJ3_checkIndex_8e157_17 : decode cJ3_checkIndex_8e157 17 = .ok (.ireturn, 1) := by decide +kernel
end
section
theorem dX11_init_0 : decode cX11_init 0 = .ok (.aload_n 0, 1) := by decide +kernel
theorem dX11_init_1 : decode cX11_init 1 = .ok (.invokespecial 1, 3) := by decide +kernel
theorem dX11_init_4 : decode cX11_init 4 = .ok (.aload_n 0, 1) := by decide +kernel
theorem dX11_init_5 : decode cX11_init 5 = .ok (.new 7, 3) := by decide +kernel
theorem dX11_init_8 : decode cX11_init 8 = .ok (.dup, 1) := by decide +kernel
theorem dX11_init_9 : decode cX11_init 9 = .ok (.invokespecial 9, 3) := by decide +kernel
theorem dX11_init_12 : decode cX11_init 12 = .ok (.putfield 10, 3) := by decide +kernel
theorem dX11_init_15 : decode cX11_init 15 = .ok (.aload_n 0, 1) := by decide +kernel
theorem dX11_init_16 : decode cX11_init 16 = .ok (.new 7, 3) := by decide +kernel
theorem dX11_init_19 : decode cX11_init 19 = .ok (.dup, 1) := by decide +kernel
theorem dX11_init_20 : decode cX11_init 20 = .ok (.invokespecial 9, 3) := by decide +kernel
theorem dX11_init_23 : decode cX11_init 23 = .ok (.putfield 16, 3) := by decide +kernel
theorem dX11_init_26 : decode cX11_init 26 = .ok (.aload_n 0, 1) := by decide +kernel
theorem dX11_init_27 : decode cX11_init 27 = .ok (.new 7, 3) := by decide +kernel
theorem dX11_init_30 : decode cX11_init 30 = .ok (.dup, 1) := by decide +kernel
theorem dX11_init_31 : decode cX11_init 31 = .ok (.invokespecial 9, 3) := by decide +kernel
theorem dX11_init_34 : decode cX11_init 34 = .ok (.putfield 19, 3) := by decide +kernel
theorem dX11_init_37 : decode cX11_init 37 = .ok (.aload_n 0, 1) := by decide +kernel
theorem dX11_init_38 : decode cX11_init 38 = .ok (.new 22, 3) := by decide +kernel
theorem dX11_init_41 : decode cX11_init 41 = .ok (.dup, 1) := by decide +kernel
theorem dX11_init_42 : decode cX11_init 42 = .ok (.invokespecial 24, 3) := by decide +kernel
theorem dX11_init_45 : decode cX11_init 45 = .ok (.putfield 25, 3) := by decide +kernel
theorem dX11_init_48 : decode cX11_init 48 = .ok (.aload_n 0, 1) := by decide +kernel
theorem dX11_init_49 : decode cX11_init 49 = .ok (.new 29, 3) := by decide +kernel
theorem dX11_init_52 : decode cX11_init 52 = .ok (.dup, 1) := by decide +kernel
theorem dX11_init_53 : decode cX11_init 53 = .ok (.invokespecial 31, 3) := by decide +kernel
theorem dX11_init_56 : decode cX11_init 56 = .ok (.putfield 32, 3) := by decide +kernel
theorem dX11_init_59 : decode cX11_init 59 = .ok (.aload_n 0, 1) := by decide +kernel
theorem dX11_init_60 : decode cX11_init 60 = .ok (.iconst 4, 1) := by decide +kernel
theorem dX11_init_61 : decode cX11_init 61 = .ok (.anewarray 36, 3) := by decide +kernel
theorem dX11_init_64 : decode cX11_init 64 = .ok (.putfield 38, 3) := by decide +kernel
theorem dX11_init_67 : decode cX11_init 67 = .ok (.aload_n 0, 1) := by decide +kernel
theorem dX11_init_68 : decode cX11_init 68 = .ok (.iconst 4, 1) := by decide +kernel
theorem dX11_init_69 : decode cX11_init 69 = .ok (.newarray .int, 2) := by decide +kernel
theorem dX11_init_71 : decode cX11_init 71 = .ok (.putfield 42, 3) := by decide +kernel
theorem dX11_init_74 : decode cX11_init 74 = .ok (.aload_n 0, 1) := by decide +kernel
theorem dX11_init_75 : decode cX11_init 75 = .ok (.iconst 4, 1) := by decide +kernel
theorem dX11_init_76 : decode cX11_init 76 = .ok (.newarray .int, 2) := by decide +kernel
theorem dX11_init_78 : decode cX11_init 78 = .ok (.putfield 46, 3) := by decide +kernel
theorem dX11_init_81 : decode cX11_init 81 = .ok (.aload_n 0, 1) := by decide +kernel
theorem dX11_init_82 : decode cX11_init 82 = .ok (.iconst 4, 1) := by decide +kernel
theorem dX11_init_83 : decode cX11_init 83 = .ok (.newarray .int, 2) := by decide +kernel
theorem dX11_init_85 : decode cX11_init 85 = .ok (.putfield 49, 3) := by decide +kernel
theorem dX11_init_88 : decode cX11_init 88 = .ok (.aload_n 0, 1) := by decide +kernel
theorem dX11_init_89 : decode cX11_init 89 = .ok (.bipush 60, 2) := by decide +kernel
theorem dX11_init_91 : decode cX11_init 91 = .ok (.newarray .int, 2) := by decide +kernel
theorem dX11_init_93 : decode cX11_init 93 = .ok (.putfield 52, 3) := by decide +kernel
theorem dX11_init_96 : decode cX11_init 96 = .ok (.aload_n 0, 1) := by decide +kernel
theorem dX11_init_97 : decode cX11_init 97 = .ok (.new 55, 3) := by decide +kernel
theorem dX11_init_100 : decode cX11_init 100 = .ok (.dup, 1) := by decide +kernel
theorem dX11_init_101 : decode cX11_init 101 = .ok (.invokespecial 57, 3) := by decide +kernel
theorem dX11_init_104 : decode cX11_init 104 = .ok (.putfield 58, 3) := by decide +kernel
theorem dX11_init_107 : decode cX11_init 107 = .ok (.aload_n 0, 1) := by decide +kernel
theorem dX11_init_108 : decode cX11_init 108 = .ok (.new 55, 3) := by decide +kernel
theorem dX11_init_111 : decode cX11_init 111 = .ok (.dup, 1) := by decide +kernel
theorem dX11_init_112 : decode cX11_init 112 = .ok (.invokespecial 57, 3) := by decide +kernel
theorem dX11_init_115 : decode cX11_init 115 = .ok (.putfield 62, 3) := by decide +kernel
theorem dX11_init_118 : decode cX11_init 118 = .ok (.aload_n 0, 1) := by decide +kernel
theorem dX11_init_119 : decode cX11_init 119 = .ok (.bipush 6, 2) := by decide +kernel
theorem dX11_init_121 : decode cX11_init 121 = .ok (.newarray .int, 2) := by decide +kernel
theorem dX11_init_123 : decode cX11_init 123 = .ok (.putfield 65, 3) := by decide +kernel
theorem dX11_init_126 : decode cX11_init 126 = .ok (.aload_n 0, 1) := by decide +kernel
theorem dX11_init_127 : decode cX11_init 127 = .ok (.bipush 36, 2) := by decide +kernel
theorem dX11_init_129 : decode cX11_init 129 = .ok (.newarray .int, 2) := by decide +kernel
theorem dX11_init_131 : decode cX11_init 131 = .ok (.putfield 68, 3) := by decide +kernel
theorem dX11_init_134 : decode cX11_init 134 = .ok (.iconst 0, 1) := by decide +kernel
theorem dX11_init_135 : decode cX11_init 135 = .ok (.istore_n 1, 1) := by decide +kernel
theorem dX11_init_136 : decode cX11_init 136 = .ok (.iload_n 1, 1) := by decide +kernel
theorem dX11_init_137 : decode cX11_init 137 = .ok (.aload_n 0, 1) := by decide +kernel
theorem dX11_init_138 : decode cX11_init 138 = .ok (.getfield 38, 3) := by decide +kernel
theorem dX11_init_141 : decode cX11_init 141 = .ok (.arraylength, 1) := by decide +kernel
theorem dX11_init_142 : decode cX11_init 142 = .ok (.if_icmp .ge 22, 3) := by decide +kernel
theorem dX11_init_145 : decode cX11_init 145 = .ok (.aload_n 0, 1) := by decide +kernel
theorem dX11_init_146 : decode cX11_init 146 = .ok (.getfield 38, 3) := by decide +kernel
theorem dX11_init_149 : decode cX11_init 149 = .ok (.iload_n 1, 1) := by decide +kernel
theorem dX11_init_150 : decode cX11_init 150 = .ok (.new 36, 3) := by decide +kernel
theorem dX11_init_153 : decode cX11_init 153 = .ok (.dup, 1) := by decide +kernel
theorem dX11_init_154 : decode cX11_init 154 = .ok (.invokespecial 71, 3) := by decide +kernel
theorem dX11_init_157 : decode cX11_init 157 = .ok (.aastore, 1) := by decide +kernel
theorem dX11_init_158 : decode cX11_init 158 = .ok (.iinc 1 1, 3) := by decide +kernel
theorem dX11_init_161 : decode cX11_init 161 = .ok (.goto (-25), 3) := by decide +kernel
theorem dX11_init_164 : decode cX11_init 164 = .ok (.return_, 1) := by decide +kernel
theorem dX11_feed_0 : decode cX11_feed 0 = .ok (.iload_n 3, 1) := by decide +kernel
theorem dX11_feed_1 : decode cX11_feed 1 = .ok (.iconst 1, 1) := by decide +kernel
theorem dX11_feed_2 : decode cX11_feed 2 = .ok (.if_icmp .lt 9, 3) := by decide +kernel
theorem dX11_feed_5 : decode cX11_feed 5 = .ok (.iload_n 3, 1) := by decide +kernel
theorem dX11_feed_6 : decode cX11_feed 6 = .ok (.bipush 8, 2) := by decide +kernel
theorem dX11_feed_8 : decode cX11_feed 8 = .ok (.if_icmp .le 5, 3) := by decide +kernel
theorem dX11_feed_11 : decode cX11_feed 11 = .ok (.iconst (-1), 1) := by decide +kernel
theorem dX11_feed_12 : decode cX11_feed 12 = .ok (.ireturn, 1) := by decide +kernel
theorem dX11_feed_13 : decode cX11_feed 13 = .ok (.aload_n 0, 1) := by decide +kernel
theorem dX11_feed_14 : decode cX11_feed 14 = .ok (.getfield 25, 3) := by decide +kernel
theorem dX11_feed_17 : decode cX11_feed 17 = .ok (.lload_n 1, 1) := by decide +kernel
theorem dX11_feed_18 : decode cX11_feed 18 = .ok (.iload_n 3, 1) := by decide +kernel
theorem dX11_feed_19 : decode cX11_feed 19 = .ok (.invokevirtual 72, 3) := by decide +kernel
theorem dX11_feed_22 : decode cX11_feed 22 = .ok (.ifCond .eq 13, 3) := by decide +kernel
theorem dX11_feed_25 : decode cX11_feed 25 = .ok (.aload_n 0, 1) := by decide +kernel
theorem dX11_feed_26 : decode cX11_feed 26 = .ok (.getfield 25, 3) := by decide +kernel
theorem dX11_feed_29 : decode cX11_feed 29 = .ok (.getfield 76, 3) := by decide +kernel
theorem dX11_feed_32 : decode cX11_feed 32 = .ok (.goto 5, 3) := by decide +kernel
theorem dX11_feed_35 : decode cX11_feed 35 = .ok (.bipush (-2), 2) := by decide +kernel
theorem dX11_feed_37 : decode cX11_feed 37 = .ok (.ireturn, 1) := by decide +kernel
theorem dX11_cards_0 : decode cX11_cards 0 = .ok (.aload_n 0, 1) := by decide +kernel
theorem dX11_cards_1 : decode cX11_cards 1 = .ok (.getfield 19, 3) := by decide +kernel
theorem dX11_cards_4 : decode cX11_cards 4 = .ok (.aload_n 0, 1) := by decide +kernel
theorem dX11_cards_5 : decode cX11_cards 5 = .ok (.getfield 10, 3) := by decide +kernel
theorem dX11_cards_8 : decode cX11_cards 8 = .ok (.invokevirtual 80, 3) := by decide +kernel
theorem dX11_cards_11 : decode cX11_cards 11 = .ok (.aload_n 0, 1) := by decide +kernel
theorem dX11_cards_12 : decode cX11_cards 12 = .ok (.getfield 19, 3) := by decide +kernel
theorem dX11_cards_15 : decode cX11_cards 15 = .ok (.invokevirtual 84, 3) := by decide +kernel
theorem dX11_cards_18 : decode cX11_cards 18 = .ok (.aload_n 0, 1) := by decide +kernel
theorem dX11_cards_19 : decode cX11_cards 19 = .ok (.getfield 25, 3) := by decide +kernel
theorem dX11_cards_22 : decode cX11_cards 22 = .ok (.aload_n 0, 1) := by decide +kernel
theorem dX11_cards_23 : decode cX11_cards 23 = .ok (.getfield 19, 3) := by decide +kernel
theorem dX11_cards_26 : decode cX11_cards 26 = .ok (.invokevirtual 87, 3) := by decide +kernel
theorem dX11_cards_29 : decode cX11_cards 29 = .ok (.istore_n 1, 1) := by decide +kernel
theorem dX11_cards_30 : decode cX11_cards 30 = .ok (.aload_n 0, 1) := by decide +kernel
theorem dX11_cards_31 : decode cX11_cards 31 = .ok (.getfield 25, 3) := by decide +kernel
theorem dX11_cards_34 : decode cX11_cards 34 = .ok (.iconst 0, 1) := by decide +kernel
theorem dX11_cards_35 : decode cX11_cards 35 = .ok (.putfield 76, 3) := by decide +kernel
theorem dX11_cards_38 : decode cX11_cards 38 = .ok (.iload_n 1, 1) := by decide +kernel
theorem dX11_cards_39 : decode cX11_cards 39 = .ok (.iconst (-1), 1) := by decide +kernel
theorem dX11_cards_40 : decode cX11_cards 40 = .ok (.if_icmp .eq 8, 3) := by decide +kernel
theorem dX11_cards_43 : decode cX11_cards 43 = .ok (.bipush (-100), 2) := by decide +kernel
theorem dX11_cards_45 : decode cX11_cards 45 = .ok (.iload_n 1, 1) := by decide +kernel
theorem dX11_cards_46 : decode cX11_cards 46 = .ok (.isub, 1) := by decide +kernel
theorem dX11_cards_47 : decode cX11_cards 47 = .ok (.ireturn, 1) := by decide +kernel
theorem dX11_cards_48 : decode cX11_cards 48 = .ok (.aload_n 0, 1) := by decide +kernel
theorem dX11_cards_49 : decode cX11_cards 49 = .ok (.getfield 10, 3) := by decide +kernel
theorem dX11_cards_52 : decode cX11_cards 52 = .ok (.aload_n 0, 1) := by decide +kernel
theorem dX11_cards_53 : decode cX11_cards 53 = .ok (.getfield 19, 3) := by decide +kernel
theorem dX11_cards_56 : decode cX11_cards 56 = .ok (.invokevirtual 80, 3) := by decide +kernel
theorem dX11_cards_59 : decode cX11_cards 59 = .ok (.aload_n 0, 1) := by decide +kernel
theorem dX11_cards_60 : decode cX11_cards 60 = .ok (.iconst 0, 1) := by decide +kernel
theorem dX11_cards_61 : decode cX11_cards 61 = .ok (.putfield 91, 3) := by decide +kernel
theorem dX11_cards_64 : decode cX11_cards 64 = .ok (.aload_n 0, 1) := by decide +kernel
theorem dX11_cards_65 : decode cX11_cards 65 = .ok (.getfield 10, 3) := by decide +kernel
theorem dX11_cards_68 : decode cX11_cards 68 = .ok (.getfield 94, 3) := by decide +kernel
theorem dX11_cards_71 : decode cX11_cards 71 = .ok (.ireturn, 1) := by decide +kernel
theorem dX11_card_0 : decode cX11_card 0 = .ok (.iload_n 1, 1) := by decide +kernel
theorem dX11_card_1 : decode cX11_card 1 = .ok (.ifCond .lt 19, 3) := by decide +kernel
theorem dX11_card_4 : decode cX11_card 4 = .ok (.iload_n 1, 1) := by decide +kernel
theorem dX11_card_5 : decode cX11_card 5 = .ok (.iconst 5, 1) := by decide +kernel
theorem dX11_card_6 : decode cX11_card 6 = .ok (.if_icmp .gt 14, 3) := by decide +kernel
theorem dX11_card_9 : decode cX11_card 9 = .ok (.iload_n 2, 1) := by decide +kernel
theorem dX11_card_10 : decode cX11_card 10 = .ok (.iconst 1, 1) := by decide +kernel
theorem dX11_card_11 : decode cX11_card 11 = .ok (.if_icmp .lt 9, 3) := by decide +kernel
theorem dX11_card_14 : decode cX11_card 14 = .ok (.iload_n 2, 1) := by decide +kernel
theorem dX11_card_15 : decode cX11_card 15 = .ok (.bipush 99, 2) := by decide +kernel
theorem dX11_card_17 : decode cX11_card 17 = .ok (.if_icmp .le 5, 3) := by decide +kernel
theorem dX11_card_20 : decode cX11_card 20 = .ok (.iconst (-1), 1) := by decide +kernel
theorem dX11_card_21 : decode cX11_card 21 = .ok (.ireturn, 1) := by decide +kernel
theorem dX11_card_22 : decode cX11_card 22 = .ok (.iload_n 3, 1) := by decide +kernel
theorem dX11_card_23 : decode cX11_card 23 = .ok (.iconst 1, 1) := by decide +kernel
theorem dX11_card_24 : decode cX11_card 24 = .ok (.if_icmp .lt 22, 3) := by decide +kernel
theorem dX11_card_27 : decode cX11_card 27 = .ok (.iload_n 3, 1) := by decide +kernel
theorem dX11_card_28 : decode cX11_card 28 = .ok (.bipush 9, 2) := by decide +kernel
theorem dX11_card_30 : decode cX11_card 30 = .ok (.if_icmp .gt 16, 3) := by decide +kernel
theorem dX11_card_33 : decode cX11_card 33 = .ok (.iload 4, 2) := by decide +kernel
theorem dX11_card_35 : decode cX11_card 35 = .ok (.bipush (-4), 2) := by decide +kernel
theorem dX11_card_37 : decode cX11_card 37 = .ok (.if_icmp .lt 9, 3) := by decide +kernel
theorem dX11_card_40 : decode cX11_card 40 = .ok (.iload 4, 2) := by decide +kernel
theorem dX11_card_42 : decode cX11_card 42 = .ok (.iconst 4, 1) := by decide +kernel
theorem dX11_card_43 : decode cX11_card 43 = .ok (.if_icmp .le 5, 3) := by decide +kernel
theorem dX11_card_46 : decode cX11_card 46 = .ok (.iconst (-1), 1) := by decide +kernel
theorem dX11_card_47 : decode cX11_card 47 = .ok (.ireturn, 1) := by decide +kernel
theorem dX11_card_48 : decode cX11_card 48 = .ok (.aload_n 0, 1) := by decide +kernel
theorem dX11_card_49 : decode cX11_card 49 = .ok (.getfield 10, 3) := by decide +kernel
theorem dX11_card_52 : decode cX11_card 52 = .ok (.iload_n 1, 1) := by decide +kernel
theorem dX11_card_53 : decode cX11_card 53 = .ok (.iload_n 2, 1) := by decide +kernel
theorem dX11_card_54 : decode cX11_card 54 = .ok (.iload_n 3, 1) := by decide +kernel
theorem dX11_card_55 : decode cX11_card 55 = .ok (.iload 4, 2) := by decide +kernel
theorem dX11_card_57 : decode cX11_card 57 = .ok (.invokevirtual 97, 3) := by decide +kernel
theorem dX11_card_60 : decode cX11_card 60 = .ok (.ifCond .eq 15, 3) := by decide +kernel
theorem dX11_card_63 : decode cX11_card 63 = .ok (.aload_n 0, 1) := by decide +kernel
theorem dX11_card_64 : decode cX11_card 64 = .ok (.getfield 10, 3) := by decide +kernel
theorem dX11_card_67 : decode cX11_card 67 = .ok (.getfield 94, 3) := by decide +kernel
theorem dX11_card_70 : decode cX11_card 70 = .ok (.iconst 1, 1) := by decide +kernel
theorem dX11_card_71 : decode cX11_card 71 = .ok (.isub, 1) := by decide +kernel
theorem dX11_card_72 : decode cX11_card 72 = .ok (.goto 5, 3) := by decide +kernel
theorem dX11_card_75 : decode cX11_card 75 = .ok (.bipush (-2), 2) := by decide +kernel
theorem dX11_card_77 : decode cX11_card 77 = .ok (.ireturn, 1) := by decide +kernel
theorem dX11_cardOf_0 : decode cX11_cardOf 0 = .ok (.aload_n 0, 1) := by decide +kernel
theorem dX11_cardOf_1 : decode cX11_cardOf 1 = .ok (.getfield 10, 3) := by decide +kernel
theorem dX11_cardOf_4 : decode cX11_cardOf 4 = .ok (.iload_n 1, 1) := by decide +kernel
theorem dX11_cardOf_5 : decode cX11_cardOf 5 = .ok (.invokevirtual 101, 3) := by decide +kernel
theorem dX11_cardOf_8 : decode cX11_cardOf 8 = .ok (.astore_n 3, 1) := by decide +kernel
theorem dX11_cardOf_9 : decode cX11_cardOf 9 = .ok (.aload_n 3, 1) := by decide +kernel
theorem dX11_cardOf_10 : decode cX11_cardOf 10 = .ok (.ifnonnull 5, 3) := by decide +kernel
theorem dX11_cardOf_13 : decode cX11_cardOf 13 = .ok (.iconst (-1), 1) := by decide +kernel
theorem dX11_cardOf_14 : decode cX11_cardOf 14 = .ok (.ireturn, 1) := by decide +kernel
theorem dX11_cardOf_15 : decode cX11_cardOf 15 = .ok (.iload_n 2, 1) := by decide +kernel
theorem dX11_cardOf_16 : decode cX11_cardOf 16 = .ok (.tableswitch 55 0 3 #[32, 37, 42, 47], 32) := by decide +kernel
theorem dX11_cardOf_48 : decode cX11_cardOf 48 = .ok (.aload_n 3, 1) := by decide +kernel
theorem dX11_cardOf_49 : decode cX11_cardOf 49 = .ok (.invokevirtual 105, 3) := by decide +kernel
theorem dX11_cardOf_52 : decode cX11_cardOf 52 = .ok (.ireturn, 1) := by decide +kernel
theorem dX11_cardOf_53 : decode cX11_cardOf 53 = .ok (.aload_n 3, 1) := by decide +kernel
theorem dX11_cardOf_54 : decode cX11_cardOf 54 = .ok (.getfield 111, 3) := by decide +kernel
theorem dX11_cardOf_57 : decode cX11_cardOf 57 = .ok (.ireturn, 1) := by decide +kernel
theorem dX11_cardOf_58 : decode cX11_cardOf 58 = .ok (.aload_n 3, 1) := by decide +kernel
theorem dX11_cardOf_59 : decode cX11_cardOf 59 = .ok (.getfield 114, 3) := by decide +kernel
theorem dX11_cardOf_62 : decode cX11_cardOf 62 = .ok (.ireturn, 1) := by decide +kernel
theorem dX11_cardOf_63 : decode cX11_cardOf 63 = .ok (.aload_n 3, 1) := by decide +kernel
theorem dX11_cardOf_64 : decode cX11_cardOf 64 = .ok (.getfield 117, 3) := by decide +kernel
theorem dX11_cardOf_67 : decode cX11_cardOf 67 = .ok (.bipush 10, 2) := by decide +kernel
theorem dX11_cardOf_69 : decode cX11_cardOf 69 = .ok (.iadd, 1) := by decide +kernel
theorem dX11_cardOf_70 : decode cX11_cardOf 70 = .ok (.ireturn, 1) := by decide +kernel
theorem dX11_cardOf_71 : decode cX11_cardOf 71 = .ok (.iconst (-1), 1) := by decide +kernel
theorem dX11_cardOf_72 : decode cX11_cardOf 72 = .ok (.ireturn, 1) := by decide +kernel
theorem dX11_set_0 : decode cX11_set 0 = .ok (.iload_n 1, 1) := by decide +kernel
theorem dX11_set_1 : decode cX11_set 1 = .ok (.ifCond .lt 19, 3) := by decide +kernel
theorem dX11_set_4 : decode cX11_set 4 = .ok (.iload_n 1, 1) := by decide +kernel
theorem dX11_set_5 : decode cX11_set 5 = .ok (.bipush 6, 2) := by decide +kernel
theorem dX11_set_7 : decode cX11_set 7 = .ok (.if_icmp .ge 13, 3) := by decide +kernel
theorem dX11_set_10 : decode cX11_set 10 = .ok (.iload_n 2, 1) := by decide +kernel
theorem dX11_set_11 : decode cX11_set 11 = .ok (.ifCond .lt 9, 3) := by decide +kernel
theorem dX11_set_14 : decode cX11_set 14 = .ok (.iload_n 2, 1) := by decide +kernel
theorem dX11_set_15 : decode cX11_set 15 = .ok (.bipush 63, 2) := by decide +kernel
theorem dX11_set_17 : decode cX11_set 17 = .ok (.if_icmp .le 5, 3) := by decide +kernel
theorem dX11_set_20 : decode cX11_set 20 = .ok (.iconst (-1), 1) := by decide +kernel
theorem dX11_set_21 : decode cX11_set 21 = .ok (.ireturn, 1) := by decide +kernel
theorem dX11_set_22 : decode cX11_set 22 = .ok (.aload_n 0, 1) := by decide +kernel
theorem dX11_set_23 : decode cX11_set 23 = .ok (.getfield 10, 3) := by decide +kernel
theorem dX11_set_26 : decode cX11_set 26 = .ok (.getfield 120, 3) := by decide +kernel
theorem dX11_set_29 : decode cX11_set 29 = .ok (.iload_n 1, 1) := by decide +kernel
theorem dX11_set_30 : decode cX11_set 30 = .ok (.iaload, 1) := by decide +kernel
theorem dX11_set_31 : decode cX11_set 31 = .ok (.istore_n 3, 1) := by decide +kernel
theorem dX11_set_32 : decode cX11_set 32 = .ok (.aload_n 0, 1) := by decide +kernel
theorem dX11_set_33 : decode cX11_set 33 = .ok (.getfield 10, 3) := by decide +kernel
theorem dX11_set_36 : decode cX11_set 36 = .ok (.getfield 120, 3) := by decide +kernel
theorem dX11_set_39 : decode cX11_set 39 = .ok (.iload_n 1, 1) := by decide +kernel
theorem dX11_set_40 : decode cX11_set 40 = .ok (.iload_n 2, 1) := by decide +kernel
theorem dX11_set_41 : decode cX11_set 41 = .ok (.iastore, 1) := by decide +kernel
theorem dX11_set_42 : decode cX11_set 42 = .ok (.iload_n 3, 1) := by decide +kernel
theorem dX11_set_43 : decode cX11_set 43 = .ok (.ireturn, 1) := by decide +kernel
theorem dX11_hand_0 : decode cX11_hand 0 = .ok (.iload_n 1, 1) := by decide +kernel
theorem dX11_hand_1 : decode cX11_hand 1 = .ok (.ifCond .lt 18, 3) := by decide +kernel
theorem dX11_hand_4 : decode cX11_hand 4 = .ok (.iload_n 1, 1) := by decide +kernel
theorem dX11_hand_5 : decode cX11_hand 5 = .ok (.iconst 5, 1) := by decide +kernel
theorem dX11_hand_6 : decode cX11_hand 6 = .ok (.if_icmp .ge 13, 3) := by decide +kernel
theorem dX11_hand_9 : decode cX11_hand 9 = .ok (.iload_n 2, 1) := by decide +kernel
theorem dX11_hand_10 : decode cX11_hand 10 = .ok (.ifCond .lt 9, 3) := by decide +kernel
theorem dX11_hand_13 : decode cX11_hand 13 = .ok (.iload_n 2, 1) := by decide +kernel
theorem dX11_hand_14 : decode cX11_hand 14 = .ok (.bipush 9, 2) := by decide +kernel
theorem dX11_hand_16 : decode cX11_hand 16 = .ok (.if_icmp .le 5, 3) := by decide +kernel
theorem dX11_hand_19 : decode cX11_hand 19 = .ok (.iconst (-1), 1) := by decide +kernel
theorem dX11_hand_20 : decode cX11_hand 20 = .ok (.ireturn, 1) := by decide +kernel
theorem dX11_hand_21 : decode cX11_hand 21 = .ok (.aload_n 0, 1) := by decide +kernel
theorem dX11_hand_22 : decode cX11_hand 22 = .ok (.getfield 10, 3) := by decide +kernel
theorem dX11_hand_25 : decode cX11_hand 25 = .ok (.getfield 123, 3) := by decide +kernel
theorem dX11_hand_28 : decode cX11_hand 28 = .ok (.iload_n 1, 1) := by decide +kernel
theorem dX11_hand_29 : decode cX11_hand 29 = .ok (.iaload, 1) := by decide +kernel
theorem dX11_hand_30 : decode cX11_hand 30 = .ok (.istore_n 3, 1) := by decide +kernel
theorem dX11_hand_31 : decode cX11_hand 31 = .ok (.aload_n 0, 1) := by decide +kernel
theorem dX11_hand_32 : decode cX11_hand 32 = .ok (.getfield 10, 3) := by decide +kernel
theorem dX11_hand_35 : decode cX11_hand 35 = .ok (.invokevirtual 126, 3) := by decide +kernel
theorem dX11_hand_38 : decode cX11_hand 38 = .ok (.iload_n 3, 1) := by decide +kernel
theorem dX11_hand_39 : decode cX11_hand 39 = .ok (.isub, 1) := by decide +kernel
theorem dX11_hand_40 : decode cX11_hand 40 = .ok (.iload_n 2, 1) := by decide +kernel
theorem dX11_hand_41 : decode cX11_hand 41 = .ok (.iadd, 1) := by decide +kernel
theorem dX11_hand_42 : decode cX11_hand 42 = .ok (.ifCond .ne 6, 3) := by decide +kernel
theorem dX11_hand_45 : decode cX11_hand 45 = .ok (.bipush (-4), 2) := by decide +kernel
theorem dX11_hand_47 : decode cX11_hand 47 = .ok (.ireturn, 1) := by decide +kernel
theorem dX11_hand_48 : decode cX11_hand 48 = .ok (.aload_n 0, 1) := by decide +kernel
theorem dX11_hand_49 : decode cX11_hand 49 = .ok (.getfield 10, 3) := by decide +kernel
theorem dX11_hand_52 : decode cX11_hand 52 = .ok (.getfield 123, 3) := by decide +kernel
theorem dX11_hand_55 : decode cX11_hand 55 = .ok (.iload_n 1, 1) := by decide +kernel
theorem dX11_hand_56 : decode cX11_hand 56 = .ok (.iload_n 2, 1) := by decide +kernel
theorem dX11_hand_57 : decode cX11_hand 57 = .ok (.iastore, 1) := by decide +kernel
theorem dX11_hand_58 : decode cX11_hand 58 = .ok (.iload_n 3, 1) := by decide +kernel
theorem dX11_hand_59 : decode cX11_hand 59 = .ok (.ireturn, 1) := by decide +kernel
theorem dX11_sine_0 : decode cX11_sine 0 = .ok (.iload_n 1, 1) := by decide +kernel
theorem dX11_sine_1 : decode cX11_sine 1 = .ok (.ifCond .lt 9, 3) := by decide +kernel
theorem dX11_sine_4 : decode cX11_sine 4 = .ok (.iload_n 1, 1) := by decide +kernel
theorem dX11_sine_5 : decode cX11_sine 5 = .ok (.bipush 36, 2) := by decide +kernel
theorem dX11_sine_7 : decode cX11_sine 7 = .ok (.if_icmp .lt 7, 3) := by decide +kernel
theorem dX11_sine_10 : decode cX11_sine 10 = .ok (.iconst (-1), 1) := by decide +kernel
theorem dX11_sine_11 : decode cX11_sine 11 = .ok (.goto 11, 3) := by decide +kernel
theorem dX11_sine_14 : decode cX11_sine 14 = .ok (.iload_n 1, 1) := by decide +kernel
theorem dX11_sine_15 : decode cX11_sine 15 = .ok (.invokestatic 129, 3) := by decide +kernel
theorem dX11_sine_18 : decode cX11_sine 18 = .ok (.sipush 1000, 3) := by decide +kernel
theorem dX11_sine_21 : decode cX11_sine 21 = .ok (.iadd, 1) := by decide +kernel
theorem dX11_sine_22 : decode cX11_sine 22 = .ok (.ireturn, 1) := by decide +kernel
theorem dX11_letGo_0 : decode cX11_letGo 0 = .ok (.aload_n 0, 1) := by decide +kernel
theorem dX11_letGo_1 : decode cX11_letGo 1 = .ok (.getfield 10, 3) := by decide +kernel
theorem dX11_letGo_4 : decode cX11_letGo 4 = .ok (.getfield 133, 3) := by decide +kernel
theorem dX11_letGo_7 : decode cX11_letGo 7 = .ok (.getfield 136, 3) := by decide +kernel
theorem dX11_letGo_10 : decode cX11_letGo 10 = .ok (.ifnonnull 8, 3) := by decide +kernel
theorem dX11_letGo_13 : decode cX11_letGo 13 = .ok (.bipush (-9), 2) := by decide +kernel
theorem dX11_letGo_15 : decode cX11_letGo 15 = .ok (.goto 16, 3) := by decide +kernel
theorem dX11_letGo_18 : decode cX11_letGo 18 = .ok (.aload_n 0, 1) := by decide +kernel
theorem dX11_letGo_19 : decode cX11_letGo 19 = .ok (.getfield 10, 3) := by decide +kernel
theorem dX11_letGo_22 : decode cX11_letGo 22 = .ok (.getfield 133, 3) := by decide +kernel
theorem dX11_letGo_25 : decode cX11_letGo 25 = .ok (.getfield 136, 3) := by decide +kernel
theorem dX11_letGo_28 : decode cX11_letGo 28 = .ok (.getfield 140, 3) := by decide +kernel
theorem dX11_letGo_31 : decode cX11_letGo 31 = .ok (.istore 5, 2) := by decide +kernel
theorem dX11_letGo_33 : decode cX11_letGo 33 = .ok (.aload_n 0, 1) := by decide +kernel
theorem dX11_letGo_34 : decode cX11_letGo 34 = .ok (.aload_n 0, 1) := by decide +kernel
theorem dX11_letGo_35 : decode cX11_letGo 35 = .ok (.getfield 10, 3) := by decide +kernel
theorem dX11_letGo_38 : decode cX11_letGo 38 = .ok (.getfield 133, 3) := by decide +kernel
theorem dX11_letGo_41 : decode cX11_letGo 41 = .ok (.iload_n 1, 1) := by decide +kernel
theorem dX11_letGo_42 : decode cX11_letGo 42 = .ok (.iload_n 2, 1) := by decide +kernel
theorem dX11_letGo_43 : decode cX11_letGo 43 = .ok (.iload_n 3, 1) := by decide +kernel
theorem dX11_letGo_44 : decode cX11_letGo 44 = .ok (.iload 4, 2) := by decide +kernel
theorem dX11_letGo_46 : decode cX11_letGo 46 = .ok (.invokevirtual 143, 3) := by decide +kernel
theorem dX11_letGo_49 : decode cX11_letGo 49 = .ok (.ifCond .eq 8, 3) := by decide +kernel
theorem dX11_letGo_52 : decode cX11_letGo 52 = .ok (.iload 5, 2) := by decide +kernel
theorem dX11_letGo_54 : decode cX11_letGo 54 = .ok (.goto 4, 3) := by decide +kernel
theorem dX11_letGo_57 : decode cX11_letGo 57 = .ok (.iconst (-1), 1) := by decide +kernel
theorem dX11_letGo_58 : decode cX11_letGo 58 = .ok (.ireturn, 1) := by decide +kernel
theorem dX11_tick_0 : decode cX11_tick 0 = .ok (.iload_n 1, 1) := by decide +kernel
theorem dX11_tick_1 : decode cX11_tick 1 = .ok (.ifCond .lt 10, 3) := by decide +kernel
theorem dX11_tick_4 : decode cX11_tick 4 = .ok (.iload_n 1, 1) := by decide +kernel
theorem dX11_tick_5 : decode cX11_tick 5 = .ok (.sipush 400, 3) := by decide +kernel
theorem dX11_tick_8 : decode cX11_tick 8 = .ok (.if_icmp .le 5, 3) := by decide +kernel
theorem dX11_tick_11 : decode cX11_tick 11 = .ok (.iconst (-1), 1) := by decide +kernel
theorem dX11_tick_12 : decode cX11_tick 12 = .ok (.ireturn, 1) := by decide +kernel
theorem dX11_tick_13 : decode cX11_tick 13 = .ok (.aload_n 0, 1) := by decide +kernel
theorem dX11_tick_14 : decode cX11_tick 14 = .ok (.getfield 10, 3) := by decide +kernel
theorem dX11_tick_17 : decode cX11_tick 17 = .ok (.getfield 133, 3) := by decide +kernel
theorem dX11_tick_20 : decode cX11_tick 20 = .ok (.getfield 136, 3) := by decide +kernel
theorem dX11_tick_23 : decode cX11_tick 23 = .ok (.ifnonnull 6, 3) := by decide +kernel
theorem dX11_tick_26 : decode cX11_tick 26 = .ok (.bipush (-4), 2) := by decide +kernel
theorem dX11_tick_28 : decode cX11_tick 28 = .ok (.ireturn, 1) := by decide +kernel
theorem dX11_tick_29 : decode cX11_tick 29 = .ok (.iconst 0, 1) := by decide +kernel
theorem dX11_tick_30 : decode cX11_tick 30 = .ok (.istore_n 2, 1) := by decide +kernel
theorem dX11_tick_31 : decode cX11_tick 31 = .ok (.iload_n 2, 1) := by decide +kernel
theorem dX11_tick_32 : decode cX11_tick 32 = .ok (.iload_n 1, 1) := by decide +kernel
theorem dX11_tick_33 : decode cX11_tick 33 = .ok (.if_icmp .ge 39, 3) := by decide +kernel
theorem dX11_tick_36 : decode cX11_tick 36 = .ok (.aload_n 0, 1) := by decide +kernel
theorem dX11_tick_37 : decode cX11_tick 37 = .ok (.getfield 10, 3) := by decide +kernel
theorem dX11_tick_40 : decode cX11_tick 40 = .ok (.getfield 133, 3) := by decide +kernel
theorem dX11_tick_43 : decode cX11_tick 43 = .ok (.invokevirtual 147, 3) := by decide +kernel
theorem dX11_tick_46 : decode cX11_tick 46 = .ok (.ifCond .ne 26, 3) := by decide +kernel
theorem dX11_tick_49 : decode cX11_tick 49 = .ok (.aload_n 0, 1) := by decide +kernel
theorem dX11_tick_50 : decode cX11_tick 50 = .ok (.getfield 10, 3) := by decide +kernel
theorem dX11_tick_53 : decode cX11_tick 53 = .ok (.getfield 133, 3) := by decide +kernel
theorem dX11_tick_56 : decode cX11_tick 56 = .ok (.aload_n 0, 1) := by decide +kernel
theorem dX11_tick_57 : decode cX11_tick 57 = .ok (.getfield 10, 3) := by decide +kernel
theorem dX11_tick_60 : decode cX11_tick 60 = .ok (.getfield 120, 3) := by decide +kernel
theorem dX11_tick_63 : decode cX11_tick 63 = .ok (.invokevirtual 151, 3) := by decide +kernel
theorem dX11_tick_66 : decode cX11_tick 66 = .ok (.iinc 2 1, 3) := by decide +kernel
theorem dX11_tick_69 : decode cX11_tick 69 = .ok (.goto (-38), 3) := by decide +kernel
theorem dX11_tick_72 : decode cX11_tick 72 = .ok (.iload_n 2, 1) := by decide +kernel
theorem dX11_tick_73 : decode cX11_tick 73 = .ok (.ireturn, 1) := by decide +kernel
theorem dX11_air_0 : decode cX11_air 0 = .ok (.aload_n 0, 1) := by decide +kernel
theorem dX11_air_1 : decode cX11_air 1 = .ok (.getfield 10, 3) := by decide +kernel
theorem dX11_air_4 : decode cX11_air 4 = .ok (.getfield 133, 3) := by decide +kernel
theorem dX11_air_7 : decode cX11_air 7 = .ok (.astore_n 2, 1) := by decide +kernel
theorem dX11_air_8 : decode cX11_air 8 = .ok (.aload_n 2, 1) := by decide +kernel
theorem dX11_air_9 : decode cX11_air 9 = .ok (.getfield 136, 3) := by decide +kernel
theorem dX11_air_12 : decode cX11_air 12 = .ok (.ifnonnull 6, 3) := by decide +kernel
theorem dX11_air_15 : decode cX11_air 15 = .ok (.ldc 155, 2) := by decide +kernel
theorem dX11_air_17 : decode cX11_air 17 = .ok (.ireturn, 1) := by decide +kernel
theorem dX11_air_18 : decode cX11_air 18 = .ok (.iload_n 1, 1) := by decide +kernel
theorem dX11_air_19 : decode cX11_air 19 = .ok (.tableswitch 105 0 8 #[49, 57, 62, 67, 72, 77, 82, 87, 92], 49) := by decide +kernel
theorem dX11_air_68 : decode cX11_air 68 = .ok (.aload_n 2, 1) := by decide +kernel
theorem dX11_air_69 : decode cX11_air 69 = .ok (.getfield 136, 3) := by decide +kernel
theorem dX11_air_72 : decode cX11_air 72 = .ok (.getfield 140, 3) := by decide +kernel
theorem dX11_air_75 : decode cX11_air 75 = .ok (.ireturn, 1) := by decide +kernel
theorem dX11_air_76 : decode cX11_air 76 = .ok (.aload_n 2, 1) := by decide +kernel
theorem dX11_air_77 : decode cX11_air 77 = .ok (.getfield 156, 3) := by decide +kernel
theorem dX11_air_80 : decode cX11_air 80 = .ok (.ireturn, 1) := by decide +kernel
theorem dX11_air_81 : decode cX11_air 81 = .ok (.aload_n 2, 1) := by decide +kernel
theorem dX11_air_82 : decode cX11_air 82 = .ok (.getfield 159, 3) := by decide +kernel
theorem dX11_air_85 : decode cX11_air 85 = .ok (.ireturn, 1) := by decide +kernel
theorem dX11_air_86 : decode cX11_air 86 = .ok (.aload_n 2, 1) := by decide +kernel
theorem dX11_air_87 : decode cX11_air 87 = .ok (.getfield 162, 3) := by decide +kernel
theorem dX11_air_90 : decode cX11_air 90 = .ok (.ireturn, 1) := by decide +kernel
theorem dX11_air_91 : decode cX11_air 91 = .ok (.aload_n 2, 1) := by decide +kernel
theorem dX11_air_92 : decode cX11_air 92 = .ok (.getfield 165, 3) := by decide +kernel
theorem dX11_air_95 : decode cX11_air 95 = .ok (.ireturn, 1) := by decide +kernel
theorem dX11_air_96 : decode cX11_air 96 = .ok (.aload_n 2, 1) := by decide +kernel
theorem dX11_air_97 : decode cX11_air 97 = .ok (.getfield 168, 3) := by decide +kernel
theorem dX11_air_100 : decode cX11_air 100 = .ok (.ireturn, 1) := by decide +kernel
theorem dX11_air_101 : decode cX11_air 101 = .ok (.aload_n 2, 1) := by decide +kernel
theorem dX11_air_102 : decode cX11_air 102 = .ok (.getfield 171, 3) := by decide +kernel
theorem dX11_air_105 : decode cX11_air 105 = .ok (.ireturn, 1) := by decide +kernel
theorem dX11_air_106 : decode cX11_air 106 = .ok (.aload_n 2, 1) := by decide +kernel
theorem dX11_air_107 : decode cX11_air 107 = .ok (.getfield 174, 3) := by decide +kernel
theorem dX11_air_110 : decode cX11_air 110 = .ok (.ireturn, 1) := by decide +kernel
theorem dX11_air_111 : decode cX11_air 111 = .ok (.aload_n 2, 1) := by decide +kernel
theorem dX11_air_112 : decode cX11_air 112 = .ok (.invokevirtual 147, 3) := by decide +kernel
theorem dX11_air_115 : decode cX11_air 115 = .ok (.ifCond .eq 7, 3) := by decide +kernel
theorem dX11_air_118 : decode cX11_air 118 = .ok (.iconst 1, 1) := by decide +kernel
theorem dX11_air_119 : decode cX11_air 119 = .ok (.goto 4, 3) := by decide +kernel
theorem dX11_air_122 : decode cX11_air 122 = .ok (.iconst 0, 1) := by decide +kernel
theorem dX11_air_123 : decode cX11_air 123 = .ok (.ireturn, 1) := by decide +kernel
theorem dX11_air_124 : decode cX11_air 124 = .ok (.ldc 155, 2) := by decide +kernel
theorem dX11_air_126 : decode cX11_air 126 = .ok (.ireturn, 1) := by decide +kernel
theorem dX11_gust_0 : decode cX11_gust 0 = .ok (.iload_n 1, 1) := by decide +kernel
theorem dX11_gust_1 : decode cX11_gust 1 = .ok (.sipush (-999), 3) := by decide +kernel
theorem dX11_gust_4 : decode cX11_gust 4 = .ok (.if_icmp .lt 24, 3) := by decide +kernel
theorem dX11_gust_7 : decode cX11_gust 7 = .ok (.iload_n 1, 1) := by decide +kernel
theorem dX11_gust_8 : decode cX11_gust 8 = .ok (.sipush 999, 3) := by decide +kernel
theorem dX11_gust_11 : decode cX11_gust 11 = .ok (.if_icmp .gt 17, 3) := by decide +kernel
theorem dX11_gust_14 : decode cX11_gust 14 = .ok (.iload_n 2, 1) := by decide +kernel
theorem dX11_gust_15 : decode cX11_gust 15 = .ok (.sipush (-999), 3) := by decide +kernel
theorem dX11_gust_18 : decode cX11_gust 18 = .ok (.if_icmp .lt 10, 3) := by decide +kernel
theorem dX11_gust_21 : decode cX11_gust 21 = .ok (.iload_n 2, 1) := by decide +kernel
theorem dX11_gust_22 : decode cX11_gust 22 = .ok (.sipush 999, 3) := by decide +kernel
theorem dX11_gust_25 : decode cX11_gust 25 = .ok (.if_icmp .le 5, 3) := by decide +kernel
theorem dX11_gust_28 : decode cX11_gust 28 = .ok (.iconst (-1), 1) := by decide +kernel
theorem dX11_gust_29 : decode cX11_gust 29 = .ok (.ireturn, 1) := by decide +kernel
theorem dX11_gust_30 : decode cX11_gust 30 = .ok (.aload_n 0, 1) := by decide +kernel
theorem dX11_gust_31 : decode cX11_gust 31 = .ok (.getfield 10, 3) := by decide +kernel
theorem dX11_gust_34 : decode cX11_gust 34 = .ok (.getfield 133, 3) := by decide +kernel
theorem dX11_gust_37 : decode cX11_gust 37 = .ok (.getfield 136, 3) := by decide +kernel
theorem dX11_gust_40 : decode cX11_gust 40 = .ok (.ifnull 16, 3) := by decide +kernel
theorem dX11_gust_43 : decode cX11_gust 43 = .ok (.aload_n 0, 1) := by decide +kernel
theorem dX11_gust_44 : decode cX11_gust 44 = .ok (.getfield 10, 3) := by decide +kernel
theorem dX11_gust_47 : decode cX11_gust 47 = .ok (.getfield 133, 3) := by decide +kernel
theorem dX11_gust_50 : decode cX11_gust 50 = .ok (.invokevirtual 147, 3) := by decide +kernel
theorem dX11_gust_53 : decode cX11_gust 53 = .ok (.ifCond .eq 6, 3) := by decide +kernel
theorem dX11_gust_56 : decode cX11_gust 56 = .ok (.bipush (-4), 2) := by decide +kernel
theorem dX11_gust_58 : decode cX11_gust 58 = .ok (.ireturn, 1) := by decide +kernel
theorem dX11_gust_59 : decode cX11_gust 59 = .ok (.aload_n 0, 1) := by decide +kernel
theorem dX11_gust_60 : decode cX11_gust 60 = .ok (.getfield 10, 3) := by decide +kernel
theorem dX11_gust_63 : decode cX11_gust 63 = .ok (.getfield 133, 3) := by decide +kernel
theorem dX11_gust_66 : decode cX11_gust 66 = .ok (.aload_n 0, 1) := by decide +kernel
theorem dX11_gust_67 : decode cX11_gust 67 = .ok (.getfield 10, 3) := by decide +kernel
theorem dX11_gust_70 : decode cX11_gust 70 = .ok (.getfield 133, 3) := by decide +kernel
theorem dX11_gust_73 : decode cX11_gust 73 = .ok (.getfield 171, 3) := by decide +kernel
theorem dX11_gust_76 : decode cX11_gust 76 = .ok (.iload_n 1, 1) := by decide +kernel
theorem dX11_gust_77 : decode cX11_gust 77 = .ok (.iadd, 1) := by decide +kernel
theorem dX11_gust_78 : decode cX11_gust 78 = .ok (.sipush 9999, 3) := by decide +kernel
theorem dX11_gust_81 : decode cX11_gust 81 = .ok (.invokestatic 177, 3) := by decide +kernel
theorem dX11_gust_84 : decode cX11_gust 84 = .ok (.putfield 171, 3) := by decide +kernel
theorem dX11_gust_87 : decode cX11_gust 87 = .ok (.aload_n 0, 1) := by decide +kernel
theorem dX11_gust_88 : decode cX11_gust 88 = .ok (.getfield 10, 3) := by decide +kernel
theorem dX11_gust_91 : decode cX11_gust 91 = .ok (.getfield 133, 3) := by decide +kernel
theorem dX11_gust_94 : decode cX11_gust 94 = .ok (.aload_n 0, 1) := by decide +kernel
theorem dX11_gust_95 : decode cX11_gust 95 = .ok (.getfield 10, 3) := by decide +kernel
theorem dX11_gust_98 : decode cX11_gust 98 = .ok (.getfield 133, 3) := by decide +kernel
theorem dX11_gust_101 : decode cX11_gust 101 = .ok (.getfield 174, 3) := by decide +kernel
theorem dX11_gust_104 : decode cX11_gust 104 = .ok (.iload_n 2, 1) := by decide +kernel
theorem dX11_gust_105 : decode cX11_gust 105 = .ok (.iadd, 1) := by decide +kernel
theorem dX11_gust_106 : decode cX11_gust 106 = .ok (.sipush 9999, 3) := by decide +kernel
theorem dX11_gust_109 : decode cX11_gust 109 = .ok (.invokestatic 177, 3) := by decide +kernel
theorem dX11_gust_112 : decode cX11_gust 112 = .ok (.putfield 174, 3) := by decide +kernel
theorem dX11_gust_115 : decode cX11_gust 115 = .ok (.iconst 1, 1) := by decide +kernel
theorem dX11_gust_116 : decode cX11_gust 116 = .ok (.ireturn, 1) := by decide +kernel
theorem dX11_fall_0 : decode cX11_fall 0 = .ok (.aload_n 0, 1) := by decide +kernel
theorem dX11_fall_1 : decode cX11_fall 1 = .ok (.aload_n 0, 1) := by decide +kernel
theorem dX11_fall_2 : decode cX11_fall 2 = .ok (.getfield 58, 3) := by decide +kernel
theorem dX11_fall_5 : decode cX11_fall 5 = .ok (.iload_n 1, 1) := by decide +kernel
theorem dX11_fall_6 : decode cX11_fall 6 = .ok (.iload_n 2, 1) := by decide +kernel
theorem dX11_fall_7 : decode cX11_fall 7 = .ok (.iload_n 3, 1) := by decide +kernel
theorem dX11_fall_8 : decode cX11_fall 8 = .ok (.iload 4, 2) := by decide +kernel
theorem dX11_fall_10 : decode cX11_fall 10 = .ok (.invokevirtual 143, 3) := by decide +kernel
theorem dX11_fall_13 : decode cX11_fall 13 = .ok (.ifCond .eq 20, 3) := by decide +kernel
theorem dX11_fall_16 : decode cX11_fall 16 = .ok (.aload_n 0, 1) := by decide +kernel
theorem dX11_fall_17 : decode cX11_fall 17 = .ok (.getfield 58, 3) := by decide +kernel
theorem dX11_fall_20 : decode cX11_fall 20 = .ok (.aload_n 0, 1) := by decide +kernel
theorem dX11_fall_21 : decode cX11_fall 21 = .ok (.getfield 10, 3) := by decide +kernel
theorem dX11_fall_24 : decode cX11_fall 24 = .ok (.getfield 120, 3) := by decide +kernel
theorem dX11_fall_27 : decode cX11_fall 27 = .ok (.invokevirtual 181, 3) := by decide +kernel
theorem dX11_fall_30 : decode cX11_fall 30 = .ok (.ifCond .ne 6, 3) := by decide +kernel
theorem dX11_fall_33 : decode cX11_fall 33 = .ok (.ldc 155, 2) := by decide +kernel
theorem dX11_fall_35 : decode cX11_fall 35 = .ok (.ireturn, 1) := by decide +kernel
theorem dX11_fall_36 : decode cX11_fall 36 = .ok (.iload 5, 2) := by decide +kernel
theorem dX11_fall_38 : decode cX11_fall 38 = .ok (.tableswitch 86 0 5 #[38, 46, 54, 62, 70, 78], 38) := by decide +kernel
theorem dX11_fall_76 : decode cX11_fall 76 = .ok (.aload_n 0, 1) := by decide +kernel
theorem dX11_fall_77 : decode cX11_fall 77 = .ok (.getfield 58, 3) := by decide +kernel
theorem dX11_fall_80 : decode cX11_fall 80 = .ok (.getfield 156, 3) := by decide +kernel
theorem dX11_fall_83 : decode cX11_fall 83 = .ok (.ireturn, 1) := by decide +kernel
theorem dX11_fall_84 : decode cX11_fall 84 = .ok (.aload_n 0, 1) := by decide +kernel
theorem dX11_fall_85 : decode cX11_fall 85 = .ok (.getfield 58, 3) := by decide +kernel
theorem dX11_fall_88 : decode cX11_fall 88 = .ok (.getfield 159, 3) := by decide +kernel
theorem dX11_fall_91 : decode cX11_fall 91 = .ok (.ireturn, 1) := by decide +kernel
theorem dX11_fall_92 : decode cX11_fall 92 = .ok (.aload_n 0, 1) := by decide +kernel
theorem dX11_fall_93 : decode cX11_fall 93 = .ok (.getfield 58, 3) := by decide +kernel
theorem dX11_fall_96 : decode cX11_fall 96 = .ok (.getfield 185, 3) := by decide +kernel
theorem dX11_fall_99 : decode cX11_fall 99 = .ok (.ireturn, 1) := by decide +kernel
theorem dX11_fall_100 : decode cX11_fall 100 = .ok (.aload_n 0, 1) := by decide +kernel
theorem dX11_fall_101 : decode cX11_fall 101 = .ok (.getfield 58, 3) := by decide +kernel
theorem dX11_fall_104 : decode cX11_fall 104 = .ok (.getfield 188, 3) := by decide +kernel
theorem dX11_fall_107 : decode cX11_fall 107 = .ok (.ireturn, 1) := by decide +kernel
theorem dX11_fall_108 : decode cX11_fall 108 = .ok (.aload_n 0, 1) := by decide +kernel
theorem dX11_fall_109 : decode cX11_fall 109 = .ok (.getfield 58, 3) := by decide +kernel
theorem dX11_fall_112 : decode cX11_fall 112 = .ok (.invokevirtual 191, 3) := by decide +kernel
theorem dX11_fall_115 : decode cX11_fall 115 = .ok (.ireturn, 1) := by decide +kernel
theorem dX11_fall_116 : decode cX11_fall 116 = .ok (.aload_n 0, 1) := by decide +kernel
theorem dX11_fall_117 : decode cX11_fall 117 = .ok (.getfield 58, 3) := by decide +kernel
theorem dX11_fall_120 : decode cX11_fall 120 = .ok (.invokevirtual 194, 3) := by decide +kernel
theorem dX11_fall_123 : decode cX11_fall 123 = .ok (.ireturn, 1) := by decide +kernel
theorem dX11_fall_124 : decode cX11_fall 124 = .ok (.ldc 155, 2) := by decide +kernel
theorem dX11_fall_126 : decode cX11_fall 126 = .ok (.ireturn, 1) := by decide +kernel
theorem dX11_line_0 : decode cX11_line 0 = .ok (.iload 5, 2) := by decide +kernel
theorem dX11_line_2 : decode cX11_line 2 = .ok (.ifCond .lt 25, 3) := by decide +kernel
theorem dX11_line_5 : decode cX11_line 5 = .ok (.iload 5, 2) := by decide +kernel
theorem dX11_line_7 : decode cX11_line 7 = .ok (.iconst 3, 1) := by decide +kernel
theorem dX11_line_8 : decode cX11_line 8 = .ok (.if_icmp .gt 19, 3) := by decide +kernel
theorem dX11_line_11 : decode cX11_line 11 = .ok (.aload_n 0, 1) := by decide +kernel
theorem dX11_line_12 : decode cX11_line 12 = .ok (.aload_n 0, 1) := by decide +kernel
theorem dX11_line_13 : decode cX11_line 13 = .ok (.getfield 58, 3) := by decide +kernel
theorem dX11_line_16 : decode cX11_line 16 = .ok (.iload_n 1, 1) := by decide +kernel
theorem dX11_line_17 : decode cX11_line 17 = .ok (.iload_n 2, 1) := by decide +kernel
theorem dX11_line_18 : decode cX11_line 18 = .ok (.iload_n 3, 1) := by decide +kernel
theorem dX11_line_19 : decode cX11_line 19 = .ok (.iload 4, 2) := by decide +kernel
theorem dX11_line_21 : decode cX11_line 21 = .ok (.invokevirtual 143, 3) := by decide +kernel
theorem dX11_line_24 : decode cX11_line 24 = .ok (.ifCond .ne 5, 3) := by decide +kernel
theorem dX11_line_27 : decode cX11_line 27 = .ok (.iconst (-1), 1) := by decide +kernel
theorem dX11_line_28 : decode cX11_line 28 = .ok (.ireturn, 1) := by decide +kernel
theorem dX11_line_29 : decode cX11_line 29 = .ok (.iconst 1, 1) := by decide +kernel
theorem dX11_line_30 : decode cX11_line 30 = .ok (.istore 6, 2) := by decide +kernel
theorem dX11_line_32 : decode cX11_line 32 = .ok (.iload 6, 2) := by decide +kernel
theorem dX11_line_34 : decode cX11_line 34 = .ok (.bipush 99, 2) := by decide +kernel
theorem dX11_line_36 : decode cX11_line 36 = .ok (.if_icmp .gt 64, 3) := by decide +kernel
theorem dX11_line_39 : decode cX11_line 39 = .ok (.aload_n 0, 1) := by decide +kernel
theorem dX11_line_40 : decode cX11_line 40 = .ok (.aload_n 0, 1) := by decide +kernel
theorem dX11_line_41 : decode cX11_line 41 = .ok (.getfield 58, 3) := by decide +kernel
theorem dX11_line_44 : decode cX11_line 44 = .ok (.iload_n 1, 1) := by decide +kernel
theorem dX11_line_45 : decode cX11_line 45 = .ok (.iload_n 2, 1) := by decide +kernel
theorem dX11_line_46 : decode cX11_line 46 = .ok (.iload_n 3, 1) := by decide +kernel
theorem dX11_line_47 : decode cX11_line 47 = .ok (.iload 4, 2) := by decide +kernel
theorem dX11_line_49 : decode cX11_line 49 = .ok (.invokevirtual 143, 3) := by decide +kernel
theorem dX11_line_52 : decode cX11_line 52 = .ok (.pop, 1) := by decide +kernel
theorem dX11_line_53 : decode cX11_line 53 = .ok (.aload_n 0, 1) := by decide +kernel
theorem dX11_line_54 : decode cX11_line 54 = .ok (.getfield 58, 3) := by decide +kernel
theorem dX11_line_57 : decode cX11_line 57 = .ok (.iload 6, 2) := by decide +kernel
theorem dX11_line_59 : decode cX11_line 59 = .ok (.putfield 197, 3) := by decide +kernel
theorem dX11_line_62 : decode cX11_line 62 = .ok (.aload_n 0, 1) := by decide +kernel
theorem dX11_line_63 : decode cX11_line 63 = .ok (.getfield 58, 3) := by decide +kernel
theorem dX11_line_66 : decode cX11_line 66 = .ok (.aload_n 0, 1) := by decide +kernel
theorem dX11_line_67 : decode cX11_line 67 = .ok (.getfield 10, 3) := by decide +kernel
theorem dX11_line_70 : decode cX11_line 70 = .ok (.getfield 120, 3) := by decide +kernel
theorem dX11_line_73 : decode cX11_line 73 = .ok (.invokevirtual 181, 3) := by decide +kernel
theorem dX11_line_76 : decode cX11_line 76 = .ok (.ifCond .eq 18, 3) := by decide +kernel
theorem dX11_line_79 : decode cX11_line 79 = .ok (.aload_n 0, 1) := by decide +kernel
theorem dX11_line_80 : decode cX11_line 80 = .ok (.getfield 58, 3) := by decide +kernel
theorem dX11_line_83 : decode cX11_line 83 = .ok (.invokevirtual 191, 3) := by decide +kernel
theorem dX11_line_86 : decode cX11_line 86 = .ok (.iload 5, 2) := by decide +kernel
theorem dX11_line_88 : decode cX11_line 88 = .ok (.if_icmp .ne 6, 3) := by decide +kernel
theorem dX11_line_91 : decode cX11_line 91 = .ok (.iload 6, 2) := by decide +kernel
theorem dX11_line_93 : decode cX11_line 93 = .ok (.ireturn, 1) := by decide +kernel
theorem dX11_line_94 : decode cX11_line 94 = .ok (.iinc 6 1, 3) := by decide +kernel
theorem dX11_line_97 : decode cX11_line 97 = .ok (.goto (-65), 3) := by decide +kernel
theorem dX11_line_100 : decode cX11_line 100 = .ok (.bipush (-3), 2) := by decide +kernel
theorem dX11_line_102 : decode cX11_line 102 = .ok (.ireturn, 1) := by decide +kernel
theorem dX11_parted_0 : decode cX11_parted 0 = .ok (.iload 5, 2) := by decide +kernel
theorem dX11_parted_2 : decode cX11_parted 2 = .ok (.ifCond .lt 27, 3) := by decide +kernel
theorem dX11_parted_5 : decode cX11_parted 5 = .ok (.iload 5, 2) := by decide +kernel
theorem dX11_parted_7 : decode cX11_parted 7 = .ok (.sipush 9999, 3) := by decide +kernel
theorem dX11_parted_10 : decode cX11_parted 10 = .ok (.if_icmp .gt 19, 3) := by decide +kernel
theorem dX11_parted_13 : decode cX11_parted 13 = .ok (.aload_n 0, 1) := by decide +kernel
theorem dX11_parted_14 : decode cX11_parted 14 = .ok (.aload_n 0, 1) := by decide +kernel
theorem dX11_parted_15 : decode cX11_parted 15 = .ok (.getfield 58, 3) := by decide +kernel
theorem dX11_parted_18 : decode cX11_parted 18 = .ok (.iload_n 1, 1) := by decide +kernel
theorem dX11_parted_19 : decode cX11_parted 19 = .ok (.iload_n 2, 1) := by decide +kernel
theorem dX11_parted_20 : decode cX11_parted 20 = .ok (.iload_n 3, 1) := by decide +kernel
theorem dX11_parted_21 : decode cX11_parted 21 = .ok (.iload 4, 2) := by decide +kernel
theorem dX11_parted_23 : decode cX11_parted 23 = .ok (.invokevirtual 143, 3) := by decide +kernel
theorem dX11_parted_26 : decode cX11_parted 26 = .ok (.ifCond .ne 5, 3) := by decide +kernel
theorem dX11_parted_29 : decode cX11_parted 29 = .ok (.iconst (-1), 1) := by decide +kernel
theorem dX11_parted_30 : decode cX11_parted 30 = .ok (.ireturn, 1) := by decide +kernel
theorem dX11_parted_31 : decode cX11_parted 31 = .ok (.aload_n 0, 1) := by decide +kernel
theorem dX11_parted_32 : decode cX11_parted 32 = .ok (.aload_n 0, 1) := by decide +kernel
theorem dX11_parted_33 : decode cX11_parted 33 = .ok (.getfield 62, 3) := by decide +kernel
theorem dX11_parted_36 : decode cX11_parted 36 = .ok (.iload_n 1, 1) := by decide +kernel
theorem dX11_parted_37 : decode cX11_parted 37 = .ok (.iload_n 2, 1) := by decide +kernel
theorem dX11_parted_38 : decode cX11_parted 38 = .ok (.iload_n 3, 1) := by decide +kernel
theorem dX11_parted_39 : decode cX11_parted 39 = .ok (.iconst 1, 1) := by decide +kernel
theorem dX11_parted_40 : decode cX11_parted 40 = .ok (.iadd, 1) := by decide +kernel
theorem dX11_parted_41 : decode cX11_parted 41 = .ok (.bipush 36, 2) := by decide +kernel
theorem dX11_parted_43 : decode cX11_parted 43 = .ok (.irem, 1) := by decide +kernel
theorem dX11_parted_44 : decode cX11_parted 44 = .ok (.iload 4, 2) := by decide +kernel
theorem dX11_parted_46 : decode cX11_parted 46 = .ok (.invokevirtual 143, 3) := by decide +kernel
theorem dX11_parted_49 : decode cX11_parted 49 = .ok (.pop, 1) := by decide +kernel
theorem dX11_parted_50 : decode cX11_parted 50 = .ok (.iconst 0, 1) := by decide +kernel
theorem dX11_parted_51 : decode cX11_parted 51 = .ok (.istore 6, 2) := by decide +kernel
theorem dX11_parted_53 : decode cX11_parted 53 = .ok (.iload 6, 2) := by decide +kernel
theorem dX11_parted_55 : decode cX11_parted 55 = .ok (.sipush 400, 3) := by decide +kernel
theorem dX11_parted_58 : decode cX11_parted 58 = .ok (.if_icmp .ge 88, 3) := by decide +kernel
theorem dX11_parted_61 : decode cX11_parted 61 = .ok (.aload_n 0, 1) := by decide +kernel
theorem dX11_parted_62 : decode cX11_parted 62 = .ok (.getfield 58, 3) := by decide +kernel
theorem dX11_parted_65 : decode cX11_parted 65 = .ok (.invokevirtual 147, 3) := by decide +kernel
theorem dX11_parted_68 : decode cX11_parted 68 = .ok (.ifCond .ne 78, 3) := by decide +kernel
theorem dX11_parted_71 : decode cX11_parted 71 = .ok (.aload_n 0, 1) := by decide +kernel
theorem dX11_parted_72 : decode cX11_parted 72 = .ok (.getfield 62, 3) := by decide +kernel
theorem dX11_parted_75 : decode cX11_parted 75 = .ok (.invokevirtual 147, 3) := by decide +kernel
theorem dX11_parted_78 : decode cX11_parted 78 = .ok (.ifCond .ne 68, 3) := by decide +kernel
theorem dX11_parted_81 : decode cX11_parted 81 = .ok (.aload_n 0, 1) := by decide +kernel
theorem dX11_parted_82 : decode cX11_parted 82 = .ok (.getfield 58, 3) := by decide +kernel
theorem dX11_parted_85 : decode cX11_parted 85 = .ok (.aload_n 0, 1) := by decide +kernel
theorem dX11_parted_86 : decode cX11_parted 86 = .ok (.getfield 10, 3) := by decide +kernel
theorem dX11_parted_89 : decode cX11_parted 89 = .ok (.getfield 120, 3) := by decide +kernel
theorem dX11_parted_92 : decode cX11_parted 92 = .ok (.invokevirtual 151, 3) := by decide +kernel
theorem dX11_parted_95 : decode cX11_parted 95 = .ok (.aload_n 0, 1) := by decide +kernel
theorem dX11_parted_96 : decode cX11_parted 96 = .ok (.getfield 62, 3) := by decide +kernel
theorem dX11_parted_99 : decode cX11_parted 99 = .ok (.aload_n 0, 1) := by decide +kernel
theorem dX11_parted_100 : decode cX11_parted 100 = .ok (.getfield 10, 3) := by decide +kernel
theorem dX11_parted_103 : decode cX11_parted 103 = .ok (.getfield 120, 3) := by decide +kernel
theorem dX11_parted_106 : decode cX11_parted 106 = .ok (.invokevirtual 151, 3) := by decide +kernel
theorem dX11_parted_109 : decode cX11_parted 109 = .ok (.aload_n 0, 1) := by decide +kernel
theorem dX11_parted_110 : decode cX11_parted 110 = .ok (.getfield 58, 3) := by decide +kernel
theorem dX11_parted_113 : decode cX11_parted 113 = .ok (.getfield 159, 3) := by decide +kernel
theorem dX11_parted_116 : decode cX11_parted 116 = .ok (.aload_n 0, 1) := by decide +kernel
theorem dX11_parted_117 : decode cX11_parted 117 = .ok (.getfield 62, 3) := by decide +kernel
theorem dX11_parted_120 : decode cX11_parted 120 = .ok (.getfield 159, 3) := by decide +kernel
theorem dX11_parted_123 : decode cX11_parted 123 = .ok (.isub, 1) := by decide +kernel
theorem dX11_parted_124 : decode cX11_parted 124 = .ok (.invokestatic 198, 3) := by decide +kernel
theorem dX11_parted_127 : decode cX11_parted 127 = .ok (.iload 5, 2) := by decide +kernel
theorem dX11_parted_129 : decode cX11_parted 129 = .ok (.if_icmp .le 11, 3) := by decide +kernel
theorem dX11_parted_132 : decode cX11_parted 132 = .ok (.aload_n 0, 1) := by decide +kernel
theorem dX11_parted_133 : decode cX11_parted 133 = .ok (.getfield 58, 3) := by decide +kernel
theorem dX11_parted_136 : decode cX11_parted 136 = .ok (.getfield 156, 3) := by decide +kernel
theorem dX11_parted_139 : decode cX11_parted 139 = .ok (.ireturn, 1) := by decide +kernel
theorem dX11_parted_140 : decode cX11_parted 140 = .ok (.iinc 6 1, 3) := by decide +kernel
theorem dX11_parted_143 : decode cX11_parted 143 = .ok (.goto (-90), 3) := by decide +kernel
theorem dX11_parted_146 : decode cX11_parted 146 = .ok (.bipush (-3), 2) := by decide +kernel
theorem dX11_parted_148 : decode cX11_parted 148 = .ok (.ireturn, 1) := by decide +kernel
theorem dX11_odds_0 : decode cX11_odds 0 = .ok (.iload 5, 2) := by decide +kernel
theorem dX11_odds_2 : decode cX11_odds 2 = .ok (.invokestatic 203, 3) := by decide +kernel
theorem dX11_odds_5 : decode cX11_odds 5 = .ok (.ifCond .eq 30, 3) := by decide +kernel
theorem dX11_odds_8 : decode cX11_odds 8 = .ok (.iload 6, 2) := by decide +kernel
theorem dX11_odds_10 : decode cX11_odds 10 = .ok (.ifCond .lt 25, 3) := by decide +kernel
theorem dX11_odds_13 : decode cX11_odds 13 = .ok (.iload 6, 2) := by decide +kernel
theorem dX11_odds_15 : decode cX11_odds 15 = .ok (.iconst 1, 1) := by decide +kernel
theorem dX11_odds_16 : decode cX11_odds 16 = .ok (.if_icmp .gt 19, 3) := by decide +kernel
theorem dX11_odds_19 : decode cX11_odds 19 = .ok (.aload_n 0, 1) := by decide +kernel
theorem dX11_odds_20 : decode cX11_odds 20 = .ok (.aload_n 0, 1) := by decide +kernel
theorem dX11_odds_21 : decode cX11_odds 21 = .ok (.getfield 58, 3) := by decide +kernel
theorem dX11_odds_24 : decode cX11_odds 24 = .ok (.iload_n 1, 1) := by decide +kernel
theorem dX11_odds_25 : decode cX11_odds 25 = .ok (.iload_n 2, 1) := by decide +kernel
theorem dX11_odds_26 : decode cX11_odds 26 = .ok (.iload_n 3, 1) := by decide +kernel
theorem dX11_odds_27 : decode cX11_odds 27 = .ok (.iload 4, 2) := by decide +kernel
theorem dX11_odds_29 : decode cX11_odds 29 = .ok (.invokevirtual 143, 3) := by decide +kernel
theorem dX11_odds_32 : decode cX11_odds 32 = .ok (.ifCond .ne 5, 3) := by decide +kernel
theorem dX11_odds_35 : decode cX11_odds 35 = .ok (.iconst (-1), 1) := by decide +kernel
theorem dX11_odds_36 : decode cX11_odds 36 = .ok (.ireturn, 1) := by decide +kernel
theorem dX11_odds_37 : decode cX11_odds 37 = .ok (.iconst 0, 1) := by decide +kernel
theorem dX11_odds_38 : decode cX11_odds 38 = .ok (.istore 7, 2) := by decide +kernel
theorem dX11_odds_40 : decode cX11_odds 40 = .ok (.iconst 0, 1) := by decide +kernel
theorem dX11_odds_41 : decode cX11_odds 41 = .ok (.istore 8, 2) := by decide +kernel
theorem dX11_odds_43 : decode cX11_odds 43 = .ok (.iload 8, 2) := by decide +kernel
theorem dX11_odds_45 : decode cX11_odds 45 = .ok (.iconst 5, 1) := by decide +kernel
theorem dX11_odds_46 : decode cX11_odds 46 = .ok (.if_icmp .ge 56, 3) := by decide +kernel
theorem dX11_odds_49 : decode cX11_odds 49 = .ok (.aload_n 0, 1) := by decide +kernel
theorem dX11_odds_50 : decode cX11_odds 50 = .ok (.getfield 10, 3) := by decide +kernel
theorem dX11_odds_53 : decode cX11_odds 53 = .ok (.getfield 123, 3) := by decide +kernel
theorem dX11_odds_56 : decode cX11_odds 56 = .ok (.iload 8, 2) := by decide +kernel
theorem dX11_odds_58 : decode cX11_odds 58 = .ok (.iaload, 1) := by decide +kernel
theorem dX11_odds_59 : decode cX11_odds 59 = .ok (.ifCond .le 37, 3) := by decide +kernel
theorem dX11_odds_62 : decode cX11_odds 62 = .ok (.aload_n 0, 1) := by decide +kernel
theorem dX11_odds_63 : decode cX11_odds 63 = .ok (.iload_n 1, 1) := by decide +kernel
theorem dX11_odds_64 : decode cX11_odds 64 = .ok (.iload_n 2, 1) := by decide +kernel
theorem dX11_odds_65 : decode cX11_odds 65 = .ok (.iload_n 3, 1) := by decide +kernel
theorem dX11_odds_66 : decode cX11_odds 66 = .ok (.iload 8, 2) := by decide +kernel
theorem dX11_odds_68 : decode cX11_odds 68 = .ok (.invokestatic 207, 3) := by decide +kernel
theorem dX11_odds_71 : decode cX11_odds 71 = .ok (.iload 4, 2) := by decide +kernel
theorem dX11_odds_73 : decode cX11_odds 73 = .ok (.invokevirtual 210, 3) := by decide +kernel
theorem dX11_odds_76 : decode cX11_odds 76 = .ok (.iload 5, 2) := by decide +kernel
theorem dX11_odds_78 : decode cX11_odds 78 = .ok (.if_icmp .ne 18, 3) := by decide +kernel
theorem dX11_odds_81 : decode cX11_odds 81 = .ok (.iload 7, 2) := by decide +kernel
theorem dX11_odds_83 : decode cX11_odds 83 = .ok (.aload_n 0, 1) := by decide +kernel
theorem dX11_odds_84 : decode cX11_odds 84 = .ok (.getfield 10, 3) := by decide +kernel
theorem dX11_odds_87 : decode cX11_odds 87 = .ok (.getfield 123, 3) := by decide +kernel
theorem dX11_odds_90 : decode cX11_odds 90 = .ok (.iload 8, 2) := by decide +kernel
theorem dX11_odds_92 : decode cX11_odds 92 = .ok (.iaload, 1) := by decide +kernel
theorem dX11_odds_93 : decode cX11_odds 93 = .ok (.iadd, 1) := by decide +kernel
theorem dX11_odds_94 : decode cX11_odds 94 = .ok (.istore 7, 2) := by decide +kernel
theorem dX11_odds_96 : decode cX11_odds 96 = .ok (.iinc 8 1, 3) := by decide +kernel
theorem dX11_odds_99 : decode cX11_odds 99 = .ok (.goto (-56), 3) := by decide +kernel
theorem dX11_odds_102 : decode cX11_odds 102 = .ok (.aload_n 0, 1) := by decide +kernel
theorem dX11_odds_103 : decode cX11_odds 103 = .ok (.getfield 10, 3) := by decide +kernel
theorem dX11_odds_106 : decode cX11_odds 106 = .ok (.invokevirtual 126, 3) := by decide +kernel
theorem dX11_odds_109 : decode cX11_odds 109 = .ok (.istore 8, 2) := by decide +kernel
theorem dX11_odds_111 : decode cX11_odds 111 = .ok (.iload 7, 2) := by decide +kernel
theorem dX11_odds_113 : decode cX11_odds 113 = .ok (.iload 8, 2) := by decide +kernel
theorem dX11_odds_115 : decode cX11_odds 115 = .ok (.invokestatic 214, 3) := by decide +kernel
theorem dX11_odds_118 : decode cX11_odds 118 = .ok (.istore 9, 2) := by decide +kernel
theorem dX11_odds_120 : decode cX11_odds 120 = .ok (.iload 9, 2) := by decide +kernel
theorem dX11_odds_122 : decode cX11_odds 122 = .ok (.iconst 1, 1) := by decide +kernel
theorem dX11_odds_123 : decode cX11_odds 123 = .ok (.if_icmp .ge 5, 3) := by decide +kernel
theorem dX11_odds_126 : decode cX11_odds 126 = .ok (.iconst (-1), 1) := by decide +kernel
theorem dX11_odds_127 : decode cX11_odds 127 = .ok (.ireturn, 1) := by decide +kernel
theorem dX11_odds_128 : decode cX11_odds 128 = .ok (.iload 6, 2) := by decide +kernel
theorem dX11_odds_130 : decode cX11_odds 130 = .ok (.ifCond .ne 11, 3) := by decide +kernel
theorem dX11_odds_133 : decode cX11_odds 133 = .ok (.iload 7, 2) := by decide +kernel
theorem dX11_odds_135 : decode cX11_odds 135 = .ok (.iload 9, 2) := by decide +kernel
theorem dX11_odds_137 : decode cX11_odds 137 = .ok (.idiv, 1) := by decide +kernel
theorem dX11_odds_138 : decode cX11_odds 138 = .ok (.goto 8, 3) := by decide +kernel
theorem dX11_odds_141 : decode cX11_odds 141 = .ok (.iload 8, 2) := by decide +kernel
theorem dX11_odds_143 : decode cX11_odds 143 = .ok (.iload 9, 2) := by decide +kernel
theorem dX11_odds_145 : decode cX11_odds 145 = .ok (.idiv, 1) := by decide +kernel
theorem dX11_odds_146 : decode cX11_odds 146 = .ok (.ireturn, 1) := by decide +kernel
theorem dX11_aim_0 : decode cX11_aim 0 = .ok (.iload 4, 2) := by decide +kernel
theorem dX11_aim_2 : decode cX11_aim 2 = .ok (.invokestatic 203, 3) := by decide +kernel
theorem dX11_aim_5 : decode cX11_aim 5 = .ok (.ifCond .eq 18, 3) := by decide +kernel
theorem dX11_aim_8 : decode cX11_aim 8 = .ok (.aload_n 0, 1) := by decide +kernel
theorem dX11_aim_9 : decode cX11_aim 9 = .ok (.aload_n 0, 1) := by decide +kernel
theorem dX11_aim_10 : decode cX11_aim 10 = .ok (.getfield 58, 3) := by decide +kernel
theorem dX11_aim_13 : decode cX11_aim 13 = .ok (.iload_n 1, 1) := by decide +kernel
theorem dX11_aim_14 : decode cX11_aim 14 = .ok (.iload_n 2, 1) := by decide +kernel
theorem dX11_aim_15 : decode cX11_aim 15 = .ok (.iconst 0, 1) := by decide +kernel
theorem dX11_aim_16 : decode cX11_aim 16 = .ok (.iload_n 3, 1) := by decide +kernel
theorem dX11_aim_17 : decode cX11_aim 17 = .ok (.invokevirtual 143, 3) := by decide +kernel
theorem dX11_aim_20 : decode cX11_aim 20 = .ok (.ifCond .ne 5, 3) := by decide +kernel
theorem dX11_aim_23 : decode cX11_aim 23 = .ok (.iconst (-1), 1) := by decide +kernel
theorem dX11_aim_24 : decode cX11_aim 24 = .ok (.ireturn, 1) := by decide +kernel
theorem dX11_aim_25 : decode cX11_aim 25 = .ok (.iconst 0, 1) := by decide +kernel
theorem dX11_aim_26 : decode cX11_aim 26 = .ok (.istore 5, 2) := by decide +kernel
theorem dX11_aim_28 : decode cX11_aim 28 = .ok (.iload 5, 2) := by decide +kernel
theorem dX11_aim_30 : decode cX11_aim 30 = .ok (.bipush 36, 2) := by decide +kernel
theorem dX11_aim_32 : decode cX11_aim 32 = .ok (.if_icmp .ge 25, 3) := by decide +kernel
theorem dX11_aim_35 : decode cX11_aim 35 = .ok (.aload_n 0, 1) := by decide +kernel
theorem dX11_aim_36 : decode cX11_aim 36 = .ok (.getfield 68, 3) := by decide +kernel
theorem dX11_aim_39 : decode cX11_aim 39 = .ok (.iload 5, 2) := by decide +kernel
theorem dX11_aim_41 : decode cX11_aim 41 = .ok (.aload_n 0, 1) := by decide +kernel
theorem dX11_aim_42 : decode cX11_aim 42 = .ok (.iload_n 1, 1) := by decide +kernel
theorem dX11_aim_43 : decode cX11_aim 43 = .ok (.iload_n 2, 1) := by decide +kernel
theorem dX11_aim_44 : decode cX11_aim 44 = .ok (.iload 5, 2) := by decide +kernel
theorem dX11_aim_46 : decode cX11_aim 46 = .ok (.iload_n 3, 1) := by decide +kernel
theorem dX11_aim_47 : decode cX11_aim 47 = .ok (.invokevirtual 210, 3) := by decide +kernel
theorem dX11_aim_50 : decode cX11_aim 50 = .ok (.iastore, 1) := by decide +kernel
theorem dX11_aim_51 : decode cX11_aim 51 = .ok (.iinc 5 1, 3) := by decide +kernel
theorem dX11_aim_54 : decode cX11_aim 54 = .ok (.goto (-26), 3) := by decide +kernel
theorem dX11_aim_57 : decode cX11_aim 57 = .ok (.bipush (-3), 2) := by decide +kernel
theorem dX11_aim_59 : decode cX11_aim 59 = .ok (.istore 5, 2) := by decide +kernel
theorem dX11_aim_61 : decode cX11_aim 61 = .ok (.iconst 0, 1) := by decide +kernel
theorem dX11_aim_62 : decode cX11_aim 62 = .ok (.istore 6, 2) := by decide +kernel
theorem dX11_aim_64 : decode cX11_aim 64 = .ok (.iconst 0, 1) := by decide +kernel
theorem dX11_aim_65 : decode cX11_aim 65 = .ok (.istore 7, 2) := by decide +kernel
theorem dX11_aim_67 : decode cX11_aim 67 = .ok (.iload 7, 2) := by decide +kernel
theorem dX11_aim_69 : decode cX11_aim 69 = .ok (.bipush 36, 2) := by decide +kernel
theorem dX11_aim_71 : decode cX11_aim 71 = .ok (.if_icmp .ge 34, 3) := by decide +kernel
theorem dX11_aim_74 : decode cX11_aim 74 = .ok (.aload_n 0, 1) := by decide +kernel
theorem dX11_aim_75 : decode cX11_aim 75 = .ok (.iload 7, 2) := by decide +kernel
theorem dX11_aim_77 : decode cX11_aim 77 = .ok (.iload 4, 2) := by decide +kernel
theorem dX11_aim_79 : decode cX11_aim 79 = .ok (.invokevirtual 217, 3) := by decide +kernel
theorem dX11_aim_82 : decode cX11_aim 82 = .ok (.istore 8, 2) := by decide +kernel
theorem dX11_aim_84 : decode cX11_aim 84 = .ok (.iload 8, 2) := by decide +kernel
theorem dX11_aim_86 : decode cX11_aim 86 = .ok (.iload 6, 2) := by decide +kernel
theorem dX11_aim_88 : decode cX11_aim 88 = .ok (.if_icmp .le 11, 3) := by decide +kernel
theorem dX11_aim_91 : decode cX11_aim 91 = .ok (.iload 8, 2) := by decide +kernel
theorem dX11_aim_93 : decode cX11_aim 93 = .ok (.istore 6, 2) := by decide +kernel
theorem dX11_aim_95 : decode cX11_aim 95 = .ok (.iload 7, 2) := by decide +kernel
theorem dX11_aim_97 : decode cX11_aim 97 = .ok (.istore 5, 2) := by decide +kernel
theorem dX11_aim_99 : decode cX11_aim 99 = .ok (.iinc 7 1, 3) := by decide +kernel
theorem dX11_aim_102 : decode cX11_aim 102 = .ok (.goto (-35), 3) := by decide +kernel
theorem dX11_aim_105 : decode cX11_aim 105 = .ok (.iload 5, 2) := by decide +kernel
theorem dX11_aim_107 : decode cX11_aim 107 = .ok (.ireturn, 1) := by decide +kernel
theorem dX11_longest_0 : decode cX11_longest 0 = .ok (.iload_n 1, 1) := by decide +kernel
theorem dX11_longest_1 : decode cX11_longest 1 = .ok (.iload_n 2, 1) := by decide +kernel
theorem dX11_longest_2 : decode cX11_longest 2 = .ok (.iload_n 3, 1) := by decide +kernel
theorem dX11_longest_3 : decode cX11_longest 3 = .ok (.invokestatic 220, 3) := by decide +kernel
theorem dX11_longest_6 : decode cX11_longest 6 = .ok (.ifCond .ne 5, 3) := by decide +kernel
theorem dX11_longest_9 : decode cX11_longest 9 = .ok (.iconst (-1), 1) := by decide +kernel
theorem dX11_longest_10 : decode cX11_longest 10 = .ok (.ireturn, 1) := by decide +kernel
theorem dX11_longest_11 : decode cX11_longest 11 = .ok (.bipush (-3), 2) := by decide +kernel
theorem dX11_longest_13 : decode cX11_longest 13 = .ok (.istore 4, 2) := by decide +kernel
theorem dX11_longest_15 : decode cX11_longest 15 = .ok (.iconst 0, 1) := by decide +kernel
theorem dX11_longest_16 : decode cX11_longest 16 = .ok (.istore 5, 2) := by decide +kernel
theorem dX11_longest_18 : decode cX11_longest 18 = .ok (.iconst 0, 1) := by decide +kernel
theorem dX11_longest_19 : decode cX11_longest 19 = .ok (.istore 6, 2) := by decide +kernel
theorem dX11_longest_21 : decode cX11_longest 21 = .ok (.iload 6, 2) := by decide +kernel
theorem dX11_longest_23 : decode cX11_longest 23 = .ok (.aload_n 0, 1) := by decide +kernel
theorem dX11_longest_24 : decode cX11_longest 24 = .ok (.getfield 10, 3) := by decide +kernel
theorem dX11_longest_27 : decode cX11_longest 27 = .ok (.getfield 94, 3) := by decide +kernel
theorem dX11_longest_30 : decode cX11_longest 30 = .ok (.if_icmp .ge 63, 3) := by decide +kernel
theorem dX11_longest_33 : decode cX11_longest 33 = .ok (.aload_n 0, 1) := by decide +kernel
theorem dX11_longest_34 : decode cX11_longest 34 = .ok (.aload_n 0, 1) := by decide +kernel
theorem dX11_longest_35 : decode cX11_longest 35 = .ok (.getfield 58, 3) := by decide +kernel
theorem dX11_longest_38 : decode cX11_longest 38 = .ok (.iload 6, 2) := by decide +kernel
theorem dX11_longest_40 : decode cX11_longest 40 = .ok (.iload_n 1, 1) := by decide +kernel
theorem dX11_longest_41 : decode cX11_longest 41 = .ok (.iload_n 2, 1) := by decide +kernel
theorem dX11_longest_42 : decode cX11_longest 42 = .ok (.iload_n 3, 1) := by decide +kernel
theorem dX11_longest_43 : decode cX11_longest 43 = .ok (.invokevirtual 143, 3) := by decide +kernel
theorem dX11_longest_46 : decode cX11_longest 46 = .ok (.pop, 1) := by decide +kernel
theorem dX11_longest_47 : decode cX11_longest 47 = .ok (.aload_n 0, 1) := by decide +kernel
theorem dX11_longest_48 : decode cX11_longest 48 = .ok (.getfield 58, 3) := by decide +kernel
theorem dX11_longest_51 : decode cX11_longest 51 = .ok (.aload_n 0, 1) := by decide +kernel
theorem dX11_longest_52 : decode cX11_longest 52 = .ok (.getfield 10, 3) := by decide +kernel
theorem dX11_longest_55 : decode cX11_longest 55 = .ok (.getfield 120, 3) := by decide +kernel
theorem dX11_longest_58 : decode cX11_longest 58 = .ok (.invokevirtual 181, 3) := by decide +kernel
theorem dX11_longest_61 : decode cX11_longest 61 = .ok (.pop, 1) := by decide +kernel
theorem dX11_longest_62 : decode cX11_longest 62 = .ok (.aload_n 0, 1) := by decide +kernel
theorem dX11_longest_63 : decode cX11_longest 63 = .ok (.getfield 58, 3) := by decide +kernel
theorem dX11_longest_66 : decode cX11_longest 66 = .ok (.getfield 156, 3) := by decide +kernel
theorem dX11_longest_69 : decode cX11_longest 69 = .ok (.iload 5, 2) := by decide +kernel
theorem dX11_longest_71 : decode cX11_longest 71 = .ok (.if_icmp .le 16, 3) := by decide +kernel
theorem dX11_longest_74 : decode cX11_longest 74 = .ok (.aload_n 0, 1) := by decide +kernel
theorem dX11_longest_75 : decode cX11_longest 75 = .ok (.getfield 58, 3) := by decide +kernel
theorem dX11_longest_78 : decode cX11_longest 78 = .ok (.getfield 156, 3) := by decide +kernel
theorem dX11_longest_81 : decode cX11_longest 81 = .ok (.istore 5, 2) := by decide +kernel
theorem dX11_longest_83 : decode cX11_longest 83 = .ok (.iload 6, 2) := by decide +kernel
theorem dX11_longest_85 : decode cX11_longest 85 = .ok (.istore 4, 2) := by decide +kernel
theorem dX11_longest_87 : decode cX11_longest 87 = .ok (.iinc 6 1, 3) := by decide +kernel
theorem dX11_longest_90 : decode cX11_longest 90 = .ok (.goto (-69), 3) := by decide +kernel
theorem dX11_longest_93 : decode cX11_longest 93 = .ok (.iload 4, 2) := by decide +kernel
theorem dX11_longest_95 : decode cX11_longest 95 = .ok (.ireturn, 1) := by decide +kernel
theorem dX11_fit_0 : decode cX11_fit 0 = .ok (.iload 6, 2) := by decide +kernel
theorem dX11_fit_2 : decode cX11_fit 2 = .ok (.ifCond .lt 26, 3) := by decide +kernel
theorem dX11_fit_5 : decode cX11_fit 5 = .ok (.iload 6, 2) := by decide +kernel
theorem dX11_fit_7 : decode cX11_fit 7 = .ok (.bipush 6, 2) := by decide +kernel
theorem dX11_fit_9 : decode cX11_fit 9 = .ok (.if_icmp .ge 19, 3) := by decide +kernel
theorem dX11_fit_12 : decode cX11_fit 12 = .ok (.aload_n 0, 1) := by decide +kernel
theorem dX11_fit_13 : decode cX11_fit 13 = .ok (.aload_n 0, 1) := by decide +kernel
theorem dX11_fit_14 : decode cX11_fit 14 = .ok (.getfield 58, 3) := by decide +kernel
theorem dX11_fit_17 : decode cX11_fit 17 = .ok (.iload_n 1, 1) := by decide +kernel
theorem dX11_fit_18 : decode cX11_fit 18 = .ok (.iload_n 2, 1) := by decide +kernel
theorem dX11_fit_19 : decode cX11_fit 19 = .ok (.iload_n 3, 1) := by decide +kernel
theorem dX11_fit_20 : decode cX11_fit 20 = .ok (.iload 4, 2) := by decide +kernel
theorem dX11_fit_22 : decode cX11_fit 22 = .ok (.invokevirtual 143, 3) := by decide +kernel
theorem dX11_fit_25 : decode cX11_fit 25 = .ok (.ifCond .ne 5, 3) := by decide +kernel
theorem dX11_fit_28 : decode cX11_fit 28 = .ok (.iconst (-1), 1) := by decide +kernel
theorem dX11_fit_29 : decode cX11_fit 29 = .ok (.ireturn, 1) := by decide +kernel
theorem dX11_fit_30 : decode cX11_fit 30 = .ok (.aload_n 0, 1) := by decide +kernel
theorem dX11_fit_31 : decode cX11_fit 31 = .ok (.iload 5, 2) := by decide +kernel
theorem dX11_fit_33 : decode cX11_fit 33 = .ok (.invokevirtual 224, 3) := by decide +kernel
theorem dX11_fit_36 : decode cX11_fit 36 = .ok (.astore 7, 2) := by decide +kernel
theorem dX11_fit_38 : decode cX11_fit 38 = .ok (.aload 7, 2) := by decide +kernel
theorem dX11_fit_40 : decode cX11_fit 40 = .ok (.invokestatic 228, 3) := by decide +kernel
theorem dX11_fit_43 : decode cX11_fit 43 = .ok (.istore 8, 2) := by decide +kernel
theorem dX11_fit_45 : decode cX11_fit 45 = .ok (.aload 7, 2) := by decide +kernel
theorem dX11_fit_47 : decode cX11_fit 47 = .ok (.ifnull 8, 3) := by decide +kernel
theorem dX11_fit_50 : decode cX11_fit 50 = .ok (.iload 8, 2) := by decide +kernel
theorem dX11_fit_52 : decode cX11_fit 52 = .ok (.ifCond .ge 6, 3) := by decide +kernel
theorem dX11_fit_55 : decode cX11_fit 55 = .ok (.iload 8, 2) := by decide +kernel
theorem dX11_fit_57 : decode cX11_fit 57 = .ok (.ireturn, 1) := by decide +kernel
theorem dX11_fit_58 : decode cX11_fit 58 = .ok (.aload_n 0, 1) := by decide +kernel
theorem dX11_fit_59 : decode cX11_fit 59 = .ok (.getfield 10, 3) := by decide +kernel
theorem dX11_fit_62 : decode cX11_fit 62 = .ok (.getfield 120, 3) := by decide +kernel
theorem dX11_fit_65 : decode cX11_fit 65 = .ok (.iconst 0, 1) := by decide +kernel
theorem dX11_fit_66 : decode cX11_fit 66 = .ok (.aload_n 0, 1) := by decide +kernel
theorem dX11_fit_67 : decode cX11_fit 67 = .ok (.getfield 65, 3) := by decide +kernel
theorem dX11_fit_70 : decode cX11_fit 70 = .ok (.iconst 0, 1) := by decide +kernel
theorem dX11_fit_71 : decode cX11_fit 71 = .ok (.bipush 6, 2) := by decide +kernel
theorem dX11_fit_73 : decode cX11_fit 73 = .ok (.invokestatic 232, 3) := by decide +kernel
theorem dX11_fit_76 : decode cX11_fit 76 = .ok (.iconst 0, 1) := by decide +kernel
theorem dX11_fit_77 : decode cX11_fit 77 = .ok (.istore 9, 2) := by decide +kernel
theorem dX11_fit_79 : decode cX11_fit 79 = .ok (.ldc 238, 2) := by decide +kernel
theorem dX11_fit_81 : decode cX11_fit 81 = .ok (.istore 10, 2) := by decide +kernel
theorem dX11_fit_83 : decode cX11_fit 83 = .ok (.iconst 0, 1) := by decide +kernel
theorem dX11_fit_84 : decode cX11_fit 84 = .ok (.istore 11, 2) := by decide +kernel
theorem dX11_fit_86 : decode cX11_fit 86 = .ok (.iload 11, 2) := by decide +kernel
theorem dX11_fit_88 : decode cX11_fit 88 = .ok (.bipush 63, 2) := by decide +kernel
theorem dX11_fit_90 : decode cX11_fit 90 = .ok (.if_icmp .gt 62, 3) := by decide +kernel
theorem dX11_fit_93 : decode cX11_fit 93 = .ok (.aload_n 0, 1) := by decide +kernel
theorem dX11_fit_94 : decode cX11_fit 94 = .ok (.getfield 65, 3) := by decide +kernel
theorem dX11_fit_97 : decode cX11_fit 97 = .ok (.iload 6, 2) := by decide +kernel
theorem dX11_fit_99 : decode cX11_fit 99 = .ok (.iload 11, 2) := by decide +kernel
theorem dX11_fit_101 : decode cX11_fit 101 = .ok (.iastore, 1) := by decide +kernel
theorem dX11_fit_102 : decode cX11_fit 102 = .ok (.aload_n 0, 1) := by decide +kernel
theorem dX11_fit_103 : decode cX11_fit 103 = .ok (.aload_n 0, 1) := by decide +kernel
theorem dX11_fit_104 : decode cX11_fit 104 = .ok (.getfield 58, 3) := by decide +kernel
theorem dX11_fit_107 : decode cX11_fit 107 = .ok (.iload_n 1, 1) := by decide +kernel
theorem dX11_fit_108 : decode cX11_fit 108 = .ok (.iload_n 2, 1) := by decide +kernel
theorem dX11_fit_109 : decode cX11_fit 109 = .ok (.iload_n 3, 1) := by decide +kernel
theorem dX11_fit_110 : decode cX11_fit 110 = .ok (.iload 4, 2) := by decide +kernel
theorem dX11_fit_112 : decode cX11_fit 112 = .ok (.invokevirtual 143, 3) := by decide +kernel
theorem dX11_fit_115 : decode cX11_fit 115 = .ok (.pop, 1) := by decide +kernel
theorem dX11_fit_116 : decode cX11_fit 116 = .ok (.aload_n 0, 1) := by decide +kernel
theorem dX11_fit_117 : decode cX11_fit 117 = .ok (.getfield 58, 3) := by decide +kernel
theorem dX11_fit_120 : decode cX11_fit 120 = .ok (.aload 7, 2) := by decide +kernel
theorem dX11_fit_122 : decode cX11_fit 122 = .ok (.aload_n 0, 1) := by decide +kernel
theorem dX11_fit_123 : decode cX11_fit 123 = .ok (.getfield 65, 3) := by decide +kernel
theorem dX11_fit_126 : decode cX11_fit 126 = .ok (.invokestatic 239, 3) := by decide +kernel
theorem dX11_fit_129 : decode cX11_fit 129 = .ok (.istore 12, 2) := by decide +kernel
theorem dX11_fit_131 : decode cX11_fit 131 = .ok (.iload 12, 2) := by decide +kernel
theorem dX11_fit_133 : decode cX11_fit 133 = .ok (.iload 10, 2) := by decide +kernel
theorem dX11_fit_135 : decode cX11_fit 135 = .ok (.if_icmp .ge 11, 3) := by decide +kernel
theorem dX11_fit_138 : decode cX11_fit 138 = .ok (.iload 12, 2) := by decide +kernel
theorem dX11_fit_140 : decode cX11_fit 140 = .ok (.istore 10, 2) := by decide +kernel
theorem dX11_fit_142 : decode cX11_fit 142 = .ok (.iload 11, 2) := by decide +kernel
theorem dX11_fit_144 : decode cX11_fit 144 = .ok (.istore 9, 2) := by decide +kernel
theorem dX11_fit_146 : decode cX11_fit 146 = .ok (.iinc 11 1, 3) := by decide +kernel
theorem dX11_fit_149 : decode cX11_fit 149 = .ok (.goto (-63), 3) := by decide +kernel
theorem dX11_fit_152 : decode cX11_fit 152 = .ok (.iload 9, 2) := by decide +kernel
theorem dX11_fit_154 : decode cX11_fit 154 = .ok (.ireturn, 1) := by decide +kernel
theorem dX11_miss_0 : decode cX11_miss 0 = .ok (.aload_n 0, 1) := by decide +kernel
theorem dX11_miss_1 : decode cX11_miss 1 = .ok (.aload_n 0, 1) := by decide +kernel
theorem dX11_miss_2 : decode cX11_miss 2 = .ok (.getfield 58, 3) := by decide +kernel
theorem dX11_miss_5 : decode cX11_miss 5 = .ok (.iload_n 1, 1) := by decide +kernel
theorem dX11_miss_6 : decode cX11_miss 6 = .ok (.iload_n 2, 1) := by decide +kernel
theorem dX11_miss_7 : decode cX11_miss 7 = .ok (.iload_n 3, 1) := by decide +kernel
theorem dX11_miss_8 : decode cX11_miss 8 = .ok (.iload 4, 2) := by decide +kernel
theorem dX11_miss_10 : decode cX11_miss 10 = .ok (.invokevirtual 143, 3) := by decide +kernel
theorem dX11_miss_13 : decode cX11_miss 13 = .ok (.ifCond .ne 5, 3) := by decide +kernel
theorem dX11_miss_16 : decode cX11_miss 16 = .ok (.iconst (-1), 1) := by decide +kernel
theorem dX11_miss_17 : decode cX11_miss 17 = .ok (.ireturn, 1) := by decide +kernel
theorem dX11_miss_18 : decode cX11_miss 18 = .ok (.aload_n 0, 1) := by decide +kernel
theorem dX11_miss_19 : decode cX11_miss 19 = .ok (.iload 5, 2) := by decide +kernel
theorem dX11_miss_21 : decode cX11_miss 21 = .ok (.invokevirtual 224, 3) := by decide +kernel
theorem dX11_miss_24 : decode cX11_miss 24 = .ok (.astore 6, 2) := by decide +kernel
theorem dX11_miss_26 : decode cX11_miss 26 = .ok (.aload 6, 2) := by decide +kernel
theorem dX11_miss_28 : decode cX11_miss 28 = .ok (.invokestatic 228, 3) := by decide +kernel
theorem dX11_miss_31 : decode cX11_miss 31 = .ok (.istore 7, 2) := by decide +kernel
theorem dX11_miss_33 : decode cX11_miss 33 = .ok (.aload 6, 2) := by decide +kernel
theorem dX11_miss_35 : decode cX11_miss 35 = .ok (.ifnull 8, 3) := by decide +kernel
theorem dX11_miss_38 : decode cX11_miss 38 = .ok (.iload 7, 2) := by decide +kernel
theorem dX11_miss_40 : decode cX11_miss 40 = .ok (.ifCond .ge 8, 3) := by decide +kernel
theorem dX11_miss_43 : decode cX11_miss 43 = .ok (.iload 7, 2) := by decide +kernel
theorem dX11_miss_45 : decode cX11_miss 45 = .ok (.goto 19, 3) := by decide +kernel
theorem dX11_miss_48 : decode cX11_miss 48 = .ok (.aload_n 0, 1) := by decide +kernel
theorem dX11_miss_49 : decode cX11_miss 49 = .ok (.getfield 58, 3) := by decide +kernel
theorem dX11_miss_52 : decode cX11_miss 52 = .ok (.aload 6, 2) := by decide +kernel
theorem dX11_miss_54 : decode cX11_miss 54 = .ok (.aload_n 0, 1) := by decide +kernel
theorem dX11_miss_55 : decode cX11_miss 55 = .ok (.getfield 10, 3) := by decide +kernel
theorem dX11_miss_58 : decode cX11_miss 58 = .ok (.getfield 120, 3) := by decide +kernel
theorem dX11_miss_61 : decode cX11_miss 61 = .ok (.invokestatic 239, 3) := by decide +kernel
theorem dX11_miss_64 : decode cX11_miss 64 = .ok (.ireturn, 1) := by decide +kernel
theorem dX11_toss_0 : decode cX11_toss 0 = .ok (.aload_n 0, 1) := by decide +kernel
theorem dX11_toss_1 : decode cX11_toss 1 = .ok (.getfield 10, 3) := by decide +kernel
theorem dX11_toss_4 : decode cX11_toss 4 = .ok (.invokevirtual 126, 3) := by decide +kernel
theorem dX11_toss_7 : decode cX11_toss 7 = .ok (.istore 5, 2) := by decide +kernel
theorem dX11_toss_9 : decode cX11_toss 9 = .ok (.iload 5, 2) := by decide +kernel
theorem dX11_toss_11 : decode cX11_toss 11 = .ok (.iconst 1, 1) := by decide +kernel
theorem dX11_toss_12 : decode cX11_toss 12 = .ok (.if_icmp .lt 19, 3) := by decide +kernel
theorem dX11_toss_15 : decode cX11_toss 15 = .ok (.aload_n 0, 1) := by decide +kernel
theorem dX11_toss_16 : decode cX11_toss 16 = .ok (.aload_n 0, 1) := by decide +kernel
theorem dX11_toss_17 : decode cX11_toss 17 = .ok (.getfield 58, 3) := by decide +kernel
theorem dX11_toss_20 : decode cX11_toss 20 = .ok (.iload_n 1, 1) := by decide +kernel
theorem dX11_toss_21 : decode cX11_toss 21 = .ok (.iload_n 2, 1) := by decide +kernel
theorem dX11_toss_22 : decode cX11_toss 22 = .ok (.iload_n 3, 1) := by decide +kernel
theorem dX11_toss_23 : decode cX11_toss 23 = .ok (.iload 4, 2) := by decide +kernel
theorem dX11_toss_25 : decode cX11_toss 25 = .ok (.invokevirtual 143, 3) := by decide +kernel
theorem dX11_toss_28 : decode cX11_toss 28 = .ok (.ifCond .ne 6, 3) := by decide +kernel
theorem dX11_toss_31 : decode cX11_toss 31 = .ok (.ldc 155, 2) := by decide +kernel
theorem dX11_toss_33 : decode cX11_toss 33 = .ok (.ireturn, 1) := by decide +kernel
theorem dX11_toss_34 : decode cX11_toss 34 = .ok (.aload_n 0, 1) := by decide +kernel
theorem dX11_toss_35 : decode cX11_toss 35 = .ok (.getfield 10, 3) := by decide +kernel
theorem dX11_toss_38 : decode cX11_toss 38 = .ok (.aload_n 0, 1) := by decide +kernel
theorem dX11_toss_39 : decode cX11_toss 39 = .ok (.getfield 10, 3) := by decide +kernel
theorem dX11_toss_42 : decode cX11_toss 42 = .ok (.getfield 243, 3) := by decide +kernel
theorem dX11_toss_45 : decode cX11_toss 45 = .ok (.ldc 246, 2) := by decide +kernel
theorem dX11_toss_47 : decode cX11_toss 47 = .ok (.imul, 1) := by decide +kernel
theorem dX11_toss_48 : decode cX11_toss 48 = .ok (.sipush 12345, 3) := by decide +kernel
theorem dX11_toss_51 : decode cX11_toss 51 = .ok (.iadd, 1) := by decide +kernel
theorem dX11_toss_52 : decode cX11_toss 52 = .ok (.putfield 243, 3) := by decide +kernel
theorem dX11_toss_55 : decode cX11_toss 55 = .ok (.aload_n 0, 1) := by decide +kernel
theorem dX11_toss_56 : decode cX11_toss 56 = .ok (.iload_n 1, 1) := by decide +kernel
theorem dX11_toss_57 : decode cX11_toss 57 = .ok (.iload_n 2, 1) := by decide +kernel
theorem dX11_toss_58 : decode cX11_toss 58 = .ok (.iload_n 3, 1) := by decide +kernel
theorem dX11_toss_59 : decode cX11_toss 59 = .ok (.aload_n 0, 1) := by decide +kernel
theorem dX11_toss_60 : decode cX11_toss 60 = .ok (.aload_n 0, 1) := by decide +kernel
theorem dX11_toss_61 : decode cX11_toss 61 = .ok (.getfield 10, 3) := by decide +kernel
theorem dX11_toss_64 : decode cX11_toss 64 = .ok (.getfield 243, 3) := by decide +kernel
theorem dX11_toss_67 : decode cX11_toss 67 = .ok (.bipush 16, 2) := by decide +kernel
theorem dX11_toss_69 : decode cX11_toss 69 = .ok (.iushr, 1) := by decide +kernel
theorem dX11_toss_70 : decode cX11_toss 70 = .ok (.iload 5, 2) := by decide +kernel
theorem dX11_toss_72 : decode cX11_toss 72 = .ok (.irem, 1) := by decide +kernel
theorem dX11_toss_73 : decode cX11_toss 73 = .ok (.invokevirtual 247, 3) := by decide +kernel
theorem dX11_toss_76 : decode cX11_toss 76 = .ok (.invokestatic 207, 3) := by decide +kernel
theorem dX11_toss_79 : decode cX11_toss 79 = .ok (.iload 4, 2) := by decide +kernel
theorem dX11_toss_81 : decode cX11_toss 81 = .ok (.invokevirtual 210, 3) := by decide +kernel
theorem dX11_toss_84 : decode cX11_toss 84 = .ok (.ireturn, 1) := by decide +kernel
theorem dX11_seed_0 : decode cX11_seed 0 = .ok (.aload_n 0, 1) := by decide +kernel
theorem dX11_seed_1 : decode cX11_seed 1 = .ok (.getfield 10, 3) := by decide +kernel
theorem dX11_seed_4 : decode cX11_seed 4 = .ok (.getfield 243, 3) := by decide +kernel
theorem dX11_seed_7 : decode cX11_seed 7 = .ok (.istore_n 2, 1) := by decide +kernel
theorem dX11_seed_8 : decode cX11_seed 8 = .ok (.aload_n 0, 1) := by decide +kernel
theorem dX11_seed_9 : decode cX11_seed 9 = .ok (.getfield 10, 3) := by decide +kernel
theorem dX11_seed_12 : decode cX11_seed 12 = .ok (.iload_n 1, 1) := by decide +kernel
theorem dX11_seed_13 : decode cX11_seed 13 = .ok (.putfield 243, 3) := by decide +kernel
theorem dX11_seed_16 : decode cX11_seed 16 = .ok (.iload_n 2, 1) := by decide +kernel
theorem dX11_seed_17 : decode cX11_seed 17 = .ok (.ireturn, 1) := by decide +kernel
theorem dX11_prove_0 : decode cX11_prove 0 = .ok (.iload_n 1, 1) := by decide +kernel
theorem dX11_prove_1 : decode cX11_prove 1 = .ok (.iconst 1, 1) := by decide +kernel
theorem dX11_prove_2 : decode cX11_prove 2 = .ok (.if_icmp .lt 9, 3) := by decide +kernel
theorem dX11_prove_5 : decode cX11_prove 5 = .ok (.iload_n 1, 1) := by decide +kernel
theorem dX11_prove_6 : decode cX11_prove 6 = .ok (.bipush 20, 2) := by decide +kernel
theorem dX11_prove_8 : decode cX11_prove 8 = .ok (.if_icmp .le 5, 3) := by decide +kernel
theorem dX11_prove_11 : decode cX11_prove 11 = .ok (.iconst (-1), 1) := by decide +kernel
theorem dX11_prove_12 : decode cX11_prove 12 = .ok (.ireturn, 1) := by decide +kernel
theorem dX11_prove_13 : decode cX11_prove 13 = .ok (.aload_n 0, 1) := by decide +kernel
theorem dX11_prove_14 : decode cX11_prove 14 = .ok (.getfield 10, 3) := by decide +kernel
theorem dX11_prove_17 : decode cX11_prove 17 = .ok (.getfield 133, 3) := by decide +kernel
theorem dX11_prove_20 : decode cX11_prove 20 = .ok (.getfield 136, 3) := by decide +kernel
theorem dX11_prove_23 : decode cX11_prove 23 = .ok (.ifnonnull 6, 3) := by decide +kernel
theorem dX11_prove_26 : decode cX11_prove 26 = .ok (.bipush (-4), 2) := by decide +kernel
theorem dX11_prove_28 : decode cX11_prove 28 = .ok (.ireturn, 1) := by decide +kernel
theorem dX11_prove_29 : decode cX11_prove 29 = .ok (.aload_n 0, 1) := by decide +kernel
theorem dX11_prove_30 : decode cX11_prove 30 = .ok (.getfield 58, 3) := by decide +kernel
theorem dX11_prove_33 : decode cX11_prove 33 = .ok (.aload_n 0, 1) := by decide +kernel
theorem dX11_prove_34 : decode cX11_prove 34 = .ok (.getfield 10, 3) := by decide +kernel
theorem dX11_prove_37 : decode cX11_prove 37 = .ok (.getfield 133, 3) := by decide +kernel
theorem dX11_prove_40 : decode cX11_prove 40 = .ok (.invokevirtual 250, 3) := by decide +kernel
theorem dX11_prove_43 : decode cX11_prove 43 = .ok (.aload_n 0, 1) := by decide +kernel
theorem dX11_prove_44 : decode cX11_prove 44 = .ok (.iconst 0, 1) := by decide +kernel
theorem dX11_prove_45 : decode cX11_prove 45 = .ok (.putfield 91, 3) := by decide +kernel
theorem dX11_prove_48 : decode cX11_prove 48 = .ok (.aload_n 0, 1) := by decide +kernel
theorem dX11_prove_49 : decode cX11_prove 49 = .ok (.getfield 91, 3) := by decide +kernel
theorem dX11_prove_52 : decode cX11_prove 52 = .ok (.iload_n 1, 1) := by decide +kernel
theorem dX11_prove_53 : decode cX11_prove 53 = .ok (.if_icmp .ge 90, 3) := by decide +kernel
theorem dX11_prove_56 : decode cX11_prove 56 = .ok (.aload_n 0, 1) := by decide +kernel
theorem dX11_prove_57 : decode cX11_prove 57 = .ok (.getfield 58, 3) := by decide +kernel
theorem dX11_prove_60 : decode cX11_prove 60 = .ok (.invokevirtual 147, 3) := by decide +kernel
theorem dX11_prove_63 : decode cX11_prove 63 = .ok (.ifCond .ne 80, 3) := by decide +kernel
theorem dX11_prove_66 : decode cX11_prove 66 = .ok (.aload_n 0, 1) := by decide +kernel
theorem dX11_prove_67 : decode cX11_prove 67 = .ok (.getfield 58, 3) := by decide +kernel
theorem dX11_prove_70 : decode cX11_prove 70 = .ok (.aload_n 0, 1) := by decide +kernel
theorem dX11_prove_71 : decode cX11_prove 71 = .ok (.getfield 10, 3) := by decide +kernel
theorem dX11_prove_74 : decode cX11_prove 74 = .ok (.getfield 120, 3) := by decide +kernel
theorem dX11_prove_77 : decode cX11_prove 77 = .ok (.invokevirtual 151, 3) := by decide +kernel
theorem dX11_prove_80 : decode cX11_prove 80 = .ok (.aload_n 0, 1) := by decide +kernel
theorem dX11_prove_81 : decode cX11_prove 81 = .ok (.getfield 91, 3) := by decide +kernel
theorem dX11_prove_84 : decode cX11_prove 84 = .ok (.iconst 3, 1) := by decide +kernel
theorem dX11_prove_85 : decode cX11_prove 85 = .ok (.imul, 1) := by decide +kernel
theorem dX11_prove_86 : decode cX11_prove 86 = .ok (.istore_n 2, 1) := by decide +kernel
theorem dX11_prove_87 : decode cX11_prove 87 = .ok (.aload_n 0, 1) := by decide +kernel
theorem dX11_prove_88 : decode cX11_prove 88 = .ok (.getfield 52, 3) := by decide +kernel
theorem dX11_prove_91 : decode cX11_prove 91 = .ok (.iload_n 2, 1) := by decide +kernel
theorem dX11_prove_92 : decode cX11_prove 92 = .ok (.aload_n 0, 1) := by decide +kernel
theorem dX11_prove_93 : decode cX11_prove 93 = .ok (.getfield 58, 3) := by decide +kernel
theorem dX11_prove_96 : decode cX11_prove 96 = .ok (.getfield 159, 3) := by decide +kernel
theorem dX11_prove_99 : decode cX11_prove 99 = .ok (.iastore, 1) := by decide +kernel
theorem dX11_prove_100 : decode cX11_prove 100 = .ok (.aload_n 0, 1) := by decide +kernel
theorem dX11_prove_101 : decode cX11_prove 101 = .ok (.getfield 52, 3) := by decide +kernel
theorem dX11_prove_104 : decode cX11_prove 104 = .ok (.iload_n 2, 1) := by decide +kernel
theorem dX11_prove_105 : decode cX11_prove 105 = .ok (.iconst 1, 1) := by decide +kernel
theorem dX11_prove_106 : decode cX11_prove 106 = .ok (.iadd, 1) := by decide +kernel
theorem dX11_prove_107 : decode cX11_prove 107 = .ok (.aload_n 0, 1) := by decide +kernel
theorem dX11_prove_108 : decode cX11_prove 108 = .ok (.getfield 58, 3) := by decide +kernel
theorem dX11_prove_111 : decode cX11_prove 111 = .ok (.getfield 162, 3) := by decide +kernel
theorem dX11_prove_114 : decode cX11_prove 114 = .ok (.iastore, 1) := by decide +kernel
theorem dX11_prove_115 : decode cX11_prove 115 = .ok (.aload_n 0, 1) := by decide +kernel
theorem dX11_prove_116 : decode cX11_prove 116 = .ok (.getfield 52, 3) := by decide +kernel
theorem dX11_prove_119 : decode cX11_prove 119 = .ok (.iload_n 2, 1) := by decide +kernel
theorem dX11_prove_120 : decode cX11_prove 120 = .ok (.iconst 2, 1) := by decide +kernel
theorem dX11_prove_121 : decode cX11_prove 121 = .ok (.iadd, 1) := by decide +kernel
theorem dX11_prove_122 : decode cX11_prove 122 = .ok (.aload_n 0, 1) := by decide +kernel
theorem dX11_prove_123 : decode cX11_prove 123 = .ok (.getfield 58, 3) := by decide +kernel
theorem dX11_prove_126 : decode cX11_prove 126 = .ok (.getfield 165, 3) := by decide +kernel
theorem dX11_prove_129 : decode cX11_prove 129 = .ok (.iastore, 1) := by decide +kernel
theorem dX11_prove_130 : decode cX11_prove 130 = .ok (.aload_n 0, 1) := by decide +kernel
theorem dX11_prove_131 : decode cX11_prove 131 = .ok (.dup, 1) := by decide +kernel
theorem dX11_prove_132 : decode cX11_prove 132 = .ok (.getfield 91, 3) := by decide +kernel
theorem dX11_prove_135 : decode cX11_prove 135 = .ok (.iconst 1, 1) := by decide +kernel
theorem dX11_prove_136 : decode cX11_prove 136 = .ok (.iadd, 1) := by decide +kernel
theorem dX11_prove_137 : decode cX11_prove 137 = .ok (.putfield 91, 3) := by decide +kernel
theorem dX11_prove_140 : decode cX11_prove 140 = .ok (.goto (-92), 3) := by decide +kernel
theorem dX11_prove_143 : decode cX11_prove 143 = .ok (.aload_n 0, 1) := by decide +kernel
theorem dX11_prove_144 : decode cX11_prove 144 = .ok (.getfield 91, 3) := by decide +kernel
theorem dX11_prove_147 : decode cX11_prove 147 = .ok (.ireturn, 1) := by decide +kernel
theorem dX11_row_0 : decode cX11_row 0 = .ok (.aload_n 0, 1) := by decide +kernel
theorem dX11_row_1 : decode cX11_row 1 = .ok (.iload_n 1, 1) := by decide +kernel
theorem dX11_row_2 : decode cX11_row 2 = .ok (.iload_n 2, 1) := by decide +kernel
theorem dX11_row_3 : decode cX11_row 3 = .ok (.invokevirtual 253, 3) := by decide +kernel
theorem dX11_row_6 : decode cX11_row 6 = .ok (.ifCond .eq 16, 3) := by decide +kernel
theorem dX11_row_9 : decode cX11_row 9 = .ok (.aload_n 0, 1) := by decide +kernel
theorem dX11_row_10 : decode cX11_row 10 = .ok (.getfield 52, 3) := by decide +kernel
theorem dX11_row_13 : decode cX11_row 13 = .ok (.iload_n 1, 1) := by decide +kernel
theorem dX11_row_14 : decode cX11_row 14 = .ok (.iconst 3, 1) := by decide +kernel
theorem dX11_row_15 : decode cX11_row 15 = .ok (.imul, 1) := by decide +kernel
theorem dX11_row_16 : decode cX11_row 16 = .ok (.iload_n 2, 1) := by decide +kernel
theorem dX11_row_17 : decode cX11_row 17 = .ok (.iadd, 1) := by decide +kernel
theorem dX11_row_18 : decode cX11_row 18 = .ok (.iaload, 1) := by decide +kernel
theorem dX11_row_19 : decode cX11_row 19 = .ok (.goto 5, 3) := by decide +kernel
theorem dX11_row_22 : decode cX11_row 22 = .ok (.ldc 155, 2) := by decide +kernel
theorem dX11_row_24 : decode cX11_row 24 = .ok (.ireturn, 1) := by decide +kernel
theorem dX11_alterRow_0 : decode cX11_alterRow 0 = .ok (.aload_n 0, 1) := by decide +kernel
theorem dX11_alterRow_1 : decode cX11_alterRow 1 = .ok (.iload_n 1, 1) := by decide +kernel
theorem dX11_alterRow_2 : decode cX11_alterRow 2 = .ok (.iload_n 2, 1) := by decide +kernel
theorem dX11_alterRow_3 : decode cX11_alterRow 3 = .ok (.invokevirtual 253, 3) := by decide +kernel
theorem dX11_alterRow_6 : decode cX11_alterRow 6 = .ok (.ifCond .ne 6, 3) := by decide +kernel
theorem dX11_alterRow_9 : decode cX11_alterRow 9 = .ok (.ldc 155, 2) := by decide +kernel
theorem dX11_alterRow_11 : decode cX11_alterRow 11 = .ok (.ireturn, 1) := by decide +kernel
theorem dX11_alterRow_12 : decode cX11_alterRow 12 = .ok (.aload_n 0, 1) := by decide +kernel
theorem dX11_alterRow_13 : decode cX11_alterRow 13 = .ok (.getfield 52, 3) := by decide +kernel
theorem dX11_alterRow_16 : decode cX11_alterRow 16 = .ok (.iload_n 1, 1) := by decide +kernel
theorem dX11_alterRow_17 : decode cX11_alterRow 17 = .ok (.iconst 3, 1) := by decide +kernel
theorem dX11_alterRow_18 : decode cX11_alterRow 18 = .ok (.imul, 1) := by decide +kernel
theorem dX11_alterRow_19 : decode cX11_alterRow 19 = .ok (.iload_n 2, 1) := by decide +kernel
theorem dX11_alterRow_20 : decode cX11_alterRow 20 = .ok (.iadd, 1) := by decide +kernel
theorem dX11_alterRow_21 : decode cX11_alterRow 21 = .ok (.iaload, 1) := by decide +kernel
theorem dX11_alterRow_22 : decode cX11_alterRow 22 = .ok (.istore 4, 2) := by decide +kernel
theorem dX11_alterRow_24 : decode cX11_alterRow 24 = .ok (.aload_n 0, 1) := by decide +kernel
theorem dX11_alterRow_25 : decode cX11_alterRow 25 = .ok (.getfield 52, 3) := by decide +kernel
theorem dX11_alterRow_28 : decode cX11_alterRow 28 = .ok (.iload_n 1, 1) := by decide +kernel
theorem dX11_alterRow_29 : decode cX11_alterRow 29 = .ok (.iconst 3, 1) := by decide +kernel
theorem dX11_alterRow_30 : decode cX11_alterRow 30 = .ok (.imul, 1) := by decide +kernel
theorem dX11_alterRow_31 : decode cX11_alterRow 31 = .ok (.iload_n 2, 1) := by decide +kernel
theorem dX11_alterRow_32 : decode cX11_alterRow 32 = .ok (.iadd, 1) := by decide +kernel
theorem dX11_alterRow_33 : decode cX11_alterRow 33 = .ok (.iload_n 3, 1) := by decide +kernel
theorem dX11_alterRow_34 : decode cX11_alterRow 34 = .ok (.iastore, 1) := by decide +kernel
theorem dX11_alterRow_35 : decode cX11_alterRow 35 = .ok (.iload 4, 2) := by decide +kernel
theorem dX11_alterRow_37 : decode cX11_alterRow 37 = .ok (.ireturn, 1) := by decide +kernel
theorem dX11_judge_0 : decode cX11_judge 0 = .ok (.aload_n 0, 1) := by decide +kernel
theorem dX11_judge_1 : decode cX11_judge 1 = .ok (.getfield 10, 3) := by decide +kernel
theorem dX11_judge_4 : decode cX11_judge 4 = .ok (.getfield 133, 3) := by decide +kernel
theorem dX11_judge_7 : decode cX11_judge 7 = .ok (.getfield 136, 3) := by decide +kernel
theorem dX11_judge_10 : decode cX11_judge 10 = .ok (.ifnonnull 6, 3) := by decide +kernel
theorem dX11_judge_13 : decode cX11_judge 13 = .ok (.bipush (-4), 2) := by decide +kernel
theorem dX11_judge_15 : decode cX11_judge 15 = .ok (.ireturn, 1) := by decide +kernel
theorem dX11_judge_16 : decode cX11_judge 16 = .ok (.aload_n 0, 1) := by decide +kernel
theorem dX11_judge_17 : decode cX11_judge 17 = .ok (.getfield 58, 3) := by decide +kernel
theorem dX11_judge_20 : decode cX11_judge 20 = .ok (.aload_n 0, 1) := by decide +kernel
theorem dX11_judge_21 : decode cX11_judge 21 = .ok (.getfield 10, 3) := by decide +kernel
theorem dX11_judge_24 : decode cX11_judge 24 = .ok (.getfield 133, 3) := by decide +kernel
theorem dX11_judge_27 : decode cX11_judge 27 = .ok (.invokevirtual 250, 3) := by decide +kernel
theorem dX11_judge_30 : decode cX11_judge 30 = .ok (.iconst 0, 1) := by decide +kernel
theorem dX11_judge_31 : decode cX11_judge 31 = .ok (.istore_n 1, 1) := by decide +kernel
theorem dX11_judge_32 : decode cX11_judge 32 = .ok (.iload_n 1, 1) := by decide +kernel
theorem dX11_judge_33 : decode cX11_judge 33 = .ok (.aload_n 0, 1) := by decide +kernel
theorem dX11_judge_34 : decode cX11_judge 34 = .ok (.getfield 91, 3) := by decide +kernel
theorem dX11_judge_37 : decode cX11_judge 37 = .ok (.if_icmp .ge 97, 3) := by decide +kernel
theorem dX11_judge_40 : decode cX11_judge 40 = .ok (.aload_n 0, 1) := by decide +kernel
theorem dX11_judge_41 : decode cX11_judge 41 = .ok (.getfield 58, 3) := by decide +kernel
theorem dX11_judge_44 : decode cX11_judge 44 = .ok (.invokevirtual 147, 3) := by decide +kernel
theorem dX11_judge_47 : decode cX11_judge 47 = .ok (.ifCond .eq 7, 3) := by decide +kernel
theorem dX11_judge_50 : decode cX11_judge 50 = .ok (.iload_n 1, 1) := by decide +kernel
theorem dX11_judge_51 : decode cX11_judge 51 = .ok (.iconst 1, 1) := by decide +kernel
theorem dX11_judge_52 : decode cX11_judge 52 = .ok (.iadd, 1) := by decide +kernel
theorem dX11_judge_53 : decode cX11_judge 53 = .ok (.ireturn, 1) := by decide +kernel
theorem dX11_judge_54 : decode cX11_judge 54 = .ok (.aload_n 0, 1) := by decide +kernel
theorem dX11_judge_55 : decode cX11_judge 55 = .ok (.getfield 58, 3) := by decide +kernel
theorem dX11_judge_58 : decode cX11_judge 58 = .ok (.aload_n 0, 1) := by decide +kernel
theorem dX11_judge_59 : decode cX11_judge 59 = .ok (.getfield 10, 3) := by decide +kernel
theorem dX11_judge_62 : decode cX11_judge 62 = .ok (.getfield 120, 3) := by decide +kernel
theorem dX11_judge_65 : decode cX11_judge 65 = .ok (.invokevirtual 151, 3) := by decide +kernel
theorem dX11_judge_68 : decode cX11_judge 68 = .ok (.iload_n 1, 1) := by decide +kernel
theorem dX11_judge_69 : decode cX11_judge 69 = .ok (.iconst 3, 1) := by decide +kernel
theorem dX11_judge_70 : decode cX11_judge 70 = .ok (.imul, 1) := by decide +kernel
theorem dX11_judge_71 : decode cX11_judge 71 = .ok (.istore_n 2, 1) := by decide +kernel
theorem dX11_judge_72 : decode cX11_judge 72 = .ok (.aload_n 0, 1) := by decide +kernel
theorem dX11_judge_73 : decode cX11_judge 73 = .ok (.getfield 52, 3) := by decide +kernel
theorem dX11_judge_76 : decode cX11_judge 76 = .ok (.iload_n 2, 1) := by decide +kernel
theorem dX11_judge_77 : decode cX11_judge 77 = .ok (.iaload, 1) := by decide +kernel
theorem dX11_judge_78 : decode cX11_judge 78 = .ok (.aload_n 0, 1) := by decide +kernel
theorem dX11_judge_79 : decode cX11_judge 79 = .ok (.getfield 58, 3) := by decide +kernel
theorem dX11_judge_82 : decode cX11_judge 82 = .ok (.getfield 159, 3) := by decide +kernel
theorem dX11_judge_85 : decode cX11_judge 85 = .ok (.if_icmp .ne 39, 3) := by decide +kernel
theorem dX11_judge_88 : decode cX11_judge 88 = .ok (.aload_n 0, 1) := by decide +kernel
theorem dX11_judge_89 : decode cX11_judge 89 = .ok (.getfield 52, 3) := by decide +kernel
theorem dX11_judge_92 : decode cX11_judge 92 = .ok (.iload_n 2, 1) := by decide +kernel
theorem dX11_judge_93 : decode cX11_judge 93 = .ok (.iconst 1, 1) := by decide +kernel
theorem dX11_judge_94 : decode cX11_judge 94 = .ok (.iadd, 1) := by decide +kernel
theorem dX11_judge_95 : decode cX11_judge 95 = .ok (.iaload, 1) := by decide +kernel
theorem dX11_judge_96 : decode cX11_judge 96 = .ok (.aload_n 0, 1) := by decide +kernel
theorem dX11_judge_97 : decode cX11_judge 97 = .ok (.getfield 58, 3) := by decide +kernel
theorem dX11_judge_100 : decode cX11_judge 100 = .ok (.getfield 162, 3) := by decide +kernel
theorem dX11_judge_103 : decode cX11_judge 103 = .ok (.if_icmp .ne 21, 3) := by decide +kernel
theorem dX11_judge_106 : decode cX11_judge 106 = .ok (.aload_n 0, 1) := by decide +kernel
theorem dX11_judge_107 : decode cX11_judge 107 = .ok (.getfield 52, 3) := by decide +kernel
theorem dX11_judge_110 : decode cX11_judge 110 = .ok (.iload_n 2, 1) := by decide +kernel
theorem dX11_judge_111 : decode cX11_judge 111 = .ok (.iconst 2, 1) := by decide +kernel
theorem dX11_judge_112 : decode cX11_judge 112 = .ok (.iadd, 1) := by decide +kernel
theorem dX11_judge_113 : decode cX11_judge 113 = .ok (.iaload, 1) := by decide +kernel
theorem dX11_judge_114 : decode cX11_judge 114 = .ok (.aload_n 0, 1) := by decide +kernel
theorem dX11_judge_115 : decode cX11_judge 115 = .ok (.getfield 58, 3) := by decide +kernel
theorem dX11_judge_118 : decode cX11_judge 118 = .ok (.getfield 165, 3) := by decide +kernel
theorem dX11_judge_121 : decode cX11_judge 121 = .ok (.if_icmp .eq 7, 3) := by decide +kernel
theorem dX11_judge_124 : decode cX11_judge 124 = .ok (.iload_n 1, 1) := by decide +kernel
theorem dX11_judge_125 : decode cX11_judge 125 = .ok (.iconst 1, 1) := by decide +kernel
theorem dX11_judge_126 : decode cX11_judge 126 = .ok (.iadd, 1) := by decide +kernel
theorem dX11_judge_127 : decode cX11_judge 127 = .ok (.ireturn, 1) := by decide +kernel
theorem dX11_judge_128 : decode cX11_judge 128 = .ok (.iinc 1 1, 3) := by decide +kernel
theorem dX11_judge_131 : decode cX11_judge 131 = .ok (.goto (-99), 3) := by decide +kernel
theorem dX11_judge_134 : decode cX11_judge 134 = .ok (.iconst 0, 1) := by decide +kernel
theorem dX11_judge_135 : decode cX11_judge 135 = .ok (.ireturn, 1) := by decide +kernel
theorem dX11_sheet_0 : decode cX11_sheet 0 = .ok (.aload_n 0, 1) := by decide +kernel
theorem dX11_sheet_1 : decode cX11_sheet 1 = .ok (.iload_n 1, 1) := by decide +kernel
theorem dX11_sheet_2 : decode cX11_sheet 2 = .ok (.invokevirtual 224, 3) := by decide +kernel
theorem dX11_sheet_5 : decode cX11_sheet 5 = .ok (.astore 4, 2) := by decide +kernel
theorem dX11_sheet_7 : decode cX11_sheet 7 = .ok (.aload 4, 2) := by decide +kernel
theorem dX11_sheet_9 : decode cX11_sheet 9 = .ok (.ifnull 13, 3) := by decide +kernel
theorem dX11_sheet_12 : decode cX11_sheet 12 = .ok (.iload_n 2, 1) := by decide +kernel
theorem dX11_sheet_13 : decode cX11_sheet 13 = .ok (.iconst (-1), 1) := by decide +kernel
theorem dX11_sheet_14 : decode cX11_sheet 14 = .ok (.if_icmp .lt 8, 3) := by decide +kernel
theorem dX11_sheet_17 : decode cX11_sheet 17 = .ok (.iload_n 2, 1) := by decide +kernel
theorem dX11_sheet_18 : decode cX11_sheet 18 = .ok (.iconst 4, 1) := by decide +kernel
theorem dX11_sheet_19 : decode cX11_sheet 19 = .ok (.if_icmp .lt 5, 3) := by decide +kernel
theorem dX11_sheet_22 : decode cX11_sheet 22 = .ok (.iconst (-1), 1) := by decide +kernel
theorem dX11_sheet_23 : decode cX11_sheet 23 = .ok (.ireturn, 1) := by decide +kernel
theorem dX11_sheet_24 : decode cX11_sheet 24 = .ok (.iload_n 2, 1) := by decide +kernel
theorem dX11_sheet_25 : decode cX11_sheet 25 = .ok (.iconst (-1), 1) := by decide +kernel
theorem dX11_sheet_26 : decode cX11_sheet 26 = .ok (.if_icmp .ne 12, 3) := by decide +kernel
theorem dX11_sheet_29 : decode cX11_sheet 29 = .ok (.aload 4, 2) := by decide +kernel
theorem dX11_sheet_31 : decode cX11_sheet 31 = .ok (.iconst (-1), 1) := by decide +kernel
theorem dX11_sheet_32 : decode cX11_sheet 32 = .ok (.iconst 0, 1) := by decide +kernel
theorem dX11_sheet_33 : decode cX11_sheet 33 = .ok (.invokevirtual 257, 3) := by decide +kernel
theorem dX11_sheet_36 : decode cX11_sheet 36 = .ok (.iconst 1, 1) := by decide +kernel
theorem dX11_sheet_37 : decode cX11_sheet 37 = .ok (.ireturn, 1) := by decide +kernel
theorem dX11_sheet_38 : decode cX11_sheet 38 = .ok (.iload_n 3, 1) := by decide +kernel
theorem dX11_sheet_39 : decode cX11_sheet 39 = .ok (.bipush 40, 2) := by decide +kernel
theorem dX11_sheet_41 : decode cX11_sheet 41 = .ok (.if_icmp .le 5, 3) := by decide +kernel
theorem dX11_sheet_44 : decode cX11_sheet 44 = .ok (.iconst (-1), 1) := by decide +kernel
theorem dX11_sheet_45 : decode cX11_sheet 45 = .ok (.ireturn, 1) := by decide +kernel
theorem dX11_sheet_46 : decode cX11_sheet 46 = .ok (.iload_n 3, 1) := by decide +kernel
theorem dX11_sheet_47 : decode cX11_sheet 47 = .ok (.ifCond .ge 6, 3) := by decide +kernel
theorem dX11_sheet_50 : decode cX11_sheet 50 = .ok (.bipush (-14), 2) := by decide +kernel
theorem dX11_sheet_52 : decode cX11_sheet 52 = .ok (.ireturn, 1) := by decide +kernel
theorem dX11_sheet_53 : decode cX11_sheet 53 = .ok (.aload 4, 2) := by decide +kernel
theorem dX11_sheet_55 : decode cX11_sheet 55 = .ok (.iload_n 2, 1) := by decide +kernel
theorem dX11_sheet_56 : decode cX11_sheet 56 = .ok (.iload_n 3, 1) := by decide +kernel
theorem dX11_sheet_57 : decode cX11_sheet 57 = .ok (.invokevirtual 257, 3) := by decide +kernel
theorem dX11_sheet_60 : decode cX11_sheet 60 = .ok (.iconst 1, 1) := by decide +kernel
theorem dX11_sheet_61 : decode cX11_sheet 61 = .ok (.ireturn, 1) := by decide +kernel
theorem dX11_put_0 : decode cX11_put 0 = .ok (.aload_n 0, 1) := by decide +kernel
theorem dX11_put_1 : decode cX11_put 1 = .ok (.iload_n 1, 1) := by decide +kernel
theorem dX11_put_2 : decode cX11_put 2 = .ok (.invokevirtual 224, 3) := by decide +kernel
theorem dX11_put_5 : decode cX11_put 5 = .ok (.astore 4, 2) := by decide +kernel
theorem dX11_put_7 : decode cX11_put 7 = .ok (.aload 4, 2) := by decide +kernel
theorem dX11_put_9 : decode cX11_put 9 = .ok (.ifnonnull 5, 3) := by decide +kernel
theorem dX11_put_12 : decode cX11_put 12 = .ok (.iconst (-1), 1) := by decide +kernel
theorem dX11_put_13 : decode cX11_put 13 = .ok (.ireturn, 1) := by decide +kernel
theorem dX11_put_14 : decode cX11_put 14 = .ok (.aload 4, 2) := by decide +kernel
theorem dX11_put_16 : decode cX11_put 16 = .ok (.getfield 261, 3) := by decide +kernel
theorem dX11_put_19 : decode cX11_put 19 = .ok (.iconst (-1), 1) := by decide +kernel
theorem dX11_put_20 : decode cX11_put 20 = .ok (.if_icmp .ne 6, 3) := by decide +kernel
theorem dX11_put_23 : decode cX11_put 23 = .ok (.bipush (-11), 2) := by decide +kernel
theorem dX11_put_25 : decode cX11_put 25 = .ok (.ireturn, 1) := by decide +kernel
theorem dX11_put_26 : decode cX11_put 26 = .ok (.iload_n 2, 1) := by decide +kernel
theorem dX11_put_27 : decode cX11_put 27 = .ok (.ifCond .lt 12, 3) := by decide +kernel
theorem dX11_put_30 : decode cX11_put 30 = .ok (.iload_n 2, 1) := by decide +kernel
theorem dX11_put_31 : decode cX11_put 31 = .ok (.aload 4, 2) := by decide +kernel
theorem dX11_put_33 : decode cX11_put 33 = .ok (.getfield 263, 3) := by decide +kernel
theorem dX11_put_36 : decode cX11_put 36 = .ok (.if_icmp .lt 6, 3) := by decide +kernel
theorem dX11_put_39 : decode cX11_put 39 = .ok (.bipush (-12), 2) := by decide +kernel
theorem dX11_put_41 : decode cX11_put 41 = .ok (.ireturn, 1) := by decide +kernel
theorem dX11_put_42 : decode cX11_put 42 = .ok (.aload 4, 2) := by decide +kernel
theorem dX11_put_44 : decode cX11_put 44 = .ok (.getfield 264, 3) := by decide +kernel
theorem dX11_put_47 : decode cX11_put 47 = .ok (.iload_n 2, 1) := by decide +kernel
theorem dX11_put_48 : decode cX11_put 48 = .ok (.aload 4, 2) := by decide +kernel
theorem dX11_put_50 : decode cX11_put 50 = .ok (.iload_n 3, 1) := by decide +kernel
theorem dX11_put_51 : decode cX11_put 51 = .ok (.invokevirtual 268, 3) := by decide +kernel
theorem dX11_put_54 : decode cX11_put 54 = .ok (.lastore, 1) := by decide +kernel
theorem dX11_put_55 : decode cX11_put 55 = .ok (.iconst 1, 1) := by decide +kernel
theorem dX11_put_56 : decode cX11_put 56 = .ok (.ireturn, 1) := by decide +kernel
theorem dX11_item_0 : decode cX11_item 0 = .ok (.aload_n 0, 1) := by decide +kernel
theorem dX11_item_1 : decode cX11_item 1 = .ok (.iload_n 1, 1) := by decide +kernel
theorem dX11_item_2 : decode cX11_item 2 = .ok (.invokevirtual 224, 3) := by decide +kernel
theorem dX11_item_5 : decode cX11_item 5 = .ok (.astore 4, 2) := by decide +kernel
theorem dX11_item_7 : decode cX11_item 7 = .ok (.aload 4, 2) := by decide +kernel
theorem dX11_item_9 : decode cX11_item 9 = .ok (.ifnull 12, 3) := by decide +kernel
theorem dX11_item_12 : decode cX11_item 12 = .ok (.iload_n 2, 1) := by decide +kernel
theorem dX11_item_13 : decode cX11_item 13 = .ok (.ifCond .lt 8, 3) := by decide +kernel
theorem dX11_item_16 : decode cX11_item 16 = .ok (.iload_n 2, 1) := by decide +kernel
theorem dX11_item_17 : decode cX11_item 17 = .ok (.iconst 4, 1) := by decide +kernel
theorem dX11_item_18 : decode cX11_item 18 = .ok (.if_icmp .lt 5, 3) := by decide +kernel
theorem dX11_item_21 : decode cX11_item 21 = .ok (.iconst (-1), 1) := by decide +kernel
theorem dX11_item_22 : decode cX11_item 22 = .ok (.ireturn, 1) := by decide +kernel
theorem dX11_item_23 : decode cX11_item 23 = .ok (.aload 4, 2) := by decide +kernel
theorem dX11_item_25 : decode cX11_item 25 = .ok (.getfield 261, 3) := by decide +kernel
theorem dX11_item_28 : decode cX11_item 28 = .ok (.iconst (-1), 1) := by decide +kernel
theorem dX11_item_29 : decode cX11_item 29 = .ok (.if_icmp .ne 6, 3) := by decide +kernel
theorem dX11_item_32 : decode cX11_item 32 = .ok (.bipush (-11), 2) := by decide +kernel
theorem dX11_item_34 : decode cX11_item 34 = .ok (.ireturn, 1) := by decide +kernel
theorem dX11_item_35 : decode cX11_item 35 = .ok (.aload 4, 2) := by decide +kernel
theorem dX11_item_37 : decode cX11_item 37 = .ok (.getfield 261, 3) := by decide +kernel
theorem dX11_item_40 : decode cX11_item 40 = .ok (.iload_n 2, 1) := by decide +kernel
theorem dX11_item_41 : decode cX11_item 41 = .ok (.if_icmp .eq 6, 3) := by decide +kernel
theorem dX11_item_44 : decode cX11_item 44 = .ok (.bipush (-13), 2) := by decide +kernel
theorem dX11_item_46 : decode cX11_item 46 = .ok (.ireturn, 1) := by decide +kernel
theorem dX11_item_47 : decode cX11_item 47 = .ok (.iload_n 3, 1) := by decide +kernel
theorem dX11_item_48 : decode cX11_item 48 = .ok (.ifCond .lt 12, 3) := by decide +kernel
theorem dX11_item_51 : decode cX11_item 51 = .ok (.iload_n 3, 1) := by decide +kernel
theorem dX11_item_52 : decode cX11_item 52 = .ok (.aload 4, 2) := by decide +kernel
theorem dX11_item_54 : decode cX11_item 54 = .ok (.getfield 263, 3) := by decide +kernel
theorem dX11_item_57 : decode cX11_item 57 = .ok (.if_icmp .lt 8, 3) := by decide +kernel
theorem dX11_item_60 : decode cX11_item 60 = .ok (.bipush (-12), 2) := by decide +kernel
theorem dX11_item_62 : decode cX11_item 62 = .ok (.goto 11, 3) := by decide +kernel
theorem dX11_item_65 : decode cX11_item 65 = .ok (.aload 4, 2) := by decide +kernel
theorem dX11_item_67 : decode cX11_item 67 = .ok (.getfield 264, 3) := by decide +kernel
theorem dX11_item_70 : decode cX11_item 70 = .ok (.iload_n 3, 1) := by decide +kernel
theorem dX11_item_71 : decode cX11_item 71 = .ok (.laload, 1) := by decide +kernel
theorem dX11_item_72 : decode cX11_item 72 = .ok (.l2i, 1) := by decide +kernel
theorem dX11_item_73 : decode cX11_item 73 = .ok (.ireturn, 1) := by decide +kernel
theorem dX11_shelf_0 : decode cX11_shelf 0 = .ok (.iload_n 1, 1) := by decide +kernel
theorem dX11_shelf_1 : decode cX11_shelf 1 = .ok (.invokestatic 272, 3) := by decide +kernel
theorem dX11_shelf_4 : decode cX11_shelf 4 = .ok (.ifCond .ne 5, 3) := by decide +kernel
theorem dX11_shelf_7 : decode cX11_shelf 7 = .ok (.iconst (-1), 1) := by decide +kernel
theorem dX11_shelf_8 : decode cX11_shelf 8 = .ok (.ireturn, 1) := by decide +kernel
theorem dX11_shelf_9 : decode cX11_shelf 9 = .ok (.iload_n 2, 1) := by decide +kernel
theorem dX11_shelf_10 : decode cX11_shelf 10 = .ok (.tableswitch 70 0 2 #[26, 50, 61], 26) := by decide +kernel
theorem dX11_shelf_36 : decode cX11_shelf 36 = .ok (.aload_n 0, 1) := by decide +kernel
theorem dX11_shelf_37 : decode cX11_shelf 37 = .ok (.getfield 10, 3) := by decide +kernel
theorem dX11_shelf_40 : decode cX11_shelf 40 = .ok (.iload_n 3, 1) := by decide +kernel
theorem dX11_shelf_41 : decode cX11_shelf 41 = .ok (.invokevirtual 101, 3) := by decide +kernel
theorem dX11_shelf_44 : decode cX11_shelf 44 = .ok (.ifnonnull 7, 3) := by decide +kernel
theorem dX11_shelf_47 : decode cX11_shelf 47 = .ok (.iconst (-1), 1) := by decide +kernel
theorem dX11_shelf_48 : decode cX11_shelf 48 = .ok (.goto 11, 3) := by decide +kernel
theorem dX11_shelf_51 : decode cX11_shelf 51 = .ok (.aload_n 0, 1) := by decide +kernel
theorem dX11_shelf_52 : decode cX11_shelf 52 = .ok (.iload_n 1, 1) := by decide +kernel
theorem dX11_shelf_53 : decode cX11_shelf 53 = .ok (.iconst 1, 1) := by decide +kernel
theorem dX11_shelf_54 : decode cX11_shelf 54 = .ok (.iload_n 3, 1) := by decide +kernel
theorem dX11_shelf_55 : decode cX11_shelf 55 = .ok (.iconst 0, 1) := by decide +kernel
theorem dX11_shelf_56 : decode cX11_shelf 56 = .ok (.invokevirtual 275, 3) := by decide +kernel
theorem dX11_shelf_59 : decode cX11_shelf 59 = .ok (.ireturn, 1) := by decide +kernel
theorem dX11_shelf_60 : decode cX11_shelf 60 = .ok (.aload_n 0, 1) := by decide +kernel
theorem dX11_shelf_61 : decode cX11_shelf 61 = .ok (.iload_n 1, 1) := by decide +kernel
theorem dX11_shelf_62 : decode cX11_shelf 62 = .ok (.aload_n 0, 1) := by decide +kernel
theorem dX11_shelf_63 : decode cX11_shelf 63 = .ok (.iload_n 3, 1) := by decide +kernel
theorem dX11_shelf_64 : decode cX11_shelf 64 = .ok (.invokevirtual 224, 3) := by decide +kernel
theorem dX11_shelf_67 : decode cX11_shelf 67 = .ok (.invokevirtual 278, 3) := by decide +kernel
theorem dX11_shelf_70 : decode cX11_shelf 70 = .ok (.ireturn, 1) := by decide +kernel
theorem dX11_shelf_71 : decode cX11_shelf 71 = .ok (.aload_n 0, 1) := by decide +kernel
theorem dX11_shelf_72 : decode cX11_shelf 72 = .ok (.iload_n 1, 1) := by decide +kernel
theorem dX11_shelf_73 : decode cX11_shelf 73 = .ok (.iconst 0, 1) := by decide +kernel
theorem dX11_shelf_74 : decode cX11_shelf 74 = .ok (.iconst 0, 1) := by decide +kernel
theorem dX11_shelf_75 : decode cX11_shelf 75 = .ok (.iconst 0, 1) := by decide +kernel
theorem dX11_shelf_76 : decode cX11_shelf 76 = .ok (.invokevirtual 275, 3) := by decide +kernel
theorem dX11_shelf_79 : decode cX11_shelf 79 = .ok (.ireturn, 1) := by decide +kernel
theorem dX11_shelf_80 : decode cX11_shelf 80 = .ok (.iconst (-1), 1) := by decide +kernel
theorem dX11_shelf_81 : decode cX11_shelf 81 = .ok (.ireturn, 1) := by decide +kernel
theorem dX11_taken_0 : decode cX11_taken 0 = .ok (.iload_n 2, 1) := by decide +kernel
theorem dX11_taken_1 : decode cX11_taken 1 = .ok (.ifCond .lt 12, 3) := by decide +kernel
theorem dX11_taken_4 : decode cX11_taken 4 = .ok (.iload_n 2, 1) := by decide +kernel
theorem dX11_taken_5 : decode cX11_taken 5 = .ok (.iconst 5, 1) := by decide +kernel
theorem dX11_taken_6 : decode cX11_taken 6 = .ok (.if_icmp .gt 7, 3) := by decide +kernel
theorem dX11_taken_9 : decode cX11_taken 9 = .ok (.iconst 1, 1) := by decide +kernel
theorem dX11_taken_10 : decode cX11_taken 10 = .ok (.goto 4, 3) := by decide +kernel
theorem dX11_taken_13 : decode cX11_taken 13 = .ok (.iconst 0, 1) := by decide +kernel
theorem dX11_taken_14 : decode cX11_taken 14 = .ok (.istore_n 3, 1) := by decide +kernel
theorem dX11_taken_15 : decode cX11_taken 15 = .ok (.iload_n 2, 1) := by decide +kernel
theorem dX11_taken_16 : decode cX11_taken 16 = .ok (.bipush 10, 2) := by decide +kernel
theorem dX11_taken_18 : decode cX11_taken 18 = .ok (.if_icmp .lt 13, 3) := by decide +kernel
theorem dX11_taken_21 : decode cX11_taken 21 = .ok (.iload_n 2, 1) := by decide +kernel
theorem dX11_taken_22 : decode cX11_taken 22 = .ok (.bipush 13, 2) := by decide +kernel
theorem dX11_taken_24 : decode cX11_taken 24 = .ok (.if_icmp .gt 7, 3) := by decide +kernel
theorem dX11_taken_27 : decode cX11_taken 27 = .ok (.iconst 1, 1) := by decide +kernel
theorem dX11_taken_28 : decode cX11_taken 28 = .ok (.goto 4, 3) := by decide +kernel
theorem dX11_taken_31 : decode cX11_taken 31 = .ok (.iconst 0, 1) := by decide +kernel
theorem dX11_taken_32 : decode cX11_taken 32 = .ok (.istore 4, 2) := by decide +kernel
theorem dX11_taken_34 : decode cX11_taken 34 = .ok (.iload_n 1, 1) := by decide +kernel
theorem dX11_taken_35 : decode cX11_taken 35 = .ok (.invokestatic 272, 3) := by decide +kernel
theorem dX11_taken_38 : decode cX11_taken 38 = .ok (.ifCond .eq 12, 3) := by decide +kernel
theorem dX11_taken_41 : decode cX11_taken 41 = .ok (.iload_n 3, 1) := by decide +kernel
theorem dX11_taken_42 : decode cX11_taken 42 = .ok (.ifCond .ne 10, 3) := by decide +kernel
theorem dX11_taken_45 : decode cX11_taken 45 = .ok (.iload 4, 2) := by decide +kernel
theorem dX11_taken_47 : decode cX11_taken 47 = .ok (.ifCond .ne 5, 3) := by decide +kernel
theorem dX11_taken_50 : decode cX11_taken 50 = .ok (.iconst (-1), 1) := by decide +kernel
theorem dX11_taken_51 : decode cX11_taken 51 = .ok (.ireturn, 1) := by decide +kernel
theorem dX11_taken_52 : decode cX11_taken 52 = .ok (.aload_n 0, 1) := by decide +kernel
theorem dX11_taken_53 : decode cX11_taken 53 = .ok (.getfield 42, 3) := by decide +kernel
theorem dX11_taken_56 : decode cX11_taken 56 = .ok (.iload_n 1, 1) := by decide +kernel
theorem dX11_taken_57 : decode cX11_taken 57 = .ok (.iaload, 1) := by decide +kernel
theorem dX11_taken_58 : decode cX11_taken 58 = .ok (.iconst 2, 1) := by decide +kernel
theorem dX11_taken_59 : decode cX11_taken 59 = .ok (.if_icmp .ne 28, 3) := by decide +kernel
theorem dX11_taken_62 : decode cX11_taken 62 = .ok (.aload_n 0, 1) := by decide +kernel
theorem dX11_taken_63 : decode cX11_taken 63 = .ok (.getfield 46, 3) := by decide +kernel
theorem dX11_taken_66 : decode cX11_taken 66 = .ok (.iload_n 1, 1) := by decide +kernel
theorem dX11_taken_67 : decode cX11_taken 67 = .ok (.iaload, 1) := by decide +kernel
theorem dX11_taken_68 : decode cX11_taken 68 = .ok (.iload_n 2, 1) := by decide +kernel
theorem dX11_taken_69 : decode cX11_taken 69 = .ok (.bipush 10, 2) := by decide +kernel
theorem dX11_taken_71 : decode cX11_taken 71 = .ok (.isub, 1) := by decide +kernel
theorem dX11_taken_72 : decode cX11_taken 72 = .ok (.if_icmp .ne 12, 3) := by decide +kernel
theorem dX11_taken_75 : decode cX11_taken 75 = .ok (.aload_n 0, 1) := by decide +kernel
theorem dX11_taken_76 : decode cX11_taken 76 = .ok (.getfield 49, 3) := by decide +kernel
theorem dX11_taken_79 : decode cX11_taken 79 = .ok (.iload_n 1, 1) := by decide +kernel
theorem dX11_taken_80 : decode cX11_taken 80 = .ok (.iaload, 1) := by decide +kernel
theorem dX11_taken_81 : decode cX11_taken 81 = .ok (.goto 5, 3) := by decide +kernel
theorem dX11_taken_84 : decode cX11_taken 84 = .ok (.bipush (-13), 2) := by decide +kernel
theorem dX11_taken_86 : decode cX11_taken 86 = .ok (.ireturn, 1) := by decide +kernel
theorem dX11_taken_87 : decode cX11_taken 87 = .ok (.aload_n 0, 1) := by decide +kernel
theorem dX11_taken_88 : decode cX11_taken 88 = .ok (.iload_n 1, 1) := by decide +kernel
theorem dX11_taken_89 : decode cX11_taken 89 = .ok (.invokevirtual 282, 3) := by decide +kernel
theorem dX11_taken_92 : decode cX11_taken 92 = .ok (.astore 5, 2) := by decide +kernel
theorem dX11_taken_94 : decode cX11_taken 94 = .ok (.aload 5, 2) := by decide +kernel
theorem dX11_taken_96 : decode cX11_taken 96 = .ok (.ifnonnull 6, 3) := by decide +kernel
theorem dX11_taken_99 : decode cX11_taken 99 = .ok (.bipush (-11), 2) := by decide +kernel
theorem dX11_taken_101 : decode cX11_taken 101 = .ok (.ireturn, 1) := by decide +kernel
theorem dX11_taken_102 : decode cX11_taken 102 = .ok (.iload_n 3, 1) := by decide +kernel
theorem dX11_taken_103 : decode cX11_taken 103 = .ok (.ifCond .eq 20, 3) := by decide +kernel
theorem dX11_taken_106 : decode cX11_taken 106 = .ok (.aload 5, 2) := by decide +kernel
theorem dX11_taken_108 : decode cX11_taken 108 = .ok (.iload_n 2, 1) := by decide +kernel
theorem dX11_taken_109 : decode cX11_taken 109 = .ok (.invokestatic 285, 3) := by decide +kernel
theorem dX11_taken_112 : decode cX11_taken 112 = .ok (.ifCond .eq 11, 3) := by decide +kernel
theorem dX11_taken_115 : decode cX11_taken 115 = .ok (.aload 5, 2) := by decide +kernel
theorem dX11_taken_117 : decode cX11_taken 117 = .ok (.getfield 140, 3) := by decide +kernel
theorem dX11_taken_120 : decode cX11_taken 120 = .ok (.goto 5, 3) := by decide +kernel
theorem dX11_taken_123 : decode cX11_taken 123 = .ok (.bipush (-13), 2) := by decide +kernel
theorem dX11_taken_125 : decode cX11_taken 125 = .ok (.ireturn, 1) := by decide +kernel
theorem dX11_act_0 : decode cX11_act 0 = .ok (.aload_n 0, 1) := by decide +kernel
theorem dX11_act_1 : decode cX11_act 1 = .ok (.getfield 32, 3) := by decide +kernel
theorem dX11_act_4 : decode cX11_act 4 = .ok (.invokevirtual 289, 3) := by decide +kernel
theorem dX11_act_7 : decode cX11_act 7 = .ok (.aload_n 0, 1) := by decide +kernel
theorem dX11_act_8 : decode cX11_act 8 = .ok (.iload_n 1, 1) := by decide +kernel
theorem dX11_act_9 : decode cX11_act 9 = .ok (.invokevirtual 282, 3) := by decide +kernel
theorem dX11_act_12 : decode cX11_act 12 = .ok (.astore 4, 2) := by decide +kernel
theorem dX11_act_14 : decode cX11_act 14 = .ok (.aload 4, 2) := by decide +kernel
theorem dX11_act_16 : decode cX11_act 16 = .ok (.ifnull 12, 3) := by decide +kernel
theorem dX11_act_19 : decode cX11_act 19 = .ok (.iload_n 2, 1) := by decide +kernel
theorem dX11_act_20 : decode cX11_act 20 = .ok (.ifCond .lt 8, 3) := by decide +kernel
theorem dX11_act_23 : decode cX11_act 23 = .ok (.iload_n 2, 1) := by decide +kernel
theorem dX11_act_24 : decode cX11_act 24 = .ok (.iconst 3, 1) := by decide +kernel
theorem dX11_act_25 : decode cX11_act 25 = .ok (.if_icmp .le 5, 3) := by decide +kernel
theorem dX11_act_28 : decode cX11_act 28 = .ok (.iconst 0, 1) := by decide +kernel
theorem dX11_act_29 : decode cX11_act 29 = .ok (.ireturn, 1) := by decide +kernel
theorem dX11_act_30 : decode cX11_act 30 = .ok (.iload_n 2, 1) := by decide +kernel
theorem dX11_act_31 : decode cX11_act 31 = .ok (.tableswitch 70 0 2 #[25, 40, 55], 25) := by decide +kernel
theorem dX11_act_56 : decode cX11_act 56 = .ok (.aload 4, 2) := by decide +kernel
theorem dX11_act_58 : decode cX11_act 58 = .ok (.iload_n 3, 1) := by decide +kernel
theorem dX11_act_59 : decode cX11_act 59 = .ok (.aload_n 0, 1) := by decide +kernel
theorem dX11_act_60 : decode cX11_act 60 = .ok (.getfield 32, 3) := by decide +kernel
theorem dX11_act_63 : decode cX11_act 63 = .ok (.invokevirtual 292, 3) := by decide +kernel
theorem dX11_act_66 : decode cX11_act 66 = .ok (.istore 5, 2) := by decide +kernel
theorem dX11_act_68 : decode cX11_act 68 = .ok (.goto 45, 3) := by decide +kernel
theorem dX11_act_71 : decode cX11_act 71 = .ok (.aload 4, 2) := by decide +kernel
theorem dX11_act_73 : decode cX11_act 73 = .ok (.iload_n 3, 1) := by decide +kernel
theorem dX11_act_74 : decode cX11_act 74 = .ok (.aload_n 0, 1) := by decide +kernel
theorem dX11_act_75 : decode cX11_act 75 = .ok (.getfield 32, 3) := by decide +kernel
theorem dX11_act_78 : decode cX11_act 78 = .ok (.invokevirtual 296, 3) := by decide +kernel
theorem dX11_act_81 : decode cX11_act 81 = .ok (.istore 5, 2) := by decide +kernel
theorem dX11_act_83 : decode cX11_act 83 = .ok (.goto 30, 3) := by decide +kernel
theorem dX11_act_86 : decode cX11_act 86 = .ok (.aload 4, 2) := by decide +kernel
theorem dX11_act_88 : decode cX11_act 88 = .ok (.iload_n 3, 1) := by decide +kernel
theorem dX11_act_89 : decode cX11_act 89 = .ok (.aload_n 0, 1) := by decide +kernel
theorem dX11_act_90 : decode cX11_act 90 = .ok (.getfield 32, 3) := by decide +kernel
theorem dX11_act_93 : decode cX11_act 93 = .ok (.invokevirtual 299, 3) := by decide +kernel
theorem dX11_act_96 : decode cX11_act 96 = .ok (.istore 5, 2) := by decide +kernel
theorem dX11_act_98 : decode cX11_act 98 = .ok (.goto 15, 3) := by decide +kernel
theorem dX11_act_101 : decode cX11_act 101 = .ok (.aload 4, 2) := by decide +kernel
theorem dX11_act_103 : decode cX11_act 103 = .ok (.iload_n 3, 1) := by decide +kernel
theorem dX11_act_104 : decode cX11_act 104 = .ok (.aload_n 0, 1) := by decide +kernel
theorem dX11_act_105 : decode cX11_act 105 = .ok (.getfield 32, 3) := by decide +kernel
theorem dX11_act_108 : decode cX11_act 108 = .ok (.invokevirtual 302, 3) := by decide +kernel
theorem dX11_act_111 : decode cX11_act 111 = .ok (.istore 5, 2) := by decide +kernel
theorem dX11_act_113 : decode cX11_act 113 = .ok (.aload_n 0, 1) := by decide +kernel
theorem dX11_act_114 : decode cX11_act 114 = .ok (.getfield 32, 3) := by decide +kernel
theorem dX11_act_117 : decode cX11_act 117 = .ok (.getfield 305, 3) := by decide +kernel
theorem dX11_act_120 : decode cX11_act 120 = .ok (.ifCond .eq 8, 3) := by decide +kernel
theorem dX11_act_123 : decode cX11_act 123 = .ok (.bipush (-15), 2) := by decide +kernel
theorem dX11_act_125 : decode cX11_act 125 = .ok (.goto 5, 3) := by decide +kernel
theorem dX11_act_128 : decode cX11_act 128 = .ok (.iload 5, 2) := by decide +kernel
theorem dX11_act_130 : decode cX11_act 130 = .ok (.ireturn, 1) := by decide +kernel
theorem dX11_trace_0 : decode cX11_trace 0 = .ok (.iload_n 1, 1) := by decide +kernel
theorem dX11_trace_1 : decode cX11_trace 1 = .ok (.ifCond .lt 14, 3) := by decide +kernel
theorem dX11_trace_4 : decode cX11_trace 4 = .ok (.iload_n 1, 1) := by decide +kernel
theorem dX11_trace_5 : decode cX11_trace 5 = .ok (.aload_n 0, 1) := by decide +kernel
theorem dX11_trace_6 : decode cX11_trace 6 = .ok (.getfield 32, 3) := by decide +kernel
theorem dX11_trace_9 : decode cX11_trace 9 = .ok (.getfield 309, 3) := by decide +kernel
theorem dX11_trace_12 : decode cX11_trace 12 = .ok (.if_icmp .lt 8, 3) := by decide +kernel
theorem dX11_trace_15 : decode cX11_trace 15 = .ok (.bipush (-3), 2) := by decide +kernel
theorem dX11_trace_17 : decode cX11_trace 17 = .ok (.goto 12, 3) := by decide +kernel
theorem dX11_trace_20 : decode cX11_trace 20 = .ok (.aload_n 0, 1) := by decide +kernel
theorem dX11_trace_21 : decode cX11_trace 21 = .ok (.getfield 32, 3) := by decide +kernel
theorem dX11_trace_24 : decode cX11_trace 24 = .ok (.getfield 310, 3) := by decide +kernel
theorem dX11_trace_27 : decode cX11_trace 27 = .ok (.iload_n 1, 1) := by decide +kernel
theorem dX11_trace_28 : decode cX11_trace 28 = .ok (.iaload, 1) := by decide +kernel
theorem dX11_trace_29 : decode cX11_trace 29 = .ok (.ireturn, 1) := by decide +kernel
theorem dX11_many_0 : decode cX11_many 0 = .ok (.iload_n 1, 1) := by decide +kernel
theorem dX11_many_1 : decode cX11_many 1 = .ok (.tableswitch 72 0 4 #[35, 43, 48, 56, 64], 35) := by decide +kernel
theorem dX11_many_36 : decode cX11_many 36 = .ok (.aload_n 0, 1) := by decide +kernel
theorem dX11_many_37 : decode cX11_many 37 = .ok (.getfield 10, 3) := by decide +kernel
theorem dX11_many_40 : decode cX11_many 40 = .ok (.getfield 94, 3) := by decide +kernel
theorem dX11_many_43 : decode cX11_many 43 = .ok (.ireturn, 1) := by decide +kernel
theorem dX11_many_44 : decode cX11_many 44 = .ok (.aload_n 0, 1) := by decide +kernel
theorem dX11_many_45 : decode cX11_many 45 = .ok (.getfield 91, 3) := by decide +kernel
theorem dX11_many_48 : decode cX11_many 48 = .ok (.ireturn, 1) := by decide +kernel
theorem dX11_many_49 : decode cX11_many 49 = .ok (.aload_n 0, 1) := by decide +kernel
theorem dX11_many_50 : decode cX11_many 50 = .ok (.getfield 25, 3) := by decide +kernel
theorem dX11_many_53 : decode cX11_many 53 = .ok (.getfield 76, 3) := by decide +kernel
theorem dX11_many_56 : decode cX11_many 56 = .ok (.ireturn, 1) := by decide +kernel
theorem dX11_many_57 : decode cX11_many 57 = .ok (.aload_n 0, 1) := by decide +kernel
theorem dX11_many_58 : decode cX11_many 58 = .ok (.getfield 32, 3) := by decide +kernel
theorem dX11_many_61 : decode cX11_many 61 = .ok (.getfield 309, 3) := by decide +kernel
theorem dX11_many_64 : decode cX11_many 64 = .ok (.ireturn, 1) := by decide +kernel
theorem dX11_many_65 : decode cX11_many 65 = .ok (.aload_n 0, 1) := by decide +kernel
theorem dX11_many_66 : decode cX11_many 66 = .ok (.getfield 10, 3) := by decide +kernel
theorem dX11_many_69 : decode cX11_many 69 = .ok (.invokevirtual 126, 3) := by decide +kernel
theorem dX11_many_72 : decode cX11_many 72 = .ok (.ireturn, 1) := by decide +kernel
theorem dX11_many_73 : decode cX11_many 73 = .ok (.iconst (-1), 1) := by decide +kernel
theorem dX11_many_74 : decode cX11_many 74 = .ok (.ireturn, 1) := by decide +kernel
theorem dX11_keep_0 : decode cX11_keep 0 = .ok (.aload_n 0, 1) := by decide +kernel
theorem dX11_keep_1 : decode cX11_keep 1 = .ok (.getfield 16, 3) := by decide +kernel
theorem dX11_keep_4 : decode cX11_keep 4 = .ok (.aload_n 0, 1) := by decide +kernel
theorem dX11_keep_5 : decode cX11_keep 5 = .ok (.getfield 10, 3) := by decide +kernel
theorem dX11_keep_8 : decode cX11_keep 8 = .ok (.invokevirtual 80, 3) := by decide +kernel
theorem dX11_keep_11 : decode cX11_keep 11 = .ok (.aload_n 0, 1) := by decide +kernel
theorem dX11_keep_12 : decode cX11_keep 12 = .ok (.iconst 1, 1) := by decide +kernel
theorem dX11_keep_13 : decode cX11_keep 13 = .ok (.putfield 313, 3) := by decide +kernel
theorem dX11_keep_16 : decode cX11_keep 16 = .ok (.iconst 1, 1) := by decide +kernel
theorem dX11_keep_17 : decode cX11_keep 17 = .ok (.ireturn, 1) := by decide +kernel
theorem dX11_again_0 : decode cX11_again 0 = .ok (.aload_n 0, 1) := by decide +kernel
theorem dX11_again_1 : decode cX11_again 1 = .ok (.getfield 313, 3) := by decide +kernel
theorem dX11_again_4 : decode cX11_again 4 = .ok (.ifCond .ne 6, 3) := by decide +kernel
theorem dX11_again_7 : decode cX11_again 7 = .ok (.bipush (-3), 2) := by decide +kernel
theorem dX11_again_9 : decode cX11_again 9 = .ok (.ireturn, 1) := by decide +kernel
theorem dX11_again_10 : decode cX11_again 10 = .ok (.aload_n 0, 1) := by decide +kernel
theorem dX11_again_11 : decode cX11_again 11 = .ok (.getfield 10, 3) := by decide +kernel
theorem dX11_again_14 : decode cX11_again 14 = .ok (.aload_n 0, 1) := by decide +kernel
theorem dX11_again_15 : decode cX11_again 15 = .ok (.getfield 16, 3) := by decide +kernel
theorem dX11_again_18 : decode cX11_again 18 = .ok (.invokevirtual 80, 3) := by decide +kernel
theorem dX11_again_21 : decode cX11_again 21 = .ok (.aload_n 0, 1) := by decide +kernel
theorem dX11_again_22 : decode cX11_again 22 = .ok (.getfield 10, 3) := by decide +kernel
theorem dX11_again_25 : decode cX11_again 25 = .ok (.getfield 94, 3) := by decide +kernel
theorem dX11_again_28 : decode cX11_again 28 = .ok (.ireturn, 1) := by decide +kernel
theorem dX11_sineOf_0 : decode cX11_sineOf 0 = .ok (.iload_n 0, 1) := by decide +kernel
theorem dX11_sineOf_1 : decode cX11_sineOf 1 = .ok (.ifCond .lt 9, 3) := by decide +kernel
theorem dX11_sineOf_4 : decode cX11_sineOf 4 = .ok (.iload_n 0, 1) := by decide +kernel
theorem dX11_sineOf_5 : decode cX11_sineOf 5 = .ok (.bipush 36, 2) := by decide +kernel
theorem dX11_sineOf_7 : decode cX11_sineOf 7 = .ok (.if_icmp .lt 5, 3) := by decide +kernel
theorem dX11_sineOf_10 : decode cX11_sineOf 10 = .ok (.iconst 0, 1) := by decide +kernel
theorem dX11_sineOf_11 : decode cX11_sineOf 11 = .ok (.ireturn, 1) := by decide +kernel
theorem dX11_sineOf_12 : decode cX11_sineOf 12 = .ok (.iload_n 0, 1) := by decide +kernel
theorem dX11_sineOf_13 : decode cX11_sineOf 13 = .ok (.bipush 18, 2) := by decide +kernel
theorem dX11_sineOf_15 : decode cX11_sineOf 15 = .ok (.if_icmp .ge 7, 3) := by decide +kernel
theorem dX11_sineOf_18 : decode cX11_sineOf 18 = .ok (.iload_n 0, 1) := by decide +kernel
theorem dX11_sineOf_19 : decode cX11_sineOf 19 = .ok (.goto 7, 3) := by decide +kernel
theorem dX11_sineOf_22 : decode cX11_sineOf 22 = .ok (.iload_n 0, 1) := by decide +kernel
theorem dX11_sineOf_23 : decode cX11_sineOf 23 = .ok (.bipush 18, 2) := by decide +kernel
theorem dX11_sineOf_25 : decode cX11_sineOf 25 = .ok (.isub, 1) := by decide +kernel
theorem dX11_sineOf_26 : decode cX11_sineOf 26 = .ok (.istore_n 1, 1) := by decide +kernel
theorem dX11_sineOf_27 : decode cX11_sineOf 27 = .ok (.getstatic 316, 3) := by decide +kernel
theorem dX11_sineOf_30 : decode cX11_sineOf 30 = .ok (.iload_n 1, 1) := by decide +kernel
theorem dX11_sineOf_31 : decode cX11_sineOf 31 = .ok (.bipush 10, 2) := by decide +kernel
theorem dX11_sineOf_33 : decode cX11_sineOf 33 = .ok (.if_icmp .ge 7, 3) := by decide +kernel
theorem dX11_sineOf_36 : decode cX11_sineOf 36 = .ok (.iload_n 1, 1) := by decide +kernel
theorem dX11_sineOf_37 : decode cX11_sineOf 37 = .ok (.goto 7, 3) := by decide +kernel
theorem dX11_sineOf_40 : decode cX11_sineOf 40 = .ok (.bipush 18, 2) := by decide +kernel
theorem dX11_sineOf_42 : decode cX11_sineOf 42 = .ok (.iload_n 1, 1) := by decide +kernel
theorem dX11_sineOf_43 : decode cX11_sineOf 43 = .ok (.isub, 1) := by decide +kernel
theorem dX11_sineOf_44 : decode cX11_sineOf 44 = .ok (.iaload, 1) := by decide +kernel
theorem dX11_sineOf_45 : decode cX11_sineOf 45 = .ok (.istore_n 2, 1) := by decide +kernel
theorem dX11_sineOf_46 : decode cX11_sineOf 46 = .ok (.iload_n 0, 1) := by decide +kernel
theorem dX11_sineOf_47 : decode cX11_sineOf 47 = .ok (.bipush 18, 2) := by decide +kernel
theorem dX11_sineOf_49 : decode cX11_sineOf 49 = .ok (.if_icmp .ge 7, 3) := by decide +kernel
theorem dX11_sineOf_52 : decode cX11_sineOf 52 = .ok (.iload_n 2, 1) := by decide +kernel
theorem dX11_sineOf_53 : decode cX11_sineOf 53 = .ok (.goto 5, 3) := by decide +kernel
theorem dX11_sineOf_56 : decode cX11_sineOf 56 = .ok (.iload_n 2, 1) := by decide +kernel
theorem dX11_sineOf_57 : decode cX11_sineOf 57 = .ok (.ineg, 1) := by decide +kernel
theorem dX11_sineOf_58 : decode cX11_sineOf 58 = .ok (.ireturn, 1) := by decide +kernel
theorem dX11_heldTo_0 : decode cX11_heldTo 0 = .ok (.iload_n 1, 1) := by decide +kernel
theorem dX11_heldTo_1 : decode cX11_heldTo 1 = .ok (.ineg, 1) := by decide +kernel
theorem dX11_heldTo_2 : decode cX11_heldTo 2 = .ok (.iload_n 1, 1) := by decide +kernel
theorem dX11_heldTo_3 : decode cX11_heldTo 3 = .ok (.iload_n 0, 1) := by decide +kernel
theorem dX11_heldTo_4 : decode cX11_heldTo 4 = .ok (.invokestatic 319, 3) := by decide +kernel
theorem dX11_heldTo_7 : decode cX11_heldTo 7 = .ok (.invokestatic 322, 3) := by decide +kernel
theorem dX11_heldTo_10 : decode cX11_heldTo 10 = .ok (.ireturn, 1) := by decide +kernel
theorem dX11_commonDivisor_0 : decode cX11_commonDivisor 0 = .ok (.iload_n 0, 1) := by decide +kernel
theorem dX11_commonDivisor_1 : decode cX11_commonDivisor 1 = .ok (.istore_n 2, 1) := by decide +kernel
theorem dX11_commonDivisor_2 : decode cX11_commonDivisor 2 = .ok (.iload_n 1, 1) := by decide +kernel
theorem dX11_commonDivisor_3 : decode cX11_commonDivisor 3 = .ok (.istore_n 3, 1) := by decide +kernel
theorem dX11_commonDivisor_4 : decode cX11_commonDivisor 4 = .ok (.iconst 0, 1) := by decide +kernel
theorem dX11_commonDivisor_5 : decode cX11_commonDivisor 5 = .ok (.istore 4, 2) := by decide +kernel
theorem dX11_commonDivisor_7 : decode cX11_commonDivisor 7 = .ok (.iload 4, 2) := by decide +kernel
theorem dX11_commonDivisor_9 : decode cX11_commonDivisor 9 = .ok (.bipush 64, 2) := by decide +kernel
theorem dX11_commonDivisor_11 : decode cX11_commonDivisor 11 = .ok (.if_icmp .ge 23, 3) := by decide +kernel
theorem dX11_commonDivisor_14 : decode cX11_commonDivisor 14 = .ok (.iload_n 3, 1) := by decide +kernel
theorem dX11_commonDivisor_15 : decode cX11_commonDivisor 15 = .ok (.ifCond .eq 19, 3) := by decide +kernel
theorem dX11_commonDivisor_18 : decode cX11_commonDivisor 18 = .ok (.iload_n 2, 1) := by decide +kernel
theorem dX11_commonDivisor_19 : decode cX11_commonDivisor 19 = .ok (.iload_n 3, 1) := by decide +kernel
theorem dX11_commonDivisor_20 : decode cX11_commonDivisor 20 = .ok (.irem, 1) := by decide +kernel
theorem dX11_commonDivisor_21 : decode cX11_commonDivisor 21 = .ok (.istore 5, 2) := by decide +kernel
theorem dX11_commonDivisor_23 : decode cX11_commonDivisor 23 = .ok (.iload_n 3, 1) := by decide +kernel
theorem dX11_commonDivisor_24 : decode cX11_commonDivisor 24 = .ok (.istore_n 2, 1) := by decide +kernel
theorem dX11_commonDivisor_25 : decode cX11_commonDivisor 25 = .ok (.iload 5, 2) := by decide +kernel
theorem dX11_commonDivisor_27 : decode cX11_commonDivisor 27 = .ok (.istore_n 3, 1) := by decide +kernel
theorem dX11_commonDivisor_28 : decode cX11_commonDivisor 28 = .ok (.iinc 4 1, 3) := by decide +kernel
theorem dX11_commonDivisor_31 : decode cX11_commonDivisor 31 = .ok (.goto (-24), 3) := by decide +kernel
theorem dX11_commonDivisor_34 : decode cX11_commonDivisor 34 = .ok (.iload_n 2, 1) := by decide +kernel
theorem dX11_commonDivisor_35 : decode cX11_commonDivisor 35 = .ok (.ireturn, 1) := by decide +kernel
theorem dX11_isLettingGo_0 : decode cX11_isLettingGo 0 = .ok (.iload_n 0, 1) := by decide +kernel
theorem dX11_isLettingGo_1 : decode cX11_isLettingGo 1 = .ok (.iconst 1, 1) := by decide +kernel
theorem dX11_isLettingGo_2 : decode cX11_isLettingGo 2 = .ok (.if_icmp .lt 36, 3) := by decide +kernel
theorem dX11_isLettingGo_5 : decode cX11_isLettingGo 5 = .ok (.iload_n 0, 1) := by decide +kernel
theorem dX11_isLettingGo_6 : decode cX11_isLettingGo 6 = .ok (.sipush 9999, 3) := by decide +kernel
theorem dX11_isLettingGo_9 : decode cX11_isLettingGo 9 = .ok (.if_icmp .gt 29, 3) := by decide +kernel
theorem dX11_isLettingGo_12 : decode cX11_isLettingGo 12 = .ok (.iload_n 1, 1) := by decide +kernel
theorem dX11_isLettingGo_13 : decode cX11_isLettingGo 13 = .ok (.ifCond .lt 25, 3) := by decide +kernel
theorem dX11_isLettingGo_16 : decode cX11_isLettingGo 16 = .ok (.iload_n 1, 1) := by decide +kernel
theorem dX11_isLettingGo_17 : decode cX11_isLettingGo 17 = .ok (.bipush 36, 2) := by decide +kernel
theorem dX11_isLettingGo_19 : decode cX11_isLettingGo 19 = .ok (.if_icmp .ge 19, 3) := by decide +kernel
theorem dX11_isLettingGo_22 : decode cX11_isLettingGo 22 = .ok (.iload_n 2, 1) := by decide +kernel
theorem dX11_isLettingGo_23 : decode cX11_isLettingGo 23 = .ok (.bipush (-9), 2) := by decide +kernel
theorem dX11_isLettingGo_25 : decode cX11_isLettingGo 25 = .ok (.if_icmp .lt 13, 3) := by decide +kernel
theorem dX11_isLettingGo_28 : decode cX11_isLettingGo 28 = .ok (.iload_n 2, 1) := by decide +kernel
theorem dX11_isLettingGo_29 : decode cX11_isLettingGo 29 = .ok (.bipush 9, 2) := by decide +kernel
theorem dX11_isLettingGo_31 : decode cX11_isLettingGo 31 = .ok (.if_icmp .gt 7, 3) := by decide +kernel
theorem dX11_isLettingGo_34 : decode cX11_isLettingGo 34 = .ok (.iconst 1, 1) := by decide +kernel
theorem dX11_isLettingGo_35 : decode cX11_isLettingGo 35 = .ok (.goto 4, 3) := by decide +kernel
theorem dX11_isLettingGo_38 : decode cX11_isLettingGo 38 = .ok (.iconst 0, 1) := by decide +kernel
theorem dX11_isLettingGo_39 : decode cX11_isLettingGo 39 = .ok (.ireturn, 1) := by decide +kernel
theorem dX11_isSquare_0 : decode cX11_isSquare 0 = .ok (.iload_n 0, 1) := by decide +kernel
theorem dX11_isSquare_1 : decode cX11_isSquare 1 = .ok (.sipush (-999), 3) := by decide +kernel
theorem dX11_isSquare_4 : decode cX11_isSquare 4 = .ok (.if_icmp .lt 14, 3) := by decide +kernel
theorem dX11_isSquare_7 : decode cX11_isSquare 7 = .ok (.iload_n 0, 1) := by decide +kernel
theorem dX11_isSquare_8 : decode cX11_isSquare 8 = .ok (.sipush 999, 3) := by decide +kernel
theorem dX11_isSquare_11 : decode cX11_isSquare 11 = .ok (.if_icmp .gt 7, 3) := by decide +kernel
theorem dX11_isSquare_14 : decode cX11_isSquare 14 = .ok (.iconst 1, 1) := by decide +kernel
theorem dX11_isSquare_15 : decode cX11_isSquare 15 = .ok (.goto 4, 3) := by decide +kernel
theorem dX11_isSquare_18 : decode cX11_isSquare 18 = .ok (.iconst 0, 1) := by decide +kernel
theorem dX11_isSquare_19 : decode cX11_isSquare 19 = .ok (.ireturn, 1) := by decide +kernel
theorem dX11_sheetAt_0 : decode cX11_sheetAt 0 = .ok (.iload_n 1, 1) := by decide +kernel
theorem dX11_sheetAt_1 : decode cX11_sheetAt 1 = .ok (.ifCond .lt 17, 3) := by decide +kernel
theorem dX11_sheetAt_4 : decode cX11_sheetAt 4 = .ok (.iload_n 1, 1) := by decide +kernel
theorem dX11_sheetAt_5 : decode cX11_sheetAt 5 = .ok (.iconst 4, 1) := by decide +kernel
theorem dX11_sheetAt_6 : decode cX11_sheetAt 6 = .ok (.if_icmp .ge 12, 3) := by decide +kernel
theorem dX11_sheetAt_9 : decode cX11_sheetAt 9 = .ok (.aload_n 0, 1) := by decide +kernel
theorem dX11_sheetAt_10 : decode cX11_sheetAt 10 = .ok (.getfield 38, 3) := by decide +kernel
theorem dX11_sheetAt_13 : decode cX11_sheetAt 13 = .ok (.iload_n 1, 1) := by decide +kernel
theorem dX11_sheetAt_14 : decode cX11_sheetAt 14 = .ok (.aaload, 1) := by decide +kernel
theorem dX11_sheetAt_15 : decode cX11_sheetAt 15 = .ok (.goto 4, 3) := by decide +kernel
theorem dX11_sheetAt_18 : decode cX11_sheetAt 18 = .ok (.aconst_null, 1) := by decide +kernel
theorem dX11_sheetAt_19 : decode cX11_sheetAt 19 = .ok (.areturn, 1) := by decide +kernel
theorem dX11_isShelf_0 : decode cX11_isShelf 0 = .ok (.iload_n 0, 1) := by decide +kernel
theorem dX11_isShelf_1 : decode cX11_isShelf 1 = .ok (.ifCond .lt 12, 3) := by decide +kernel
theorem dX11_isShelf_4 : decode cX11_isShelf 4 = .ok (.iload_n 0, 1) := by decide +kernel
theorem dX11_isShelf_5 : decode cX11_isShelf 5 = .ok (.iconst 4, 1) := by decide +kernel
theorem dX11_isShelf_6 : decode cX11_isShelf 6 = .ok (.if_icmp .ge 7, 3) := by decide +kernel
theorem dX11_isShelf_9 : decode cX11_isShelf 9 = .ok (.iconst 1, 1) := by decide +kernel
theorem dX11_isShelf_10 : decode cX11_isShelf 10 = .ok (.goto 4, 3) := by decide +kernel
theorem dX11_isShelf_13 : decode cX11_isShelf 13 = .ok (.iconst 0, 1) := by decide +kernel
theorem dX11_isShelf_14 : decode cX11_isShelf 14 = .ok (.ireturn, 1) := by decide +kernel
theorem dX11_isRowPart_0 : decode cX11_isRowPart 0 = .ok (.iload_n 1, 1) := by decide +kernel
theorem dX11_isRowPart_1 : decode cX11_isRowPart 1 = .ok (.ifCond .lt 24, 3) := by decide +kernel
theorem dX11_isRowPart_4 : decode cX11_isRowPart 4 = .ok (.iload_n 1, 1) := by decide +kernel
theorem dX11_isRowPart_5 : decode cX11_isRowPart 5 = .ok (.aload_n 0, 1) := by decide +kernel
theorem dX11_isRowPart_6 : decode cX11_isRowPart 6 = .ok (.getfield 91, 3) := by decide +kernel
theorem dX11_isRowPart_9 : decode cX11_isRowPart 9 = .ok (.if_icmp .ge 16, 3) := by decide +kernel
theorem dX11_isRowPart_12 : decode cX11_isRowPart 12 = .ok (.iload_n 2, 1) := by decide +kernel
theorem dX11_isRowPart_13 : decode cX11_isRowPart 13 = .ok (.ifCond .lt 12, 3) := by decide +kernel
theorem dX11_isRowPart_16 : decode cX11_isRowPart 16 = .ok (.iload_n 2, 1) := by decide +kernel
theorem dX11_isRowPart_17 : decode cX11_isRowPart 17 = .ok (.iconst 3, 1) := by decide +kernel
theorem dX11_isRowPart_18 : decode cX11_isRowPart 18 = .ok (.if_icmp .ge 7, 3) := by decide +kernel
theorem dX11_isRowPart_21 : decode cX11_isRowPart 21 = .ok (.iconst 1, 1) := by decide +kernel
theorem dX11_isRowPart_22 : decode cX11_isRowPart 22 = .ok (.goto 4, 3) := by decide +kernel
theorem dX11_isRowPart_25 : decode cX11_isRowPart 25 = .ok (.iconst 0, 1) := by decide +kernel
theorem dX11_isRowPart_26 : decode cX11_isRowPart 26 = .ok (.ireturn, 1) := by decide +kernel
theorem dX11_isOfKind_0 : decode cX11_isOfKind 0 = .ok (.iload_n 1, 1) := by decide +kernel
theorem dX11_isOfKind_1 : decode cX11_isOfKind 1 = .ok (.tableswitch 57 0 4 #[35, 37, 42, 47, 52], 35) := by decide +kernel
theorem dX11_isOfKind_36 : decode cX11_isOfKind 36 = .ok (.iconst 1, 1) := by decide +kernel
theorem dX11_isOfKind_37 : decode cX11_isOfKind 37 = .ok (.ireturn, 1) := by decide +kernel
theorem dX11_isOfKind_38 : decode cX11_isOfKind 38 = .ok (.aload_n 0, 1) := by decide +kernel
theorem dX11_isOfKind_39 : decode cX11_isOfKind 39 = .ok (.instanceof 325, 3) := by decide +kernel
theorem dX11_isOfKind_42 : decode cX11_isOfKind 42 = .ok (.ireturn, 1) := by decide +kernel
theorem dX11_isOfKind_43 : decode cX11_isOfKind 43 = .ok (.aload_n 0, 1) := by decide +kernel
theorem dX11_isOfKind_44 : decode cX11_isOfKind 44 = .ok (.instanceof 327, 3) := by decide +kernel
theorem dX11_isOfKind_47 : decode cX11_isOfKind 47 = .ok (.ireturn, 1) := by decide +kernel
theorem dX11_isOfKind_48 : decode cX11_isOfKind 48 = .ok (.aload_n 0, 1) := by decide +kernel
theorem dX11_isOfKind_49 : decode cX11_isOfKind 49 = .ok (.instanceof 329, 3) := by decide +kernel
theorem dX11_isOfKind_52 : decode cX11_isOfKind 52 = .ok (.ireturn, 1) := by decide +kernel
theorem dX11_isOfKind_53 : decode cX11_isOfKind 53 = .ok (.aload_n 0, 1) := by decide +kernel
theorem dX11_isOfKind_54 : decode cX11_isOfKind 54 = .ok (.instanceof 331, 3) := by decide +kernel
theorem dX11_isOfKind_57 : decode cX11_isOfKind 57 = .ok (.ireturn, 1) := by decide +kernel
theorem dX11_isOfKind_58 : decode cX11_isOfKind 58 = .ok (.aload_n 0, 1) := by decide +kernel
theorem dX11_isOfKind_59 : decode cX11_isOfKind 59 = .ok (.instanceof 333, 3) := by decide +kernel
theorem dX11_isOfKind_62 : decode cX11_isOfKind 62 = .ok (.ireturn, 1) := by decide +kernel
theorem dX11_begin_0 : decode cX11_begin 0 = .ok (.aload_n 0, 1) := by decide +kernel
theorem dX11_begin_1 : decode cX11_begin 1 = .ok (.getfield 10, 3) := by decide +kernel
theorem dX11_begin_4 : decode cX11_begin 4 = .ok (.iload_n 2, 1) := by decide +kernel
theorem dX11_begin_5 : decode cX11_begin 5 = .ok (.invokevirtual 101, 3) := by decide +kernel
theorem dX11_begin_8 : decode cX11_begin 8 = .ok (.astore 6, 2) := by decide +kernel
theorem dX11_begin_10 : decode cX11_begin 10 = .ok (.aload 6, 2) := by decide +kernel
theorem dX11_begin_12 : decode cX11_begin 12 = .ok (.ifnull 14, 3) := by decide +kernel
theorem dX11_begin_15 : decode cX11_begin 15 = .ok (.iload_n 3, 1) := by decide +kernel
theorem dX11_begin_16 : decode cX11_begin 16 = .ok (.iload 4, 2) := by decide +kernel
theorem dX11_begin_18 : decode cX11_begin 18 = .ok (.iload 5, 2) := by decide +kernel
theorem dX11_begin_20 : decode cX11_begin 20 = .ok (.invokestatic 220, 3) := by decide +kernel
theorem dX11_begin_23 : decode cX11_begin 23 = .ok (.ifCond .ne 5, 3) := by decide +kernel
theorem dX11_begin_26 : decode cX11_begin 26 = .ok (.iconst 0, 1) := by decide +kernel
theorem dX11_begin_27 : decode cX11_begin 27 = .ok (.ireturn, 1) := by decide +kernel
theorem dX11_begin_28 : decode cX11_begin 28 = .ok (.aload_n 1, 1) := by decide +kernel
theorem dX11_begin_29 : decode cX11_begin 29 = .ok (.aload 6, 2) := by decide +kernel
theorem dX11_begin_31 : decode cX11_begin 31 = .ok (.iload_n 3, 1) := by decide +kernel
theorem dX11_begin_32 : decode cX11_begin 32 = .ok (.iload 4, 2) := by decide +kernel
theorem dX11_begin_34 : decode cX11_begin 34 = .ok (.iload 5, 2) := by decide +kernel
theorem dX11_begin_36 : decode cX11_begin 36 = .ok (.invokevirtual 335, 3) := by decide +kernel
theorem dX11_begin_39 : decode cX11_begin 39 = .ok (.iconst 1, 1) := by decide +kernel
theorem dX11_begin_40 : decode cX11_begin 40 = .ok (.ireturn, 1) := by decide +kernel
theorem dX11_landsOn_0 : decode cX11_landsOn 0 = .ok (.aload_n 0, 1) := by decide +kernel
theorem dX11_landsOn_1 : decode cX11_landsOn 1 = .ok (.aload_n 0, 1) := by decide +kernel
theorem dX11_landsOn_2 : decode cX11_landsOn 2 = .ok (.getfield 58, 3) := by decide +kernel
theorem dX11_landsOn_5 : decode cX11_landsOn 5 = .ok (.iload_n 1, 1) := by decide +kernel
theorem dX11_landsOn_6 : decode cX11_landsOn 6 = .ok (.iload_n 2, 1) := by decide +kernel
theorem dX11_landsOn_7 : decode cX11_landsOn 7 = .ok (.iload_n 3, 1) := by decide +kernel
theorem dX11_landsOn_8 : decode cX11_landsOn 8 = .ok (.iload 4, 2) := by decide +kernel
theorem dX11_landsOn_10 : decode cX11_landsOn 10 = .ok (.invokevirtual 143, 3) := by decide +kernel
theorem dX11_landsOn_13 : decode cX11_landsOn 13 = .ok (.ifCond .eq 20, 3) := by decide +kernel
theorem dX11_landsOn_16 : decode cX11_landsOn 16 = .ok (.aload_n 0, 1) := by decide +kernel
theorem dX11_landsOn_17 : decode cX11_landsOn 17 = .ok (.getfield 58, 3) := by decide +kernel
theorem dX11_landsOn_20 : decode cX11_landsOn 20 = .ok (.aload_n 0, 1) := by decide +kernel
theorem dX11_landsOn_21 : decode cX11_landsOn 21 = .ok (.getfield 10, 3) := by decide +kernel
theorem dX11_landsOn_24 : decode cX11_landsOn 24 = .ok (.getfield 120, 3) := by decide +kernel
theorem dX11_landsOn_27 : decode cX11_landsOn 27 = .ok (.invokevirtual 181, 3) := by decide +kernel
theorem dX11_landsOn_30 : decode cX11_landsOn 30 = .ok (.ifCond .ne 6, 3) := by decide +kernel
theorem dX11_landsOn_33 : decode cX11_landsOn 33 = .ok (.ldc 155, 2) := by decide +kernel
theorem dX11_landsOn_35 : decode cX11_landsOn 35 = .ok (.ireturn, 1) := by decide +kernel
theorem dX11_landsOn_36 : decode cX11_landsOn 36 = .ok (.aload_n 0, 1) := by decide +kernel
theorem dX11_landsOn_37 : decode cX11_landsOn 37 = .ok (.getfield 58, 3) := by decide +kernel
theorem dX11_landsOn_40 : decode cX11_landsOn 40 = .ok (.invokevirtual 194, 3) := by decide +kernel
theorem dX11_landsOn_43 : decode cX11_landsOn 43 = .ok (.ireturn, 1) := by decide +kernel
theorem dX11_byHand_0 : decode cX11_byHand 0 = .ok (.iload_n 0, 1) := by decide +kernel
theorem dX11_byHand_1 : decode cX11_byHand 1 = .ok (.iload_n 1, 1) := by decide +kernel
theorem dX11_byHand_2 : decode cX11_byHand 2 = .ok (.iadd, 1) := by decide +kernel
theorem dX11_byHand_3 : decode cX11_byHand 3 = .ok (.iconst 2, 1) := by decide +kernel
theorem dX11_byHand_4 : decode cX11_byHand 4 = .ok (.isub, 1) := by decide +kernel
theorem dX11_byHand_5 : decode cX11_byHand 5 = .ok (.bipush 36, 2) := by decide +kernel
theorem dX11_byHand_7 : decode cX11_byHand 7 = .ok (.invokestatic 339, 3) := by decide +kernel
theorem dX11_byHand_10 : decode cX11_byHand 10 = .ok (.ireturn, 1) := by decide +kernel
theorem dX11_handAt_0 : decode cX11_handAt 0 = .ok (.iconst 0, 1) := by decide +kernel
theorem dX11_handAt_1 : decode cX11_handAt 1 = .ok (.istore_n 2, 1) := by decide +kernel
theorem dX11_handAt_2 : decode cX11_handAt 2 = .ok (.iconst 0, 1) := by decide +kernel
theorem dX11_handAt_3 : decode cX11_handAt 3 = .ok (.istore_n 3, 1) := by decide +kernel
theorem dX11_handAt_4 : decode cX11_handAt 4 = .ok (.iload_n 3, 1) := by decide +kernel
theorem dX11_handAt_5 : decode cX11_handAt 5 = .ok (.iconst 5, 1) := by decide +kernel
theorem dX11_handAt_6 : decode cX11_handAt 6 = .ok (.if_icmp .ge 28, 3) := by decide +kernel
theorem dX11_handAt_9 : decode cX11_handAt 9 = .ok (.iload_n 2, 1) := by decide +kernel
theorem dX11_handAt_10 : decode cX11_handAt 10 = .ok (.aload_n 0, 1) := by decide +kernel
theorem dX11_handAt_11 : decode cX11_handAt 11 = .ok (.getfield 10, 3) := by decide +kernel
theorem dX11_handAt_14 : decode cX11_handAt 14 = .ok (.getfield 123, 3) := by decide +kernel
theorem dX11_handAt_17 : decode cX11_handAt 17 = .ok (.iload_n 3, 1) := by decide +kernel
theorem dX11_handAt_18 : decode cX11_handAt 18 = .ok (.iaload, 1) := by decide +kernel
theorem dX11_handAt_19 : decode cX11_handAt 19 = .ok (.iadd, 1) := by decide +kernel
theorem dX11_handAt_20 : decode cX11_handAt 20 = .ok (.istore_n 2, 1) := by decide +kernel
theorem dX11_handAt_21 : decode cX11_handAt 21 = .ok (.iload_n 1, 1) := by decide +kernel
theorem dX11_handAt_22 : decode cX11_handAt 22 = .ok (.iload_n 2, 1) := by decide +kernel
theorem dX11_handAt_23 : decode cX11_handAt 23 = .ok (.if_icmp .ge 5, 3) := by decide +kernel
theorem dX11_handAt_26 : decode cX11_handAt 26 = .ok (.iload_n 3, 1) := by decide +kernel
theorem dX11_handAt_27 : decode cX11_handAt 27 = .ok (.ireturn, 1) := by decide +kernel
theorem dX11_handAt_28 : decode cX11_handAt 28 = .ok (.iinc 3 1, 3) := by decide +kernel
theorem dX11_handAt_31 : decode cX11_handAt 31 = .ok (.goto (-27), 3) := by decide +kernel
theorem dX11_handAt_34 : decode cX11_handAt 34 = .ok (.iconst 4, 1) := by decide +kernel
theorem dX11_handAt_35 : decode cX11_handAt 35 = .ok (.ireturn, 1) := by decide +kernel
theorem dX11_weightsToward_0 : decode cX11_weightsToward 0 = .ok (.iconst 0, 1) := by decide +kernel
theorem dX11_weightsToward_1 : decode cX11_weightsToward 1 = .ok (.istore_n 3, 1) := by decide +kernel
theorem dX11_weightsToward_2 : decode cX11_weightsToward 2 = .ok (.iconst 0, 1) := by decide +kernel
theorem dX11_weightsToward_3 : decode cX11_weightsToward 3 = .ok (.istore 4, 2) := by decide +kernel
theorem dX11_weightsToward_5 : decode cX11_weightsToward 5 = .ok (.iload 4, 2) := by decide +kernel
theorem dX11_weightsToward_7 : decode cX11_weightsToward 7 = .ok (.iconst 5, 1) := by decide +kernel
theorem dX11_weightsToward_8 : decode cX11_weightsToward 8 = .ok (.if_icmp .ge 37, 3) := by decide +kernel
theorem dX11_weightsToward_11 : decode cX11_weightsToward 11 = .ok (.aload_n 0, 1) := by decide +kernel
theorem dX11_weightsToward_12 : decode cX11_weightsToward 12 = .ok (.getfield 68, 3) := by decide +kernel
theorem dX11_weightsToward_15 : decode cX11_weightsToward 15 = .ok (.iload_n 1, 1) := by decide +kernel
theorem dX11_weightsToward_16 : decode cX11_weightsToward 16 = .ok (.iload 4, 2) := by decide +kernel
theorem dX11_weightsToward_18 : decode cX11_weightsToward 18 = .ok (.invokestatic 207, 3) := by decide +kernel
theorem dX11_weightsToward_21 : decode cX11_weightsToward 21 = .ok (.iaload, 1) := by decide +kernel
theorem dX11_weightsToward_22 : decode cX11_weightsToward 22 = .ok (.iload_n 2, 1) := by decide +kernel
theorem dX11_weightsToward_23 : decode cX11_weightsToward 23 = .ok (.if_icmp .ne 16, 3) := by decide +kernel
theorem dX11_weightsToward_26 : decode cX11_weightsToward 26 = .ok (.iload_n 3, 1) := by decide +kernel
theorem dX11_weightsToward_27 : decode cX11_weightsToward 27 = .ok (.aload_n 0, 1) := by decide +kernel
theorem dX11_weightsToward_28 : decode cX11_weightsToward 28 = .ok (.getfield 10, 3) := by decide +kernel
theorem dX11_weightsToward_31 : decode cX11_weightsToward 31 = .ok (.getfield 123, 3) := by decide +kernel
theorem dX11_weightsToward_34 : decode cX11_weightsToward 34 = .ok (.iload 4, 2) := by decide +kernel
theorem dX11_weightsToward_36 : decode cX11_weightsToward 36 = .ok (.iaload, 1) := by decide +kernel
theorem dX11_weightsToward_37 : decode cX11_weightsToward 37 = .ok (.iadd, 1) := by decide +kernel
theorem dX11_weightsToward_38 : decode cX11_weightsToward 38 = .ok (.istore_n 3, 1) := by decide +kernel
theorem dX11_weightsToward_39 : decode cX11_weightsToward 39 = .ok (.iinc 4 1, 3) := by decide +kernel
theorem dX11_weightsToward_42 : decode cX11_weightsToward 42 = .ok (.goto (-37), 3) := by decide +kernel
theorem dX11_weightsToward_45 : decode cX11_weightsToward 45 = .ok (.iload_n 3, 1) := by decide +kernel
theorem dX11_weightsToward_46 : decode cX11_weightsToward 46 = .ok (.ireturn, 1) := by decide +kernel
theorem dX11_filmRefusal_0 : decode cX11_filmRefusal 0 = .ok (.aload_n 0, 1) := by decide +kernel
theorem dX11_filmRefusal_1 : decode cX11_filmRefusal 1 = .ok (.ifnonnull 5, 3) := by decide +kernel
theorem dX11_filmRefusal_4 : decode cX11_filmRefusal 4 = .ok (.iconst (-1), 1) := by decide +kernel
theorem dX11_filmRefusal_5 : decode cX11_filmRefusal 5 = .ok (.ireturn, 1) := by decide +kernel
theorem dX11_filmRefusal_6 : decode cX11_filmRefusal 6 = .ok (.aload_n 0, 1) := by decide +kernel
theorem dX11_filmRefusal_7 : decode cX11_filmRefusal 7 = .ok (.getfield 261, 3) := by decide +kernel
theorem dX11_filmRefusal_10 : decode cX11_filmRefusal 10 = .ok (.iconst (-1), 1) := by decide +kernel
theorem dX11_filmRefusal_11 : decode cX11_filmRefusal 11 = .ok (.if_icmp .ne 6, 3) := by decide +kernel
theorem dX11_filmRefusal_14 : decode cX11_filmRefusal 14 = .ok (.bipush (-11), 2) := by decide +kernel
theorem dX11_filmRefusal_16 : decode cX11_filmRefusal 16 = .ok (.ireturn, 1) := by decide +kernel
theorem dX11_filmRefusal_17 : decode cX11_filmRefusal 17 = .ok (.aload_n 0, 1) := by decide +kernel
theorem dX11_filmRefusal_18 : decode cX11_filmRefusal 18 = .ok (.getfield 261, 3) := by decide +kernel
theorem dX11_filmRefusal_21 : decode cX11_filmRefusal 21 = .ok (.iconst 2, 1) := by decide +kernel
theorem dX11_filmRefusal_22 : decode cX11_filmRefusal 22 = .ok (.if_icmp .ne 7, 3) := by decide +kernel
theorem dX11_filmRefusal_25 : decode cX11_filmRefusal 25 = .ok (.iconst 0, 1) := by decide +kernel
theorem dX11_filmRefusal_26 : decode cX11_filmRefusal 26 = .ok (.goto 5, 3) := by decide +kernel
theorem dX11_filmRefusal_29 : decode cX11_filmRefusal 29 = .ok (.bipush (-13), 2) := by decide +kernel
theorem dX11_filmRefusal_31 : decode cX11_filmRefusal 31 = .ok (.ireturn, 1) := by decide +kernel
theorem dX11_missOf_0 : decode cX11_missOf 0 = .ok (.lconst 0, 1) := by decide +kernel
theorem dX11_missOf_1 : decode cX11_missOf 1 = .ok (.lstore_n 3, 1) := by decide +kernel
theorem dX11_missOf_2 : decode cX11_missOf 2 = .ok (.iconst 0, 1) := by decide +kernel
theorem dX11_missOf_3 : decode cX11_missOf 3 = .ok (.istore 5, 2) := by decide +kernel
theorem dX11_missOf_5 : decode cX11_missOf 5 = .ok (.iload 5, 2) := by decide +kernel
theorem dX11_missOf_7 : decode cX11_missOf 7 = .ok (.aload_n 1, 1) := by decide +kernel
theorem dX11_missOf_8 : decode cX11_missOf 8 = .ok (.getfield 263, 3) := by decide +kernel
theorem dX11_missOf_11 : decode cX11_missOf 11 = .ok (.if_icmp .ge 40, 3) := by decide +kernel
theorem dX11_missOf_14 : decode cX11_missOf 14 = .ok (.aload_n 0, 1) := by decide +kernel
theorem dX11_missOf_15 : decode cX11_missOf 15 = .ok (.invokevirtual 147, 3) := by decide +kernel
theorem dX11_missOf_18 : decode cX11_missOf 18 = .ok (.ifCond .ne 33, 3) := by decide +kernel
theorem dX11_missOf_21 : decode cX11_missOf 21 = .ok (.aload_n 0, 1) := by decide +kernel
theorem dX11_missOf_22 : decode cX11_missOf 22 = .ok (.aload_n 2, 1) := by decide +kernel
theorem dX11_missOf_23 : decode cX11_missOf 23 = .ok (.invokevirtual 151, 3) := by decide +kernel
theorem dX11_missOf_26 : decode cX11_missOf 26 = .ok (.lload_n 3, 1) := by decide +kernel
theorem dX11_missOf_27 : decode cX11_missOf 27 = .ok (.aload_n 1, 1) := by decide +kernel
theorem dX11_missOf_28 : decode cX11_missOf 28 = .ok (.getfield 264, 3) := by decide +kernel
theorem dX11_missOf_31 : decode cX11_missOf 31 = .ok (.iload 5, 2) := by decide +kernel
theorem dX11_missOf_33 : decode cX11_missOf 33 = .ok (.laload, 1) := by decide +kernel
theorem dX11_missOf_34 : decode cX11_missOf 34 = .ok (.aload_n 0, 1) := by decide +kernel
theorem dX11_missOf_35 : decode cX11_missOf 35 = .ok (.getfield 159, 3) := by decide +kernel
theorem dX11_missOf_38 : decode cX11_missOf 38 = .ok (.i2l, 1) := by decide +kernel
theorem dX11_missOf_39 : decode cX11_missOf 39 = .ok (.lsub, 1) := by decide +kernel
theorem dX11_missOf_40 : decode cX11_missOf 40 = .ok (.invokestatic 342, 3) := by decide +kernel
theorem dX11_missOf_43 : decode cX11_missOf 43 = .ok (.ladd, 1) := by decide +kernel
theorem dX11_missOf_44 : decode cX11_missOf 44 = .ok (.lstore_n 3, 1) := by decide +kernel
theorem dX11_missOf_45 : decode cX11_missOf 45 = .ok (.iinc 5 1, 3) := by decide +kernel
theorem dX11_missOf_48 : decode cX11_missOf 48 = .ok (.goto (-43), 3) := by decide +kernel
theorem dX11_missOf_51 : decode cX11_missOf 51 = .ok (.lload_n 3, 1) := by decide +kernel
theorem dX11_missOf_52 : decode cX11_missOf 52 = .ok (.ldc2_w 345, 3) := by decide +kernel
theorem dX11_missOf_55 : decode cX11_missOf 55 = .ok (.invokestatic 347, 3) := by decide +kernel
theorem dX11_missOf_58 : decode cX11_missOf 58 = .ok (.l2i, 1) := by decide +kernel
theorem dX11_missOf_59 : decode cX11_missOf 59 = .ok (.ireturn, 1) := by decide +kernel
theorem dX11_lay_0 : decode cX11_lay 0 = .ok (.aload_n 0, 1) := by decide +kernel
theorem dX11_lay_1 : decode cX11_lay 1 = .ok (.getfield 42, 3) := by decide +kernel
theorem dX11_lay_4 : decode cX11_lay 4 = .ok (.iload_n 1, 1) := by decide +kernel
theorem dX11_lay_5 : decode cX11_lay 5 = .ok (.iload_n 2, 1) := by decide +kernel
theorem dX11_lay_6 : decode cX11_lay 6 = .ok (.iastore, 1) := by decide +kernel
theorem dX11_lay_7 : decode cX11_lay 7 = .ok (.aload_n 0, 1) := by decide +kernel
theorem dX11_lay_8 : decode cX11_lay 8 = .ok (.getfield 46, 3) := by decide +kernel
theorem dX11_lay_11 : decode cX11_lay 11 = .ok (.iload_n 1, 1) := by decide +kernel
theorem dX11_lay_12 : decode cX11_lay 12 = .ok (.iload_n 3, 1) := by decide +kernel
theorem dX11_lay_13 : decode cX11_lay 13 = .ok (.iastore, 1) := by decide +kernel
theorem dX11_lay_14 : decode cX11_lay 14 = .ok (.aload_n 0, 1) := by decide +kernel
theorem dX11_lay_15 : decode cX11_lay 15 = .ok (.getfield 49, 3) := by decide +kernel
theorem dX11_lay_18 : decode cX11_lay 18 = .ok (.iload_n 1, 1) := by decide +kernel
theorem dX11_lay_19 : decode cX11_lay 19 = .ok (.iload 4, 2) := by decide +kernel
theorem dX11_lay_21 : decode cX11_lay 21 = .ok (.iastore, 1) := by decide +kernel
theorem dX11_lay_22 : decode cX11_lay 22 = .ok (.iconst 1, 1) := by decide +kernel
theorem dX11_lay_23 : decode cX11_lay 23 = .ok (.ireturn, 1) := by decide +kernel
theorem dX11_layRow_0 : decode cX11_layRow 0 = .ok (.aload_n 2, 1) := by decide +kernel
theorem dX11_layRow_1 : decode cX11_layRow 1 = .ok (.ifnonnull 5, 3) := by decide +kernel
theorem dX11_layRow_4 : decode cX11_layRow 4 = .ok (.iconst (-1), 1) := by decide +kernel
theorem dX11_layRow_5 : decode cX11_layRow 5 = .ok (.ireturn, 1) := by decide +kernel
theorem dX11_layRow_6 : decode cX11_layRow 6 = .ok (.aload_n 2, 1) := by decide +kernel
theorem dX11_layRow_7 : decode cX11_layRow 7 = .ok (.getfield 261, 3) := by decide +kernel
theorem dX11_layRow_10 : decode cX11_layRow 10 = .ok (.iconst (-1), 1) := by decide +kernel
theorem dX11_layRow_11 : decode cX11_layRow 11 = .ok (.if_icmp .ne 12, 3) := by decide +kernel
theorem dX11_layRow_14 : decode cX11_layRow 14 = .ok (.aload_n 0, 1) := by decide +kernel
theorem dX11_layRow_15 : decode cX11_layRow 15 = .ok (.iload_n 1, 1) := by decide +kernel
theorem dX11_layRow_16 : decode cX11_layRow 16 = .ok (.iconst 0, 1) := by decide +kernel
theorem dX11_layRow_17 : decode cX11_layRow 17 = .ok (.iconst 0, 1) := by decide +kernel
theorem dX11_layRow_18 : decode cX11_layRow 18 = .ok (.iconst 0, 1) := by decide +kernel
theorem dX11_layRow_19 : decode cX11_layRow 19 = .ok (.invokevirtual 275, 3) := by decide +kernel
theorem dX11_layRow_22 : decode cX11_layRow 22 = .ok (.ireturn, 1) := by decide +kernel
theorem dX11_layRow_23 : decode cX11_layRow 23 = .ok (.aload_n 0, 1) := by decide +kernel
theorem dX11_layRow_24 : decode cX11_layRow 24 = .ok (.iload_n 1, 1) := by decide +kernel
theorem dX11_layRow_25 : decode cX11_layRow 25 = .ok (.iconst 2, 1) := by decide +kernel
theorem dX11_layRow_26 : decode cX11_layRow 26 = .ok (.aload_n 2, 1) := by decide +kernel
theorem dX11_layRow_27 : decode cX11_layRow 27 = .ok (.getfield 261, 3) := by decide +kernel
theorem dX11_layRow_30 : decode cX11_layRow 30 = .ok (.aload_n 2, 1) := by decide +kernel
theorem dX11_layRow_31 : decode cX11_layRow 31 = .ok (.getfield 263, 3) := by decide +kernel
theorem dX11_layRow_34 : decode cX11_layRow 34 = .ok (.invokevirtual 275, 3) := by decide +kernel
theorem dX11_layRow_37 : decode cX11_layRow 37 = .ok (.ireturn, 1) := by decide +kernel
theorem dX11_thingOn_0 : decode cX11_thingOn 0 = .ok (.iload_n 1, 1) := by decide +kernel
theorem dX11_thingOn_1 : decode cX11_thingOn 1 = .ok (.invokestatic 272, 3) := by decide +kernel
theorem dX11_thingOn_4 : decode cX11_thingOn 4 = .ok (.ifCond .eq 13, 3) := by decide +kernel
theorem dX11_thingOn_7 : decode cX11_thingOn 7 = .ok (.aload_n 0, 1) := by decide +kernel
theorem dX11_thingOn_8 : decode cX11_thingOn 8 = .ok (.getfield 42, 3) := by decide +kernel
theorem dX11_thingOn_11 : decode cX11_thingOn 11 = .ok (.iload_n 1, 1) := by decide +kernel
theorem dX11_thingOn_12 : decode cX11_thingOn 12 = .ok (.iaload, 1) := by decide +kernel
theorem dX11_thingOn_13 : decode cX11_thingOn 13 = .ok (.iconst 1, 1) := by decide +kernel
theorem dX11_thingOn_14 : decode cX11_thingOn 14 = .ok (.if_icmp .eq 5, 3) := by decide +kernel
theorem dX11_thingOn_17 : decode cX11_thingOn 17 = .ok (.aconst_null, 1) := by decide +kernel
theorem dX11_thingOn_18 : decode cX11_thingOn 18 = .ok (.areturn, 1) := by decide +kernel
theorem dX11_thingOn_19 : decode cX11_thingOn 19 = .ok (.aload_n 0, 1) := by decide +kernel
theorem dX11_thingOn_20 : decode cX11_thingOn 20 = .ok (.getfield 10, 3) := by decide +kernel
theorem dX11_thingOn_23 : decode cX11_thingOn 23 = .ok (.aload_n 0, 1) := by decide +kernel
theorem dX11_thingOn_24 : decode cX11_thingOn 24 = .ok (.getfield 46, 3) := by decide +kernel
theorem dX11_thingOn_27 : decode cX11_thingOn 27 = .ok (.iload_n 1, 1) := by decide +kernel
theorem dX11_thingOn_28 : decode cX11_thingOn 28 = .ok (.iaload, 1) := by decide +kernel
theorem dX11_thingOn_29 : decode cX11_thingOn 29 = .ok (.invokevirtual 101, 3) := by decide +kernel
theorem dX11_thingOn_32 : decode cX11_thingOn 32 = .ok (.areturn, 1) := by decide +kernel
end
section
theorem dX12_init_0 : decode cX12_init 0 = .ok (.aload_n 0, 1) := by decide +kernel
theorem dX12_init_1 : decode cX12_init 1 = .ok (.invokespecial 1, 3) := by decide +kernel
theorem dX12_init_4 : decode cX12_init 4 = .ok (.aload_n 0, 1) := by decide +kernel
theorem dX12_init_5 : decode cX12_init 5 = .ok (.bipush 24, 2) := by decide +kernel
theorem dX12_init_7 : decode cX12_init 7 = .ok (.newarray .int, 2) := by decide +kernel
theorem dX12_init_9 : decode cX12_init 9 = .ok (.putfield 7, 3) := by decide +kernel
theorem dX12_init_12 : decode cX12_init 12 = .ok (.aload_n 0, 1) := by decide +kernel
theorem dX12_init_13 : decode cX12_init 13 = .ok (.bipush 6, 2) := by decide +kernel
theorem dX12_init_15 : decode cX12_init 15 = .ok (.newarray .int, 2) := by decide +kernel
theorem dX12_init_17 : decode cX12_init 17 = .ok (.dup, 1) := by decide +kernel
theorem dX12_init_18 : decode cX12_init 18 = .ok (.iconst 0, 1) := by decide +kernel
theorem dX12_init_19 : decode cX12_init 19 = .ok (.bipush 16, 2) := by decide +kernel
theorem dX12_init_21 : decode cX12_init 21 = .ok (.iastore, 1) := by decide +kernel
theorem dX12_init_22 : decode cX12_init 22 = .ok (.dup, 1) := by decide +kernel
theorem dX12_init_23 : decode cX12_init 23 = .ok (.iconst 1, 1) := by decide +kernel
theorem dX12_init_24 : decode cX12_init 24 = .ok (.bipush 8, 2) := by decide +kernel
theorem dX12_init_26 : decode cX12_init 26 = .ok (.iastore, 1) := by decide +kernel
theorem dX12_init_27 : decode cX12_init 27 = .ok (.dup, 1) := by decide +kernel
theorem dX12_init_28 : decode cX12_init 28 = .ok (.iconst 2, 1) := by decide +kernel
theorem dX12_init_29 : decode cX12_init 29 = .ok (.bipush 24, 2) := by decide +kernel
theorem dX12_init_31 : decode cX12_init 31 = .ok (.iastore, 1) := by decide +kernel
theorem dX12_init_32 : decode cX12_init 32 = .ok (.dup, 1) := by decide +kernel
theorem dX12_init_33 : decode cX12_init 33 = .ok (.iconst 3, 1) := by decide +kernel
theorem dX12_init_34 : decode cX12_init 34 = .ok (.bipush 20, 2) := by decide +kernel
theorem dX12_init_36 : decode cX12_init 36 = .ok (.iastore, 1) := by decide +kernel
theorem dX12_init_37 : decode cX12_init 37 = .ok (.dup, 1) := by decide +kernel
theorem dX12_init_38 : decode cX12_init 38 = .ok (.iconst 4, 1) := by decide +kernel
theorem dX12_init_39 : decode cX12_init 39 = .ok (.bipush 12, 2) := by decide +kernel
theorem dX12_init_41 : decode cX12_init 41 = .ok (.iastore, 1) := by decide +kernel
theorem dX12_init_42 : decode cX12_init 42 = .ok (.dup, 1) := by decide +kernel
theorem dX12_init_43 : decode cX12_init 43 = .ok (.iconst 5, 1) := by decide +kernel
theorem dX12_init_44 : decode cX12_init 44 = .ok (.bipush 32, 2) := by decide +kernel
theorem dX12_init_46 : decode cX12_init 46 = .ok (.iastore, 1) := by decide +kernel
theorem dX12_init_47 : decode cX12_init 47 = .ok (.putfield 13, 3) := by decide +kernel
theorem dX12_init_50 : decode cX12_init 50 = .ok (.aload_n 0, 1) := by decide +kernel
theorem dX12_init_51 : decode cX12_init 51 = .ok (.iconst 5, 1) := by decide +kernel
theorem dX12_init_52 : decode cX12_init 52 = .ok (.newarray .int, 2) := by decide +kernel
theorem dX12_init_54 : decode cX12_init 54 = .ok (.dup, 1) := by decide +kernel
theorem dX12_init_55 : decode cX12_init 55 = .ok (.iconst 0, 1) := by decide +kernel
theorem dX12_init_56 : decode cX12_init 56 = .ok (.iconst 0, 1) := by decide +kernel
theorem dX12_init_57 : decode cX12_init 57 = .ok (.iastore, 1) := by decide +kernel
theorem dX12_init_58 : decode cX12_init 58 = .ok (.dup, 1) := by decide +kernel
theorem dX12_init_59 : decode cX12_init 59 = .ok (.iconst 1, 1) := by decide +kernel
theorem dX12_init_60 : decode cX12_init 60 = .ok (.iconst 0, 1) := by decide +kernel
theorem dX12_init_61 : decode cX12_init 61 = .ok (.iastore, 1) := by decide +kernel
theorem dX12_init_62 : decode cX12_init 62 = .ok (.dup, 1) := by decide +kernel
theorem dX12_init_63 : decode cX12_init 63 = .ok (.iconst 2, 1) := by decide +kernel
theorem dX12_init_64 : decode cX12_init 64 = .ok (.iconst 1, 1) := by decide +kernel
theorem dX12_init_65 : decode cX12_init 65 = .ok (.iastore, 1) := by decide +kernel
theorem dX12_init_66 : decode cX12_init 66 = .ok (.dup, 1) := by decide +kernel
theorem dX12_init_67 : decode cX12_init 67 = .ok (.iconst 3, 1) := by decide +kernel
theorem dX12_init_68 : decode cX12_init 68 = .ok (.iconst 0, 1) := by decide +kernel
theorem dX12_init_69 : decode cX12_init 69 = .ok (.iastore, 1) := by decide +kernel
theorem dX12_init_70 : decode cX12_init 70 = .ok (.dup, 1) := by decide +kernel
theorem dX12_init_71 : decode cX12_init 71 = .ok (.iconst 4, 1) := by decide +kernel
theorem dX12_init_72 : decode cX12_init 72 = .ok (.iconst 0, 1) := by decide +kernel
theorem dX12_init_73 : decode cX12_init 73 = .ok (.iastore, 1) := by decide +kernel
theorem dX12_init_74 : decode cX12_init 74 = .ok (.putfield 16, 3) := by decide +kernel
theorem dX12_init_77 : decode cX12_init 77 = .ok (.aload_n 0, 1) := by decide +kernel
theorem dX12_init_78 : decode cX12_init 78 = .ok (.bipush 10, 2) := by decide +kernel
theorem dX12_init_80 : decode cX12_init 80 = .ok (.newarray .int, 2) := by decide +kernel
theorem dX12_init_82 : decode cX12_init 82 = .ok (.dup, 1) := by decide +kernel
theorem dX12_init_83 : decode cX12_init 83 = .ok (.iconst 0, 1) := by decide +kernel
theorem dX12_init_84 : decode cX12_init 84 = .ok (.iconst 0, 1) := by decide +kernel
theorem dX12_init_85 : decode cX12_init 85 = .ok (.iastore, 1) := by decide +kernel
theorem dX12_init_86 : decode cX12_init 86 = .ok (.dup, 1) := by decide +kernel
theorem dX12_init_87 : decode cX12_init 87 = .ok (.iconst 1, 1) := by decide +kernel
theorem dX12_init_88 : decode cX12_init 88 = .ok (.sipush 174, 3) := by decide +kernel
theorem dX12_init_91 : decode cX12_init 91 = .ok (.iastore, 1) := by decide +kernel
theorem dX12_init_92 : decode cX12_init 92 = .ok (.dup, 1) := by decide +kernel
theorem dX12_init_93 : decode cX12_init 93 = .ok (.iconst 2, 1) := by decide +kernel
theorem dX12_init_94 : decode cX12_init 94 = .ok (.sipush 342, 3) := by decide +kernel
theorem dX12_init_97 : decode cX12_init 97 = .ok (.iastore, 1) := by decide +kernel
theorem dX12_init_98 : decode cX12_init 98 = .ok (.dup, 1) := by decide +kernel
theorem dX12_init_99 : decode cX12_init 99 = .ok (.iconst 3, 1) := by decide +kernel
theorem dX12_init_100 : decode cX12_init 100 = .ok (.sipush 500, 3) := by decide +kernel
theorem dX12_init_103 : decode cX12_init 103 = .ok (.iastore, 1) := by decide +kernel
theorem dX12_init_104 : decode cX12_init 104 = .ok (.dup, 1) := by decide +kernel
theorem dX12_init_105 : decode cX12_init 105 = .ok (.iconst 4, 1) := by decide +kernel
theorem dX12_init_106 : decode cX12_init 106 = .ok (.sipush 643, 3) := by decide +kernel
theorem dX12_init_109 : decode cX12_init 109 = .ok (.iastore, 1) := by decide +kernel
theorem dX12_init_110 : decode cX12_init 110 = .ok (.dup, 1) := by decide +kernel
theorem dX12_init_111 : decode cX12_init 111 = .ok (.iconst 5, 1) := by decide +kernel
theorem dX12_init_112 : decode cX12_init 112 = .ok (.sipush 766, 3) := by decide +kernel
theorem dX12_init_115 : decode cX12_init 115 = .ok (.iastore, 1) := by decide +kernel
theorem dX12_init_116 : decode cX12_init 116 = .ok (.dup, 1) := by decide +kernel
theorem dX12_init_117 : decode cX12_init 117 = .ok (.bipush 6, 2) := by decide +kernel
theorem dX12_init_119 : decode cX12_init 119 = .ok (.sipush 866, 3) := by decide +kernel
theorem dX12_init_122 : decode cX12_init 122 = .ok (.iastore, 1) := by decide +kernel
theorem dX12_init_123 : decode cX12_init 123 = .ok (.dup, 1) := by decide +kernel
theorem dX12_init_124 : decode cX12_init 124 = .ok (.bipush 7, 2) := by decide +kernel
theorem dX12_init_126 : decode cX12_init 126 = .ok (.sipush 940, 3) := by decide +kernel
theorem dX12_init_129 : decode cX12_init 129 = .ok (.iastore, 1) := by decide +kernel
theorem dX12_init_130 : decode cX12_init 130 = .ok (.dup, 1) := by decide +kernel
theorem dX12_init_131 : decode cX12_init 131 = .ok (.bipush 8, 2) := by decide +kernel
theorem dX12_init_133 : decode cX12_init 133 = .ok (.sipush 985, 3) := by decide +kernel
theorem dX12_init_136 : decode cX12_init 136 = .ok (.iastore, 1) := by decide +kernel
theorem dX12_init_137 : decode cX12_init 137 = .ok (.dup, 1) := by decide +kernel
theorem dX12_init_138 : decode cX12_init 138 = .ok (.bipush 9, 2) := by decide +kernel
theorem dX12_init_140 : decode cX12_init 140 = .ok (.sipush 1000, 3) := by decide +kernel
theorem dX12_init_143 : decode cX12_init 143 = .ok (.iastore, 1) := by decide +kernel
theorem dX12_init_144 : decode cX12_init 144 = .ok (.putfield 19, 3) := by decide +kernel
theorem dX12_init_147 : decode cX12_init 147 = .ok (.aload_n 0, 1) := by decide +kernel
theorem dX12_init_148 : decode cX12_init 148 = .ok (.iconst 1, 1) := by decide +kernel
theorem dX12_init_149 : decode cX12_init 149 = .ok (.putfield 22, 3) := by decide +kernel
theorem dX12_init_152 : decode cX12_init 152 = .ok (.aload_n 0, 1) := by decide +kernel
theorem dX12_init_153 : decode cX12_init 153 = .ok (.bipush 8, 2) := by decide +kernel
theorem dX12_init_155 : decode cX12_init 155 = .ok (.newarray .int, 2) := by decide +kernel
theorem dX12_init_157 : decode cX12_init 157 = .ok (.dup, 1) := by decide +kernel
theorem dX12_init_158 : decode cX12_init 158 = .ok (.iconst 0, 1) := by decide +kernel
theorem dX12_init_159 : decode cX12_init 159 = .ok (.iconst (-1), 1) := by decide +kernel
theorem dX12_init_160 : decode cX12_init 160 = .ok (.iastore, 1) := by decide +kernel
theorem dX12_init_161 : decode cX12_init 161 = .ok (.dup, 1) := by decide +kernel
theorem dX12_init_162 : decode cX12_init 162 = .ok (.iconst 1, 1) := by decide +kernel
theorem dX12_init_163 : decode cX12_init 163 = .ok (.iconst 0, 1) := by decide +kernel
theorem dX12_init_164 : decode cX12_init 164 = .ok (.iastore, 1) := by decide +kernel
theorem dX12_init_165 : decode cX12_init 165 = .ok (.dup, 1) := by decide +kernel
theorem dX12_init_166 : decode cX12_init 166 = .ok (.iconst 2, 1) := by decide +kernel
theorem dX12_init_167 : decode cX12_init 167 = .ok (.iconst 0, 1) := by decide +kernel
theorem dX12_init_168 : decode cX12_init 168 = .ok (.iastore, 1) := by decide +kernel
theorem dX12_init_169 : decode cX12_init 169 = .ok (.dup, 1) := by decide +kernel
theorem dX12_init_170 : decode cX12_init 170 = .ok (.iconst 3, 1) := by decide +kernel
theorem dX12_init_171 : decode cX12_init 171 = .ok (.iconst 0, 1) := by decide +kernel
theorem dX12_init_172 : decode cX12_init 172 = .ok (.iastore, 1) := by decide +kernel
theorem dX12_init_173 : decode cX12_init 173 = .ok (.dup, 1) := by decide +kernel
theorem dX12_init_174 : decode cX12_init 174 = .ok (.iconst 4, 1) := by decide +kernel
theorem dX12_init_175 : decode cX12_init 175 = .ok (.iconst 0, 1) := by decide +kernel
theorem dX12_init_176 : decode cX12_init 176 = .ok (.iastore, 1) := by decide +kernel
theorem dX12_init_177 : decode cX12_init 177 = .ok (.dup, 1) := by decide +kernel
theorem dX12_init_178 : decode cX12_init 178 = .ok (.iconst 5, 1) := by decide +kernel
theorem dX12_init_179 : decode cX12_init 179 = .ok (.iconst 0, 1) := by decide +kernel
theorem dX12_init_180 : decode cX12_init 180 = .ok (.iastore, 1) := by decide +kernel
theorem dX12_init_181 : decode cX12_init 181 = .ok (.dup, 1) := by decide +kernel
theorem dX12_init_182 : decode cX12_init 182 = .ok (.bipush 6, 2) := by decide +kernel
theorem dX12_init_184 : decode cX12_init 184 = .ok (.iconst 0, 1) := by decide +kernel
theorem dX12_init_185 : decode cX12_init 185 = .ok (.iastore, 1) := by decide +kernel
theorem dX12_init_186 : decode cX12_init 186 = .ok (.dup, 1) := by decide +kernel
theorem dX12_init_187 : decode cX12_init 187 = .ok (.bipush 7, 2) := by decide +kernel
theorem dX12_init_189 : decode cX12_init 189 = .ok (.iconst 0, 1) := by decide +kernel
theorem dX12_init_190 : decode cX12_init 190 = .ok (.iastore, 1) := by decide +kernel
theorem dX12_init_191 : decode cX12_init 191 = .ok (.putfield 26, 3) := by decide +kernel
theorem dX12_init_194 : decode cX12_init 194 = .ok (.aload_n 0, 1) := by decide +kernel
theorem dX12_init_195 : decode cX12_init 195 = .ok (.sipush 200, 3) := by decide +kernel
theorem dX12_init_198 : decode cX12_init 198 = .ok (.newarray .int, 2) := by decide +kernel
theorem dX12_init_200 : decode cX12_init 200 = .ok (.putfield 29, 3) := by decide +kernel
theorem dX12_init_203 : decode cX12_init 203 = .ok (.aload_n 0, 1) := by decide +kernel
theorem dX12_init_204 : decode cX12_init 204 = .ok (.bipush 24, 2) := by decide +kernel
theorem dX12_init_206 : decode cX12_init 206 = .ok (.newarray .int, 2) := by decide +kernel
theorem dX12_init_208 : decode cX12_init 208 = .ok (.putfield 32, 3) := by decide +kernel
theorem dX12_init_211 : decode cX12_init 211 = .ok (.aload_n 0, 1) := by decide +kernel
theorem dX12_init_212 : decode cX12_init 212 = .ok (.bipush 6, 2) := by decide +kernel
theorem dX12_init_214 : decode cX12_init 214 = .ok (.newarray .int, 2) := by decide +kernel
theorem dX12_init_216 : decode cX12_init 216 = .ok (.putfield 35, 3) := by decide +kernel
theorem dX12_init_219 : decode cX12_init 219 = .ok (.aload_n 0, 1) := by decide +kernel
theorem dX12_init_220 : decode cX12_init 220 = .ok (.iconst 5, 1) := by decide +kernel
theorem dX12_init_221 : decode cX12_init 221 = .ok (.newarray .int, 2) := by decide +kernel
theorem dX12_init_223 : decode cX12_init 223 = .ok (.putfield 38, 3) := by decide +kernel
theorem dX12_init_226 : decode cX12_init 226 = .ok (.aload_n 0, 1) := by decide +kernel
theorem dX12_init_227 : decode cX12_init 227 = .ok (.sipush 400, 3) := by decide +kernel
theorem dX12_init_230 : decode cX12_init 230 = .ok (.newarray .int, 2) := by decide +kernel
theorem dX12_init_232 : decode cX12_init 232 = .ok (.putfield 41, 3) := by decide +kernel
theorem dX12_init_235 : decode cX12_init 235 = .ok (.aload_n 0, 1) := by decide +kernel
theorem dX12_init_236 : decode cX12_init 236 = .ok (.sipush 400, 3) := by decide +kernel
theorem dX12_init_239 : decode cX12_init 239 = .ok (.newarray .int, 2) := by decide +kernel
theorem dX12_init_241 : decode cX12_init 241 = .ok (.putfield 44, 3) := by decide +kernel
theorem dX12_init_244 : decode cX12_init 244 = .ok (.aload_n 0, 1) := by decide +kernel
theorem dX12_init_245 : decode cX12_init 245 = .ok (.bipush 60, 2) := by decide +kernel
theorem dX12_init_247 : decode cX12_init 247 = .ok (.newarray .int, 2) := by decide +kernel
theorem dX12_init_249 : decode cX12_init 249 = .ok (.putfield 47, 3) := by decide +kernel
theorem dX12_init_252 : decode cX12_init 252 = .ok (.aload_n 0, 1) := by decide +kernel
theorem dX12_init_253 : decode cX12_init 253 = .ok (.bipush 60, 2) := by decide +kernel
theorem dX12_init_255 : decode cX12_init 255 = .ok (.newarray .int, 2) := by decide +kernel
theorem dX12_init_257 : decode cX12_init 257 = .ok (.putfield 50, 3) := by decide +kernel
theorem dX12_init_260 : decode cX12_init 260 = .ok (.aload_n 0, 1) := by decide +kernel
theorem dX12_init_261 : decode cX12_init 261 = .ok (.iconst 4, 1) := by decide +kernel
theorem dX12_init_262 : decode cX12_init 262 = .ok (.newarray .int, 2) := by decide +kernel
theorem dX12_init_264 : decode cX12_init 264 = .ok (.dup, 1) := by decide +kernel
theorem dX12_init_265 : decode cX12_init 265 = .ok (.iconst 0, 1) := by decide +kernel
theorem dX12_init_266 : decode cX12_init 266 = .ok (.iconst (-1), 1) := by decide +kernel
theorem dX12_init_267 : decode cX12_init 267 = .ok (.iastore, 1) := by decide +kernel
theorem dX12_init_268 : decode cX12_init 268 = .ok (.dup, 1) := by decide +kernel
theorem dX12_init_269 : decode cX12_init 269 = .ok (.iconst 1, 1) := by decide +kernel
theorem dX12_init_270 : decode cX12_init 270 = .ok (.iconst (-1), 1) := by decide +kernel
theorem dX12_init_271 : decode cX12_init 271 = .ok (.iastore, 1) := by decide +kernel
theorem dX12_init_272 : decode cX12_init 272 = .ok (.dup, 1) := by decide +kernel
theorem dX12_init_273 : decode cX12_init 273 = .ok (.iconst 2, 1) := by decide +kernel
theorem dX12_init_274 : decode cX12_init 274 = .ok (.iconst (-1), 1) := by decide +kernel
theorem dX12_init_275 : decode cX12_init 275 = .ok (.iastore, 1) := by decide +kernel
theorem dX12_init_276 : decode cX12_init 276 = .ok (.dup, 1) := by decide +kernel
theorem dX12_init_277 : decode cX12_init 277 = .ok (.iconst 3, 1) := by decide +kernel
theorem dX12_init_278 : decode cX12_init 278 = .ok (.iconst (-1), 1) := by decide +kernel
theorem dX12_init_279 : decode cX12_init 279 = .ok (.iastore, 1) := by decide +kernel
theorem dX12_init_280 : decode cX12_init 280 = .ok (.putfield 53, 3) := by decide +kernel
theorem dX12_init_283 : decode cX12_init 283 = .ok (.aload_n 0, 1) := by decide +kernel
theorem dX12_init_284 : decode cX12_init 284 = .ok (.iconst 4, 1) := by decide +kernel
theorem dX12_init_285 : decode cX12_init 285 = .ok (.newarray .int, 2) := by decide +kernel
theorem dX12_init_287 : decode cX12_init 287 = .ok (.putfield 56, 3) := by decide +kernel
theorem dX12_init_290 : decode cX12_init 290 = .ok (.aload_n 0, 1) := by decide +kernel
theorem dX12_init_291 : decode cX12_init 291 = .ok (.sipush 160, 3) := by decide +kernel
theorem dX12_init_294 : decode cX12_init 294 = .ok (.newarray .long, 2) := by decide +kernel
theorem dX12_init_296 : decode cX12_init 296 = .ok (.putfield 59, 3) := by decide +kernel
theorem dX12_init_299 : decode cX12_init 299 = .ok (.aload_n 0, 1) := by decide +kernel
theorem dX12_init_300 : decode cX12_init 300 = .ok (.iconst 4, 1) := by decide +kernel
theorem dX12_init_301 : decode cX12_init 301 = .ok (.newarray .int, 2) := by decide +kernel
theorem dX12_init_303 : decode cX12_init 303 = .ok (.dup, 1) := by decide +kernel
theorem dX12_init_304 : decode cX12_init 304 = .ok (.iconst 0, 1) := by decide +kernel
theorem dX12_init_305 : decode cX12_init 305 = .ok (.iconst (-1), 1) := by decide +kernel
theorem dX12_init_306 : decode cX12_init 306 = .ok (.iastore, 1) := by decide +kernel
theorem dX12_init_307 : decode cX12_init 307 = .ok (.dup, 1) := by decide +kernel
theorem dX12_init_308 : decode cX12_init 308 = .ok (.iconst 1, 1) := by decide +kernel
theorem dX12_init_309 : decode cX12_init 309 = .ok (.iconst (-1), 1) := by decide +kernel
theorem dX12_init_310 : decode cX12_init 310 = .ok (.iastore, 1) := by decide +kernel
theorem dX12_init_311 : decode cX12_init 311 = .ok (.dup, 1) := by decide +kernel
theorem dX12_init_312 : decode cX12_init 312 = .ok (.iconst 2, 1) := by decide +kernel
theorem dX12_init_313 : decode cX12_init 313 = .ok (.iconst (-1), 1) := by decide +kernel
theorem dX12_init_314 : decode cX12_init 314 = .ok (.iastore, 1) := by decide +kernel
theorem dX12_init_315 : decode cX12_init 315 = .ok (.dup, 1) := by decide +kernel
theorem dX12_init_316 : decode cX12_init 316 = .ok (.iconst 3, 1) := by decide +kernel
theorem dX12_init_317 : decode cX12_init 317 = .ok (.iconst (-1), 1) := by decide +kernel
theorem dX12_init_318 : decode cX12_init 318 = .ok (.iastore, 1) := by decide +kernel
theorem dX12_init_319 : decode cX12_init 319 = .ok (.putfield 63, 3) := by decide +kernel
theorem dX12_init_322 : decode cX12_init 322 = .ok (.aload_n 0, 1) := by decide +kernel
theorem dX12_init_323 : decode cX12_init 323 = .ok (.iconst 4, 1) := by decide +kernel
theorem dX12_init_324 : decode cX12_init 324 = .ok (.newarray .int, 2) := by decide +kernel
theorem dX12_init_326 : decode cX12_init 326 = .ok (.putfield 66, 3) := by decide +kernel
theorem dX12_init_329 : decode cX12_init 329 = .ok (.aload_n 0, 1) := by decide +kernel
theorem dX12_init_330 : decode cX12_init 330 = .ok (.iconst 4, 1) := by decide +kernel
theorem dX12_init_331 : decode cX12_init 331 = .ok (.newarray .int, 2) := by decide +kernel
theorem dX12_init_333 : decode cX12_init 333 = .ok (.putfield 69, 3) := by decide +kernel
theorem dX12_init_336 : decode cX12_init 336 = .ok (.aload_n 0, 1) := by decide +kernel
theorem dX12_init_337 : decode cX12_init 337 = .ok (.bipush 30, 2) := by decide +kernel
theorem dX12_init_339 : decode cX12_init 339 = .ok (.newarray .int, 2) := by decide +kernel
theorem dX12_init_341 : decode cX12_init 341 = .ok (.putfield 72, 3) := by decide +kernel
theorem dX12_init_344 : decode cX12_init 344 = .ok (.aload_n 0, 1) := by decide +kernel
theorem dX12_init_345 : decode cX12_init 345 = .ok (.bipush 60, 2) := by decide +kernel
theorem dX12_init_347 : decode cX12_init 347 = .ok (.newarray .int, 2) := by decide +kernel
theorem dX12_init_349 : decode cX12_init 349 = .ok (.putfield 75, 3) := by decide +kernel
theorem dX12_init_352 : decode cX12_init 352 = .ok (.aload_n 0, 1) := by decide +kernel
theorem dX12_init_353 : decode cX12_init 353 = .ok (.iconst 2, 1) := by decide +kernel
theorem dX12_init_354 : decode cX12_init 354 = .ok (.newarray .int, 2) := by decide +kernel
theorem dX12_init_356 : decode cX12_init 356 = .ok (.putfield 78, 3) := by decide +kernel
theorem dX12_init_359 : decode cX12_init 359 = .ok (.return_, 1) := by decide +kernel
theorem dX12_in_0 : decode cX12_in 0 = .ok (.iload_n 0, 1) := by decide +kernel
theorem dX12_in_1 : decode cX12_in 1 = .ok (.iload_n 1, 1) := by decide +kernel
theorem dX12_in_2 : decode cX12_in 2 = .ok (.if_icmp .lt 12, 3) := by decide +kernel
theorem dX12_in_5 : decode cX12_in 5 = .ok (.iload_n 0, 1) := by decide +kernel
theorem dX12_in_6 : decode cX12_in 6 = .ok (.iload_n 2, 1) := by decide +kernel
theorem dX12_in_7 : decode cX12_in 7 = .ok (.if_icmp .gt 7, 3) := by decide +kernel
theorem dX12_in_10 : decode cX12_in 10 = .ok (.iconst 1, 1) := by decide +kernel
theorem dX12_in_11 : decode cX12_in 11 = .ok (.goto 4, 3) := by decide +kernel
theorem dX12_in_14 : decode cX12_in 14 = .ok (.iconst 0, 1) := by decide +kernel
theorem dX12_in_15 : decode cX12_in 15 = .ok (.ireturn, 1) := by decide +kernel
theorem dX12_isCard_0 : decode cX12_isCard 0 = .ok (.iload_n 1, 1) := by decide +kernel
theorem dX12_isCard_1 : decode cX12_isCard 1 = .ok (.iconst 0, 1) := by decide +kernel
theorem dX12_isCard_2 : decode cX12_isCard 2 = .ok (.aload_n 0, 1) := by decide +kernel
theorem dX12_isCard_3 : decode cX12_isCard 3 = .ok (.getfield 81, 3) := by decide +kernel
theorem dX12_isCard_6 : decode cX12_isCard 6 = .ok (.iconst 1, 1) := by decide +kernel
theorem dX12_isCard_7 : decode cX12_isCard 7 = .ok (.isub, 1) := by decide +kernel
theorem dX12_isCard_8 : decode cX12_isCard 8 = .ok (.invokestatic 84, 3) := by decide +kernel
theorem dX12_isCard_11 : decode cX12_isCard 11 = .ok (.ireturn, 1) := by decide +kernel
theorem dX12_isSide_0 : decode cX12_isSide 0 = .ok (.iload_n 0, 1) := by decide +kernel
theorem dX12_isSide_1 : decode cX12_isSide 1 = .ok (.iconst 0, 1) := by decide +kernel
theorem dX12_isSide_2 : decode cX12_isSide 2 = .ok (.iconst 1, 1) := by decide +kernel
theorem dX12_isSide_3 : decode cX12_isSide 3 = .ok (.invokestatic 84, 3) := by decide +kernel
theorem dX12_isSide_6 : decode cX12_isSide 6 = .ok (.ireturn, 1) := by decide +kernel
theorem dX12_its_0 : decode cX12_its 0 = .ok (.aload_n 0, 1) := by decide +kernel
theorem dX12_its_1 : decode cX12_its 1 = .ok (.getfield 7, 3) := by decide +kernel
theorem dX12_its_4 : decode cX12_its 4 = .ok (.iconst 4, 1) := by decide +kernel
theorem dX12_its_5 : decode cX12_its 5 = .ok (.iload_n 1, 1) := by decide +kernel
theorem dX12_its_6 : decode cX12_its 6 = .ok (.imul, 1) := by decide +kernel
theorem dX12_its_7 : decode cX12_its 7 = .ok (.iload_n 2, 1) := by decide +kernel
theorem dX12_its_8 : decode cX12_its 8 = .ok (.iadd, 1) := by decide +kernel
theorem dX12_its_9 : decode cX12_its 9 = .ok (.iaload, 1) := by decide +kernel
theorem dX12_its_10 : decode cX12_its 10 = .ok (.ireturn, 1) := by decide +kernel
theorem dX12_bare_0 : decode cX12_bare 0 = .ok (.iload_n 0, 1) := by decide +kernel
theorem dX12_bare_1 : decode cX12_bare 1 = .ok (.ifCond .ge 8, 3) := by decide +kernel
theorem dX12_bare_4 : decode cX12_bare 4 = .ok (.iload_n 0, 1) := by decide +kernel
theorem dX12_bare_5 : decode cX12_bare 5 = .ok (.ineg, 1) := by decide +kernel
theorem dX12_bare_6 : decode cX12_bare 6 = .ok (.goto 4, 3) := by decide +kernel
theorem dX12_bare_9 : decode cX12_bare 9 = .ok (.iload_n 0, 1) := by decide +kernel
theorem dX12_bare_10 : decode cX12_bare 10 = .ok (.ireturn, 1) := by decide +kernel
theorem dX12_kept_0 : decode cX12_kept 0 = .ok (.iload_n 0, 1) := by decide +kernel
theorem dX12_kept_1 : decode cX12_kept 1 = .ok (.iload_n 1, 1) := by decide +kernel
theorem dX12_kept_2 : decode cX12_kept 2 = .ok (.ineg, 1) := by decide +kernel
theorem dX12_kept_3 : decode cX12_kept 3 = .ok (.if_icmp .ge 8, 3) := by decide +kernel
theorem dX12_kept_6 : decode cX12_kept 6 = .ok (.iload_n 1, 1) := by decide +kernel
theorem dX12_kept_7 : decode cX12_kept 7 = .ok (.ineg, 1) := by decide +kernel
theorem dX12_kept_8 : decode cX12_kept 8 = .ok (.goto 13, 3) := by decide +kernel
theorem dX12_kept_11 : decode cX12_kept 11 = .ok (.iload_n 0, 1) := by decide +kernel
theorem dX12_kept_12 : decode cX12_kept 12 = .ok (.iload_n 1, 1) := by decide +kernel
theorem dX12_kept_13 : decode cX12_kept 13 = .ok (.if_icmp .le 7, 3) := by decide +kernel
theorem dX12_kept_16 : decode cX12_kept 16 = .ok (.iload_n 1, 1) := by decide +kernel
theorem dX12_kept_17 : decode cX12_kept 17 = .ok (.goto 4, 3) := by decide +kernel
theorem dX12_kept_20 : decode cX12_kept 20 = .ok (.iload_n 0, 1) := by decide +kernel
theorem dX12_kept_21 : decode cX12_kept 21 = .ok (.ireturn, 1) := by decide +kernel
theorem dX12_isLike_0 : decode cX12_isLike 0 = .ok (.iload_n 0, 1) := by decide +kernel
theorem dX12_isLike_1 : decode cX12_isLike 1 = .ok (.iconst 0, 1) := by decide +kernel
theorem dX12_isLike_2 : decode cX12_isLike 2 = .ok (.iconst 5, 1) := by decide +kernel
theorem dX12_isLike_3 : decode cX12_isLike 3 = .ok (.invokestatic 84, 3) := by decide +kernel
theorem dX12_isLike_6 : decode cX12_isLike 6 = .ok (.ifCond .eq 37, 3) := by decide +kernel
theorem dX12_isLike_9 : decode cX12_isLike 9 = .ok (.iload_n 1, 1) := by decide +kernel
theorem dX12_isLike_10 : decode cX12_isLike 10 = .ok (.iconst 1, 1) := by decide +kernel
theorem dX12_isLike_11 : decode cX12_isLike 11 = .ok (.bipush 99, 2) := by decide +kernel
theorem dX12_isLike_13 : decode cX12_isLike 13 = .ok (.invokestatic 84, 3) := by decide +kernel
theorem dX12_isLike_16 : decode cX12_isLike 16 = .ok (.ifCond .eq 27, 3) := by decide +kernel
theorem dX12_isLike_19 : decode cX12_isLike 19 = .ok (.iload_n 2, 1) := by decide +kernel
theorem dX12_isLike_20 : decode cX12_isLike 20 = .ok (.iconst 1, 1) := by decide +kernel
theorem dX12_isLike_21 : decode cX12_isLike 21 = .ok (.bipush 9, 2) := by decide +kernel
theorem dX12_isLike_23 : decode cX12_isLike 23 = .ok (.invokestatic 84, 3) := by decide +kernel
theorem dX12_isLike_26 : decode cX12_isLike 26 = .ok (.ifCond .eq 17, 3) := by decide +kernel
theorem dX12_isLike_29 : decode cX12_isLike 29 = .ok (.iload_n 3, 1) := by decide +kernel
theorem dX12_isLike_30 : decode cX12_isLike 30 = .ok (.bipush (-4), 2) := by decide +kernel
theorem dX12_isLike_32 : decode cX12_isLike 32 = .ok (.iconst 4, 1) := by decide +kernel
theorem dX12_isLike_33 : decode cX12_isLike 33 = .ok (.invokestatic 84, 3) := by decide +kernel
theorem dX12_isLike_36 : decode cX12_isLike 36 = .ok (.ifCond .eq 7, 3) := by decide +kernel
theorem dX12_isLike_39 : decode cX12_isLike 39 = .ok (.iconst 1, 1) := by decide +kernel
theorem dX12_isLike_40 : decode cX12_isLike 40 = .ok (.goto 4, 3) := by decide +kernel
theorem dX12_isLike_43 : decode cX12_isLike 43 = .ok (.iconst 0, 1) := by decide +kernel
theorem dX12_isLike_44 : decode cX12_isLike 44 = .ok (.ireturn, 1) := by decide +kernel
theorem dX12_feed_0 : decode cX12_feed 0 = .ok (.iload_n 3, 1) := by decide +kernel
theorem dX12_feed_1 : decode cX12_feed 1 = .ok (.iconst 1, 1) := by decide +kernel
theorem dX12_feed_2 : decode cX12_feed 2 = .ok (.bipush 8, 2) := by decide +kernel
theorem dX12_feed_4 : decode cX12_feed 4 = .ok (.invokestatic 84, 3) := by decide +kernel
theorem dX12_feed_7 : decode cX12_feed 7 = .ok (.ifCond .ne 5, 3) := by decide +kernel
theorem dX12_feed_10 : decode cX12_feed 10 = .ok (.iconst (-1), 1) := by decide +kernel
theorem dX12_feed_11 : decode cX12_feed 11 = .ok (.ireturn, 1) := by decide +kernel
theorem dX12_feed_12 : decode cX12_feed 12 = .ok (.aload_n 0, 1) := by decide +kernel
theorem dX12_feed_13 : decode cX12_feed 13 = .ok (.getfield 88, 3) := by decide +kernel
theorem dX12_feed_16 : decode cX12_feed 16 = .ok (.iload_n 3, 1) := by decide +kernel
theorem dX12_feed_17 : decode cX12_feed 17 = .ok (.iadd, 1) := by decide +kernel
theorem dX12_feed_18 : decode cX12_feed 18 = .ok (.sipush 200, 3) := by decide +kernel
theorem dX12_feed_21 : decode cX12_feed 21 = .ok (.if_icmp .le 6, 3) := by decide +kernel
theorem dX12_feed_24 : decode cX12_feed 24 = .ok (.bipush (-2), 2) := by decide +kernel
theorem dX12_feed_26 : decode cX12_feed 26 = .ok (.ireturn, 1) := by decide +kernel
theorem dX12_feed_27 : decode cX12_feed 27 = .ok (.iconst 0, 1) := by decide +kernel
theorem dX12_feed_28 : decode cX12_feed 28 = .ok (.istore 4, 2) := by decide +kernel
theorem dX12_feed_30 : decode cX12_feed 30 = .ok (.iload 4, 2) := by decide +kernel
theorem dX12_feed_32 : decode cX12_feed 32 = .ok (.iload_n 3, 1) := by decide +kernel
theorem dX12_feed_33 : decode cX12_feed 33 = .ok (.if_icmp .ge 40, 3) := by decide +kernel
theorem dX12_feed_36 : decode cX12_feed 36 = .ok (.aload_n 0, 1) := by decide +kernel
theorem dX12_feed_37 : decode cX12_feed 37 = .ok (.getfield 29, 3) := by decide +kernel
theorem dX12_feed_40 : decode cX12_feed 40 = .ok (.aload_n 0, 1) := by decide +kernel
theorem dX12_feed_41 : decode cX12_feed 41 = .ok (.getfield 88, 3) := by decide +kernel
theorem dX12_feed_44 : decode cX12_feed 44 = .ok (.lload_n 1, 1) := by decide +kernel
theorem dX12_feed_45 : decode cX12_feed 45 = .ok (.bipush 8, 2) := by decide +kernel
theorem dX12_feed_47 : decode cX12_feed 47 = .ok (.iload 4, 2) := by decide +kernel
theorem dX12_feed_49 : decode cX12_feed 49 = .ok (.imul, 1) := by decide +kernel
theorem dX12_feed_50 : decode cX12_feed 50 = .ok (.lshr, 1) := by decide +kernel
theorem dX12_feed_51 : decode cX12_feed 51 = .ok (.ldc2_w 91, 3) := by decide +kernel
theorem dX12_feed_54 : decode cX12_feed 54 = .ok (.land, 1) := by decide +kernel
theorem dX12_feed_55 : decode cX12_feed 55 = .ok (.l2i, 1) := by decide +kernel
theorem dX12_feed_56 : decode cX12_feed 56 = .ok (.iastore, 1) := by decide +kernel
theorem dX12_feed_57 : decode cX12_feed 57 = .ok (.aload_n 0, 1) := by decide +kernel
theorem dX12_feed_58 : decode cX12_feed 58 = .ok (.dup, 1) := by decide +kernel
theorem dX12_feed_59 : decode cX12_feed 59 = .ok (.getfield 88, 3) := by decide +kernel
theorem dX12_feed_62 : decode cX12_feed 62 = .ok (.iconst 1, 1) := by decide +kernel
theorem dX12_feed_63 : decode cX12_feed 63 = .ok (.iadd, 1) := by decide +kernel
theorem dX12_feed_64 : decode cX12_feed 64 = .ok (.putfield 88, 3) := by decide +kernel
theorem dX12_feed_67 : decode cX12_feed 67 = .ok (.iinc 4 1, 3) := by decide +kernel
theorem dX12_feed_70 : decode cX12_feed 70 = .ok (.goto (-40), 3) := by decide +kernel
theorem dX12_feed_73 : decode cX12_feed 73 = .ok (.aload_n 0, 1) := by decide +kernel
theorem dX12_feed_74 : decode cX12_feed 74 = .ok (.getfield 88, 3) := by decide +kernel
theorem dX12_feed_77 : decode cX12_feed 77 = .ok (.ireturn, 1) := by decide +kernel
theorem dX12_byteAt_0 : decode cX12_byteAt 0 = .ok (.iload_n 1, 1) := by decide +kernel
theorem dX12_byteAt_1 : decode cX12_byteAt 1 = .ok (.aload_n 0, 1) := by decide +kernel
theorem dX12_byteAt_2 : decode cX12_byteAt 2 = .ok (.getfield 88, 3) := by decide +kernel
theorem dX12_byteAt_5 : decode cX12_byteAt 5 = .ok (.if_icmp .ge 12, 3) := by decide +kernel
theorem dX12_byteAt_8 : decode cX12_byteAt 8 = .ok (.aload_n 0, 1) := by decide +kernel
theorem dX12_byteAt_9 : decode cX12_byteAt 9 = .ok (.getfield 29, 3) := by decide +kernel
theorem dX12_byteAt_12 : decode cX12_byteAt 12 = .ok (.iload_n 1, 1) := by decide +kernel
theorem dX12_byteAt_13 : decode cX12_byteAt 13 = .ok (.iaload, 1) := by decide +kernel
theorem dX12_byteAt_14 : decode cX12_byteAt 14 = .ok (.goto 4, 3) := by decide +kernel
theorem dX12_byteAt_17 : decode cX12_byteAt 17 = .ok (.iconst (-1), 1) := by decide +kernel
theorem dX12_byteAt_18 : decode cX12_byteAt 18 = .ok (.ireturn, 1) := by decide +kernel
theorem dX12_isLetter_0 : decode cX12_isLetter 0 = .ok (.iload_n 0, 1) := by decide +kernel
theorem dX12_isLetter_1 : decode cX12_isLetter 1 = .ok (.bipush 97, 2) := by decide +kernel
theorem dX12_isLetter_3 : decode cX12_isLetter 3 = .ok (.bipush 122, 2) := by decide +kernel
theorem dX12_isLetter_5 : decode cX12_isLetter 5 = .ok (.invokestatic 84, 3) := by decide +kernel
theorem dX12_isLetter_8 : decode cX12_isLetter 8 = .ok (.ireturn, 1) := by decide +kernel
theorem dX12_isDigit_0 : decode cX12_isDigit 0 = .ok (.iload_n 0, 1) := by decide +kernel
theorem dX12_isDigit_1 : decode cX12_isDigit 1 = .ok (.bipush 48, 2) := by decide +kernel
theorem dX12_isDigit_3 : decode cX12_isDigit 3 = .ok (.bipush 57, 2) := by decide +kernel
theorem dX12_isDigit_5 : decode cX12_isDigit 5 = .ok (.invokestatic 84, 3) := by decide +kernel
theorem dX12_isDigit_8 : decode cX12_isDigit 8 = .ok (.ireturn, 1) := by decide +kernel
theorem dX12_advance_0 : decode cX12_advance 0 = .ok (.aload_n 0, 1) := by decide +kernel
theorem dX12_advance_1 : decode cX12_advance 1 = .ok (.aload_n 0, 1) := by decide +kernel
theorem dX12_advance_2 : decode cX12_advance 2 = .ok (.getfield 93, 3) := by decide +kernel
theorem dX12_advance_5 : decode cX12_advance 5 = .ok (.putfield 96, 3) := by decide +kernel
theorem dX12_advance_8 : decode cX12_advance 8 = .ok (.aload_n 0, 1) := by decide +kernel
theorem dX12_advance_9 : decode cX12_advance 9 = .ok (.aload_n 0, 1) := by decide +kernel
theorem dX12_advance_10 : decode cX12_advance 10 = .ok (.getfield 96, 3) := by decide +kernel
theorem dX12_advance_13 : decode cX12_advance 13 = .ok (.invokevirtual 99, 3) := by decide +kernel
theorem dX12_advance_16 : decode cX12_advance 16 = .ok (.bipush 32, 2) := by decide +kernel
theorem dX12_advance_18 : decode cX12_advance 18 = .ok (.if_icmp .ne 16, 3) := by decide +kernel
theorem dX12_advance_21 : decode cX12_advance 21 = .ok (.aload_n 0, 1) := by decide +kernel
theorem dX12_advance_22 : decode cX12_advance 22 = .ok (.dup, 1) := by decide +kernel
theorem dX12_advance_23 : decode cX12_advance 23 = .ok (.getfield 96, 3) := by decide +kernel
theorem dX12_advance_26 : decode cX12_advance 26 = .ok (.iconst 1, 1) := by decide +kernel
theorem dX12_advance_27 : decode cX12_advance 27 = .ok (.iadd, 1) := by decide +kernel
theorem dX12_advance_28 : decode cX12_advance 28 = .ok (.putfield 96, 3) := by decide +kernel
theorem dX12_advance_31 : decode cX12_advance 31 = .ok (.goto (-23), 3) := by decide +kernel
theorem dX12_advance_34 : decode cX12_advance 34 = .ok (.aload_n 0, 1) := by decide +kernel
theorem dX12_advance_35 : decode cX12_advance 35 = .ok (.aload_n 0, 1) := by decide +kernel
theorem dX12_advance_36 : decode cX12_advance 36 = .ok (.getfield 96, 3) := by decide +kernel
theorem dX12_advance_39 : decode cX12_advance 39 = .ok (.putfield 93, 3) := by decide +kernel
theorem dX12_advance_42 : decode cX12_advance 42 = .ok (.aload_n 0, 1) := by decide +kernel
theorem dX12_advance_43 : decode cX12_advance 43 = .ok (.aload_n 0, 1) := by decide +kernel
theorem dX12_advance_44 : decode cX12_advance 44 = .ok (.getfield 96, 3) := by decide +kernel
theorem dX12_advance_47 : decode cX12_advance 47 = .ok (.invokevirtual 99, 3) := by decide +kernel
theorem dX12_advance_50 : decode cX12_advance 50 = .ok (.istore_n 1, 1) := by decide +kernel
theorem dX12_advance_51 : decode cX12_advance 51 = .ok (.aload_n 0, 1) := by decide +kernel
theorem dX12_advance_52 : decode cX12_advance 52 = .ok (.iload_n 1, 1) := by decide +kernel
theorem dX12_advance_53 : decode cX12_advance 53 = .ok (.ifCond .ge 7, 3) := by decide +kernel
theorem dX12_advance_56 : decode cX12_advance 56 = .ok (.iconst 0, 1) := by decide +kernel
theorem dX12_advance_57 : decode cX12_advance 57 = .ok (.goto 26, 3) := by decide +kernel
theorem dX12_advance_60 : decode cX12_advance 60 = .ok (.iload_n 1, 1) := by decide +kernel
theorem dX12_advance_61 : decode cX12_advance 61 = .ok (.invokestatic 103, 3) := by decide +kernel
theorem dX12_advance_64 : decode cX12_advance 64 = .ok (.ifCond .eq 7, 3) := by decide +kernel
theorem dX12_advance_67 : decode cX12_advance 67 = .ok (.iconst 1, 1) := by decide +kernel
theorem dX12_advance_68 : decode cX12_advance 68 = .ok (.goto 15, 3) := by decide +kernel
theorem dX12_advance_71 : decode cX12_advance 71 = .ok (.iload_n 1, 1) := by decide +kernel
theorem dX12_advance_72 : decode cX12_advance 72 = .ok (.invokestatic 107, 3) := by decide +kernel
theorem dX12_advance_75 : decode cX12_advance 75 = .ok (.ifCond .eq 7, 3) := by decide +kernel
theorem dX12_advance_78 : decode cX12_advance 78 = .ok (.iconst 2, 1) := by decide +kernel
theorem dX12_advance_79 : decode cX12_advance 79 = .ok (.goto 4, 3) := by decide +kernel
theorem dX12_advance_82 : decode cX12_advance 82 = .ok (.iconst 3, 1) := by decide +kernel
theorem dX12_advance_83 : decode cX12_advance 83 = .ok (.putfield 110, 3) := by decide +kernel
theorem dX12_advance_86 : decode cX12_advance 86 = .ok (.aload_n 0, 1) := by decide +kernel
theorem dX12_advance_87 : decode cX12_advance 87 = .ok (.lconst 0, 1) := by decide +kernel
theorem dX12_advance_88 : decode cX12_advance 88 = .ok (.putfield 113, 3) := by decide +kernel
theorem dX12_advance_91 : decode cX12_advance 91 = .ok (.aload_n 0, 1) := by decide +kernel
theorem dX12_advance_92 : decode cX12_advance 92 = .ok (.aload_n 0, 1) := by decide +kernel
theorem dX12_advance_93 : decode cX12_advance 93 = .ok (.getfield 110, 3) := by decide +kernel
theorem dX12_advance_96 : decode cX12_advance 96 = .ok (.iconst 2, 1) := by decide +kernel
theorem dX12_advance_97 : decode cX12_advance 97 = .ok (.if_icmp .ne 7, 3) := by decide +kernel
theorem dX12_advance_100 : decode cX12_advance 100 = .ok (.iconst 0, 1) := by decide +kernel
theorem dX12_advance_101 : decode cX12_advance 101 = .ok (.goto 4, 3) := by decide +kernel
theorem dX12_advance_104 : decode cX12_advance 104 = .ok (.iload_n 1, 1) := by decide +kernel
theorem dX12_advance_105 : decode cX12_advance 105 = .ok (.putfield 117, 3) := by decide +kernel
theorem dX12_advance_108 : decode cX12_advance 108 = .ok (.aload_n 0, 1) := by decide +kernel
theorem dX12_advance_109 : decode cX12_advance 109 = .ok (.getfield 110, 3) := by decide +kernel
theorem dX12_advance_112 : decode cX12_advance 112 = .ok (.iconst 3, 1) := by decide +kernel
theorem dX12_advance_113 : decode cX12_advance 113 = .ok (.if_icmp .ne 13, 3) := by decide +kernel
theorem dX12_advance_116 : decode cX12_advance 116 = .ok (.aload_n 0, 1) := by decide +kernel
theorem dX12_advance_117 : decode cX12_advance 117 = .ok (.dup, 1) := by decide +kernel
theorem dX12_advance_118 : decode cX12_advance 118 = .ok (.getfield 93, 3) := by decide +kernel
theorem dX12_advance_121 : decode cX12_advance 121 = .ok (.iconst 1, 1) := by decide +kernel
theorem dX12_advance_122 : decode cX12_advance 122 = .ok (.iadd, 1) := by decide +kernel
theorem dX12_advance_123 : decode cX12_advance 123 = .ok (.putfield 93, 3) := by decide +kernel
theorem dX12_advance_126 : decode cX12_advance 126 = .ok (.aload_n 0, 1) := by decide +kernel
theorem dX12_advance_127 : decode cX12_advance 127 = .ok (.getfield 110, 3) := by decide +kernel
theorem dX12_advance_130 : decode cX12_advance 130 = .ok (.iconst 1, 1) := by decide +kernel
theorem dX12_advance_131 : decode cX12_advance 131 = .ok (.if_icmp .ne 76, 3) := by decide +kernel
theorem dX12_advance_134 : decode cX12_advance 134 = .ok (.aload_n 0, 1) := by decide +kernel
theorem dX12_advance_135 : decode cX12_advance 135 = .ok (.aload_n 0, 1) := by decide +kernel
theorem dX12_advance_136 : decode cX12_advance 136 = .ok (.getfield 93, 3) := by decide +kernel
theorem dX12_advance_139 : decode cX12_advance 139 = .ok (.invokevirtual 99, 3) := by decide +kernel
theorem dX12_advance_142 : decode cX12_advance 142 = .ok (.invokestatic 103, 3) := by decide +kernel
theorem dX12_advance_145 : decode cX12_advance 145 = .ok (.ifCond .eq 62, 3) := by decide +kernel
theorem dX12_advance_148 : decode cX12_advance 148 = .ok (.aload_n 0, 1) := by decide +kernel
theorem dX12_advance_149 : decode cX12_advance 149 = .ok (.aload_n 0, 1) := by decide +kernel
theorem dX12_advance_150 : decode cX12_advance 150 = .ok (.getfield 93, 3) := by decide +kernel
theorem dX12_advance_153 : decode cX12_advance 153 = .ok (.aload_n 0, 1) := by decide +kernel
theorem dX12_advance_154 : decode cX12_advance 154 = .ok (.getfield 96, 3) := by decide +kernel
theorem dX12_advance_157 : decode cX12_advance 157 = .ok (.isub, 1) := by decide +kernel
theorem dX12_advance_158 : decode cX12_advance 158 = .ok (.bipush 8, 2) := by decide +kernel
theorem dX12_advance_160 : decode cX12_advance 160 = .ok (.if_icmp .ge 28, 3) := by decide +kernel
theorem dX12_advance_163 : decode cX12_advance 163 = .ok (.ldc2_w 120, 3) := by decide +kernel
theorem dX12_advance_166 : decode cX12_advance 166 = .ok (.aload_n 0, 1) := by decide +kernel
theorem dX12_advance_167 : decode cX12_advance 167 = .ok (.getfield 113, 3) := by decide +kernel
theorem dX12_advance_170 : decode cX12_advance 170 = .ok (.lmul, 1) := by decide +kernel
theorem dX12_advance_171 : decode cX12_advance 171 = .ok (.aload_n 0, 1) := by decide +kernel
theorem dX12_advance_172 : decode cX12_advance 172 = .ok (.aload_n 0, 1) := by decide +kernel
theorem dX12_advance_173 : decode cX12_advance 173 = .ok (.getfield 93, 3) := by decide +kernel
theorem dX12_advance_176 : decode cX12_advance 176 = .ok (.invokevirtual 99, 3) := by decide +kernel
theorem dX12_advance_179 : decode cX12_advance 179 = .ok (.i2l, 1) := by decide +kernel
theorem dX12_advance_180 : decode cX12_advance 180 = .ok (.ladd, 1) := by decide +kernel
theorem dX12_advance_181 : decode cX12_advance 181 = .ok (.ldc2_w 122, 3) := by decide +kernel
theorem dX12_advance_184 : decode cX12_advance 184 = .ok (.lsub, 1) := by decide +kernel
theorem dX12_advance_185 : decode cX12_advance 185 = .ok (.goto 6, 3) := by decide +kernel
theorem dX12_advance_188 : decode cX12_advance 188 = .ok (.ldc2_w 124, 3) := by decide +kernel
theorem dX12_advance_191 : decode cX12_advance 191 = .ok (.putfield 113, 3) := by decide +kernel
theorem dX12_advance_194 : decode cX12_advance 194 = .ok (.aload_n 0, 1) := by decide +kernel
theorem dX12_advance_195 : decode cX12_advance 195 = .ok (.dup, 1) := by decide +kernel
theorem dX12_advance_196 : decode cX12_advance 196 = .ok (.getfield 93, 3) := by decide +kernel
theorem dX12_advance_199 : decode cX12_advance 199 = .ok (.iconst 1, 1) := by decide +kernel
theorem dX12_advance_200 : decode cX12_advance 200 = .ok (.iadd, 1) := by decide +kernel
theorem dX12_advance_201 : decode cX12_advance 201 = .ok (.putfield 93, 3) := by decide +kernel
theorem dX12_advance_204 : decode cX12_advance 204 = .ok (.goto (-78), 3) := by decide +kernel
theorem dX12_advance_207 : decode cX12_advance 207 = .ok (.aload_n 0, 1) := by decide +kernel
theorem dX12_advance_208 : decode cX12_advance 208 = .ok (.getfield 110, 3) := by decide +kernel
theorem dX12_advance_211 : decode cX12_advance 211 = .ok (.iconst 2, 1) := by decide +kernel
theorem dX12_advance_212 : decode cX12_advance 212 = .ok (.if_icmp .ne 70, 3) := by decide +kernel
theorem dX12_advance_215 : decode cX12_advance 215 = .ok (.aload_n 0, 1) := by decide +kernel
theorem dX12_advance_216 : decode cX12_advance 216 = .ok (.aload_n 0, 1) := by decide +kernel
theorem dX12_advance_217 : decode cX12_advance 217 = .ok (.getfield 93, 3) := by decide +kernel
theorem dX12_advance_220 : decode cX12_advance 220 = .ok (.invokevirtual 99, 3) := by decide +kernel
theorem dX12_advance_223 : decode cX12_advance 223 = .ok (.invokestatic 107, 3) := by decide +kernel
theorem dX12_advance_226 : decode cX12_advance 226 = .ok (.ifCond .eq 56, 3) := by decide +kernel
theorem dX12_advance_229 : decode cX12_advance 229 = .ok (.aload_n 0, 1) := by decide +kernel
theorem dX12_advance_230 : decode cX12_advance 230 = .ok (.aload_n 0, 1) := by decide +kernel
theorem dX12_advance_231 : decode cX12_advance 231 = .ok (.getfield 93, 3) := by decide +kernel
theorem dX12_advance_234 : decode cX12_advance 234 = .ok (.aload_n 0, 1) := by decide +kernel
theorem dX12_advance_235 : decode cX12_advance 235 = .ok (.getfield 96, 3) := by decide +kernel
theorem dX12_advance_238 : decode cX12_advance 238 = .ok (.isub, 1) := by decide +kernel
theorem dX12_advance_239 : decode cX12_advance 239 = .ok (.iconst 2, 1) := by decide +kernel
theorem dX12_advance_240 : decode cX12_advance 240 = .ok (.if_icmp .ge 25, 3) := by decide +kernel
theorem dX12_advance_243 : decode cX12_advance 243 = .ok (.bipush 10, 2) := by decide +kernel
theorem dX12_advance_245 : decode cX12_advance 245 = .ok (.aload_n 0, 1) := by decide +kernel
theorem dX12_advance_246 : decode cX12_advance 246 = .ok (.getfield 117, 3) := by decide +kernel
theorem dX12_advance_249 : decode cX12_advance 249 = .ok (.imul, 1) := by decide +kernel
theorem dX12_advance_250 : decode cX12_advance 250 = .ok (.aload_n 0, 1) := by decide +kernel
theorem dX12_advance_251 : decode cX12_advance 251 = .ok (.aload_n 0, 1) := by decide +kernel
theorem dX12_advance_252 : decode cX12_advance 252 = .ok (.getfield 93, 3) := by decide +kernel
theorem dX12_advance_255 : decode cX12_advance 255 = .ok (.invokevirtual 99, 3) := by decide +kernel
theorem dX12_advance_258 : decode cX12_advance 258 = .ok (.iadd, 1) := by decide +kernel
theorem dX12_advance_259 : decode cX12_advance 259 = .ok (.bipush 48, 2) := by decide +kernel
theorem dX12_advance_261 : decode cX12_advance 261 = .ok (.isub, 1) := by decide +kernel
theorem dX12_advance_262 : decode cX12_advance 262 = .ok (.goto 4, 3) := by decide +kernel
theorem dX12_advance_265 : decode cX12_advance 265 = .ok (.iconst (-1), 1) := by decide +kernel
theorem dX12_advance_266 : decode cX12_advance 266 = .ok (.putfield 117, 3) := by decide +kernel
theorem dX12_advance_269 : decode cX12_advance 269 = .ok (.aload_n 0, 1) := by decide +kernel
theorem dX12_advance_270 : decode cX12_advance 270 = .ok (.dup, 1) := by decide +kernel
theorem dX12_advance_271 : decode cX12_advance 271 = .ok (.getfield 93, 3) := by decide +kernel
theorem dX12_advance_274 : decode cX12_advance 274 = .ok (.iconst 1, 1) := by decide +kernel
theorem dX12_advance_275 : decode cX12_advance 275 = .ok (.iadd, 1) := by decide +kernel
theorem dX12_advance_276 : decode cX12_advance 276 = .ok (.putfield 93, 3) := by decide +kernel
theorem dX12_advance_279 : decode cX12_advance 279 = .ok (.goto (-72), 3) := by decide +kernel
theorem dX12_advance_282 : decode cX12_advance 282 = .ok (.return_, 1) := by decide +kernel
theorem dX12_isWord_0 : decode cX12_isWord 0 = .ok (.aload_n 0, 1) := by decide +kernel
theorem dX12_isWord_1 : decode cX12_isWord 1 = .ok (.getfield 110, 3) := by decide +kernel
theorem dX12_isWord_4 : decode cX12_isWord 4 = .ok (.iconst 1, 1) := by decide +kernel
theorem dX12_isWord_5 : decode cX12_isWord 5 = .ok (.if_icmp .ne 16, 3) := by decide +kernel
theorem dX12_isWord_8 : decode cX12_isWord 8 = .ok (.aload_n 0, 1) := by decide +kernel
theorem dX12_isWord_9 : decode cX12_isWord 9 = .ok (.getfield 113, 3) := by decide +kernel
theorem dX12_isWord_12 : decode cX12_isWord 12 = .ok (.lload_n 1, 1) := by decide +kernel
theorem dX12_isWord_13 : decode cX12_isWord 13 = .ok (.lcmp, 1) := by decide +kernel
theorem dX12_isWord_14 : decode cX12_isWord 14 = .ok (.ifCond .ne 7, 3) := by decide +kernel
theorem dX12_isWord_17 : decode cX12_isWord 17 = .ok (.iconst 1, 1) := by decide +kernel
theorem dX12_isWord_18 : decode cX12_isWord 18 = .ok (.goto 4, 3) := by decide +kernel
theorem dX12_isWord_21 : decode cX12_isWord 21 = .ok (.iconst 0, 1) := by decide +kernel
theorem dX12_isWord_22 : decode cX12_isWord 22 = .ok (.ireturn, 1) := by decide +kernel
theorem dX12_isMark_0 : decode cX12_isMark 0 = .ok (.aload_n 0, 1) := by decide +kernel
theorem dX12_isMark_1 : decode cX12_isMark 1 = .ok (.getfield 110, 3) := by decide +kernel
theorem dX12_isMark_4 : decode cX12_isMark 4 = .ok (.iconst 3, 1) := by decide +kernel
theorem dX12_isMark_5 : decode cX12_isMark 5 = .ok (.if_icmp .ne 15, 3) := by decide +kernel
theorem dX12_isMark_8 : decode cX12_isMark 8 = .ok (.aload_n 0, 1) := by decide +kernel
theorem dX12_isMark_9 : decode cX12_isMark 9 = .ok (.getfield 117, 3) := by decide +kernel
theorem dX12_isMark_12 : decode cX12_isMark 12 = .ok (.iload_n 1, 1) := by decide +kernel
theorem dX12_isMark_13 : decode cX12_isMark 13 = .ok (.if_icmp .ne 7, 3) := by decide +kernel
theorem dX12_isMark_16 : decode cX12_isMark 16 = .ok (.iconst 1, 1) := by decide +kernel
theorem dX12_isMark_17 : decode cX12_isMark 17 = .ok (.goto 4, 3) := by decide +kernel
theorem dX12_isMark_20 : decode cX12_isMark 20 = .ok (.iconst 0, 1) := by decide +kernel
theorem dX12_isMark_21 : decode cX12_isMark 21 = .ok (.ireturn, 1) := by decide +kernel
theorem dX12_kindHere_0 : decode cX12_kindHere 0 = .ok (.aload_n 0, 1) := by decide +kernel
theorem dX12_kindHere_1 : decode cX12_kindHere 1 = .ok (.ldc2_w 126, 3) := by decide +kernel
theorem dX12_kindHere_4 : decode cX12_kindHere 4 = .ok (.invokevirtual 128, 3) := by decide +kernel
theorem dX12_kindHere_7 : decode cX12_kindHere 7 = .ok (.ifCond .eq 7, 3) := by decide +kernel
theorem dX12_kindHere_10 : decode cX12_kindHere 10 = .ok (.iconst 0, 1) := by decide +kernel
theorem dX12_kindHere_11 : decode cX12_kindHere 11 = .ok (.goto 74, 3) := by decide +kernel
theorem dX12_kindHere_14 : decode cX12_kindHere 14 = .ok (.aload_n 0, 1) := by decide +kernel
theorem dX12_kindHere_15 : decode cX12_kindHere 15 = .ok (.ldc2_w 132, 3) := by decide +kernel
theorem dX12_kindHere_18 : decode cX12_kindHere 18 = .ok (.invokevirtual 128, 3) := by decide +kernel
theorem dX12_kindHere_21 : decode cX12_kindHere 21 = .ok (.ifCond .eq 7, 3) := by decide +kernel
theorem dX12_kindHere_24 : decode cX12_kindHere 24 = .ok (.iconst 1, 1) := by decide +kernel
theorem dX12_kindHere_25 : decode cX12_kindHere 25 = .ok (.goto 60, 3) := by decide +kernel
theorem dX12_kindHere_28 : decode cX12_kindHere 28 = .ok (.aload_n 0, 1) := by decide +kernel
theorem dX12_kindHere_29 : decode cX12_kindHere 29 = .ok (.ldc2_w 134, 3) := by decide +kernel
theorem dX12_kindHere_32 : decode cX12_kindHere 32 = .ok (.invokevirtual 128, 3) := by decide +kernel
theorem dX12_kindHere_35 : decode cX12_kindHere 35 = .ok (.ifCond .eq 7, 3) := by decide +kernel
theorem dX12_kindHere_38 : decode cX12_kindHere 38 = .ok (.iconst 2, 1) := by decide +kernel
theorem dX12_kindHere_39 : decode cX12_kindHere 39 = .ok (.goto 46, 3) := by decide +kernel
theorem dX12_kindHere_42 : decode cX12_kindHere 42 = .ok (.aload_n 0, 1) := by decide +kernel
theorem dX12_kindHere_43 : decode cX12_kindHere 43 = .ok (.ldc2_w 136, 3) := by decide +kernel
theorem dX12_kindHere_46 : decode cX12_kindHere 46 = .ok (.invokevirtual 128, 3) := by decide +kernel
theorem dX12_kindHere_49 : decode cX12_kindHere 49 = .ok (.ifCond .eq 7, 3) := by decide +kernel
theorem dX12_kindHere_52 : decode cX12_kindHere 52 = .ok (.iconst 3, 1) := by decide +kernel
theorem dX12_kindHere_53 : decode cX12_kindHere 53 = .ok (.goto 32, 3) := by decide +kernel
theorem dX12_kindHere_56 : decode cX12_kindHere 56 = .ok (.aload_n 0, 1) := by decide +kernel
theorem dX12_kindHere_57 : decode cX12_kindHere 57 = .ok (.ldc2_w 138, 3) := by decide +kernel
theorem dX12_kindHere_60 : decode cX12_kindHere 60 = .ok (.invokevirtual 128, 3) := by decide +kernel
theorem dX12_kindHere_63 : decode cX12_kindHere 63 = .ok (.ifCond .eq 7, 3) := by decide +kernel
theorem dX12_kindHere_66 : decode cX12_kindHere 66 = .ok (.iconst 4, 1) := by decide +kernel
theorem dX12_kindHere_67 : decode cX12_kindHere 67 = .ok (.goto 18, 3) := by decide +kernel
theorem dX12_kindHere_70 : decode cX12_kindHere 70 = .ok (.aload_n 0, 1) := by decide +kernel
theorem dX12_kindHere_71 : decode cX12_kindHere 71 = .ok (.ldc2_w 140, 3) := by decide +kernel
theorem dX12_kindHere_74 : decode cX12_kindHere 74 = .ok (.invokevirtual 128, 3) := by decide +kernel
theorem dX12_kindHere_77 : decode cX12_kindHere 77 = .ok (.ifCond .eq 7, 3) := by decide +kernel
theorem dX12_kindHere_80 : decode cX12_kindHere 80 = .ok (.iconst 5, 1) := by decide +kernel
theorem dX12_kindHere_81 : decode cX12_kindHere 81 = .ok (.goto 4, 3) := by decide +kernel
theorem dX12_kindHere_84 : decode cX12_kindHere 84 = .ok (.iconst (-1), 1) := by decide +kernel
theorem dX12_kindHere_85 : decode cX12_kindHere 85 = .ok (.ireturn, 1) := by decide +kernel
theorem dX12_lawHere_0 : decode cX12_lawHere 0 = .ok (.aload_n 0, 1) := by decide +kernel
theorem dX12_lawHere_1 : decode cX12_lawHere 1 = .ok (.ldc2_w 142, 3) := by decide +kernel
theorem dX12_lawHere_4 : decode cX12_lawHere 4 = .ok (.invokevirtual 128, 3) := by decide +kernel
theorem dX12_lawHere_7 : decode cX12_lawHere 7 = .ok (.ifCond .eq 7, 3) := by decide +kernel
theorem dX12_lawHere_10 : decode cX12_lawHere 10 = .ok (.iconst 0, 1) := by decide +kernel
theorem dX12_lawHere_11 : decode cX12_lawHere 11 = .ok (.goto 74, 3) := by decide +kernel
theorem dX12_lawHere_14 : decode cX12_lawHere 14 = .ok (.aload_n 0, 1) := by decide +kernel
theorem dX12_lawHere_15 : decode cX12_lawHere 15 = .ok (.ldc2_w 144, 3) := by decide +kernel
theorem dX12_lawHere_18 : decode cX12_lawHere 18 = .ok (.invokevirtual 128, 3) := by decide +kernel
theorem dX12_lawHere_21 : decode cX12_lawHere 21 = .ok (.ifCond .eq 7, 3) := by decide +kernel
theorem dX12_lawHere_24 : decode cX12_lawHere 24 = .ok (.iconst 1, 1) := by decide +kernel
theorem dX12_lawHere_25 : decode cX12_lawHere 25 = .ok (.goto 60, 3) := by decide +kernel
theorem dX12_lawHere_28 : decode cX12_lawHere 28 = .ok (.aload_n 0, 1) := by decide +kernel
theorem dX12_lawHere_29 : decode cX12_lawHere 29 = .ok (.ldc2_w 146, 3) := by decide +kernel
theorem dX12_lawHere_32 : decode cX12_lawHere 32 = .ok (.invokevirtual 128, 3) := by decide +kernel
theorem dX12_lawHere_35 : decode cX12_lawHere 35 = .ok (.ifCond .eq 7, 3) := by decide +kernel
theorem dX12_lawHere_38 : decode cX12_lawHere 38 = .ok (.iconst 2, 1) := by decide +kernel
theorem dX12_lawHere_39 : decode cX12_lawHere 39 = .ok (.goto 46, 3) := by decide +kernel
theorem dX12_lawHere_42 : decode cX12_lawHere 42 = .ok (.aload_n 0, 1) := by decide +kernel
theorem dX12_lawHere_43 : decode cX12_lawHere 43 = .ok (.ldc2_w 148, 3) := by decide +kernel
theorem dX12_lawHere_46 : decode cX12_lawHere 46 = .ok (.invokevirtual 128, 3) := by decide +kernel
theorem dX12_lawHere_49 : decode cX12_lawHere 49 = .ok (.ifCond .eq 7, 3) := by decide +kernel
theorem dX12_lawHere_52 : decode cX12_lawHere 52 = .ok (.iconst 3, 1) := by decide +kernel
theorem dX12_lawHere_53 : decode cX12_lawHere 53 = .ok (.goto 32, 3) := by decide +kernel
theorem dX12_lawHere_56 : decode cX12_lawHere 56 = .ok (.aload_n 0, 1) := by decide +kernel
theorem dX12_lawHere_57 : decode cX12_lawHere 57 = .ok (.ldc2_w 150, 3) := by decide +kernel
theorem dX12_lawHere_60 : decode cX12_lawHere 60 = .ok (.invokevirtual 128, 3) := by decide +kernel
theorem dX12_lawHere_63 : decode cX12_lawHere 63 = .ok (.ifCond .eq 7, 3) := by decide +kernel
theorem dX12_lawHere_66 : decode cX12_lawHere 66 = .ok (.iconst 4, 1) := by decide +kernel
theorem dX12_lawHere_67 : decode cX12_lawHere 67 = .ok (.goto 18, 3) := by decide +kernel
theorem dX12_lawHere_70 : decode cX12_lawHere 70 = .ok (.aload_n 0, 1) := by decide +kernel
theorem dX12_lawHere_71 : decode cX12_lawHere 71 = .ok (.ldc2_w 152, 3) := by decide +kernel
theorem dX12_lawHere_74 : decode cX12_lawHere 74 = .ok (.invokevirtual 128, 3) := by decide +kernel
theorem dX12_lawHere_77 : decode cX12_lawHere 77 = .ok (.ifCond .eq 7, 3) := by decide +kernel
theorem dX12_lawHere_80 : decode cX12_lawHere 80 = .ok (.iconst 5, 1) := by decide +kernel
theorem dX12_lawHere_81 : decode cX12_lawHere 81 = .ok (.goto 4, 3) := by decide +kernel
theorem dX12_lawHere_84 : decode cX12_lawHere 84 = .ok (.iconst (-1), 1) := by decide +kernel
theorem dX12_lawHere_85 : decode cX12_lawHere 85 = .ok (.ireturn, 1) := by decide +kernel
theorem dX12_wantNumber_0 : decode cX12_wantNumber 0 = .ok (.aload_n 0, 1) := by decide +kernel
theorem dX12_wantNumber_1 : decode cX12_wantNumber 1 = .ok (.getfield 117, 3) := by decide +kernel
theorem dX12_wantNumber_4 : decode cX12_wantNumber 4 = .ok (.istore_n 3, 1) := by decide +kernel
theorem dX12_wantNumber_5 : decode cX12_wantNumber 5 = .ok (.aload_n 0, 1) := by decide +kernel
theorem dX12_wantNumber_6 : decode cX12_wantNumber 6 = .ok (.aload_n 0, 1) := by decide +kernel
theorem dX12_wantNumber_7 : decode cX12_wantNumber 7 = .ok (.getfield 154, 3) := by decide +kernel
theorem dX12_wantNumber_10 : decode cX12_wantNumber 10 = .ok (.ifCond .eq 24, 3) := by decide +kernel
theorem dX12_wantNumber_13 : decode cX12_wantNumber 13 = .ok (.aload_n 0, 1) := by decide +kernel
theorem dX12_wantNumber_14 : decode cX12_wantNumber 14 = .ok (.getfield 110, 3) := by decide +kernel
theorem dX12_wantNumber_17 : decode cX12_wantNumber 17 = .ok (.iconst 2, 1) := by decide +kernel
theorem dX12_wantNumber_18 : decode cX12_wantNumber 18 = .ok (.if_icmp .ne 16, 3) := by decide +kernel
theorem dX12_wantNumber_21 : decode cX12_wantNumber 21 = .ok (.iload_n 3, 1) := by decide +kernel
theorem dX12_wantNumber_22 : decode cX12_wantNumber 22 = .ok (.iload_n 1, 1) := by decide +kernel
theorem dX12_wantNumber_23 : decode cX12_wantNumber 23 = .ok (.iload_n 2, 1) := by decide +kernel
theorem dX12_wantNumber_24 : decode cX12_wantNumber 24 = .ok (.invokestatic 84, 3) := by decide +kernel
theorem dX12_wantNumber_27 : decode cX12_wantNumber 27 = .ok (.ifCond .eq 7, 3) := by decide +kernel
theorem dX12_wantNumber_30 : decode cX12_wantNumber 30 = .ok (.iconst 1, 1) := by decide +kernel
theorem dX12_wantNumber_31 : decode cX12_wantNumber 31 = .ok (.goto 4, 3) := by decide +kernel
theorem dX12_wantNumber_34 : decode cX12_wantNumber 34 = .ok (.iconst 0, 1) := by decide +kernel
theorem dX12_wantNumber_35 : decode cX12_wantNumber 35 = .ok (.putfield 154, 3) := by decide +kernel
theorem dX12_wantNumber_38 : decode cX12_wantNumber 38 = .ok (.aload_n 0, 1) := by decide +kernel
theorem dX12_wantNumber_39 : decode cX12_wantNumber 39 = .ok (.getfield 154, 3) := by decide +kernel
theorem dX12_wantNumber_42 : decode cX12_wantNumber 42 = .ok (.ifCond .eq 7, 3) := by decide +kernel
theorem dX12_wantNumber_45 : decode cX12_wantNumber 45 = .ok (.aload_n 0, 1) := by decide +kernel
theorem dX12_wantNumber_46 : decode cX12_wantNumber 46 = .ok (.invokevirtual 158, 3) := by decide +kernel
theorem dX12_wantNumber_49 : decode cX12_wantNumber 49 = .ok (.iload_n 3, 1) := by decide +kernel
theorem dX12_wantNumber_50 : decode cX12_wantNumber 50 = .ok (.ireturn, 1) := by decide +kernel
theorem dX12_wantWord_0 : decode cX12_wantWord 0 = .ok (.aload_n 0, 1) := by decide +kernel
theorem dX12_wantWord_1 : decode cX12_wantWord 1 = .ok (.aload_n 0, 1) := by decide +kernel
theorem dX12_wantWord_2 : decode cX12_wantWord 2 = .ok (.getfield 154, 3) := by decide +kernel
theorem dX12_wantWord_5 : decode cX12_wantWord 5 = .ok (.ifCond .eq 15, 3) := by decide +kernel
theorem dX12_wantWord_8 : decode cX12_wantWord 8 = .ok (.aload_n 0, 1) := by decide +kernel
theorem dX12_wantWord_9 : decode cX12_wantWord 9 = .ok (.lload_n 1, 1) := by decide +kernel
theorem dX12_wantWord_10 : decode cX12_wantWord 10 = .ok (.invokevirtual 128, 3) := by decide +kernel
theorem dX12_wantWord_13 : decode cX12_wantWord 13 = .ok (.ifCond .eq 7, 3) := by decide +kernel
theorem dX12_wantWord_16 : decode cX12_wantWord 16 = .ok (.iconst 1, 1) := by decide +kernel
theorem dX12_wantWord_17 : decode cX12_wantWord 17 = .ok (.goto 4, 3) := by decide +kernel
theorem dX12_wantWord_20 : decode cX12_wantWord 20 = .ok (.iconst 0, 1) := by decide +kernel
theorem dX12_wantWord_21 : decode cX12_wantWord 21 = .ok (.putfield 154, 3) := by decide +kernel
theorem dX12_wantWord_24 : decode cX12_wantWord 24 = .ok (.aload_n 0, 1) := by decide +kernel
theorem dX12_wantWord_25 : decode cX12_wantWord 25 = .ok (.getfield 154, 3) := by decide +kernel
theorem dX12_wantWord_28 : decode cX12_wantWord 28 = .ok (.ifCond .eq 7, 3) := by decide +kernel
theorem dX12_wantWord_31 : decode cX12_wantWord 31 = .ok (.aload_n 0, 1) := by decide +kernel
theorem dX12_wantWord_32 : decode cX12_wantWord 32 = .ok (.invokevirtual 158, 3) := by decide +kernel
theorem dX12_wantWord_35 : decode cX12_wantWord 35 = .ok (.return_, 1) := by decide +kernel
theorem dX12_wantEnd_0 : decode cX12_wantEnd 0 = .ok (.aload_n 0, 1) := by decide +kernel
theorem dX12_wantEnd_1 : decode cX12_wantEnd 1 = .ok (.aload_n 0, 1) := by decide +kernel
theorem dX12_wantEnd_2 : decode cX12_wantEnd 2 = .ok (.getfield 154, 3) := by decide +kernel
theorem dX12_wantEnd_5 : decode cX12_wantEnd 5 = .ok (.ifCond .eq 16, 3) := by decide +kernel
theorem dX12_wantEnd_8 : decode cX12_wantEnd 8 = .ok (.aload_n 0, 1) := by decide +kernel
theorem dX12_wantEnd_9 : decode cX12_wantEnd 9 = .ok (.bipush 59, 2) := by decide +kernel
theorem dX12_wantEnd_11 : decode cX12_wantEnd 11 = .ok (.invokevirtual 161, 3) := by decide +kernel
theorem dX12_wantEnd_14 : decode cX12_wantEnd 14 = .ok (.ifCond .eq 7, 3) := by decide +kernel
theorem dX12_wantEnd_17 : decode cX12_wantEnd 17 = .ok (.iconst 1, 1) := by decide +kernel
theorem dX12_wantEnd_18 : decode cX12_wantEnd 18 = .ok (.goto 4, 3) := by decide +kernel
theorem dX12_wantEnd_21 : decode cX12_wantEnd 21 = .ok (.iconst 0, 1) := by decide +kernel
theorem dX12_wantEnd_22 : decode cX12_wantEnd 22 = .ok (.putfield 154, 3) := by decide +kernel
theorem dX12_wantEnd_25 : decode cX12_wantEnd 25 = .ok (.aload_n 0, 1) := by decide +kernel
theorem dX12_wantEnd_26 : decode cX12_wantEnd 26 = .ok (.getfield 154, 3) := by decide +kernel
theorem dX12_wantEnd_29 : decode cX12_wantEnd 29 = .ok (.ifCond .eq 7, 3) := by decide +kernel
theorem dX12_wantEnd_32 : decode cX12_wantEnd 32 = .ok (.aload_n 0, 1) := by decide +kernel
theorem dX12_wantEnd_33 : decode cX12_wantEnd 33 = .ok (.invokevirtual 158, 3) := by decide +kernel
theorem dX12_wantEnd_36 : decode cX12_wantEnd 36 = .ok (.return_, 1) := by decide +kernel
theorem dX12_wantCard_0 : decode cX12_wantCard 0 = .ok (.aload_n 0, 1) := by decide +kernel
theorem dX12_wantCard_1 : decode cX12_wantCard 1 = .ok (.aload_n 0, 1) := by decide +kernel
theorem dX12_wantCard_2 : decode cX12_wantCard 2 = .ok (.getfield 164, 3) := by decide +kernel
theorem dX12_wantCard_5 : decode cX12_wantCard 5 = .ok (.bipush 6, 2) := by decide +kernel
theorem dX12_wantCard_7 : decode cX12_wantCard 7 = .ok (.if_icmp .ge 7, 3) := by decide +kernel
theorem dX12_wantCard_10 : decode cX12_wantCard 10 = .ok (.iconst 1, 1) := by decide +kernel
theorem dX12_wantCard_11 : decode cX12_wantCard 11 = .ok (.goto 4, 3) := by decide +kernel
theorem dX12_wantCard_14 : decode cX12_wantCard 14 = .ok (.iconst 0, 1) := by decide +kernel
theorem dX12_wantCard_15 : decode cX12_wantCard 15 = .ok (.putfield 154, 3) := by decide +kernel
theorem dX12_wantCard_18 : decode cX12_wantCard 18 = .ok (.aload_n 0, 1) := by decide +kernel
theorem dX12_wantCard_19 : decode cX12_wantCard 19 = .ok (.getfield 154, 3) := by decide +kernel
theorem dX12_wantCard_22 : decode cX12_wantCard 22 = .ok (.ifCond .eq 7, 3) := by decide +kernel
theorem dX12_wantCard_25 : decode cX12_wantCard 25 = .ok (.aload_n 0, 1) := by decide +kernel
theorem dX12_wantCard_26 : decode cX12_wantCard 26 = .ok (.invokevirtual 158, 3) := by decide +kernel
theorem dX12_wantCard_29 : decode cX12_wantCard 29 = .ok (.aload_n 0, 1) := by decide +kernel
theorem dX12_wantCard_30 : decode cX12_wantCard 30 = .ok (.iconst 1, 1) := by decide +kernel
theorem dX12_wantCard_31 : decode cX12_wantCard 31 = .ok (.bipush 99, 2) := by decide +kernel
theorem dX12_wantCard_33 : decode cX12_wantCard 33 = .ok (.invokevirtual 167, 3) := by decide +kernel
theorem dX12_wantCard_36 : decode cX12_wantCard 36 = .ok (.istore_n 2, 1) := by decide +kernel
theorem dX12_wantCard_37 : decode cX12_wantCard 37 = .ok (.aload_n 0, 1) := by decide +kernel
theorem dX12_wantCard_38 : decode cX12_wantCard 38 = .ok (.ldc2_w 171, 3) := by decide +kernel
theorem dX12_wantCard_41 : decode cX12_wantCard 41 = .ok (.invokevirtual 173, 3) := by decide +kernel
theorem dX12_wantCard_44 : decode cX12_wantCard 44 = .ok (.aload_n 0, 1) := by decide +kernel
theorem dX12_wantCard_45 : decode cX12_wantCard 45 = .ok (.iconst 1, 1) := by decide +kernel
theorem dX12_wantCard_46 : decode cX12_wantCard 46 = .ok (.bipush 9, 2) := by decide +kernel
theorem dX12_wantCard_48 : decode cX12_wantCard 48 = .ok (.invokevirtual 167, 3) := by decide +kernel
theorem dX12_wantCard_51 : decode cX12_wantCard 51 = .ok (.istore_n 3, 1) := by decide +kernel
theorem dX12_wantCard_52 : decode cX12_wantCard 52 = .ok (.iconst 0, 1) := by decide +kernel
theorem dX12_wantCard_53 : decode cX12_wantCard 53 = .ok (.istore 4, 2) := by decide +kernel
theorem dX12_wantCard_55 : decode cX12_wantCard 55 = .ok (.aload_n 0, 1) := by decide +kernel
theorem dX12_wantCard_56 : decode cX12_wantCard 56 = .ok (.getfield 154, 3) := by decide +kernel
theorem dX12_wantCard_59 : decode cX12_wantCard 59 = .ok (.ifCond .eq 57, 3) := by decide +kernel
theorem dX12_wantCard_62 : decode cX12_wantCard 62 = .ok (.aload_n 0, 1) := by decide +kernel
theorem dX12_wantCard_63 : decode cX12_wantCard 63 = .ok (.ldc2_w 177, 3) := by decide +kernel
theorem dX12_wantCard_66 : decode cX12_wantCard 66 = .ok (.invokevirtual 128, 3) := by decide +kernel
theorem dX12_wantCard_69 : decode cX12_wantCard 69 = .ok (.ifCond .eq 47, 3) := by decide +kernel
theorem dX12_wantCard_72 : decode cX12_wantCard 72 = .ok (.aload_n 0, 1) := by decide +kernel
theorem dX12_wantCard_73 : decode cX12_wantCard 73 = .ok (.invokevirtual 158, 3) := by decide +kernel
theorem dX12_wantCard_76 : decode cX12_wantCard 76 = .ok (.aload_n 0, 1) := by decide +kernel
theorem dX12_wantCard_77 : decode cX12_wantCard 77 = .ok (.bipush 45, 2) := by decide +kernel
theorem dX12_wantCard_79 : decode cX12_wantCard 79 = .ok (.invokevirtual 161, 3) := by decide +kernel
theorem dX12_wantCard_82 : decode cX12_wantCard 82 = .ok (.istore 5, 2) := by decide +kernel
theorem dX12_wantCard_84 : decode cX12_wantCard 84 = .ok (.iload 5, 2) := by decide +kernel
theorem dX12_wantCard_86 : decode cX12_wantCard 86 = .ok (.ifCond .eq 7, 3) := by decide +kernel
theorem dX12_wantCard_89 : decode cX12_wantCard 89 = .ok (.aload_n 0, 1) := by decide +kernel
theorem dX12_wantCard_90 : decode cX12_wantCard 90 = .ok (.invokevirtual 158, 3) := by decide +kernel
theorem dX12_wantCard_93 : decode cX12_wantCard 93 = .ok (.aload_n 0, 1) := by decide +kernel
theorem dX12_wantCard_94 : decode cX12_wantCard 94 = .ok (.iconst 0, 1) := by decide +kernel
theorem dX12_wantCard_95 : decode cX12_wantCard 95 = .ok (.iconst 4, 1) := by decide +kernel
theorem dX12_wantCard_96 : decode cX12_wantCard 96 = .ok (.invokevirtual 167, 3) := by decide +kernel
theorem dX12_wantCard_99 : decode cX12_wantCard 99 = .ok (.istore 4, 2) := by decide +kernel
theorem dX12_wantCard_101 : decode cX12_wantCard 101 = .ok (.iload 5, 2) := by decide +kernel
theorem dX12_wantCard_103 : decode cX12_wantCard 103 = .ok (.ifCond .eq 9, 3) := by decide +kernel
theorem dX12_wantCard_106 : decode cX12_wantCard 106 = .ok (.iload 4, 2) := by decide +kernel
theorem dX12_wantCard_108 : decode cX12_wantCard 108 = .ok (.ineg, 1) := by decide +kernel
theorem dX12_wantCard_109 : decode cX12_wantCard 109 = .ok (.goto 5, 3) := by decide +kernel
theorem dX12_wantCard_112 : decode cX12_wantCard 112 = .ok (.iload 4, 2) := by decide +kernel
theorem dX12_wantCard_114 : decode cX12_wantCard 114 = .ok (.istore 4, 2) := by decide +kernel
theorem dX12_wantCard_116 : decode cX12_wantCard 116 = .ok (.aload_n 0, 1) := by decide +kernel
theorem dX12_wantCard_117 : decode cX12_wantCard 117 = .ok (.invokevirtual 179, 3) := by decide +kernel
theorem dX12_wantCard_120 : decode cX12_wantCard 120 = .ok (.aload_n 0, 1) := by decide +kernel
theorem dX12_wantCard_121 : decode cX12_wantCard 121 = .ok (.getfield 154, 3) := by decide +kernel
theorem dX12_wantCard_124 : decode cX12_wantCard 124 = .ok (.ifCond .eq 68, 3) := by decide +kernel
theorem dX12_wantCard_127 : decode cX12_wantCard 127 = .ok (.aload_n 0, 1) := by decide +kernel
theorem dX12_wantCard_128 : decode cX12_wantCard 128 = .ok (.getfield 32, 3) := by decide +kernel
theorem dX12_wantCard_131 : decode cX12_wantCard 131 = .ok (.iconst 4, 1) := by decide +kernel
theorem dX12_wantCard_132 : decode cX12_wantCard 132 = .ok (.aload_n 0, 1) := by decide +kernel
theorem dX12_wantCard_133 : decode cX12_wantCard 133 = .ok (.getfield 164, 3) := by decide +kernel
theorem dX12_wantCard_136 : decode cX12_wantCard 136 = .ok (.imul, 1) := by decide +kernel
theorem dX12_wantCard_137 : decode cX12_wantCard 137 = .ok (.iload_n 1, 1) := by decide +kernel
theorem dX12_wantCard_138 : decode cX12_wantCard 138 = .ok (.iastore, 1) := by decide +kernel
theorem dX12_wantCard_139 : decode cX12_wantCard 139 = .ok (.aload_n 0, 1) := by decide +kernel
theorem dX12_wantCard_140 : decode cX12_wantCard 140 = .ok (.getfield 32, 3) := by decide +kernel
theorem dX12_wantCard_143 : decode cX12_wantCard 143 = .ok (.iconst 4, 1) := by decide +kernel
theorem dX12_wantCard_144 : decode cX12_wantCard 144 = .ok (.aload_n 0, 1) := by decide +kernel
theorem dX12_wantCard_145 : decode cX12_wantCard 145 = .ok (.getfield 164, 3) := by decide +kernel
theorem dX12_wantCard_148 : decode cX12_wantCard 148 = .ok (.imul, 1) := by decide +kernel
theorem dX12_wantCard_149 : decode cX12_wantCard 149 = .ok (.iconst 1, 1) := by decide +kernel
theorem dX12_wantCard_150 : decode cX12_wantCard 150 = .ok (.iadd, 1) := by decide +kernel
theorem dX12_wantCard_151 : decode cX12_wantCard 151 = .ok (.iload_n 2, 1) := by decide +kernel
theorem dX12_wantCard_152 : decode cX12_wantCard 152 = .ok (.iastore, 1) := by decide +kernel
theorem dX12_wantCard_153 : decode cX12_wantCard 153 = .ok (.aload_n 0, 1) := by decide +kernel
theorem dX12_wantCard_154 : decode cX12_wantCard 154 = .ok (.getfield 32, 3) := by decide +kernel
theorem dX12_wantCard_157 : decode cX12_wantCard 157 = .ok (.iconst 4, 1) := by decide +kernel
theorem dX12_wantCard_158 : decode cX12_wantCard 158 = .ok (.aload_n 0, 1) := by decide +kernel
theorem dX12_wantCard_159 : decode cX12_wantCard 159 = .ok (.getfield 164, 3) := by decide +kernel
theorem dX12_wantCard_162 : decode cX12_wantCard 162 = .ok (.imul, 1) := by decide +kernel
theorem dX12_wantCard_163 : decode cX12_wantCard 163 = .ok (.iconst 2, 1) := by decide +kernel
theorem dX12_wantCard_164 : decode cX12_wantCard 164 = .ok (.iadd, 1) := by decide +kernel
theorem dX12_wantCard_165 : decode cX12_wantCard 165 = .ok (.iload_n 3, 1) := by decide +kernel
theorem dX12_wantCard_166 : decode cX12_wantCard 166 = .ok (.iastore, 1) := by decide +kernel
theorem dX12_wantCard_167 : decode cX12_wantCard 167 = .ok (.aload_n 0, 1) := by decide +kernel
theorem dX12_wantCard_168 : decode cX12_wantCard 168 = .ok (.getfield 32, 3) := by decide +kernel
theorem dX12_wantCard_171 : decode cX12_wantCard 171 = .ok (.iconst 4, 1) := by decide +kernel
theorem dX12_wantCard_172 : decode cX12_wantCard 172 = .ok (.aload_n 0, 1) := by decide +kernel
theorem dX12_wantCard_173 : decode cX12_wantCard 173 = .ok (.getfield 164, 3) := by decide +kernel
theorem dX12_wantCard_176 : decode cX12_wantCard 176 = .ok (.imul, 1) := by decide +kernel
theorem dX12_wantCard_177 : decode cX12_wantCard 177 = .ok (.iconst 3, 1) := by decide +kernel
theorem dX12_wantCard_178 : decode cX12_wantCard 178 = .ok (.iadd, 1) := by decide +kernel
theorem dX12_wantCard_179 : decode cX12_wantCard 179 = .ok (.iload 4, 2) := by decide +kernel
theorem dX12_wantCard_181 : decode cX12_wantCard 181 = .ok (.iastore, 1) := by decide +kernel
theorem dX12_wantCard_182 : decode cX12_wantCard 182 = .ok (.aload_n 0, 1) := by decide +kernel
theorem dX12_wantCard_183 : decode cX12_wantCard 183 = .ok (.dup, 1) := by decide +kernel
theorem dX12_wantCard_184 : decode cX12_wantCard 184 = .ok (.getfield 164, 3) := by decide +kernel
theorem dX12_wantCard_187 : decode cX12_wantCard 187 = .ok (.iconst 1, 1) := by decide +kernel
theorem dX12_wantCard_188 : decode cX12_wantCard 188 = .ok (.iadd, 1) := by decide +kernel
theorem dX12_wantCard_189 : decode cX12_wantCard 189 = .ok (.putfield 164, 3) := by decide +kernel
theorem dX12_wantCard_192 : decode cX12_wantCard 192 = .ok (.return_, 1) := by decide +kernel
theorem dX12_wantHand_0 : decode cX12_wantHand 0 = .ok (.aload_n 0, 1) := by decide +kernel
theorem dX12_wantHand_1 : decode cX12_wantHand 1 = .ok (.invokevirtual 158, 3) := by decide +kernel
theorem dX12_wantHand_4 : decode cX12_wantHand 4 = .ok (.iconst 0, 1) := by decide +kernel
theorem dX12_wantHand_5 : decode cX12_wantHand 5 = .ok (.istore_n 1, 1) := by decide +kernel
theorem dX12_wantHand_6 : decode cX12_wantHand 6 = .ok (.iconst 0, 1) := by decide +kernel
theorem dX12_wantHand_7 : decode cX12_wantHand 7 = .ok (.istore_n 2, 1) := by decide +kernel
theorem dX12_wantHand_8 : decode cX12_wantHand 8 = .ok (.iload_n 2, 1) := by decide +kernel
theorem dX12_wantHand_9 : decode cX12_wantHand 9 = .ok (.iconst 5, 1) := by decide +kernel
theorem dX12_wantHand_10 : decode cX12_wantHand 10 = .ok (.if_icmp .ge 81, 3) := by decide +kernel
theorem dX12_wantHand_13 : decode cX12_wantHand 13 = .ok (.aload_n 0, 1) := by decide +kernel
theorem dX12_wantHand_14 : decode cX12_wantHand 14 = .ok (.getfield 154, 3) := by decide +kernel
theorem dX12_wantHand_17 : decode cX12_wantHand 17 = .ok (.ifCond .eq 74, 3) := by decide +kernel
theorem dX12_wantHand_20 : decode cX12_wantHand 20 = .ok (.aload_n 0, 1) := by decide +kernel
theorem dX12_wantHand_21 : decode cX12_wantHand 21 = .ok (.getfield 117, 3) := by decide +kernel
theorem dX12_wantHand_24 : decode cX12_wantHand 24 = .ok (.istore_n 3, 1) := by decide +kernel
theorem dX12_wantHand_25 : decode cX12_wantHand 25 = .ok (.aload_n 0, 1) := by decide +kernel
theorem dX12_wantHand_26 : decode cX12_wantHand 26 = .ok (.aload_n 0, 1) := by decide +kernel
theorem dX12_wantHand_27 : decode cX12_wantHand 27 = .ok (.getfield 110, 3) := by decide +kernel
theorem dX12_wantHand_30 : decode cX12_wantHand 30 = .ok (.iconst 2, 1) := by decide +kernel
theorem dX12_wantHand_31 : decode cX12_wantHand 31 = .ok (.if_icmp .ne 28, 3) := by decide +kernel
theorem dX12_wantHand_34 : decode cX12_wantHand 34 = .ok (.iload_n 3, 1) := by decide +kernel
theorem dX12_wantHand_35 : decode cX12_wantHand 35 = .ok (.iconst 0, 1) := by decide +kernel
theorem dX12_wantHand_36 : decode cX12_wantHand 36 = .ok (.bipush 9, 2) := by decide +kernel
theorem dX12_wantHand_38 : decode cX12_wantHand 38 = .ok (.invokestatic 84, 3) := by decide +kernel
theorem dX12_wantHand_41 : decode cX12_wantHand 41 = .ok (.ifCond .eq 18, 3) := by decide +kernel
theorem dX12_wantHand_44 : decode cX12_wantHand 44 = .ok (.iload_n 2, 1) := by decide +kernel
theorem dX12_wantHand_45 : decode cX12_wantHand 45 = .ok (.iconst 4, 1) := by decide +kernel
theorem dX12_wantHand_46 : decode cX12_wantHand 46 = .ok (.if_icmp .lt 9, 3) := by decide +kernel
theorem dX12_wantHand_49 : decode cX12_wantHand 49 = .ok (.iload_n 1, 1) := by decide +kernel
theorem dX12_wantHand_50 : decode cX12_wantHand 50 = .ok (.iload_n 3, 1) := by decide +kernel
theorem dX12_wantHand_51 : decode cX12_wantHand 51 = .ok (.iadd, 1) := by decide +kernel
theorem dX12_wantHand_52 : decode cX12_wantHand 52 = .ok (.ifCond .le 7, 3) := by decide +kernel
theorem dX12_wantHand_55 : decode cX12_wantHand 55 = .ok (.iconst 1, 1) := by decide +kernel
theorem dX12_wantHand_56 : decode cX12_wantHand 56 = .ok (.goto 4, 3) := by decide +kernel
theorem dX12_wantHand_59 : decode cX12_wantHand 59 = .ok (.iconst 0, 1) := by decide +kernel
theorem dX12_wantHand_60 : decode cX12_wantHand 60 = .ok (.putfield 154, 3) := by decide +kernel
theorem dX12_wantHand_63 : decode cX12_wantHand 63 = .ok (.iload_n 1, 1) := by decide +kernel
theorem dX12_wantHand_64 : decode cX12_wantHand 64 = .ok (.iload_n 3, 1) := by decide +kernel
theorem dX12_wantHand_65 : decode cX12_wantHand 65 = .ok (.iadd, 1) := by decide +kernel
theorem dX12_wantHand_66 : decode cX12_wantHand 66 = .ok (.istore_n 1, 1) := by decide +kernel
theorem dX12_wantHand_67 : decode cX12_wantHand 67 = .ok (.aload_n 0, 1) := by decide +kernel
theorem dX12_wantHand_68 : decode cX12_wantHand 68 = .ok (.getfield 38, 3) := by decide +kernel
theorem dX12_wantHand_71 : decode cX12_wantHand 71 = .ok (.iload_n 2, 1) := by decide +kernel
theorem dX12_wantHand_72 : decode cX12_wantHand 72 = .ok (.iload_n 3, 1) := by decide +kernel
theorem dX12_wantHand_73 : decode cX12_wantHand 73 = .ok (.iastore, 1) := by decide +kernel
theorem dX12_wantHand_74 : decode cX12_wantHand 74 = .ok (.aload_n 0, 1) := by decide +kernel
theorem dX12_wantHand_75 : decode cX12_wantHand 75 = .ok (.getfield 154, 3) := by decide +kernel
theorem dX12_wantHand_78 : decode cX12_wantHand 78 = .ok (.ifCond .eq 7, 3) := by decide +kernel
theorem dX12_wantHand_81 : decode cX12_wantHand 81 = .ok (.aload_n 0, 1) := by decide +kernel
theorem dX12_wantHand_82 : decode cX12_wantHand 82 = .ok (.invokevirtual 158, 3) := by decide +kernel
theorem dX12_wantHand_85 : decode cX12_wantHand 85 = .ok (.iinc 2 1, 3) := by decide +kernel
theorem dX12_wantHand_88 : decode cX12_wantHand 88 = .ok (.goto (-80), 3) := by decide +kernel
theorem dX12_wantHand_91 : decode cX12_wantHand 91 = .ok (.aload_n 0, 1) := by decide +kernel
theorem dX12_wantHand_92 : decode cX12_wantHand 92 = .ok (.invokevirtual 179, 3) := by decide +kernel
theorem dX12_wantHand_95 : decode cX12_wantHand 95 = .ok (.return_, 1) := by decide +kernel
theorem dX12_cards_0 : decode cX12_cards 0 = .ok (.aload_n 0, 1) := by decide +kernel
theorem dX12_cards_1 : decode cX12_cards 1 = .ok (.iconst 0, 1) := by decide +kernel
theorem dX12_cards_2 : decode cX12_cards 2 = .ok (.putfield 93, 3) := by decide +kernel
theorem dX12_cards_5 : decode cX12_cards 5 = .ok (.aload_n 0, 1) := by decide +kernel
theorem dX12_cards_6 : decode cX12_cards 6 = .ok (.iconst 1, 1) := by decide +kernel
theorem dX12_cards_7 : decode cX12_cards 7 = .ok (.putfield 154, 3) := by decide +kernel
theorem dX12_cards_10 : decode cX12_cards 10 = .ok (.aload_n 0, 1) := by decide +kernel
theorem dX12_cards_11 : decode cX12_cards 11 = .ok (.iconst 0, 1) := by decide +kernel
theorem dX12_cards_12 : decode cX12_cards 12 = .ok (.putfield 164, 3) := by decide +kernel
theorem dX12_cards_15 : decode cX12_cards 15 = .ok (.iconst 0, 1) := by decide +kernel
theorem dX12_cards_16 : decode cX12_cards 16 = .ok (.istore_n 1, 1) := by decide +kernel
theorem dX12_cards_17 : decode cX12_cards 17 = .ok (.iload_n 1, 1) := by decide +kernel
theorem dX12_cards_18 : decode cX12_cards 18 = .ok (.bipush 6, 2) := by decide +kernel
theorem dX12_cards_20 : decode cX12_cards 20 = .ok (.if_icmp .ge 21, 3) := by decide +kernel
theorem dX12_cards_23 : decode cX12_cards 23 = .ok (.aload_n 0, 1) := by decide +kernel
theorem dX12_cards_24 : decode cX12_cards 24 = .ok (.getfield 35, 3) := by decide +kernel
theorem dX12_cards_27 : decode cX12_cards 27 = .ok (.iload_n 1, 1) := by decide +kernel
theorem dX12_cards_28 : decode cX12_cards 28 = .ok (.aload_n 0, 1) := by decide +kernel
theorem dX12_cards_29 : decode cX12_cards 29 = .ok (.getfield 13, 3) := by decide +kernel
theorem dX12_cards_32 : decode cX12_cards 32 = .ok (.iload_n 1, 1) := by decide +kernel
theorem dX12_cards_33 : decode cX12_cards 33 = .ok (.iaload, 1) := by decide +kernel
theorem dX12_cards_34 : decode cX12_cards 34 = .ok (.iastore, 1) := by decide +kernel
theorem dX12_cards_35 : decode cX12_cards 35 = .ok (.iinc 1 1, 3) := by decide +kernel
theorem dX12_cards_38 : decode cX12_cards 38 = .ok (.goto (-21), 3) := by decide +kernel
theorem dX12_cards_41 : decode cX12_cards 41 = .ok (.iconst 0, 1) := by decide +kernel
theorem dX12_cards_42 : decode cX12_cards 42 = .ok (.istore_n 1, 1) := by decide +kernel
theorem dX12_cards_43 : decode cX12_cards 43 = .ok (.iload_n 1, 1) := by decide +kernel
theorem dX12_cards_44 : decode cX12_cards 44 = .ok (.iconst 5, 1) := by decide +kernel
theorem dX12_cards_45 : decode cX12_cards 45 = .ok (.if_icmp .ge 21, 3) := by decide +kernel
theorem dX12_cards_48 : decode cX12_cards 48 = .ok (.aload_n 0, 1) := by decide +kernel
theorem dX12_cards_49 : decode cX12_cards 49 = .ok (.getfield 38, 3) := by decide +kernel
theorem dX12_cards_52 : decode cX12_cards 52 = .ok (.iload_n 1, 1) := by decide +kernel
theorem dX12_cards_53 : decode cX12_cards 53 = .ok (.aload_n 0, 1) := by decide +kernel
theorem dX12_cards_54 : decode cX12_cards 54 = .ok (.getfield 16, 3) := by decide +kernel
theorem dX12_cards_57 : decode cX12_cards 57 = .ok (.iload_n 1, 1) := by decide +kernel
theorem dX12_cards_58 : decode cX12_cards 58 = .ok (.iaload, 1) := by decide +kernel
theorem dX12_cards_59 : decode cX12_cards 59 = .ok (.iastore, 1) := by decide +kernel
theorem dX12_cards_60 : decode cX12_cards 60 = .ok (.iinc 1 1, 3) := by decide +kernel
theorem dX12_cards_63 : decode cX12_cards 63 = .ok (.goto (-20), 3) := by decide +kernel
theorem dX12_cards_66 : decode cX12_cards 66 = .ok (.aload_n 0, 1) := by decide +kernel
theorem dX12_cards_67 : decode cX12_cards 67 = .ok (.invokevirtual 158, 3) := by decide +kernel
theorem dX12_cards_70 : decode cX12_cards 70 = .ok (.aload_n 0, 1) := by decide +kernel
theorem dX12_cards_71 : decode cX12_cards 71 = .ok (.getfield 154, 3) := by decide +kernel
theorem dX12_cards_74 : decode cX12_cards 74 = .ok (.ifCond .eq 89, 3) := by decide +kernel
theorem dX12_cards_77 : decode cX12_cards 77 = .ok (.aload_n 0, 1) := by decide +kernel
theorem dX12_cards_78 : decode cX12_cards 78 = .ok (.getfield 110, 3) := by decide +kernel
theorem dX12_cards_81 : decode cX12_cards 81 = .ok (.ifCond .eq 82, 3) := by decide +kernel
theorem dX12_cards_84 : decode cX12_cards 84 = .ok (.aload_n 0, 1) := by decide +kernel
theorem dX12_cards_85 : decode cX12_cards 85 = .ok (.invokevirtual 182, 3) := by decide +kernel
theorem dX12_cards_88 : decode cX12_cards 88 = .ok (.ifCond .lt 14, 3) := by decide +kernel
theorem dX12_cards_91 : decode cX12_cards 91 = .ok (.aload_n 0, 1) := by decide +kernel
theorem dX12_cards_92 : decode cX12_cards 92 = .ok (.aload_n 0, 1) := by decide +kernel
theorem dX12_cards_93 : decode cX12_cards 93 = .ok (.invokevirtual 182, 3) := by decide +kernel
theorem dX12_cards_96 : decode cX12_cards 96 = .ok (.invokevirtual 186, 3) := by decide +kernel
theorem dX12_cards_99 : decode cX12_cards 99 = .ok (.goto (-29), 3) := by decide +kernel
theorem dX12_cards_102 : decode cX12_cards 102 = .ok (.aload_n 0, 1) := by decide +kernel
theorem dX12_cards_103 : decode cX12_cards 103 = .ok (.invokevirtual 190, 3) := by decide +kernel
theorem dX12_cards_106 : decode cX12_cards 106 = .ok (.ifCond .lt 32, 3) := by decide +kernel
theorem dX12_cards_109 : decode cX12_cards 109 = .ok (.aload_n 0, 1) := by decide +kernel
theorem dX12_cards_110 : decode cX12_cards 110 = .ok (.invokevirtual 190, 3) := by decide +kernel
theorem dX12_cards_113 : decode cX12_cards 113 = .ok (.istore_n 1, 1) := by decide +kernel
theorem dX12_cards_114 : decode cX12_cards 114 = .ok (.aload_n 0, 1) := by decide +kernel
theorem dX12_cards_115 : decode cX12_cards 115 = .ok (.invokevirtual 158, 3) := by decide +kernel
theorem dX12_cards_118 : decode cX12_cards 118 = .ok (.aload_n 0, 1) := by decide +kernel
theorem dX12_cards_119 : decode cX12_cards 119 = .ok (.getfield 35, 3) := by decide +kernel
theorem dX12_cards_122 : decode cX12_cards 122 = .ok (.iload_n 1, 1) := by decide +kernel
theorem dX12_cards_123 : decode cX12_cards 123 = .ok (.aload_n 0, 1) := by decide +kernel
theorem dX12_cards_124 : decode cX12_cards 124 = .ok (.iconst 0, 1) := by decide +kernel
theorem dX12_cards_125 : decode cX12_cards 125 = .ok (.bipush 63, 2) := by decide +kernel
theorem dX12_cards_127 : decode cX12_cards 127 = .ok (.invokevirtual 167, 3) := by decide +kernel
theorem dX12_cards_130 : decode cX12_cards 130 = .ok (.iastore, 1) := by decide +kernel
theorem dX12_cards_131 : decode cX12_cards 131 = .ok (.aload_n 0, 1) := by decide +kernel
theorem dX12_cards_132 : decode cX12_cards 132 = .ok (.invokevirtual 179, 3) := by decide +kernel
theorem dX12_cards_135 : decode cX12_cards 135 = .ok (.goto (-65), 3) := by decide +kernel
theorem dX12_cards_138 : decode cX12_cards 138 = .ok (.aload_n 0, 1) := by decide +kernel
theorem dX12_cards_139 : decode cX12_cards 139 = .ok (.ldc2_w 193, 3) := by decide +kernel
theorem dX12_cards_142 : decode cX12_cards 142 = .ok (.invokevirtual 128, 3) := by decide +kernel
theorem dX12_cards_145 : decode cX12_cards 145 = .ok (.ifCond .eq 10, 3) := by decide +kernel
theorem dX12_cards_148 : decode cX12_cards 148 = .ok (.aload_n 0, 1) := by decide +kernel
theorem dX12_cards_149 : decode cX12_cards 149 = .ok (.invokevirtual 195, 3) := by decide +kernel
theorem dX12_cards_152 : decode cX12_cards 152 = .ok (.goto (-82), 3) := by decide +kernel
theorem dX12_cards_155 : decode cX12_cards 155 = .ok (.aload_n 0, 1) := by decide +kernel
theorem dX12_cards_156 : decode cX12_cards 156 = .ok (.iconst 0, 1) := by decide +kernel
theorem dX12_cards_157 : decode cX12_cards 157 = .ok (.putfield 154, 3) := by decide +kernel
theorem dX12_cards_160 : decode cX12_cards 160 = .ok (.goto (-90), 3) := by decide +kernel
theorem dX12_cards_163 : decode cX12_cards 163 = .ok (.aload_n 0, 1) := by decide +kernel
theorem dX12_cards_164 : decode cX12_cards 164 = .ok (.iconst 0, 1) := by decide +kernel
theorem dX12_cards_165 : decode cX12_cards 165 = .ok (.putfield 88, 3) := by decide +kernel
theorem dX12_cards_168 : decode cX12_cards 168 = .ok (.aload_n 0, 1) := by decide +kernel
theorem dX12_cards_169 : decode cX12_cards 169 = .ok (.getfield 154, 3) := by decide +kernel
theorem dX12_cards_172 : decode cX12_cards 172 = .ok (.ifCond .ne 11, 3) := by decide +kernel
theorem dX12_cards_175 : decode cX12_cards 175 = .ok (.bipush (-100), 2) := by decide +kernel
theorem dX12_cards_177 : decode cX12_cards 177 = .ok (.aload_n 0, 1) := by decide +kernel
theorem dX12_cards_178 : decode cX12_cards 178 = .ok (.getfield 96, 3) := by decide +kernel
theorem dX12_cards_181 : decode cX12_cards 181 = .ok (.isub, 1) := by decide +kernel
theorem dX12_cards_182 : decode cX12_cards 182 = .ok (.ireturn, 1) := by decide +kernel
theorem dX12_cards_183 : decode cX12_cards 183 = .ok (.aload_n 0, 1) := by decide +kernel
theorem dX12_cards_184 : decode cX12_cards 184 = .ok (.aload_n 0, 1) := by decide +kernel
theorem dX12_cards_185 : decode cX12_cards 185 = .ok (.getfield 164, 3) := by decide +kernel
theorem dX12_cards_188 : decode cX12_cards 188 = .ok (.putfield 81, 3) := by decide +kernel
theorem dX12_cards_191 : decode cX12_cards 191 = .ok (.iconst 0, 1) := by decide +kernel
theorem dX12_cards_192 : decode cX12_cards 192 = .ok (.istore_n 1, 1) := by decide +kernel
theorem dX12_cards_193 : decode cX12_cards 193 = .ok (.iload_n 1, 1) := by decide +kernel
theorem dX12_cards_194 : decode cX12_cards 194 = .ok (.bipush 24, 2) := by decide +kernel
theorem dX12_cards_196 : decode cX12_cards 196 = .ok (.if_icmp .ge 21, 3) := by decide +kernel
theorem dX12_cards_199 : decode cX12_cards 199 = .ok (.aload_n 0, 1) := by decide +kernel
theorem dX12_cards_200 : decode cX12_cards 200 = .ok (.getfield 7, 3) := by decide +kernel
theorem dX12_cards_203 : decode cX12_cards 203 = .ok (.iload_n 1, 1) := by decide +kernel
theorem dX12_cards_204 : decode cX12_cards 204 = .ok (.aload_n 0, 1) := by decide +kernel
theorem dX12_cards_205 : decode cX12_cards 205 = .ok (.getfield 32, 3) := by decide +kernel
theorem dX12_cards_208 : decode cX12_cards 208 = .ok (.iload_n 1, 1) := by decide +kernel
theorem dX12_cards_209 : decode cX12_cards 209 = .ok (.iaload, 1) := by decide +kernel
theorem dX12_cards_210 : decode cX12_cards 210 = .ok (.iastore, 1) := by decide +kernel
theorem dX12_cards_211 : decode cX12_cards 211 = .ok (.iinc 1 1, 3) := by decide +kernel
theorem dX12_cards_214 : decode cX12_cards 214 = .ok (.goto (-21), 3) := by decide +kernel
theorem dX12_cards_217 : decode cX12_cards 217 = .ok (.iconst 0, 1) := by decide +kernel
theorem dX12_cards_218 : decode cX12_cards 218 = .ok (.istore_n 1, 1) := by decide +kernel
theorem dX12_cards_219 : decode cX12_cards 219 = .ok (.iload_n 1, 1) := by decide +kernel
theorem dX12_cards_220 : decode cX12_cards 220 = .ok (.bipush 6, 2) := by decide +kernel
theorem dX12_cards_222 : decode cX12_cards 222 = .ok (.if_icmp .ge 21, 3) := by decide +kernel
theorem dX12_cards_225 : decode cX12_cards 225 = .ok (.aload_n 0, 1) := by decide +kernel
theorem dX12_cards_226 : decode cX12_cards 226 = .ok (.getfield 13, 3) := by decide +kernel
theorem dX12_cards_229 : decode cX12_cards 229 = .ok (.iload_n 1, 1) := by decide +kernel
theorem dX12_cards_230 : decode cX12_cards 230 = .ok (.aload_n 0, 1) := by decide +kernel
theorem dX12_cards_231 : decode cX12_cards 231 = .ok (.getfield 35, 3) := by decide +kernel
theorem dX12_cards_234 : decode cX12_cards 234 = .ok (.iload_n 1, 1) := by decide +kernel
theorem dX12_cards_235 : decode cX12_cards 235 = .ok (.iaload, 1) := by decide +kernel
theorem dX12_cards_236 : decode cX12_cards 236 = .ok (.iastore, 1) := by decide +kernel
theorem dX12_cards_237 : decode cX12_cards 237 = .ok (.iinc 1 1, 3) := by decide +kernel
theorem dX12_cards_240 : decode cX12_cards 240 = .ok (.goto (-21), 3) := by decide +kernel
theorem dX12_cards_243 : decode cX12_cards 243 = .ok (.iconst 0, 1) := by decide +kernel
theorem dX12_cards_244 : decode cX12_cards 244 = .ok (.istore_n 1, 1) := by decide +kernel
theorem dX12_cards_245 : decode cX12_cards 245 = .ok (.iload_n 1, 1) := by decide +kernel
theorem dX12_cards_246 : decode cX12_cards 246 = .ok (.iconst 5, 1) := by decide +kernel
theorem dX12_cards_247 : decode cX12_cards 247 = .ok (.if_icmp .ge 21, 3) := by decide +kernel
theorem dX12_cards_250 : decode cX12_cards 250 = .ok (.aload_n 0, 1) := by decide +kernel
theorem dX12_cards_251 : decode cX12_cards 251 = .ok (.getfield 16, 3) := by decide +kernel
theorem dX12_cards_254 : decode cX12_cards 254 = .ok (.iload_n 1, 1) := by decide +kernel
theorem dX12_cards_255 : decode cX12_cards 255 = .ok (.aload_n 0, 1) := by decide +kernel
theorem dX12_cards_256 : decode cX12_cards 256 = .ok (.getfield 38, 3) := by decide +kernel
theorem dX12_cards_259 : decode cX12_cards 259 = .ok (.iload_n 1, 1) := by decide +kernel
theorem dX12_cards_260 : decode cX12_cards 260 = .ok (.iaload, 1) := by decide +kernel
theorem dX12_cards_261 : decode cX12_cards 261 = .ok (.iastore, 1) := by decide +kernel
theorem dX12_cards_262 : decode cX12_cards 262 = .ok (.iinc 1 1, 3) := by decide +kernel
theorem dX12_cards_265 : decode cX12_cards 265 = .ok (.goto (-20), 3) := by decide +kernel
theorem dX12_cards_268 : decode cX12_cards 268 = .ok (.aload_n 0, 1) := by decide +kernel
theorem dX12_cards_269 : decode cX12_cards 269 = .ok (.getfield 26, 3) := by decide +kernel
theorem dX12_cards_272 : decode cX12_cards 272 = .ok (.iconst 0, 1) := by decide +kernel
theorem dX12_cards_273 : decode cX12_cards 273 = .ok (.iconst (-1), 1) := by decide +kernel
theorem dX12_cards_274 : decode cX12_cards 274 = .ok (.iastore, 1) := by decide +kernel
theorem dX12_cards_275 : decode cX12_cards 275 = .ok (.aload_n 0, 1) := by decide +kernel
theorem dX12_cards_276 : decode cX12_cards 276 = .ok (.iconst 0, 1) := by decide +kernel
theorem dX12_cards_277 : decode cX12_cards 277 = .ok (.putfield 198, 3) := by decide +kernel
theorem dX12_cards_280 : decode cX12_cards 280 = .ok (.aload_n 0, 1) := by decide +kernel
theorem dX12_cards_281 : decode cX12_cards 281 = .ok (.getfield 81, 3) := by decide +kernel
theorem dX12_cards_284 : decode cX12_cards 284 = .ok (.ireturn, 1) := by decide +kernel
theorem dX12_card_0 : decode cX12_card 0 = .ok (.iload_n 1, 1) := by decide +kernel
theorem dX12_card_1 : decode cX12_card 1 = .ok (.iload_n 2, 1) := by decide +kernel
theorem dX12_card_2 : decode cX12_card 2 = .ok (.iload_n 3, 1) := by decide +kernel
theorem dX12_card_3 : decode cX12_card 3 = .ok (.iload 4, 2) := by decide +kernel
theorem dX12_card_5 : decode cX12_card 5 = .ok (.invokestatic 201, 3) := by decide +kernel
theorem dX12_card_8 : decode cX12_card 8 = .ok (.ifCond .ne 5, 3) := by decide +kernel
theorem dX12_card_11 : decode cX12_card 11 = .ok (.iconst (-1), 1) := by decide +kernel
theorem dX12_card_12 : decode cX12_card 12 = .ok (.ireturn, 1) := by decide +kernel
theorem dX12_card_13 : decode cX12_card 13 = .ok (.aload_n 0, 1) := by decide +kernel
theorem dX12_card_14 : decode cX12_card 14 = .ok (.getfield 81, 3) := by decide +kernel
theorem dX12_card_17 : decode cX12_card 17 = .ok (.bipush 6, 2) := by decide +kernel
theorem dX12_card_19 : decode cX12_card 19 = .ok (.if_icmp .ne 6, 3) := by decide +kernel
theorem dX12_card_22 : decode cX12_card 22 = .ok (.bipush (-2), 2) := by decide +kernel
theorem dX12_card_24 : decode cX12_card 24 = .ok (.ireturn, 1) := by decide +kernel
theorem dX12_card_25 : decode cX12_card 25 = .ok (.aload_n 0, 1) := by decide +kernel
theorem dX12_card_26 : decode cX12_card 26 = .ok (.getfield 7, 3) := by decide +kernel
theorem dX12_card_29 : decode cX12_card 29 = .ok (.iconst 4, 1) := by decide +kernel
theorem dX12_card_30 : decode cX12_card 30 = .ok (.aload_n 0, 1) := by decide +kernel
theorem dX12_card_31 : decode cX12_card 31 = .ok (.getfield 81, 3) := by decide +kernel
theorem dX12_card_34 : decode cX12_card 34 = .ok (.imul, 1) := by decide +kernel
theorem dX12_card_35 : decode cX12_card 35 = .ok (.iload_n 1, 1) := by decide +kernel
theorem dX12_card_36 : decode cX12_card 36 = .ok (.iastore, 1) := by decide +kernel
theorem dX12_card_37 : decode cX12_card 37 = .ok (.aload_n 0, 1) := by decide +kernel
theorem dX12_card_38 : decode cX12_card 38 = .ok (.getfield 7, 3) := by decide +kernel
theorem dX12_card_41 : decode cX12_card 41 = .ok (.iconst 4, 1) := by decide +kernel
theorem dX12_card_42 : decode cX12_card 42 = .ok (.aload_n 0, 1) := by decide +kernel
theorem dX12_card_43 : decode cX12_card 43 = .ok (.getfield 81, 3) := by decide +kernel
theorem dX12_card_46 : decode cX12_card 46 = .ok (.imul, 1) := by decide +kernel
theorem dX12_card_47 : decode cX12_card 47 = .ok (.iconst 1, 1) := by decide +kernel
theorem dX12_card_48 : decode cX12_card 48 = .ok (.iadd, 1) := by decide +kernel
theorem dX12_card_49 : decode cX12_card 49 = .ok (.iload_n 2, 1) := by decide +kernel
theorem dX12_card_50 : decode cX12_card 50 = .ok (.iastore, 1) := by decide +kernel
theorem dX12_card_51 : decode cX12_card 51 = .ok (.aload_n 0, 1) := by decide +kernel
theorem dX12_card_52 : decode cX12_card 52 = .ok (.getfield 7, 3) := by decide +kernel
theorem dX12_card_55 : decode cX12_card 55 = .ok (.iconst 4, 1) := by decide +kernel
theorem dX12_card_56 : decode cX12_card 56 = .ok (.aload_n 0, 1) := by decide +kernel
theorem dX12_card_57 : decode cX12_card 57 = .ok (.getfield 81, 3) := by decide +kernel
theorem dX12_card_60 : decode cX12_card 60 = .ok (.imul, 1) := by decide +kernel
theorem dX12_card_61 : decode cX12_card 61 = .ok (.iconst 2, 1) := by decide +kernel
theorem dX12_card_62 : decode cX12_card 62 = .ok (.iadd, 1) := by decide +kernel
theorem dX12_card_63 : decode cX12_card 63 = .ok (.iload_n 3, 1) := by decide +kernel
theorem dX12_card_64 : decode cX12_card 64 = .ok (.iastore, 1) := by decide +kernel
theorem dX12_card_65 : decode cX12_card 65 = .ok (.aload_n 0, 1) := by decide +kernel
theorem dX12_card_66 : decode cX12_card 66 = .ok (.getfield 7, 3) := by decide +kernel
theorem dX12_card_69 : decode cX12_card 69 = .ok (.iconst 4, 1) := by decide +kernel
theorem dX12_card_70 : decode cX12_card 70 = .ok (.aload_n 0, 1) := by decide +kernel
theorem dX12_card_71 : decode cX12_card 71 = .ok (.getfield 81, 3) := by decide +kernel
theorem dX12_card_74 : decode cX12_card 74 = .ok (.imul, 1) := by decide +kernel
theorem dX12_card_75 : decode cX12_card 75 = .ok (.iconst 3, 1) := by decide +kernel
theorem dX12_card_76 : decode cX12_card 76 = .ok (.iadd, 1) := by decide +kernel
theorem dX12_card_77 : decode cX12_card 77 = .ok (.iload 4, 2) := by decide +kernel
theorem dX12_card_79 : decode cX12_card 79 = .ok (.iastore, 1) := by decide +kernel
theorem dX12_card_80 : decode cX12_card 80 = .ok (.aload_n 0, 1) := by decide +kernel
theorem dX12_card_81 : decode cX12_card 81 = .ok (.dup, 1) := by decide +kernel
theorem dX12_card_82 : decode cX12_card 82 = .ok (.getfield 81, 3) := by decide +kernel
theorem dX12_card_85 : decode cX12_card 85 = .ok (.iconst 1, 1) := by decide +kernel
theorem dX12_card_86 : decode cX12_card 86 = .ok (.iadd, 1) := by decide +kernel
theorem dX12_card_87 : decode cX12_card 87 = .ok (.putfield 81, 3) := by decide +kernel
theorem dX12_card_90 : decode cX12_card 90 = .ok (.aload_n 0, 1) := by decide +kernel
theorem dX12_card_91 : decode cX12_card 91 = .ok (.getfield 81, 3) := by decide +kernel
theorem dX12_card_94 : decode cX12_card 94 = .ok (.iconst 1, 1) := by decide +kernel
theorem dX12_card_95 : decode cX12_card 95 = .ok (.isub, 1) := by decide +kernel
theorem dX12_card_96 : decode cX12_card 96 = .ok (.ireturn, 1) := by decide +kernel
theorem dX12_cardOf_0 : decode cX12_cardOf 0 = .ok (.aload_n 0, 1) := by decide +kernel
theorem dX12_cardOf_1 : decode cX12_cardOf 1 = .ok (.iload_n 1, 1) := by decide +kernel
theorem dX12_cardOf_2 : decode cX12_cardOf 2 = .ok (.invokevirtual 205, 3) := by decide +kernel
theorem dX12_cardOf_5 : decode cX12_cardOf 5 = .ok (.ifCond .eq 12, 3) := by decide +kernel
theorem dX12_cardOf_8 : decode cX12_cardOf 8 = .ok (.iload_n 2, 1) := by decide +kernel
theorem dX12_cardOf_9 : decode cX12_cardOf 9 = .ok (.iconst 0, 1) := by decide +kernel
theorem dX12_cardOf_10 : decode cX12_cardOf 10 = .ok (.iconst 3, 1) := by decide +kernel
theorem dX12_cardOf_11 : decode cX12_cardOf 11 = .ok (.invokestatic 84, 3) := by decide +kernel
theorem dX12_cardOf_14 : decode cX12_cardOf 14 = .ok (.ifCond .ne 5, 3) := by decide +kernel
theorem dX12_cardOf_17 : decode cX12_cardOf 17 = .ok (.iconst (-1), 1) := by decide +kernel
theorem dX12_cardOf_18 : decode cX12_cardOf 18 = .ok (.ireturn, 1) := by decide +kernel
theorem dX12_cardOf_19 : decode cX12_cardOf 19 = .ok (.iload_n 2, 1) := by decide +kernel
theorem dX12_cardOf_20 : decode cX12_cardOf 20 = .ok (.iconst 3, 1) := by decide +kernel
theorem dX12_cardOf_21 : decode cX12_cardOf 21 = .ok (.if_icmp .ne 15, 3) := by decide +kernel
theorem dX12_cardOf_24 : decode cX12_cardOf 24 = .ok (.aload_n 0, 1) := by decide +kernel
theorem dX12_cardOf_25 : decode cX12_cardOf 25 = .ok (.iload_n 1, 1) := by decide +kernel
theorem dX12_cardOf_26 : decode cX12_cardOf 26 = .ok (.iconst 3, 1) := by decide +kernel
theorem dX12_cardOf_27 : decode cX12_cardOf 27 = .ok (.invokevirtual 208, 3) := by decide +kernel
theorem dX12_cardOf_30 : decode cX12_cardOf 30 = .ok (.bipush 10, 2) := by decide +kernel
theorem dX12_cardOf_32 : decode cX12_cardOf 32 = .ok (.iadd, 1) := by decide +kernel
theorem dX12_cardOf_33 : decode cX12_cardOf 33 = .ok (.goto 9, 3) := by decide +kernel
theorem dX12_cardOf_36 : decode cX12_cardOf 36 = .ok (.aload_n 0, 1) := by decide +kernel
theorem dX12_cardOf_37 : decode cX12_cardOf 37 = .ok (.iload_n 1, 1) := by decide +kernel
theorem dX12_cardOf_38 : decode cX12_cardOf 38 = .ok (.iload_n 2, 1) := by decide +kernel
theorem dX12_cardOf_39 : decode cX12_cardOf 39 = .ok (.invokevirtual 208, 3) := by decide +kernel
theorem dX12_cardOf_42 : decode cX12_cardOf 42 = .ok (.ireturn, 1) := by decide +kernel
theorem dX12_isLaw_0 : decode cX12_isLaw 0 = .ok (.iload_n 0, 1) := by decide +kernel
theorem dX12_isLaw_1 : decode cX12_isLaw 1 = .ok (.iconst 0, 1) := by decide +kernel
theorem dX12_isLaw_2 : decode cX12_isLaw 2 = .ok (.iconst 5, 1) := by decide +kernel
theorem dX12_isLaw_3 : decode cX12_isLaw 3 = .ok (.invokestatic 84, 3) := by decide +kernel
theorem dX12_isLaw_6 : decode cX12_isLaw 6 = .ok (.ireturn, 1) := by decide +kernel
theorem dX12_set_0 : decode cX12_set 0 = .ok (.iload_n 1, 1) := by decide +kernel
theorem dX12_set_1 : decode cX12_set 1 = .ok (.invokestatic 211, 3) := by decide +kernel
theorem dX12_set_4 : decode cX12_set 4 = .ok (.ifCond .eq 13, 3) := by decide +kernel
theorem dX12_set_7 : decode cX12_set 7 = .ok (.iload_n 2, 1) := by decide +kernel
theorem dX12_set_8 : decode cX12_set 8 = .ok (.iconst 0, 1) := by decide +kernel
theorem dX12_set_9 : decode cX12_set 9 = .ok (.bipush 63, 2) := by decide +kernel
theorem dX12_set_11 : decode cX12_set 11 = .ok (.invokestatic 84, 3) := by decide +kernel
theorem dX12_set_14 : decode cX12_set 14 = .ok (.ifCond .ne 5, 3) := by decide +kernel
theorem dX12_set_17 : decode cX12_set 17 = .ok (.iconst (-1), 1) := by decide +kernel
theorem dX12_set_18 : decode cX12_set 18 = .ok (.ireturn, 1) := by decide +kernel
theorem dX12_set_19 : decode cX12_set 19 = .ok (.aload_n 0, 1) := by decide +kernel
theorem dX12_set_20 : decode cX12_set 20 = .ok (.getfield 13, 3) := by decide +kernel
theorem dX12_set_23 : decode cX12_set 23 = .ok (.iload_n 1, 1) := by decide +kernel
theorem dX12_set_24 : decode cX12_set 24 = .ok (.iaload, 1) := by decide +kernel
theorem dX12_set_25 : decode cX12_set 25 = .ok (.istore_n 3, 1) := by decide +kernel
theorem dX12_set_26 : decode cX12_set 26 = .ok (.aload_n 0, 1) := by decide +kernel
theorem dX12_set_27 : decode cX12_set 27 = .ok (.getfield 13, 3) := by decide +kernel
theorem dX12_set_30 : decode cX12_set 30 = .ok (.iload_n 1, 1) := by decide +kernel
theorem dX12_set_31 : decode cX12_set 31 = .ok (.iload_n 2, 1) := by decide +kernel
theorem dX12_set_32 : decode cX12_set 32 = .ok (.iastore, 1) := by decide +kernel
theorem dX12_set_33 : decode cX12_set 33 = .ok (.iload_n 3, 1) := by decide +kernel
theorem dX12_set_34 : decode cX12_set 34 = .ok (.ireturn, 1) := by decide +kernel
theorem dX12_handMany_0 : decode cX12_handMany 0 = .ok (.iconst 0, 1) := by decide +kernel
theorem dX12_handMany_1 : decode cX12_handMany 1 = .ok (.istore_n 1, 1) := by decide +kernel
theorem dX12_handMany_2 : decode cX12_handMany 2 = .ok (.iconst 0, 1) := by decide +kernel
theorem dX12_handMany_3 : decode cX12_handMany 3 = .ok (.istore_n 2, 1) := by decide +kernel
theorem dX12_handMany_4 : decode cX12_handMany 4 = .ok (.iload_n 2, 1) := by decide +kernel
theorem dX12_handMany_5 : decode cX12_handMany 5 = .ok (.iconst 5, 1) := by decide +kernel
theorem dX12_handMany_6 : decode cX12_handMany 6 = .ok (.if_icmp .ge 18, 3) := by decide +kernel
theorem dX12_handMany_9 : decode cX12_handMany 9 = .ok (.iload_n 1, 1) := by decide +kernel
theorem dX12_handMany_10 : decode cX12_handMany 10 = .ok (.aload_n 0, 1) := by decide +kernel
theorem dX12_handMany_11 : decode cX12_handMany 11 = .ok (.getfield 16, 3) := by decide +kernel
theorem dX12_handMany_14 : decode cX12_handMany 14 = .ok (.iload_n 2, 1) := by decide +kernel
theorem dX12_handMany_15 : decode cX12_handMany 15 = .ok (.iaload, 1) := by decide +kernel
theorem dX12_handMany_16 : decode cX12_handMany 16 = .ok (.iadd, 1) := by decide +kernel
theorem dX12_handMany_17 : decode cX12_handMany 17 = .ok (.istore_n 1, 1) := by decide +kernel
theorem dX12_handMany_18 : decode cX12_handMany 18 = .ok (.iinc 2 1, 3) := by decide +kernel
theorem dX12_handMany_21 : decode cX12_handMany 21 = .ok (.goto (-17), 3) := by decide +kernel
theorem dX12_handMany_24 : decode cX12_handMany 24 = .ok (.iload_n 1, 1) := by decide +kernel
theorem dX12_handMany_25 : decode cX12_handMany 25 = .ok (.ireturn, 1) := by decide +kernel
theorem dX12_hand_0 : decode cX12_hand 0 = .ok (.iload_n 1, 1) := by decide +kernel
theorem dX12_hand_1 : decode cX12_hand 1 = .ok (.iconst 0, 1) := by decide +kernel
theorem dX12_hand_2 : decode cX12_hand 2 = .ok (.iconst 4, 1) := by decide +kernel
theorem dX12_hand_3 : decode cX12_hand 3 = .ok (.invokestatic 84, 3) := by decide +kernel
theorem dX12_hand_6 : decode cX12_hand 6 = .ok (.ifCond .eq 13, 3) := by decide +kernel
theorem dX12_hand_9 : decode cX12_hand 9 = .ok (.iload_n 2, 1) := by decide +kernel
theorem dX12_hand_10 : decode cX12_hand 10 = .ok (.iconst 0, 1) := by decide +kernel
theorem dX12_hand_11 : decode cX12_hand 11 = .ok (.bipush 9, 2) := by decide +kernel
theorem dX12_hand_13 : decode cX12_hand 13 = .ok (.invokestatic 84, 3) := by decide +kernel
theorem dX12_hand_16 : decode cX12_hand 16 = .ok (.ifCond .ne 5, 3) := by decide +kernel
theorem dX12_hand_19 : decode cX12_hand 19 = .ok (.iconst (-1), 1) := by decide +kernel
theorem dX12_hand_20 : decode cX12_hand 20 = .ok (.ireturn, 1) := by decide +kernel
theorem dX12_hand_21 : decode cX12_hand 21 = .ok (.aload_n 0, 1) := by decide +kernel
theorem dX12_hand_22 : decode cX12_hand 22 = .ok (.invokevirtual 214, 3) := by decide +kernel
theorem dX12_hand_25 : decode cX12_hand 25 = .ok (.aload_n 0, 1) := by decide +kernel
theorem dX12_hand_26 : decode cX12_hand 26 = .ok (.getfield 16, 3) := by decide +kernel
theorem dX12_hand_29 : decode cX12_hand 29 = .ok (.iload_n 1, 1) := by decide +kernel
theorem dX12_hand_30 : decode cX12_hand 30 = .ok (.iaload, 1) := by decide +kernel
theorem dX12_hand_31 : decode cX12_hand 31 = .ok (.isub, 1) := by decide +kernel
theorem dX12_hand_32 : decode cX12_hand 32 = .ok (.iload_n 2, 1) := by decide +kernel
theorem dX12_hand_33 : decode cX12_hand 33 = .ok (.iadd, 1) := by decide +kernel
theorem dX12_hand_34 : decode cX12_hand 34 = .ok (.ifCond .ne 6, 3) := by decide +kernel
theorem dX12_hand_37 : decode cX12_hand 37 = .ok (.bipush (-4), 2) := by decide +kernel
theorem dX12_hand_39 : decode cX12_hand 39 = .ok (.ireturn, 1) := by decide +kernel
theorem dX12_hand_40 : decode cX12_hand 40 = .ok (.aload_n 0, 1) := by decide +kernel
theorem dX12_hand_41 : decode cX12_hand 41 = .ok (.getfield 16, 3) := by decide +kernel
theorem dX12_hand_44 : decode cX12_hand 44 = .ok (.iload_n 1, 1) := by decide +kernel
theorem dX12_hand_45 : decode cX12_hand 45 = .ok (.iaload, 1) := by decide +kernel
theorem dX12_hand_46 : decode cX12_hand 46 = .ok (.istore_n 3, 1) := by decide +kernel
theorem dX12_hand_47 : decode cX12_hand 47 = .ok (.aload_n 0, 1) := by decide +kernel
theorem dX12_hand_48 : decode cX12_hand 48 = .ok (.getfield 16, 3) := by decide +kernel
theorem dX12_hand_51 : decode cX12_hand 51 = .ok (.iload_n 1, 1) := by decide +kernel
theorem dX12_hand_52 : decode cX12_hand 52 = .ok (.iload_n 2, 1) := by decide +kernel
theorem dX12_hand_53 : decode cX12_hand 53 = .ok (.iastore, 1) := by decide +kernel
theorem dX12_hand_54 : decode cX12_hand 54 = .ok (.iload_n 3, 1) := by decide +kernel
theorem dX12_hand_55 : decode cX12_hand 55 = .ok (.ireturn, 1) := by decide +kernel
theorem dX12_sineOf_0 : decode cX12_sineOf 0 = .ok (.iload_n 1, 1) := by decide +kernel
theorem dX12_sineOf_1 : decode cX12_sineOf 1 = .ok (.bipush 18, 2) := by decide +kernel
theorem dX12_sineOf_3 : decode cX12_sineOf 3 = .ok (.if_icmp .le 10, 3) := by decide +kernel
theorem dX12_sineOf_6 : decode cX12_sineOf 6 = .ok (.iload_n 1, 1) := by decide +kernel
theorem dX12_sineOf_7 : decode cX12_sineOf 7 = .ok (.bipush 18, 2) := by decide +kernel
theorem dX12_sineOf_9 : decode cX12_sineOf 9 = .ok (.isub, 1) := by decide +kernel
theorem dX12_sineOf_10 : decode cX12_sineOf 10 = .ok (.goto 4, 3) := by decide +kernel
theorem dX12_sineOf_13 : decode cX12_sineOf 13 = .ok (.iload_n 1, 1) := by decide +kernel
theorem dX12_sineOf_14 : decode cX12_sineOf 14 = .ok (.istore_n 2, 1) := by decide +kernel
theorem dX12_sineOf_15 : decode cX12_sineOf 15 = .ok (.aload_n 0, 1) := by decide +kernel
theorem dX12_sineOf_16 : decode cX12_sineOf 16 = .ok (.getfield 19, 3) := by decide +kernel
theorem dX12_sineOf_19 : decode cX12_sineOf 19 = .ok (.iload_n 2, 1) := by decide +kernel
theorem dX12_sineOf_20 : decode cX12_sineOf 20 = .ok (.bipush 9, 2) := by decide +kernel
theorem dX12_sineOf_22 : decode cX12_sineOf 22 = .ok (.if_icmp .le 10, 3) := by decide +kernel
theorem dX12_sineOf_25 : decode cX12_sineOf 25 = .ok (.bipush 18, 2) := by decide +kernel
theorem dX12_sineOf_27 : decode cX12_sineOf 27 = .ok (.iload_n 2, 1) := by decide +kernel
theorem dX12_sineOf_28 : decode cX12_sineOf 28 = .ok (.isub, 1) := by decide +kernel
theorem dX12_sineOf_29 : decode cX12_sineOf 29 = .ok (.goto 4, 3) := by decide +kernel
theorem dX12_sineOf_32 : decode cX12_sineOf 32 = .ok (.iload_n 2, 1) := by decide +kernel
theorem dX12_sineOf_33 : decode cX12_sineOf 33 = .ok (.iaload, 1) := by decide +kernel
theorem dX12_sineOf_34 : decode cX12_sineOf 34 = .ok (.istore_n 3, 1) := by decide +kernel
theorem dX12_sineOf_35 : decode cX12_sineOf 35 = .ok (.iload_n 1, 1) := by decide +kernel
theorem dX12_sineOf_36 : decode cX12_sineOf 36 = .ok (.bipush 18, 2) := by decide +kernel
theorem dX12_sineOf_38 : decode cX12_sineOf 38 = .ok (.if_icmp .le 8, 3) := by decide +kernel
theorem dX12_sineOf_41 : decode cX12_sineOf 41 = .ok (.iload_n 3, 1) := by decide +kernel
theorem dX12_sineOf_42 : decode cX12_sineOf 42 = .ok (.ineg, 1) := by decide +kernel
theorem dX12_sineOf_43 : decode cX12_sineOf 43 = .ok (.goto 4, 3) := by decide +kernel
theorem dX12_sineOf_46 : decode cX12_sineOf 46 = .ok (.iload_n 3, 1) := by decide +kernel
theorem dX12_sineOf_47 : decode cX12_sineOf 47 = .ok (.ireturn, 1) := by decide +kernel
theorem dX12_cosineOf_0 : decode cX12_cosineOf 0 = .ok (.aload_n 0, 1) := by decide +kernel
theorem dX12_cosineOf_1 : decode cX12_cosineOf 1 = .ok (.iload_n 1, 1) := by decide +kernel
theorem dX12_cosineOf_2 : decode cX12_cosineOf 2 = .ok (.bipush 9, 2) := by decide +kernel
theorem dX12_cosineOf_4 : decode cX12_cosineOf 4 = .ok (.iadd, 1) := by decide +kernel
theorem dX12_cosineOf_5 : decode cX12_cosineOf 5 = .ok (.bipush 36, 2) := by decide +kernel
theorem dX12_cosineOf_7 : decode cX12_cosineOf 7 = .ok (.irem, 1) := by decide +kernel
theorem dX12_cosineOf_8 : decode cX12_cosineOf 8 = .ok (.invokevirtual 217, 3) := by decide +kernel
theorem dX12_cosineOf_11 : decode cX12_cosineOf 11 = .ok (.ireturn, 1) := by decide +kernel
theorem dX12_sine_0 : decode cX12_sine 0 = .ok (.iload_n 1, 1) := by decide +kernel
theorem dX12_sine_1 : decode cX12_sine 1 = .ok (.iconst 0, 1) := by decide +kernel
theorem dX12_sine_2 : decode cX12_sine 2 = .ok (.bipush 35, 2) := by decide +kernel
theorem dX12_sine_4 : decode cX12_sine 4 = .ok (.invokestatic 84, 3) := by decide +kernel
theorem dX12_sine_7 : decode cX12_sine 7 = .ok (.ifCond .eq 15, 3) := by decide +kernel
theorem dX12_sine_10 : decode cX12_sine 10 = .ok (.aload_n 0, 1) := by decide +kernel
theorem dX12_sine_11 : decode cX12_sine 11 = .ok (.iload_n 1, 1) := by decide +kernel
theorem dX12_sine_12 : decode cX12_sine 12 = .ok (.invokevirtual 217, 3) := by decide +kernel
theorem dX12_sine_15 : decode cX12_sine 15 = .ok (.sipush 1000, 3) := by decide +kernel
theorem dX12_sine_18 : decode cX12_sine 18 = .ok (.iadd, 1) := by decide +kernel
theorem dX12_sine_19 : decode cX12_sine 19 = .ok (.goto 4, 3) := by decide +kernel
theorem dX12_sine_22 : decode cX12_sine 22 = .ok (.iconst (-1), 1) := by decide +kernel
theorem dX12_sine_23 : decode cX12_sine 23 = .ok (.ireturn, 1) := by decide +kernel
theorem dX12_lends_0 : decode cX12_lends 0 = .ok (.aload_n 0, 1) := by decide +kernel
theorem dX12_lends_1 : decode cX12_lends 1 = .ok (.aload_n 0, 1) := by decide +kernel
theorem dX12_lends_2 : decode cX12_lends 2 = .ok (.iload_n 1, 1) := by decide +kernel
theorem dX12_lends_3 : decode cX12_lends 3 = .ok (.iconst 0, 1) := by decide +kernel
theorem dX12_lends_4 : decode cX12_lends 4 = .ok (.invokevirtual 208, 3) := by decide +kernel
theorem dX12_lends_7 : decode cX12_lends 7 = .ok (.putfield 220, 3) := by decide +kernel
theorem dX12_lends_10 : decode cX12_lends 10 = .ok (.aload_n 0, 1) := by decide +kernel
theorem dX12_lends_11 : decode cX12_lends 11 = .ok (.aload_n 0, 1) := by decide +kernel
theorem dX12_lends_12 : decode cX12_lends 12 = .ok (.iload_n 1, 1) := by decide +kernel
theorem dX12_lends_13 : decode cX12_lends 13 = .ok (.iconst 1, 1) := by decide +kernel
theorem dX12_lends_14 : decode cX12_lends 14 = .ok (.invokevirtual 208, 3) := by decide +kernel
theorem dX12_lends_17 : decode cX12_lends 17 = .ok (.putfield 223, 3) := by decide +kernel
theorem dX12_lends_20 : decode cX12_lends 20 = .ok (.aload_n 0, 1) := by decide +kernel
theorem dX12_lends_21 : decode cX12_lends 21 = .ok (.aload_n 0, 1) := by decide +kernel
theorem dX12_lends_22 : decode cX12_lends 22 = .ok (.iload_n 1, 1) := by decide +kernel
theorem dX12_lends_23 : decode cX12_lends 23 = .ok (.iconst 2, 1) := by decide +kernel
theorem dX12_lends_24 : decode cX12_lends 24 = .ok (.invokevirtual 208, 3) := by decide +kernel
theorem dX12_lends_27 : decode cX12_lends 27 = .ok (.putfield 226, 3) := by decide +kernel
theorem dX12_lends_30 : decode cX12_lends 30 = .ok (.aload_n 0, 1) := by decide +kernel
theorem dX12_lends_31 : decode cX12_lends 31 = .ok (.aload_n 0, 1) := by decide +kernel
theorem dX12_lends_32 : decode cX12_lends 32 = .ok (.iload_n 1, 1) := by decide +kernel
theorem dX12_lends_33 : decode cX12_lends 33 = .ok (.iconst 3, 1) := by decide +kernel
theorem dX12_lends_34 : decode cX12_lends 34 = .ok (.invokevirtual 208, 3) := by decide +kernel
theorem dX12_lends_37 : decode cX12_lends 37 = .ok (.putfield 229, 3) := by decide +kernel
theorem dX12_lends_40 : decode cX12_lends 40 = .ok (.aload_n 0, 1) := by decide +kernel
theorem dX12_lends_41 : decode cX12_lends 41 = .ok (.iconst 0, 1) := by decide +kernel
theorem dX12_lends_42 : decode cX12_lends 42 = .ok (.putfield 232, 3) := by decide +kernel
theorem dX12_lends_45 : decode cX12_lends 45 = .ok (.aload_n 0, 1) := by decide +kernel
theorem dX12_lends_46 : decode cX12_lends 46 = .ok (.iconst 0, 1) := by decide +kernel
theorem dX12_lends_47 : decode cX12_lends 47 = .ok (.putfield 235, 3) := by decide +kernel
theorem dX12_lends_50 : decode cX12_lends 50 = .ok (.aload_n 0, 1) := by decide +kernel
theorem dX12_lends_51 : decode cX12_lends 51 = .ok (.iload_n 2, 1) := by decide +kernel
theorem dX12_lends_52 : decode cX12_lends 52 = .ok (.putfield 238, 3) := by decide +kernel
theorem dX12_lends_55 : decode cX12_lends 55 = .ok (.aload_n 0, 1) := by decide +kernel
theorem dX12_lends_56 : decode cX12_lends 56 = .ok (.iload_n 3, 1) := by decide +kernel
theorem dX12_lends_57 : decode cX12_lends 57 = .ok (.putfield 241, 3) := by decide +kernel
theorem dX12_lends_60 : decode cX12_lends 60 = .ok (.aload_n 0, 1) := by decide +kernel
theorem dX12_lends_61 : decode cX12_lends 61 = .ok (.iload 4, 2) := by decide +kernel
theorem dX12_lends_63 : decode cX12_lends 63 = .ok (.putfield 244, 3) := by decide +kernel
theorem dX12_lends_66 : decode cX12_lends 66 = .ok (.aload_n 0, 1) := by decide +kernel
theorem dX12_lends_67 : decode cX12_lends 67 = .ok (.iconst 0, 1) := by decide +kernel
theorem dX12_lends_68 : decode cX12_lends 68 = .ok (.putfield 247, 3) := by decide +kernel
theorem dX12_lends_71 : decode cX12_lends 71 = .ok (.aload_n 0, 1) := by decide +kernel
theorem dX12_lends_72 : decode cX12_lends 72 = .ok (.iconst 0, 1) := by decide +kernel
theorem dX12_lends_73 : decode cX12_lends 73 = .ok (.putfield 250, 3) := by decide +kernel
theorem dX12_lends_76 : decode cX12_lends 76 = .ok (.aload_n 0, 1) := by decide +kernel
theorem dX12_lends_77 : decode cX12_lends 77 = .ok (.iconst 0, 1) := by decide +kernel
theorem dX12_lends_78 : decode cX12_lends 78 = .ok (.putfield 253, 3) := by decide +kernel
theorem dX12_lends_81 : decode cX12_lends 81 = .ok (.aload_n 0, 1) := by decide +kernel
theorem dX12_lends_82 : decode cX12_lends 82 = .ok (.iconst 0, 1) := by decide +kernel
theorem dX12_lends_83 : decode cX12_lends 83 = .ok (.putfield 256, 3) := by decide +kernel
theorem dX12_lends_86 : decode cX12_lends 86 = .ok (.return_, 1) := by decide +kernel
theorem dX12_isLanded_0 : decode cX12_isLanded 0 = .ok (.aload_n 0, 1) := by decide +kernel
theorem dX12_isLanded_1 : decode cX12_isLanded 1 = .ok (.getfield 238, 3) := by decide +kernel
theorem dX12_isLanded_4 : decode cX12_isLanded 4 = .ok (.ifCond .gt 7, 3) := by decide +kernel
theorem dX12_isLanded_7 : decode cX12_isLanded 7 = .ok (.iconst 1, 1) := by decide +kernel
theorem dX12_isLanded_8 : decode cX12_isLanded 8 = .ok (.goto 4, 3) := by decide +kernel
theorem dX12_isLanded_11 : decode cX12_isLanded 11 = .ok (.iconst 0, 1) := by decide +kernel
theorem dX12_isLanded_12 : decode cX12_isLanded 12 = .ok (.ireturn, 1) := by decide +kernel
theorem dX12_plainTurn_0 : decode cX12_plainTurn 0 = .ok (.aload_n 0, 1) := by decide +kernel
theorem dX12_plainTurn_1 : decode cX12_plainTurn 1 = .ok (.getfield 244, 3) := by decide +kernel
theorem dX12_plainTurn_4 : decode cX12_plainTurn 4 = .ok (.aload_n 0, 1) := by decide +kernel
theorem dX12_plainTurn_5 : decode cX12_plainTurn 5 = .ok (.getfield 247, 3) := by decide +kernel
theorem dX12_plainTurn_8 : decode cX12_plainTurn 8 = .ok (.aload_n 0, 1) := by decide +kernel
theorem dX12_plainTurn_9 : decode cX12_plainTurn 9 = .ok (.aload_n 0, 1) := by decide +kernel
theorem dX12_plainTurn_10 : decode cX12_plainTurn 10 = .ok (.getfield 241, 3) := by decide +kernel
theorem dX12_plainTurn_13 : decode cX12_plainTurn 13 = .ok (.invokevirtual 259, 3) := by decide +kernel
theorem dX12_plainTurn_16 : decode cX12_plainTurn 16 = .ok (.imul, 1) := by decide +kernel
theorem dX12_plainTurn_17 : decode cX12_plainTurn 17 = .ok (.sipush 1000, 3) := by decide +kernel
theorem dX12_plainTurn_20 : decode cX12_plainTurn 20 = .ok (.idiv, 1) := by decide +kernel
theorem dX12_plainTurn_21 : decode cX12_plainTurn 21 = .ok (.aload_n 0, 1) := by decide +kernel
theorem dX12_plainTurn_22 : decode cX12_plainTurn 22 = .ok (.getfield 13, 3) := by decide +kernel
theorem dX12_plainTurn_25 : decode cX12_plainTurn 25 = .ok (.iconst 3, 1) := by decide +kernel
theorem dX12_plainTurn_26 : decode cX12_plainTurn 26 = .ok (.iaload, 1) := by decide +kernel
theorem dX12_plainTurn_27 : decode cX12_plainTurn 27 = .ok (.imul, 1) := by decide +kernel
theorem dX12_plainTurn_28 : decode cX12_plainTurn 28 = .ok (.sipush 1024, 3) := by decide +kernel
theorem dX12_plainTurn_31 : decode cX12_plainTurn 31 = .ok (.idiv, 1) := by decide +kernel
theorem dX12_plainTurn_32 : decode cX12_plainTurn 32 = .ok (.iadd, 1) := by decide +kernel
theorem dX12_plainTurn_33 : decode cX12_plainTurn 33 = .ok (.aload_n 0, 1) := by decide +kernel
theorem dX12_plainTurn_34 : decode cX12_plainTurn 34 = .ok (.getfield 244, 3) := by decide +kernel
theorem dX12_plainTurn_37 : decode cX12_plainTurn 37 = .ok (.aload_n 0, 1) := by decide +kernel
theorem dX12_plainTurn_38 : decode cX12_plainTurn 38 = .ok (.getfield 13, 3) := by decide +kernel
theorem dX12_plainTurn_41 : decode cX12_plainTurn 41 = .ok (.iconst 4, 1) := by decide +kernel
theorem dX12_plainTurn_42 : decode cX12_plainTurn 42 = .ok (.iaload, 1) := by decide +kernel
theorem dX12_plainTurn_43 : decode cX12_plainTurn 43 = .ok (.imul, 1) := by decide +kernel
theorem dX12_plainTurn_44 : decode cX12_plainTurn 44 = .ok (.bipush 64, 2) := by decide +kernel
theorem dX12_plainTurn_46 : decode cX12_plainTurn 46 = .ok (.idiv, 1) := by decide +kernel
theorem dX12_plainTurn_47 : decode cX12_plainTurn 47 = .ok (.isub, 1) := by decide +kernel
theorem dX12_plainTurn_48 : decode cX12_plainTurn 48 = .ok (.aload_n 0, 1) := by decide +kernel
theorem dX12_plainTurn_49 : decode cX12_plainTurn 49 = .ok (.getfield 229, 3) := by decide +kernel
theorem dX12_plainTurn_52 : decode cX12_plainTurn 52 = .ok (.aload_n 0, 1) := by decide +kernel
theorem dX12_plainTurn_53 : decode cX12_plainTurn 53 = .ok (.getfield 226, 3) := by decide +kernel
theorem dX12_plainTurn_56 : decode cX12_plainTurn 56 = .ok (.idiv, 1) := by decide +kernel
theorem dX12_plainTurn_57 : decode cX12_plainTurn 57 = .ok (.iadd, 1) := by decide +kernel
theorem dX12_plainTurn_58 : decode cX12_plainTurn 58 = .ok (.ireturn, 1) := by decide +kernel
theorem dX12_toldTurn_0 : decode cX12_toldTurn 0 = .ok (.aload_n 0, 1) := by decide +kernel
theorem dX12_toldTurn_1 : decode cX12_toldTurn 1 = .ok (.getfield 220, 3) := by decide +kernel
theorem dX12_toldTurn_4 : decode cX12_toldTurn 4 = .ok (.tableswitch 109 1 5 #[36, 38, 91, 65, 91], 36) := by decide +kernel
theorem dX12_toldTurn_40 : decode cX12_toldTurn 40 = .ok (.iconst 0, 1) := by decide +kernel
theorem dX12_toldTurn_41 : decode cX12_toldTurn 41 = .ok (.ireturn, 1) := by decide +kernel
theorem dX12_toldTurn_42 : decode cX12_toldTurn 42 = .ok (.aload_n 0, 1) := by decide +kernel
theorem dX12_toldTurn_43 : decode cX12_toldTurn 43 = .ok (.getfield 241, 3) := by decide +kernel
theorem dX12_toldTurn_46 : decode cX12_toldTurn 46 = .ok (.bipush 10, 2) := by decide +kernel
theorem dX12_toldTurn_48 : decode cX12_toldTurn 48 = .ok (.bipush 26, 2) := by decide +kernel
theorem dX12_toldTurn_50 : decode cX12_toldTurn 50 = .ok (.invokestatic 84, 3) := by decide +kernel
theorem dX12_toldTurn_53 : decode cX12_toldTurn 53 = .ok (.ifCond .eq 11, 3) := by decide +kernel
theorem dX12_toldTurn_56 : decode cX12_toldTurn 56 = .ok (.aload_n 0, 1) := by decide +kernel
theorem dX12_toldTurn_57 : decode cX12_toldTurn 57 = .ok (.invokevirtual 262, 3) := by decide +kernel
theorem dX12_toldTurn_60 : decode cX12_toldTurn 60 = .ok (.ineg, 1) := by decide +kernel
theorem dX12_toldTurn_61 : decode cX12_toldTurn 61 = .ok (.goto 7, 3) := by decide +kernel
theorem dX12_toldTurn_64 : decode cX12_toldTurn 64 = .ok (.aload_n 0, 1) := by decide +kernel
theorem dX12_toldTurn_65 : decode cX12_toldTurn 65 = .ok (.invokevirtual 262, 3) := by decide +kernel
theorem dX12_toldTurn_68 : decode cX12_toldTurn 68 = .ok (.ireturn, 1) := by decide +kernel
theorem dX12_toldTurn_69 : decode cX12_toldTurn 69 = .ok (.aload_n 0, 1) := by decide +kernel
theorem dX12_toldTurn_70 : decode cX12_toldTurn 70 = .ok (.getfield 241, 3) := by decide +kernel
theorem dX12_toldTurn_73 : decode cX12_toldTurn 73 = .ok (.ifCond .ne 7, 3) := by decide +kernel
theorem dX12_toldTurn_76 : decode cX12_toldTurn 76 = .ok (.iconst 0, 1) := by decide +kernel
theorem dX12_toldTurn_77 : decode cX12_toldTurn 77 = .ok (.goto 17, 3) := by decide +kernel
theorem dX12_toldTurn_80 : decode cX12_toldTurn 80 = .ok (.aload_n 0, 1) := by decide +kernel
theorem dX12_toldTurn_81 : decode cX12_toldTurn 81 = .ok (.getfield 241, 3) := by decide +kernel
theorem dX12_toldTurn_84 : decode cX12_toldTurn 84 = .ok (.bipush 18, 2) := by decide +kernel
theorem dX12_toldTurn_86 : decode cX12_toldTurn 86 = .ok (.if_icmp .gt 7, 3) := by decide +kernel
theorem dX12_toldTurn_89 : decode cX12_toldTurn 89 = .ok (.iconst (-1), 1) := by decide +kernel
theorem dX12_toldTurn_90 : decode cX12_toldTurn 90 = .ok (.goto 4, 3) := by decide +kernel
theorem dX12_toldTurn_93 : decode cX12_toldTurn 93 = .ok (.iconst 1, 1) := by decide +kernel
theorem dX12_toldTurn_94 : decode cX12_toldTurn 94 = .ok (.ireturn, 1) := by decide +kernel
theorem dX12_toldTurn_95 : decode cX12_toldTurn 95 = .ok (.aload_n 0, 1) := by decide +kernel
theorem dX12_toldTurn_96 : decode cX12_toldTurn 96 = .ok (.invokevirtual 262, 3) := by decide +kernel
theorem dX12_toldTurn_99 : decode cX12_toldTurn 99 = .ok (.aload_n 0, 1) := by decide +kernel
theorem dX12_toldTurn_100 : decode cX12_toldTurn 100 = .ok (.getfield 244, 3) := by decide +kernel
theorem dX12_toldTurn_103 : decode cX12_toldTurn 103 = .ok (.ifCond .lt 7, 3) := by decide +kernel
theorem dX12_toldTurn_106 : decode cX12_toldTurn 106 = .ok (.iconst 1, 1) := by decide +kernel
theorem dX12_toldTurn_107 : decode cX12_toldTurn 107 = .ok (.goto 4, 3) := by decide +kernel
theorem dX12_toldTurn_110 : decode cX12_toldTurn 110 = .ok (.iconst (-1), 1) := by decide +kernel
theorem dX12_toldTurn_111 : decode cX12_toldTurn 111 = .ok (.iadd, 1) := by decide +kernel
theorem dX12_toldTurn_112 : decode cX12_toldTurn 112 = .ok (.ireturn, 1) := by decide +kernel
theorem dX12_toldTurn_113 : decode cX12_toldTurn 113 = .ok (.aload_n 0, 1) := by decide +kernel
theorem dX12_toldTurn_114 : decode cX12_toldTurn 114 = .ok (.invokevirtual 262, 3) := by decide +kernel
theorem dX12_toldTurn_117 : decode cX12_toldTurn 117 = .ok (.ireturn, 1) := by decide +kernel
theorem dX12_ticksOn_0 : decode cX12_ticksOn 0 = .ok (.aload_n 0, 1) := by decide +kernel
theorem dX12_ticksOn_1 : decode cX12_ticksOn 1 = .ok (.getfield 241, 3) := by decide +kernel
theorem dX12_ticksOn_4 : decode cX12_ticksOn 4 = .ok (.istore_n 1, 1) := by decide +kernel
theorem dX12_ticksOn_5 : decode cX12_ticksOn 5 = .ok (.aload_n 0, 1) := by decide +kernel
theorem dX12_ticksOn_6 : decode cX12_ticksOn 6 = .ok (.getfield 244, 3) := by decide +kernel
theorem dX12_ticksOn_9 : decode cX12_ticksOn 9 = .ok (.istore_n 2, 1) := by decide +kernel
theorem dX12_ticksOn_10 : decode cX12_ticksOn 10 = .ok (.aload_n 0, 1) := by decide +kernel
theorem dX12_ticksOn_11 : decode cX12_ticksOn 11 = .ok (.getfield 250, 3) := by decide +kernel
theorem dX12_ticksOn_14 : decode cX12_ticksOn 14 = .ok (.aload_n 0, 1) := by decide +kernel
theorem dX12_ticksOn_15 : decode cX12_ticksOn 15 = .ok (.aload_n 0, 1) := by decide +kernel
theorem dX12_ticksOn_16 : decode cX12_ticksOn 16 = .ok (.getfield 241, 3) := by decide +kernel
theorem dX12_ticksOn_19 : decode cX12_ticksOn 19 = .ok (.invokevirtual 217, 3) := by decide +kernel
theorem dX12_ticksOn_22 : decode cX12_ticksOn 22 = .ok (.imul, 1) := by decide +kernel
theorem dX12_ticksOn_23 : decode cX12_ticksOn 23 = .ok (.sipush 1000, 3) := by decide +kernel
theorem dX12_ticksOn_26 : decode cX12_ticksOn 26 = .ok (.idiv, 1) := by decide +kernel
theorem dX12_ticksOn_27 : decode cX12_ticksOn 27 = .ok (.aload_n 0, 1) := by decide +kernel
theorem dX12_ticksOn_28 : decode cX12_ticksOn 28 = .ok (.getfield 13, 3) := by decide +kernel
theorem dX12_ticksOn_31 : decode cX12_ticksOn 31 = .ok (.iconst 0, 1) := by decide +kernel
theorem dX12_ticksOn_32 : decode cX12_ticksOn 32 = .ok (.iaload, 1) := by decide +kernel
theorem dX12_ticksOn_33 : decode cX12_ticksOn 33 = .ok (.imul, 1) := by decide +kernel
theorem dX12_ticksOn_34 : decode cX12_ticksOn 34 = .ok (.bipush 32, 2) := by decide +kernel
theorem dX12_ticksOn_36 : decode cX12_ticksOn 36 = .ok (.idiv, 1) := by decide +kernel
theorem dX12_ticksOn_37 : decode cX12_ticksOn 37 = .ok (.aload_n 0, 1) := by decide +kernel
theorem dX12_ticksOn_38 : decode cX12_ticksOn 38 = .ok (.getfield 247, 3) := by decide +kernel
theorem dX12_ticksOn_41 : decode cX12_ticksOn 41 = .ok (.aload_n 0, 1) := by decide +kernel
theorem dX12_ticksOn_42 : decode cX12_ticksOn 42 = .ok (.getfield 13, 3) := by decide +kernel
theorem dX12_ticksOn_45 : decode cX12_ticksOn 45 = .ok (.iconst 1, 1) := by decide +kernel
theorem dX12_ticksOn_46 : decode cX12_ticksOn 46 = .ok (.iaload, 1) := by decide +kernel
theorem dX12_ticksOn_47 : decode cX12_ticksOn 47 = .ok (.imul, 1) := by decide +kernel
theorem dX12_ticksOn_48 : decode cX12_ticksOn 48 = .ok (.bipush 64, 2) := by decide +kernel
theorem dX12_ticksOn_50 : decode cX12_ticksOn 50 = .ok (.idiv, 1) := by decide +kernel
theorem dX12_ticksOn_51 : decode cX12_ticksOn 51 = .ok (.isub, 1) := by decide +kernel
theorem dX12_ticksOn_52 : decode cX12_ticksOn 52 = .ok (.aload_n 0, 1) := by decide +kernel
theorem dX12_ticksOn_53 : decode cX12_ticksOn 53 = .ok (.getfield 13, 3) := by decide +kernel
theorem dX12_ticksOn_56 : decode cX12_ticksOn 56 = .ok (.iconst 5, 1) := by decide +kernel
theorem dX12_ticksOn_57 : decode cX12_ticksOn 57 = .ok (.iaload, 1) := by decide +kernel
theorem dX12_ticksOn_58 : decode cX12_ticksOn 58 = .ok (.bipush 32, 2) := by decide +kernel
theorem dX12_ticksOn_60 : decode cX12_ticksOn 60 = .ok (.isub, 1) := by decide +kernel
theorem dX12_ticksOn_61 : decode cX12_ticksOn 61 = .ok (.iconst 4, 1) := by decide +kernel
theorem dX12_ticksOn_62 : decode cX12_ticksOn 62 = .ok (.idiv, 1) := by decide +kernel
theorem dX12_ticksOn_63 : decode cX12_ticksOn 63 = .ok (.iadd, 1) := by decide +kernel
theorem dX12_ticksOn_64 : decode cX12_ticksOn 64 = .ok (.istore_n 3, 1) := by decide +kernel
theorem dX12_ticksOn_65 : decode cX12_ticksOn 65 = .ok (.aload_n 0, 1) := by decide +kernel
theorem dX12_ticksOn_66 : decode cX12_ticksOn 66 = .ok (.getfield 13, 3) := by decide +kernel
theorem dX12_ticksOn_69 : decode cX12_ticksOn 69 = .ok (.iconst 1, 1) := by decide +kernel
theorem dX12_ticksOn_70 : decode cX12_ticksOn 70 = .ok (.iaload, 1) := by decide +kernel
theorem dX12_ticksOn_71 : decode cX12_ticksOn 71 = .ok (.aload_n 0, 1) := by decide +kernel
theorem dX12_ticksOn_72 : decode cX12_ticksOn 72 = .ok (.getfield 13, 3) := by decide +kernel
theorem dX12_ticksOn_75 : decode cX12_ticksOn 75 = .ok (.iconst 2, 1) := by decide +kernel
theorem dX12_ticksOn_76 : decode cX12_ticksOn 76 = .ok (.iaload, 1) := by decide +kernel
theorem dX12_ticksOn_77 : decode cX12_ticksOn 77 = .ok (.aload_n 0, 1) := by decide +kernel
theorem dX12_ticksOn_78 : decode cX12_ticksOn 78 = .ok (.aload_n 0, 1) := by decide +kernel
theorem dX12_ticksOn_79 : decode cX12_ticksOn 79 = .ok (.getfield 241, 3) := by decide +kernel
theorem dX12_ticksOn_82 : decode cX12_ticksOn 82 = .ok (.invokevirtual 259, 3) := by decide +kernel
theorem dX12_ticksOn_85 : decode cX12_ticksOn 85 = .ok (.invokestatic 265, 3) := by decide +kernel
theorem dX12_ticksOn_88 : decode cX12_ticksOn 88 = .ok (.imul, 1) := by decide +kernel
theorem dX12_ticksOn_89 : decode cX12_ticksOn 89 = .ok (.sipush 1000, 3) := by decide +kernel
theorem dX12_ticksOn_92 : decode cX12_ticksOn 92 = .ok (.idiv, 1) := by decide +kernel
theorem dX12_ticksOn_93 : decode cX12_ticksOn 93 = .ok (.iadd, 1) := by decide +kernel
theorem dX12_ticksOn_94 : decode cX12_ticksOn 94 = .ok (.istore 4, 2) := by decide +kernel
theorem dX12_ticksOn_96 : decode cX12_ticksOn 96 = .ok (.aload_n 0, 1) := by decide +kernel
theorem dX12_ticksOn_97 : decode cX12_ticksOn 97 = .ok (.getfield 250, 3) := by decide +kernel
theorem dX12_ticksOn_100 : decode cX12_ticksOn 100 = .ok (.aload_n 0, 1) := by decide +kernel
theorem dX12_ticksOn_101 : decode cX12_ticksOn 101 = .ok (.getfield 223, 3) := by decide +kernel
theorem dX12_ticksOn_104 : decode cX12_ticksOn 104 = .ok (.iadd, 1) := by decide +kernel
theorem dX12_ticksOn_105 : decode cX12_ticksOn 105 = .ok (.aload_n 0, 1) := by decide +kernel
theorem dX12_ticksOn_106 : decode cX12_ticksOn 106 = .ok (.getfield 250, 3) := by decide +kernel
theorem dX12_ticksOn_109 : decode cX12_ticksOn 109 = .ok (.iload 4, 2) := by decide +kernel
theorem dX12_ticksOn_111 : decode cX12_ticksOn 111 = .ok (.imul, 1) := by decide +kernel
theorem dX12_ticksOn_112 : decode cX12_ticksOn 112 = .ok (.bipush 64, 2) := by decide +kernel
theorem dX12_ticksOn_114 : decode cX12_ticksOn 114 = .ok (.idiv, 1) := by decide +kernel
theorem dX12_ticksOn_115 : decode cX12_ticksOn 115 = .ok (.isub, 1) := by decide +kernel
theorem dX12_ticksOn_116 : decode cX12_ticksOn 116 = .ok (.istore 5, 2) := by decide +kernel
theorem dX12_ticksOn_118 : decode cX12_ticksOn 118 = .ok (.aload_n 0, 1) := by decide +kernel
theorem dX12_ticksOn_119 : decode cX12_ticksOn 119 = .ok (.aload_n 0, 1) := by decide +kernel
theorem dX12_ticksOn_120 : decode cX12_ticksOn 120 = .ok (.getfield 247, 3) := by decide +kernel
theorem dX12_ticksOn_123 : decode cX12_ticksOn 123 = .ok (.iload_n 3, 1) := by decide +kernel
theorem dX12_ticksOn_124 : decode cX12_ticksOn 124 = .ok (.iadd, 1) := by decide +kernel
theorem dX12_ticksOn_125 : decode cX12_ticksOn 125 = .ok (.sipush 9999, 3) := by decide +kernel
theorem dX12_ticksOn_128 : decode cX12_ticksOn 128 = .ok (.invokestatic 268, 3) := by decide +kernel
theorem dX12_ticksOn_131 : decode cX12_ticksOn 131 = .ok (.putfield 247, 3) := by decide +kernel
theorem dX12_ticksOn_134 : decode cX12_ticksOn 134 = .ok (.aload_n 0, 1) := by decide +kernel
theorem dX12_ticksOn_135 : decode cX12_ticksOn 135 = .ok (.aload_n 0, 1) := by decide +kernel
theorem dX12_ticksOn_136 : decode cX12_ticksOn 136 = .ok (.getfield 220, 3) := by decide +kernel
theorem dX12_ticksOn_139 : decode cX12_ticksOn 139 = .ok (.iconst 5, 1) := by decide +kernel
theorem dX12_ticksOn_140 : decode cX12_ticksOn 140 = .ok (.if_icmp .ne 10, 3) := by decide +kernel
theorem dX12_ticksOn_143 : decode cX12_ticksOn 143 = .ok (.iload 5, 2) := by decide +kernel
theorem dX12_ticksOn_145 : decode cX12_ticksOn 145 = .ok (.iconst 2, 1) := by decide +kernel
theorem dX12_ticksOn_146 : decode cX12_ticksOn 146 = .ok (.idiv, 1) := by decide +kernel
theorem dX12_ticksOn_147 : decode cX12_ticksOn 147 = .ok (.goto 5, 3) := by decide +kernel
theorem dX12_ticksOn_150 : decode cX12_ticksOn 150 = .ok (.iload 5, 2) := by decide +kernel
theorem dX12_ticksOn_152 : decode cX12_ticksOn 152 = .ok (.sipush 9999, 3) := by decide +kernel
theorem dX12_ticksOn_155 : decode cX12_ticksOn 155 = .ok (.invokestatic 268, 3) := by decide +kernel
theorem dX12_ticksOn_158 : decode cX12_ticksOn 158 = .ok (.putfield 250, 3) := by decide +kernel
theorem dX12_ticksOn_161 : decode cX12_ticksOn 161 = .ok (.aload_n 0, 1) := by decide +kernel
theorem dX12_ticksOn_162 : decode cX12_ticksOn 162 = .ok (.aload_n 0, 1) := by decide +kernel
theorem dX12_ticksOn_163 : decode cX12_ticksOn 163 = .ok (.invokevirtual 271, 3) := by decide +kernel
theorem dX12_ticksOn_166 : decode cX12_ticksOn 166 = .ok (.bipush 9, 2) := by decide +kernel
theorem dX12_ticksOn_168 : decode cX12_ticksOn 168 = .ok (.invokestatic 268, 3) := by decide +kernel
theorem dX12_ticksOn_171 : decode cX12_ticksOn 171 = .ok (.putfield 244, 3) := by decide +kernel
theorem dX12_ticksOn_174 : decode cX12_ticksOn 174 = .ok (.aload_n 0, 1) := by decide +kernel
theorem dX12_ticksOn_175 : decode cX12_ticksOn 175 = .ok (.aload_n 0, 1) := by decide +kernel
theorem dX12_ticksOn_176 : decode cX12_ticksOn 176 = .ok (.getfield 241, 3) := by decide +kernel
theorem dX12_ticksOn_179 : decode cX12_ticksOn 179 = .ok (.aload_n 0, 1) := by decide +kernel
theorem dX12_ticksOn_180 : decode cX12_ticksOn 180 = .ok (.getfield 244, 3) := by decide +kernel
theorem dX12_ticksOn_183 : decode cX12_ticksOn 183 = .ok (.iadd, 1) := by decide +kernel
theorem dX12_ticksOn_184 : decode cX12_ticksOn 184 = .ok (.bipush 36, 2) := by decide +kernel
theorem dX12_ticksOn_186 : decode cX12_ticksOn 186 = .ok (.iadd, 1) := by decide +kernel
theorem dX12_ticksOn_187 : decode cX12_ticksOn 187 = .ok (.bipush 36, 2) := by decide +kernel
theorem dX12_ticksOn_189 : decode cX12_ticksOn 189 = .ok (.irem, 1) := by decide +kernel
theorem dX12_ticksOn_190 : decode cX12_ticksOn 190 = .ok (.putfield 241, 3) := by decide +kernel
theorem dX12_ticksOn_193 : decode cX12_ticksOn 193 = .ok (.aload_n 0, 1) := by decide +kernel
theorem dX12_ticksOn_194 : decode cX12_ticksOn 194 = .ok (.dup, 1) := by decide +kernel
theorem dX12_ticksOn_195 : decode cX12_ticksOn 195 = .ok (.getfield 235, 3) := by decide +kernel
theorem dX12_ticksOn_198 : decode cX12_ticksOn 198 = .ok (.aload_n 0, 1) := by decide +kernel
theorem dX12_ticksOn_199 : decode cX12_ticksOn 199 = .ok (.getfield 247, 3) := by decide +kernel
theorem dX12_ticksOn_202 : decode cX12_ticksOn 202 = .ok (.bipush 8, 2) := by decide +kernel
theorem dX12_ticksOn_204 : decode cX12_ticksOn 204 = .ok (.idiv, 1) := by decide +kernel
theorem dX12_ticksOn_205 : decode cX12_ticksOn 205 = .ok (.iadd, 1) := by decide +kernel
theorem dX12_ticksOn_206 : decode cX12_ticksOn 206 = .ok (.putfield 235, 3) := by decide +kernel
theorem dX12_ticksOn_209 : decode cX12_ticksOn 209 = .ok (.aload_n 0, 1) := by decide +kernel
theorem dX12_ticksOn_210 : decode cX12_ticksOn 210 = .ok (.dup, 1) := by decide +kernel
theorem dX12_ticksOn_211 : decode cX12_ticksOn 211 = .ok (.getfield 238, 3) := by decide +kernel
theorem dX12_ticksOn_214 : decode cX12_ticksOn 214 = .ok (.aload_n 0, 1) := by decide +kernel
theorem dX12_ticksOn_215 : decode cX12_ticksOn 215 = .ok (.getfield 250, 3) := by decide +kernel
theorem dX12_ticksOn_218 : decode cX12_ticksOn 218 = .ok (.bipush 8, 2) := by decide +kernel
theorem dX12_ticksOn_220 : decode cX12_ticksOn 220 = .ok (.idiv, 1) := by decide +kernel
theorem dX12_ticksOn_221 : decode cX12_ticksOn 221 = .ok (.isub, 1) := by decide +kernel
theorem dX12_ticksOn_222 : decode cX12_ticksOn 222 = .ok (.putfield 238, 3) := by decide +kernel
theorem dX12_ticksOn_225 : decode cX12_ticksOn 225 = .ok (.aload_n 0, 1) := by decide +kernel
theorem dX12_ticksOn_226 : decode cX12_ticksOn 226 = .ok (.dup, 1) := by decide +kernel
theorem dX12_ticksOn_227 : decode cX12_ticksOn 227 = .ok (.getfield 232, 3) := by decide +kernel
theorem dX12_ticksOn_230 : decode cX12_ticksOn 230 = .ok (.iconst 1, 1) := by decide +kernel
theorem dX12_ticksOn_231 : decode cX12_ticksOn 231 = .ok (.iadd, 1) := by decide +kernel
theorem dX12_ticksOn_232 : decode cX12_ticksOn 232 = .ok (.putfield 232, 3) := by decide +kernel
theorem dX12_ticksOn_235 : decode cX12_ticksOn 235 = .ok (.aload_n 0, 1) := by decide +kernel
theorem dX12_ticksOn_236 : decode cX12_ticksOn 236 = .ok (.dup, 1) := by decide +kernel
theorem dX12_ticksOn_237 : decode cX12_ticksOn 237 = .ok (.getfield 253, 3) := by decide +kernel
theorem dX12_ticksOn_240 : decode cX12_ticksOn 240 = .ok (.aload_n 0, 1) := by decide +kernel
theorem dX12_ticksOn_241 : decode cX12_ticksOn 241 = .ok (.getfield 232, 3) := by decide +kernel
theorem dX12_ticksOn_244 : decode cX12_ticksOn 244 = .ok (.iconst 1, 1) := by decide +kernel
theorem dX12_ticksOn_245 : decode cX12_ticksOn 245 = .ok (.if_icmp .le 29, 3) := by decide +kernel
theorem dX12_ticksOn_248 : decode cX12_ticksOn 248 = .ok (.iload_n 2, 1) := by decide +kernel
theorem dX12_ticksOn_249 : decode cX12_ticksOn 249 = .ok (.ifCond .le 10, 3) := by decide +kernel
theorem dX12_ticksOn_252 : decode cX12_ticksOn 252 = .ok (.aload_n 0, 1) := by decide +kernel
theorem dX12_ticksOn_253 : decode cX12_ticksOn 253 = .ok (.getfield 244, 3) := by decide +kernel
theorem dX12_ticksOn_256 : decode cX12_ticksOn 256 = .ok (.ifCond .lt 14, 3) := by decide +kernel
theorem dX12_ticksOn_259 : decode cX12_ticksOn 259 = .ok (.iload_n 2, 1) := by decide +kernel
theorem dX12_ticksOn_260 : decode cX12_ticksOn 260 = .ok (.ifCond .ge 14, 3) := by decide +kernel
theorem dX12_ticksOn_263 : decode cX12_ticksOn 263 = .ok (.aload_n 0, 1) := by decide +kernel
theorem dX12_ticksOn_264 : decode cX12_ticksOn 264 = .ok (.getfield 244, 3) := by decide +kernel
theorem dX12_ticksOn_267 : decode cX12_ticksOn 267 = .ok (.ifCond .le 7, 3) := by decide +kernel
theorem dX12_ticksOn_270 : decode cX12_ticksOn 270 = .ok (.iconst 1, 1) := by decide +kernel
theorem dX12_ticksOn_271 : decode cX12_ticksOn 271 = .ok (.goto 4, 3) := by decide +kernel
theorem dX12_ticksOn_274 : decode cX12_ticksOn 274 = .ok (.iconst 0, 1) := by decide +kernel
theorem dX12_ticksOn_275 : decode cX12_ticksOn 275 = .ok (.iadd, 1) := by decide +kernel
theorem dX12_ticksOn_276 : decode cX12_ticksOn 276 = .ok (.putfield 253, 3) := by decide +kernel
theorem dX12_ticksOn_279 : decode cX12_ticksOn 279 = .ok (.aload_n 0, 1) := by decide +kernel
theorem dX12_ticksOn_280 : decode cX12_ticksOn 280 = .ok (.dup, 1) := by decide +kernel
theorem dX12_ticksOn_281 : decode cX12_ticksOn 281 = .ok (.getfield 256, 3) := by decide +kernel
theorem dX12_ticksOn_284 : decode cX12_ticksOn 284 = .ok (.iload_n 1, 1) := by decide +kernel
theorem dX12_ticksOn_285 : decode cX12_ticksOn 285 = .ok (.bipush 27, 2) := by decide +kernel
theorem dX12_ticksOn_287 : decode cX12_ticksOn 287 = .ok (.if_icmp .lt 12, 3) := by decide +kernel
theorem dX12_ticksOn_290 : decode cX12_ticksOn 290 = .ok (.aload_n 0, 1) := by decide +kernel
theorem dX12_ticksOn_291 : decode cX12_ticksOn 291 = .ok (.getfield 241, 3) := by decide +kernel
theorem dX12_ticksOn_294 : decode cX12_ticksOn 294 = .ok (.bipush 8, 2) := by decide +kernel
theorem dX12_ticksOn_296 : decode cX12_ticksOn 296 = .ok (.if_icmp .le 18, 3) := by decide +kernel
theorem dX12_ticksOn_299 : decode cX12_ticksOn 299 = .ok (.iload_n 1, 1) := by decide +kernel
theorem dX12_ticksOn_300 : decode cX12_ticksOn 300 = .ok (.bipush 8, 2) := by decide +kernel
theorem dX12_ticksOn_302 : decode cX12_ticksOn 302 = .ok (.if_icmp .gt 16, 3) := by decide +kernel
theorem dX12_ticksOn_305 : decode cX12_ticksOn 305 = .ok (.aload_n 0, 1) := by decide +kernel
theorem dX12_ticksOn_306 : decode cX12_ticksOn 306 = .ok (.getfield 241, 3) := by decide +kernel
theorem dX12_ticksOn_309 : decode cX12_ticksOn 309 = .ok (.bipush 27, 2) := by decide +kernel
theorem dX12_ticksOn_311 : decode cX12_ticksOn 311 = .ok (.if_icmp .lt 7, 3) := by decide +kernel
theorem dX12_ticksOn_314 : decode cX12_ticksOn 314 = .ok (.iconst 1, 1) := by decide +kernel
theorem dX12_ticksOn_315 : decode cX12_ticksOn 315 = .ok (.goto 4, 3) := by decide +kernel
theorem dX12_ticksOn_318 : decode cX12_ticksOn 318 = .ok (.iconst 0, 1) := by decide +kernel
theorem dX12_ticksOn_319 : decode cX12_ticksOn 319 = .ok (.iadd, 1) := by decide +kernel
theorem dX12_ticksOn_320 : decode cX12_ticksOn 320 = .ok (.putfield 256, 3) := by decide +kernel
theorem dX12_ticksOn_323 : decode cX12_ticksOn 323 = .ok (.return_, 1) := by decide +kernel
theorem dX12_falls_0 : decode cX12_falls 0 = .ok (.aload_n 0, 1) := by decide +kernel
theorem dX12_falls_1 : decode cX12_falls 1 = .ok (.iload_n 1, 1) := by decide +kernel
theorem dX12_falls_2 : decode cX12_falls 2 = .ok (.iload_n 2, 1) := by decide +kernel
theorem dX12_falls_3 : decode cX12_falls 3 = .ok (.iload_n 3, 1) := by decide +kernel
theorem dX12_falls_4 : decode cX12_falls 4 = .ok (.iload 4, 2) := by decide +kernel
theorem dX12_falls_6 : decode cX12_falls 6 = .ok (.invokevirtual 274, 3) := by decide +kernel
theorem dX12_falls_9 : decode cX12_falls 9 = .ok (.aload_n 0, 1) := by decide +kernel
theorem dX12_falls_10 : decode cX12_falls 10 = .ok (.invokevirtual 278, 3) := by decide +kernel
theorem dX12_falls_13 : decode cX12_falls 13 = .ok (.ifCond .ne 20, 3) := by decide +kernel
theorem dX12_falls_16 : decode cX12_falls 16 = .ok (.aload_n 0, 1) := by decide +kernel
theorem dX12_falls_17 : decode cX12_falls 17 = .ok (.getfield 232, 3) := by decide +kernel
theorem dX12_falls_20 : decode cX12_falls 20 = .ok (.sipush 400, 3) := by decide +kernel
theorem dX12_falls_23 : decode cX12_falls 23 = .ok (.if_icmp .ge 10, 3) := by decide +kernel
theorem dX12_falls_26 : decode cX12_falls 26 = .ok (.aload_n 0, 1) := by decide +kernel
theorem dX12_falls_27 : decode cX12_falls 27 = .ok (.invokevirtual 282, 3) := by decide +kernel
theorem dX12_falls_30 : decode cX12_falls 30 = .ok (.goto (-21), 3) := by decide +kernel
theorem dX12_falls_33 : decode cX12_falls 33 = .ok (.aload_n 0, 1) := by decide +kernel
theorem dX12_falls_34 : decode cX12_falls 34 = .ok (.invokevirtual 278, 3) := by decide +kernel
theorem dX12_falls_37 : decode cX12_falls 37 = .ok (.ireturn, 1) := by decide +kernel
theorem dX12_isLetGo_0 : decode cX12_isLetGo 0 = .ok (.iload_n 0, 1) := by decide +kernel
theorem dX12_isLetGo_1 : decode cX12_isLetGo 1 = .ok (.iconst 1, 1) := by decide +kernel
theorem dX12_isLetGo_2 : decode cX12_isLetGo 2 = .ok (.sipush 9999, 3) := by decide +kernel
theorem dX12_isLetGo_5 : decode cX12_isLetGo 5 = .ok (.invokestatic 84, 3) := by decide +kernel
theorem dX12_isLetGo_8 : decode cX12_isLetGo 8 = .ok (.ifCond .eq 28, 3) := by decide +kernel
theorem dX12_isLetGo_11 : decode cX12_isLetGo 11 = .ok (.iload_n 1, 1) := by decide +kernel
theorem dX12_isLetGo_12 : decode cX12_isLetGo 12 = .ok (.iconst 0, 1) := by decide +kernel
theorem dX12_isLetGo_13 : decode cX12_isLetGo 13 = .ok (.bipush 35, 2) := by decide +kernel
theorem dX12_isLetGo_15 : decode cX12_isLetGo 15 = .ok (.invokestatic 84, 3) := by decide +kernel
theorem dX12_isLetGo_18 : decode cX12_isLetGo 18 = .ok (.ifCond .eq 18, 3) := by decide +kernel
theorem dX12_isLetGo_21 : decode cX12_isLetGo 21 = .ok (.iload_n 2, 1) := by decide +kernel
theorem dX12_isLetGo_22 : decode cX12_isLetGo 22 = .ok (.bipush (-9), 2) := by decide +kernel
theorem dX12_isLetGo_24 : decode cX12_isLetGo 24 = .ok (.bipush 9, 2) := by decide +kernel
theorem dX12_isLetGo_26 : decode cX12_isLetGo 26 = .ok (.invokestatic 84, 3) := by decide +kernel
theorem dX12_isLetGo_29 : decode cX12_isLetGo 29 = .ok (.ifCond .eq 7, 3) := by decide +kernel
theorem dX12_isLetGo_32 : decode cX12_isLetGo 32 = .ok (.iconst 1, 1) := by decide +kernel
theorem dX12_isLetGo_33 : decode cX12_isLetGo 33 = .ok (.goto 4, 3) := by decide +kernel
theorem dX12_isLetGo_36 : decode cX12_isLetGo 36 = .ok (.iconst 0, 1) := by decide +kernel
theorem dX12_isLetGo_37 : decode cX12_isLetGo 37 = .ok (.ireturn, 1) := by decide +kernel
theorem dX12_isFall_0 : decode cX12_isFall 0 = .ok (.aload_n 0, 1) := by decide +kernel
theorem dX12_isFall_1 : decode cX12_isFall 1 = .ok (.iload_n 1, 1) := by decide +kernel
theorem dX12_isFall_2 : decode cX12_isFall 2 = .ok (.invokevirtual 205, 3) := by decide +kernel
theorem dX12_isFall_5 : decode cX12_isFall 5 = .ok (.ifCond .eq 17, 3) := by decide +kernel
theorem dX12_isFall_8 : decode cX12_isFall 8 = .ok (.iload_n 2, 1) := by decide +kernel
theorem dX12_isFall_9 : decode cX12_isFall 9 = .ok (.iload_n 3, 1) := by decide +kernel
theorem dX12_isFall_10 : decode cX12_isFall 10 = .ok (.iload 4, 2) := by decide +kernel
theorem dX12_isFall_12 : decode cX12_isFall 12 = .ok (.invokestatic 285, 3) := by decide +kernel
theorem dX12_isFall_15 : decode cX12_isFall 15 = .ok (.ifCond .eq 7, 3) := by decide +kernel
theorem dX12_isFall_18 : decode cX12_isFall 18 = .ok (.iconst 1, 1) := by decide +kernel
theorem dX12_isFall_19 : decode cX12_isFall 19 = .ok (.goto 4, 3) := by decide +kernel
theorem dX12_isFall_22 : decode cX12_isFall 22 = .ok (.iconst 0, 1) := by decide +kernel
theorem dX12_isFall_23 : decode cX12_isFall 23 = .ok (.ireturn, 1) := by decide +kernel
theorem dX12_takesAir_0 : decode cX12_takesAir 0 = .ok (.aload_n 0, 1) := by decide +kernel
theorem dX12_takesAir_1 : decode cX12_takesAir 1 = .ok (.aload_n 0, 1) := by decide +kernel
theorem dX12_takesAir_2 : decode cX12_takesAir 2 = .ok (.getfield 26, 3) := by decide +kernel
theorem dX12_takesAir_5 : decode cX12_takesAir 5 = .ok (.iconst 0, 1) := by decide +kernel
theorem dX12_takesAir_6 : decode cX12_takesAir 6 = .ok (.iaload, 1) := by decide +kernel
theorem dX12_takesAir_7 : decode cX12_takesAir 7 = .ok (.aload_n 0, 1) := by decide +kernel
theorem dX12_takesAir_8 : decode cX12_takesAir 8 = .ok (.getfield 26, 3) := by decide +kernel
theorem dX12_takesAir_11 : decode cX12_takesAir 11 = .ok (.iconst 3, 1) := by decide +kernel
theorem dX12_takesAir_12 : decode cX12_takesAir 12 = .ok (.iaload, 1) := by decide +kernel
theorem dX12_takesAir_13 : decode cX12_takesAir 13 = .ok (.aload_n 0, 1) := by decide +kernel
theorem dX12_takesAir_14 : decode cX12_takesAir 14 = .ok (.getfield 26, 3) := by decide +kernel
theorem dX12_takesAir_17 : decode cX12_takesAir 17 = .ok (.iconst 4, 1) := by decide +kernel
theorem dX12_takesAir_18 : decode cX12_takesAir 18 = .ok (.iaload, 1) := by decide +kernel
theorem dX12_takesAir_19 : decode cX12_takesAir 19 = .ok (.aload_n 0, 1) := by decide +kernel
theorem dX12_takesAir_20 : decode cX12_takesAir 20 = .ok (.getfield 26, 3) := by decide +kernel
theorem dX12_takesAir_23 : decode cX12_takesAir 23 = .ok (.iconst 5, 1) := by decide +kernel
theorem dX12_takesAir_24 : decode cX12_takesAir 24 = .ok (.iaload, 1) := by decide +kernel
theorem dX12_takesAir_25 : decode cX12_takesAir 25 = .ok (.invokevirtual 274, 3) := by decide +kernel
theorem dX12_takesAir_28 : decode cX12_takesAir 28 = .ok (.aload_n 0, 1) := by decide +kernel
theorem dX12_takesAir_29 : decode cX12_takesAir 29 = .ok (.aload_n 0, 1) := by decide +kernel
theorem dX12_takesAir_30 : decode cX12_takesAir 30 = .ok (.getfield 26, 3) := by decide +kernel
theorem dX12_takesAir_33 : decode cX12_takesAir 33 = .ok (.iconst 1, 1) := by decide +kernel
theorem dX12_takesAir_34 : decode cX12_takesAir 34 = .ok (.iaload, 1) := by decide +kernel
theorem dX12_takesAir_35 : decode cX12_takesAir 35 = .ok (.putfield 232, 3) := by decide +kernel
theorem dX12_takesAir_38 : decode cX12_takesAir 38 = .ok (.aload_n 0, 1) := by decide +kernel
theorem dX12_takesAir_39 : decode cX12_takesAir 39 = .ok (.aload_n 0, 1) := by decide +kernel
theorem dX12_takesAir_40 : decode cX12_takesAir 40 = .ok (.getfield 26, 3) := by decide +kernel
theorem dX12_takesAir_43 : decode cX12_takesAir 43 = .ok (.iconst 2, 1) := by decide +kernel
theorem dX12_takesAir_44 : decode cX12_takesAir 44 = .ok (.iaload, 1) := by decide +kernel
theorem dX12_takesAir_45 : decode cX12_takesAir 45 = .ok (.putfield 235, 3) := by decide +kernel
theorem dX12_takesAir_48 : decode cX12_takesAir 48 = .ok (.aload_n 0, 1) := by decide +kernel
theorem dX12_takesAir_49 : decode cX12_takesAir 49 = .ok (.aload_n 0, 1) := by decide +kernel
theorem dX12_takesAir_50 : decode cX12_takesAir 50 = .ok (.getfield 26, 3) := by decide +kernel
theorem dX12_takesAir_53 : decode cX12_takesAir 53 = .ok (.bipush 6, 2) := by decide +kernel
theorem dX12_takesAir_55 : decode cX12_takesAir 55 = .ok (.iaload, 1) := by decide +kernel
theorem dX12_takesAir_56 : decode cX12_takesAir 56 = .ok (.putfield 247, 3) := by decide +kernel
theorem dX12_takesAir_59 : decode cX12_takesAir 59 = .ok (.aload_n 0, 1) := by decide +kernel
theorem dX12_takesAir_60 : decode cX12_takesAir 60 = .ok (.aload_n 0, 1) := by decide +kernel
theorem dX12_takesAir_61 : decode cX12_takesAir 61 = .ok (.getfield 26, 3) := by decide +kernel
theorem dX12_takesAir_64 : decode cX12_takesAir 64 = .ok (.bipush 7, 2) := by decide +kernel
theorem dX12_takesAir_66 : decode cX12_takesAir 66 = .ok (.iaload, 1) := by decide +kernel
theorem dX12_takesAir_67 : decode cX12_takesAir 67 = .ok (.putfield 250, 3) := by decide +kernel
theorem dX12_takesAir_70 : decode cX12_takesAir 70 = .ok (.return_, 1) := by decide +kernel
theorem dX12_givesAir_0 : decode cX12_givesAir 0 = .ok (.aload_n 0, 1) := by decide +kernel
theorem dX12_givesAir_1 : decode cX12_givesAir 1 = .ok (.getfield 26, 3) := by decide +kernel
theorem dX12_givesAir_4 : decode cX12_givesAir 4 = .ok (.iconst 1, 1) := by decide +kernel
theorem dX12_givesAir_5 : decode cX12_givesAir 5 = .ok (.aload_n 0, 1) := by decide +kernel
theorem dX12_givesAir_6 : decode cX12_givesAir 6 = .ok (.getfield 232, 3) := by decide +kernel
theorem dX12_givesAir_9 : decode cX12_givesAir 9 = .ok (.iastore, 1) := by decide +kernel
theorem dX12_givesAir_10 : decode cX12_givesAir 10 = .ok (.aload_n 0, 1) := by decide +kernel
theorem dX12_givesAir_11 : decode cX12_givesAir 11 = .ok (.getfield 26, 3) := by decide +kernel
theorem dX12_givesAir_14 : decode cX12_givesAir 14 = .ok (.iconst 2, 1) := by decide +kernel
theorem dX12_givesAir_15 : decode cX12_givesAir 15 = .ok (.aload_n 0, 1) := by decide +kernel
theorem dX12_givesAir_16 : decode cX12_givesAir 16 = .ok (.getfield 235, 3) := by decide +kernel
theorem dX12_givesAir_19 : decode cX12_givesAir 19 = .ok (.iastore, 1) := by decide +kernel
theorem dX12_givesAir_20 : decode cX12_givesAir 20 = .ok (.aload_n 0, 1) := by decide +kernel
theorem dX12_givesAir_21 : decode cX12_givesAir 21 = .ok (.getfield 26, 3) := by decide +kernel
theorem dX12_givesAir_24 : decode cX12_givesAir 24 = .ok (.iconst 3, 1) := by decide +kernel
theorem dX12_givesAir_25 : decode cX12_givesAir 25 = .ok (.aload_n 0, 1) := by decide +kernel
theorem dX12_givesAir_26 : decode cX12_givesAir 26 = .ok (.getfield 238, 3) := by decide +kernel
theorem dX12_givesAir_29 : decode cX12_givesAir 29 = .ok (.iastore, 1) := by decide +kernel
theorem dX12_givesAir_30 : decode cX12_givesAir 30 = .ok (.aload_n 0, 1) := by decide +kernel
theorem dX12_givesAir_31 : decode cX12_givesAir 31 = .ok (.getfield 26, 3) := by decide +kernel
theorem dX12_givesAir_34 : decode cX12_givesAir 34 = .ok (.iconst 4, 1) := by decide +kernel
theorem dX12_givesAir_35 : decode cX12_givesAir 35 = .ok (.aload_n 0, 1) := by decide +kernel
theorem dX12_givesAir_36 : decode cX12_givesAir 36 = .ok (.getfield 241, 3) := by decide +kernel
theorem dX12_givesAir_39 : decode cX12_givesAir 39 = .ok (.iastore, 1) := by decide +kernel
theorem dX12_givesAir_40 : decode cX12_givesAir 40 = .ok (.aload_n 0, 1) := by decide +kernel
theorem dX12_givesAir_41 : decode cX12_givesAir 41 = .ok (.getfield 26, 3) := by decide +kernel
theorem dX12_givesAir_44 : decode cX12_givesAir 44 = .ok (.iconst 5, 1) := by decide +kernel
theorem dX12_givesAir_45 : decode cX12_givesAir 45 = .ok (.aload_n 0, 1) := by decide +kernel
theorem dX12_givesAir_46 : decode cX12_givesAir 46 = .ok (.getfield 244, 3) := by decide +kernel
theorem dX12_givesAir_49 : decode cX12_givesAir 49 = .ok (.iastore, 1) := by decide +kernel
theorem dX12_givesAir_50 : decode cX12_givesAir 50 = .ok (.aload_n 0, 1) := by decide +kernel
theorem dX12_givesAir_51 : decode cX12_givesAir 51 = .ok (.getfield 26, 3) := by decide +kernel
theorem dX12_givesAir_54 : decode cX12_givesAir 54 = .ok (.bipush 6, 2) := by decide +kernel
theorem dX12_givesAir_56 : decode cX12_givesAir 56 = .ok (.aload_n 0, 1) := by decide +kernel
theorem dX12_givesAir_57 : decode cX12_givesAir 57 = .ok (.getfield 247, 3) := by decide +kernel
theorem dX12_givesAir_60 : decode cX12_givesAir 60 = .ok (.iastore, 1) := by decide +kernel
theorem dX12_givesAir_61 : decode cX12_givesAir 61 = .ok (.aload_n 0, 1) := by decide +kernel
theorem dX12_givesAir_62 : decode cX12_givesAir 62 = .ok (.getfield 26, 3) := by decide +kernel
theorem dX12_givesAir_65 : decode cX12_givesAir 65 = .ok (.bipush 7, 2) := by decide +kernel
theorem dX12_givesAir_67 : decode cX12_givesAir 67 = .ok (.aload_n 0, 1) := by decide +kernel
theorem dX12_givesAir_68 : decode cX12_givesAir 68 = .ok (.getfield 250, 3) := by decide +kernel
theorem dX12_givesAir_71 : decode cX12_givesAir 71 = .ok (.iastore, 1) := by decide +kernel
theorem dX12_givesAir_72 : decode cX12_givesAir 72 = .ok (.return_, 1) := by decide +kernel
theorem dX12_letGo_0 : decode cX12_letGo 0 = .ok (.aload_n 0, 1) := by decide +kernel
theorem dX12_letGo_1 : decode cX12_letGo 1 = .ok (.iload_n 1, 1) := by decide +kernel
theorem dX12_letGo_2 : decode cX12_letGo 2 = .ok (.iload_n 2, 1) := by decide +kernel
theorem dX12_letGo_3 : decode cX12_letGo 3 = .ok (.iload_n 3, 1) := by decide +kernel
theorem dX12_letGo_4 : decode cX12_letGo 4 = .ok (.iload 4, 2) := by decide +kernel
theorem dX12_letGo_6 : decode cX12_letGo 6 = .ok (.invokevirtual 288, 3) := by decide +kernel
theorem dX12_letGo_9 : decode cX12_letGo 9 = .ok (.ifCond .ne 5, 3) := by decide +kernel
theorem dX12_letGo_12 : decode cX12_letGo 12 = .ok (.iconst (-1), 1) := by decide +kernel
theorem dX12_letGo_13 : decode cX12_letGo 13 = .ok (.ireturn, 1) := by decide +kernel
theorem dX12_letGo_14 : decode cX12_letGo 14 = .ok (.aload_n 0, 1) := by decide +kernel
theorem dX12_letGo_15 : decode cX12_letGo 15 = .ok (.getfield 26, 3) := by decide +kernel
theorem dX12_letGo_18 : decode cX12_letGo 18 = .ok (.iconst 0, 1) := by decide +kernel
theorem dX12_letGo_19 : decode cX12_letGo 19 = .ok (.iaload, 1) := by decide +kernel
theorem dX12_letGo_20 : decode cX12_letGo 20 = .ok (.ifCond .ge 8, 3) := by decide +kernel
theorem dX12_letGo_23 : decode cX12_letGo 23 = .ok (.bipush (-9), 2) := by decide +kernel
theorem dX12_letGo_25 : decode cX12_letGo 25 = .ok (.goto 9, 3) := by decide +kernel
theorem dX12_letGo_28 : decode cX12_letGo 28 = .ok (.aload_n 0, 1) := by decide +kernel
theorem dX12_letGo_29 : decode cX12_letGo 29 = .ok (.getfield 26, 3) := by decide +kernel
theorem dX12_letGo_32 : decode cX12_letGo 32 = .ok (.iconst 0, 1) := by decide +kernel
theorem dX12_letGo_33 : decode cX12_letGo 33 = .ok (.iaload, 1) := by decide +kernel
theorem dX12_letGo_34 : decode cX12_letGo 34 = .ok (.istore 5, 2) := by decide +kernel
theorem dX12_letGo_36 : decode cX12_letGo 36 = .ok (.aload_n 0, 1) := by decide +kernel
theorem dX12_letGo_37 : decode cX12_letGo 37 = .ok (.iload_n 1, 1) := by decide +kernel
theorem dX12_letGo_38 : decode cX12_letGo 38 = .ok (.iload_n 2, 1) := by decide +kernel
theorem dX12_letGo_39 : decode cX12_letGo 39 = .ok (.iload_n 3, 1) := by decide +kernel
theorem dX12_letGo_40 : decode cX12_letGo 40 = .ok (.iload 4, 2) := by decide +kernel
theorem dX12_letGo_42 : decode cX12_letGo 42 = .ok (.invokevirtual 274, 3) := by decide +kernel
theorem dX12_letGo_45 : decode cX12_letGo 45 = .ok (.aload_n 0, 1) := by decide +kernel
theorem dX12_letGo_46 : decode cX12_letGo 46 = .ok (.getfield 26, 3) := by decide +kernel
theorem dX12_letGo_49 : decode cX12_letGo 49 = .ok (.iconst 0, 1) := by decide +kernel
theorem dX12_letGo_50 : decode cX12_letGo 50 = .ok (.iload_n 1, 1) := by decide +kernel
theorem dX12_letGo_51 : decode cX12_letGo 51 = .ok (.iastore, 1) := by decide +kernel
theorem dX12_letGo_52 : decode cX12_letGo 52 = .ok (.aload_n 0, 1) := by decide +kernel
theorem dX12_letGo_53 : decode cX12_letGo 53 = .ok (.invokevirtual 291, 3) := by decide +kernel
theorem dX12_letGo_56 : decode cX12_letGo 56 = .ok (.iload 5, 2) := by decide +kernel
theorem dX12_letGo_58 : decode cX12_letGo 58 = .ok (.ireturn, 1) := by decide +kernel
theorem dX12_tick_0 : decode cX12_tick 0 = .ok (.iload_n 1, 1) := by decide +kernel
theorem dX12_tick_1 : decode cX12_tick 1 = .ok (.iconst 0, 1) := by decide +kernel
theorem dX12_tick_2 : decode cX12_tick 2 = .ok (.sipush 400, 3) := by decide +kernel
theorem dX12_tick_5 : decode cX12_tick 5 = .ok (.invokestatic 84, 3) := by decide +kernel
theorem dX12_tick_8 : decode cX12_tick 8 = .ok (.ifCond .ne 5, 3) := by decide +kernel
theorem dX12_tick_11 : decode cX12_tick 11 = .ok (.iconst (-1), 1) := by decide +kernel
theorem dX12_tick_12 : decode cX12_tick 12 = .ok (.ireturn, 1) := by decide +kernel
theorem dX12_tick_13 : decode cX12_tick 13 = .ok (.aload_n 0, 1) := by decide +kernel
theorem dX12_tick_14 : decode cX12_tick 14 = .ok (.getfield 26, 3) := by decide +kernel
theorem dX12_tick_17 : decode cX12_tick 17 = .ok (.iconst 0, 1) := by decide +kernel
theorem dX12_tick_18 : decode cX12_tick 18 = .ok (.iaload, 1) := by decide +kernel
theorem dX12_tick_19 : decode cX12_tick 19 = .ok (.ifCond .ge 6, 3) := by decide +kernel
theorem dX12_tick_22 : decode cX12_tick 22 = .ok (.bipush (-4), 2) := by decide +kernel
theorem dX12_tick_24 : decode cX12_tick 24 = .ok (.ireturn, 1) := by decide +kernel
theorem dX12_tick_25 : decode cX12_tick 25 = .ok (.aload_n 0, 1) := by decide +kernel
theorem dX12_tick_26 : decode cX12_tick 26 = .ok (.invokevirtual 294, 3) := by decide +kernel
theorem dX12_tick_29 : decode cX12_tick 29 = .ok (.iconst 0, 1) := by decide +kernel
theorem dX12_tick_30 : decode cX12_tick 30 = .ok (.istore_n 2, 1) := by decide +kernel
theorem dX12_tick_31 : decode cX12_tick 31 = .ok (.iload_n 2, 1) := by decide +kernel
theorem dX12_tick_32 : decode cX12_tick 32 = .ok (.iload_n 1, 1) := by decide +kernel
theorem dX12_tick_33 : decode cX12_tick 33 = .ok (.if_icmp .ge 20, 3) := by decide +kernel
theorem dX12_tick_36 : decode cX12_tick 36 = .ok (.aload_n 0, 1) := by decide +kernel
theorem dX12_tick_37 : decode cX12_tick 37 = .ok (.invokevirtual 278, 3) := by decide +kernel
theorem dX12_tick_40 : decode cX12_tick 40 = .ok (.ifCond .ne 13, 3) := by decide +kernel
theorem dX12_tick_43 : decode cX12_tick 43 = .ok (.aload_n 0, 1) := by decide +kernel
theorem dX12_tick_44 : decode cX12_tick 44 = .ok (.invokevirtual 282, 3) := by decide +kernel
theorem dX12_tick_47 : decode cX12_tick 47 = .ok (.iinc 2 1, 3) := by decide +kernel
theorem dX12_tick_50 : decode cX12_tick 50 = .ok (.goto (-19), 3) := by decide +kernel
theorem dX12_tick_53 : decode cX12_tick 53 = .ok (.aload_n 0, 1) := by decide +kernel
theorem dX12_tick_54 : decode cX12_tick 54 = .ok (.invokevirtual 291, 3) := by decide +kernel
theorem dX12_tick_57 : decode cX12_tick 57 = .ok (.iload_n 2, 1) := by decide +kernel
theorem dX12_tick_58 : decode cX12_tick 58 = .ok (.ireturn, 1) := by decide +kernel
end
section
theorem dX12_air_0 : decode cX12_air 0 = .ok (.aload_n 0, 1) := by decide +kernel
theorem dX12_air_1 : decode cX12_air 1 = .ok (.getfield 26, 3) := by decide +kernel
theorem dX12_air_4 : decode cX12_air 4 = .ok (.iconst 0, 1) := by decide +kernel
theorem dX12_air_5 : decode cX12_air 5 = .ok (.iaload, 1) := by decide +kernel
theorem dX12_air_6 : decode cX12_air 6 = .ok (.ifCond .lt 13, 3) := by decide +kernel
theorem dX12_air_9 : decode cX12_air 9 = .ok (.iload_n 1, 1) := by decide +kernel
theorem dX12_air_10 : decode cX12_air 10 = .ok (.iconst 0, 1) := by decide +kernel
theorem dX12_air_11 : decode cX12_air 11 = .ok (.bipush 8, 2) := by decide +kernel
theorem dX12_air_13 : decode cX12_air 13 = .ok (.invokestatic 84, 3) := by decide +kernel
theorem dX12_air_16 : decode cX12_air 16 = .ok (.ifCond .ne 7, 3) := by decide +kernel
theorem dX12_air_19 : decode cX12_air 19 = .ok (.ldc_w 297, 3) := by decide +kernel
theorem dX12_air_22 : decode cX12_air 22 = .ok (.ireturn, 1) := by decide +kernel
theorem dX12_air_23 : decode cX12_air 23 = .ok (.iload_n 1, 1) := by decide +kernel
theorem dX12_air_24 : decode cX12_air 24 = .ok (.bipush 8, 2) := by decide +kernel
theorem dX12_air_26 : decode cX12_air 26 = .ok (.if_icmp .ge 12, 3) := by decide +kernel
theorem dX12_air_29 : decode cX12_air 29 = .ok (.aload_n 0, 1) := by decide +kernel
theorem dX12_air_30 : decode cX12_air 30 = .ok (.getfield 26, 3) := by decide +kernel
theorem dX12_air_33 : decode cX12_air 33 = .ok (.iload_n 1, 1) := by decide +kernel
theorem dX12_air_34 : decode cX12_air 34 = .ok (.iaload, 1) := by decide +kernel
theorem dX12_air_35 : decode cX12_air 35 = .ok (.goto 17, 3) := by decide +kernel
theorem dX12_air_38 : decode cX12_air 38 = .ok (.aload_n 0, 1) := by decide +kernel
theorem dX12_air_39 : decode cX12_air 39 = .ok (.getfield 26, 3) := by decide +kernel
theorem dX12_air_42 : decode cX12_air 42 = .ok (.iconst 3, 1) := by decide +kernel
theorem dX12_air_43 : decode cX12_air 43 = .ok (.iaload, 1) := by decide +kernel
theorem dX12_air_44 : decode cX12_air 44 = .ok (.ifCond .gt 7, 3) := by decide +kernel
theorem dX12_air_47 : decode cX12_air 47 = .ok (.iconst 1, 1) := by decide +kernel
theorem dX12_air_48 : decode cX12_air 48 = .ok (.goto 4, 3) := by decide +kernel
theorem dX12_air_51 : decode cX12_air 51 = .ok (.iconst 0, 1) := by decide +kernel
theorem dX12_air_52 : decode cX12_air 52 = .ok (.ireturn, 1) := by decide +kernel
theorem dX12_gust_0 : decode cX12_gust 0 = .ok (.iload_n 1, 1) := by decide +kernel
theorem dX12_gust_1 : decode cX12_gust 1 = .ok (.sipush (-999), 3) := by decide +kernel
theorem dX12_gust_4 : decode cX12_gust 4 = .ok (.sipush 999, 3) := by decide +kernel
theorem dX12_gust_7 : decode cX12_gust 7 = .ok (.invokestatic 84, 3) := by decide +kernel
theorem dX12_gust_10 : decode cX12_gust 10 = .ok (.ifCond .eq 16, 3) := by decide +kernel
theorem dX12_gust_13 : decode cX12_gust 13 = .ok (.iload_n 2, 1) := by decide +kernel
theorem dX12_gust_14 : decode cX12_gust 14 = .ok (.sipush (-999), 3) := by decide +kernel
theorem dX12_gust_17 : decode cX12_gust 17 = .ok (.sipush 999, 3) := by decide +kernel
theorem dX12_gust_20 : decode cX12_gust 20 = .ok (.invokestatic 84, 3) := by decide +kernel
theorem dX12_gust_23 : decode cX12_gust 23 = .ok (.ifCond .ne 5, 3) := by decide +kernel
theorem dX12_gust_26 : decode cX12_gust 26 = .ok (.iconst (-1), 1) := by decide +kernel
theorem dX12_gust_27 : decode cX12_gust 27 = .ok (.ireturn, 1) := by decide +kernel
theorem dX12_gust_28 : decode cX12_gust 28 = .ok (.aload_n 0, 1) := by decide +kernel
theorem dX12_gust_29 : decode cX12_gust 29 = .ok (.getfield 26, 3) := by decide +kernel
theorem dX12_gust_32 : decode cX12_gust 32 = .ok (.iconst 0, 1) := by decide +kernel
theorem dX12_gust_33 : decode cX12_gust 33 = .ok (.iaload, 1) := by decide +kernel
theorem dX12_gust_34 : decode cX12_gust 34 = .ok (.ifCond .lt 12, 3) := by decide +kernel
theorem dX12_gust_37 : decode cX12_gust 37 = .ok (.aload_n 0, 1) := by decide +kernel
theorem dX12_gust_38 : decode cX12_gust 38 = .ok (.getfield 26, 3) := by decide +kernel
theorem dX12_gust_41 : decode cX12_gust 41 = .ok (.iconst 3, 1) := by decide +kernel
theorem dX12_gust_42 : decode cX12_gust 42 = .ok (.iaload, 1) := by decide +kernel
theorem dX12_gust_43 : decode cX12_gust 43 = .ok (.ifCond .gt 6, 3) := by decide +kernel
theorem dX12_gust_46 : decode cX12_gust 46 = .ok (.bipush (-4), 2) := by decide +kernel
theorem dX12_gust_48 : decode cX12_gust 48 = .ok (.ireturn, 1) := by decide +kernel
theorem dX12_gust_49 : decode cX12_gust 49 = .ok (.aload_n 0, 1) := by decide +kernel
theorem dX12_gust_50 : decode cX12_gust 50 = .ok (.getfield 26, 3) := by decide +kernel
theorem dX12_gust_53 : decode cX12_gust 53 = .ok (.bipush 6, 2) := by decide +kernel
theorem dX12_gust_55 : decode cX12_gust 55 = .ok (.aload_n 0, 1) := by decide +kernel
theorem dX12_gust_56 : decode cX12_gust 56 = .ok (.getfield 26, 3) := by decide +kernel
theorem dX12_gust_59 : decode cX12_gust 59 = .ok (.bipush 6, 2) := by decide +kernel
theorem dX12_gust_61 : decode cX12_gust 61 = .ok (.iaload, 1) := by decide +kernel
theorem dX12_gust_62 : decode cX12_gust 62 = .ok (.iload_n 1, 1) := by decide +kernel
theorem dX12_gust_63 : decode cX12_gust 63 = .ok (.iadd, 1) := by decide +kernel
theorem dX12_gust_64 : decode cX12_gust 64 = .ok (.sipush 9999, 3) := by decide +kernel
theorem dX12_gust_67 : decode cX12_gust 67 = .ok (.invokestatic 268, 3) := by decide +kernel
theorem dX12_gust_70 : decode cX12_gust 70 = .ok (.iastore, 1) := by decide +kernel
theorem dX12_gust_71 : decode cX12_gust 71 = .ok (.aload_n 0, 1) := by decide +kernel
theorem dX12_gust_72 : decode cX12_gust 72 = .ok (.getfield 26, 3) := by decide +kernel
theorem dX12_gust_75 : decode cX12_gust 75 = .ok (.bipush 7, 2) := by decide +kernel
theorem dX12_gust_77 : decode cX12_gust 77 = .ok (.aload_n 0, 1) := by decide +kernel
theorem dX12_gust_78 : decode cX12_gust 78 = .ok (.getfield 26, 3) := by decide +kernel
theorem dX12_gust_81 : decode cX12_gust 81 = .ok (.bipush 7, 2) := by decide +kernel
theorem dX12_gust_83 : decode cX12_gust 83 = .ok (.iaload, 1) := by decide +kernel
theorem dX12_gust_84 : decode cX12_gust 84 = .ok (.iload_n 2, 1) := by decide +kernel
theorem dX12_gust_85 : decode cX12_gust 85 = .ok (.iadd, 1) := by decide +kernel
theorem dX12_gust_86 : decode cX12_gust 86 = .ok (.sipush 9999, 3) := by decide +kernel
theorem dX12_gust_89 : decode cX12_gust 89 = .ok (.invokestatic 268, 3) := by decide +kernel
theorem dX12_gust_92 : decode cX12_gust 92 = .ok (.iastore, 1) := by decide +kernel
theorem dX12_gust_93 : decode cX12_gust 93 = .ok (.iconst 1, 1) := by decide +kernel
theorem dX12_gust_94 : decode cX12_gust 94 = .ok (.ireturn, 1) := by decide +kernel
theorem dX12_sortOf_0 : decode cX12_sortOf 0 = .ok (.aload_n 0, 1) := by decide +kernel
theorem dX12_sortOf_1 : decode cX12_sortOf 1 = .ok (.getfield 253, 3) := by decide +kernel
theorem dX12_sortOf_4 : decode cX12_sortOf 4 = .ok (.ifCond .le 7, 3) := by decide +kernel
theorem dX12_sortOf_7 : decode cX12_sortOf 7 = .ok (.iconst 1, 1) := by decide +kernel
theorem dX12_sortOf_8 : decode cX12_sortOf 8 = .ok (.goto 4, 3) := by decide +kernel
theorem dX12_sortOf_11 : decode cX12_sortOf 11 = .ok (.iconst 0, 1) := by decide +kernel
theorem dX12_sortOf_12 : decode cX12_sortOf 12 = .ok (.aload_n 0, 1) := by decide +kernel
theorem dX12_sortOf_13 : decode cX12_sortOf 13 = .ok (.getfield 256, 3) := by decide +kernel
theorem dX12_sortOf_16 : decode cX12_sortOf 16 = .ok (.ifCond .le 7, 3) := by decide +kernel
theorem dX12_sortOf_19 : decode cX12_sortOf 19 = .ok (.iconst 2, 1) := by decide +kernel
theorem dX12_sortOf_20 : decode cX12_sortOf 20 = .ok (.goto 4, 3) := by decide +kernel
theorem dX12_sortOf_23 : decode cX12_sortOf 23 = .ok (.iconst 0, 1) := by decide +kernel
theorem dX12_sortOf_24 : decode cX12_sortOf 24 = .ok (.iadd, 1) := by decide +kernel
theorem dX12_sortOf_25 : decode cX12_sortOf 25 = .ok (.ireturn, 1) := by decide +kernel
theorem dX12_squareOf_0 : decode cX12_squareOf 0 = .ok (.aload_n 0, 1) := by decide +kernel
theorem dX12_squareOf_1 : decode cX12_squareOf 1 = .ok (.getfield 235, 3) := by decide +kernel
theorem dX12_squareOf_4 : decode cX12_squareOf 4 = .ok (.ifCond .lt 13, 3) := by decide +kernel
theorem dX12_squareOf_7 : decode cX12_squareOf 7 = .ok (.aload_n 0, 1) := by decide +kernel
theorem dX12_squareOf_8 : decode cX12_squareOf 8 = .ok (.getfield 235, 3) := by decide +kernel
theorem dX12_squareOf_11 : decode cX12_squareOf 11 = .ok (.bipush 100, 2) := by decide +kernel
theorem dX12_squareOf_13 : decode cX12_squareOf 13 = .ok (.idiv, 1) := by decide +kernel
theorem dX12_squareOf_14 : decode cX12_squareOf 14 = .ok (.goto 14, 3) := by decide +kernel
theorem dX12_squareOf_17 : decode cX12_squareOf 17 = .ok (.bipush 99, 2) := by decide +kernel
theorem dX12_squareOf_19 : decode cX12_squareOf 19 = .ok (.aload_n 0, 1) := by decide +kernel
theorem dX12_squareOf_20 : decode cX12_squareOf 20 = .ok (.getfield 235, 3) := by decide +kernel
theorem dX12_squareOf_23 : decode cX12_squareOf 23 = .ok (.isub, 1) := by decide +kernel
theorem dX12_squareOf_24 : decode cX12_squareOf 24 = .ok (.bipush 100, 2) := by decide +kernel
theorem dX12_squareOf_26 : decode cX12_squareOf 26 = .ok (.idiv, 1) := by decide +kernel
theorem dX12_squareOf_27 : decode cX12_squareOf 27 = .ok (.ineg, 1) := by decide +kernel
theorem dX12_squareOf_28 : decode cX12_squareOf 28 = .ok (.ireturn, 1) := by decide +kernel
theorem dX12_fall_0 : decode cX12_fall 0 = .ok (.aload_n 0, 1) := by decide +kernel
theorem dX12_fall_1 : decode cX12_fall 1 = .ok (.iload_n 1, 1) := by decide +kernel
theorem dX12_fall_2 : decode cX12_fall 2 = .ok (.iload_n 2, 1) := by decide +kernel
theorem dX12_fall_3 : decode cX12_fall 3 = .ok (.iload_n 3, 1) := by decide +kernel
theorem dX12_fall_4 : decode cX12_fall 4 = .ok (.iload 4, 2) := by decide +kernel
theorem dX12_fall_6 : decode cX12_fall 6 = .ok (.invokevirtual 288, 3) := by decide +kernel
theorem dX12_fall_9 : decode cX12_fall 9 = .ok (.ifCond .eq 25, 3) := by decide +kernel
theorem dX12_fall_12 : decode cX12_fall 12 = .ok (.iload 5, 2) := by decide +kernel
theorem dX12_fall_14 : decode cX12_fall 14 = .ok (.iconst 0, 1) := by decide +kernel
theorem dX12_fall_15 : decode cX12_fall 15 = .ok (.iconst 5, 1) := by decide +kernel
theorem dX12_fall_16 : decode cX12_fall 16 = .ok (.invokestatic 84, 3) := by decide +kernel
theorem dX12_fall_19 : decode cX12_fall 19 = .ok (.ifCond .eq 15, 3) := by decide +kernel
theorem dX12_fall_22 : decode cX12_fall 22 = .ok (.aload_n 0, 1) := by decide +kernel
theorem dX12_fall_23 : decode cX12_fall 23 = .ok (.iload_n 1, 1) := by decide +kernel
theorem dX12_fall_24 : decode cX12_fall 24 = .ok (.iload_n 2, 1) := by decide +kernel
theorem dX12_fall_25 : decode cX12_fall 25 = .ok (.iload_n 3, 1) := by decide +kernel
theorem dX12_fall_26 : decode cX12_fall 26 = .ok (.iload 4, 2) := by decide +kernel
theorem dX12_fall_28 : decode cX12_fall 28 = .ok (.invokevirtual 298, 3) := by decide +kernel
theorem dX12_fall_31 : decode cX12_fall 31 = .ok (.ifCond .ne 7, 3) := by decide +kernel
theorem dX12_fall_34 : decode cX12_fall 34 = .ok (.ldc_w 297, 3) := by decide +kernel
theorem dX12_fall_37 : decode cX12_fall 37 = .ok (.ireturn, 1) := by decide +kernel
theorem dX12_fall_38 : decode cX12_fall 38 = .ok (.iload 5, 2) := by decide +kernel
theorem dX12_fall_40 : decode cX12_fall 40 = .ok (.tableswitch 61 0 4 #[36, 41, 46, 51, 56], 36) := by decide +kernel
theorem dX12_fall_76 : decode cX12_fall 76 = .ok (.aload_n 0, 1) := by decide +kernel
theorem dX12_fall_77 : decode cX12_fall 77 = .ok (.getfield 232, 3) := by decide +kernel
theorem dX12_fall_80 : decode cX12_fall 80 = .ok (.ireturn, 1) := by decide +kernel
theorem dX12_fall_81 : decode cX12_fall 81 = .ok (.aload_n 0, 1) := by decide +kernel
theorem dX12_fall_82 : decode cX12_fall 82 = .ok (.getfield 235, 3) := by decide +kernel
theorem dX12_fall_85 : decode cX12_fall 85 = .ok (.ireturn, 1) := by decide +kernel
theorem dX12_fall_86 : decode cX12_fall 86 = .ok (.aload_n 0, 1) := by decide +kernel
theorem dX12_fall_87 : decode cX12_fall 87 = .ok (.getfield 253, 3) := by decide +kernel
theorem dX12_fall_90 : decode cX12_fall 90 = .ok (.ireturn, 1) := by decide +kernel
theorem dX12_fall_91 : decode cX12_fall 91 = .ok (.aload_n 0, 1) := by decide +kernel
theorem dX12_fall_92 : decode cX12_fall 92 = .ok (.getfield 256, 3) := by decide +kernel
theorem dX12_fall_95 : decode cX12_fall 95 = .ok (.ireturn, 1) := by decide +kernel
theorem dX12_fall_96 : decode cX12_fall 96 = .ok (.aload_n 0, 1) := by decide +kernel
theorem dX12_fall_97 : decode cX12_fall 97 = .ok (.invokevirtual 301, 3) := by decide +kernel
theorem dX12_fall_100 : decode cX12_fall 100 = .ok (.ireturn, 1) := by decide +kernel
theorem dX12_fall_101 : decode cX12_fall 101 = .ok (.aload_n 0, 1) := by decide +kernel
theorem dX12_fall_102 : decode cX12_fall 102 = .ok (.invokevirtual 304, 3) := by decide +kernel
theorem dX12_fall_105 : decode cX12_fall 105 = .ok (.ireturn, 1) := by decide +kernel
theorem dX12_line_0 : decode cX12_line 0 = .ok (.aload_n 0, 1) := by decide +kernel
theorem dX12_line_1 : decode cX12_line 1 = .ok (.iload_n 1, 1) := by decide +kernel
theorem dX12_line_2 : decode cX12_line 2 = .ok (.iload_n 2, 1) := by decide +kernel
theorem dX12_line_3 : decode cX12_line 3 = .ok (.iload_n 3, 1) := by decide +kernel
theorem dX12_line_4 : decode cX12_line 4 = .ok (.iload 4, 2) := by decide +kernel
theorem dX12_line_6 : decode cX12_line 6 = .ok (.invokevirtual 288, 3) := by decide +kernel
theorem dX12_line_9 : decode cX12_line 9 = .ok (.ifCond .eq 13, 3) := by decide +kernel
theorem dX12_line_12 : decode cX12_line 12 = .ok (.iload 5, 2) := by decide +kernel
theorem dX12_line_14 : decode cX12_line 14 = .ok (.iconst 0, 1) := by decide +kernel
theorem dX12_line_15 : decode cX12_line 15 = .ok (.iconst 3, 1) := by decide +kernel
theorem dX12_line_16 : decode cX12_line 16 = .ok (.invokestatic 84, 3) := by decide +kernel
theorem dX12_line_19 : decode cX12_line 19 = .ok (.ifCond .ne 5, 3) := by decide +kernel
theorem dX12_line_22 : decode cX12_line 22 = .ok (.iconst (-1), 1) := by decide +kernel
theorem dX12_line_23 : decode cX12_line 23 = .ok (.ireturn, 1) := by decide +kernel
theorem dX12_line_24 : decode cX12_line 24 = .ok (.aload_n 0, 1) := by decide +kernel
theorem dX12_line_25 : decode cX12_line 25 = .ok (.iload_n 1, 1) := by decide +kernel
theorem dX12_line_26 : decode cX12_line 26 = .ok (.iconst 1, 1) := by decide +kernel
theorem dX12_line_27 : decode cX12_line 27 = .ok (.invokevirtual 208, 3) := by decide +kernel
theorem dX12_line_30 : decode cX12_line 30 = .ok (.istore 6, 2) := by decide +kernel
theorem dX12_line_32 : decode cX12_line 32 = .ok (.bipush (-3), 2) := by decide +kernel
theorem dX12_line_34 : decode cX12_line 34 = .ok (.istore 7, 2) := by decide +kernel
theorem dX12_line_36 : decode cX12_line 36 = .ok (.iconst 1, 1) := by decide +kernel
theorem dX12_line_37 : decode cX12_line 37 = .ok (.istore 8, 2) := by decide +kernel
theorem dX12_line_39 : decode cX12_line 39 = .ok (.iload 8, 2) := by decide +kernel
theorem dX12_line_41 : decode cX12_line 41 = .ok (.bipush 100, 2) := by decide +kernel
theorem dX12_line_43 : decode cX12_line 43 = .ok (.if_icmp .ge 56, 3) := by decide +kernel
theorem dX12_line_46 : decode cX12_line 46 = .ok (.iload 7, 2) := by decide +kernel
theorem dX12_line_48 : decode cX12_line 48 = .ok (.ifCond .ge 51, 3) := by decide +kernel
theorem dX12_line_51 : decode cX12_line 51 = .ok (.aload_n 0, 1) := by decide +kernel
theorem dX12_line_52 : decode cX12_line 52 = .ok (.getfield 7, 3) := by decide +kernel
theorem dX12_line_55 : decode cX12_line 55 = .ok (.iconst 4, 1) := by decide +kernel
theorem dX12_line_56 : decode cX12_line 56 = .ok (.iload_n 1, 1) := by decide +kernel
theorem dX12_line_57 : decode cX12_line 57 = .ok (.imul, 1) := by decide +kernel
theorem dX12_line_58 : decode cX12_line 58 = .ok (.iconst 1, 1) := by decide +kernel
theorem dX12_line_59 : decode cX12_line 59 = .ok (.iadd, 1) := by decide +kernel
theorem dX12_line_60 : decode cX12_line 60 = .ok (.iload 8, 2) := by decide +kernel
theorem dX12_line_62 : decode cX12_line 62 = .ok (.iastore, 1) := by decide +kernel
theorem dX12_line_63 : decode cX12_line 63 = .ok (.aload_n 0, 1) := by decide +kernel
theorem dX12_line_64 : decode cX12_line 64 = .ok (.iload_n 1, 1) := by decide +kernel
theorem dX12_line_65 : decode cX12_line 65 = .ok (.iload_n 2, 1) := by decide +kernel
theorem dX12_line_66 : decode cX12_line 66 = .ok (.iload_n 3, 1) := by decide +kernel
theorem dX12_line_67 : decode cX12_line 67 = .ok (.iload 4, 2) := by decide +kernel
theorem dX12_line_69 : decode cX12_line 69 = .ok (.invokevirtual 298, 3) := by decide +kernel
theorem dX12_line_72 : decode cX12_line 72 = .ok (.ifCond .eq 17, 3) := by decide +kernel
theorem dX12_line_75 : decode cX12_line 75 = .ok (.aload_n 0, 1) := by decide +kernel
theorem dX12_line_76 : decode cX12_line 76 = .ok (.invokevirtual 301, 3) := by decide +kernel
theorem dX12_line_79 : decode cX12_line 79 = .ok (.iload 5, 2) := by decide +kernel
theorem dX12_line_81 : decode cX12_line 81 = .ok (.if_icmp .ne 8, 3) := by decide +kernel
theorem dX12_line_84 : decode cX12_line 84 = .ok (.iload 8, 2) := by decide +kernel
theorem dX12_line_86 : decode cX12_line 86 = .ok (.goto 5, 3) := by decide +kernel
theorem dX12_line_89 : decode cX12_line 89 = .ok (.bipush (-3), 2) := by decide +kernel
theorem dX12_line_91 : decode cX12_line 91 = .ok (.istore 7, 2) := by decide +kernel
theorem dX12_line_93 : decode cX12_line 93 = .ok (.iinc 8 1, 3) := by decide +kernel
theorem dX12_line_96 : decode cX12_line 96 = .ok (.goto (-57), 3) := by decide +kernel
theorem dX12_line_99 : decode cX12_line 99 = .ok (.aload_n 0, 1) := by decide +kernel
theorem dX12_line_100 : decode cX12_line 100 = .ok (.getfield 7, 3) := by decide +kernel
theorem dX12_line_103 : decode cX12_line 103 = .ok (.iconst 4, 1) := by decide +kernel
theorem dX12_line_104 : decode cX12_line 104 = .ok (.iload_n 1, 1) := by decide +kernel
theorem dX12_line_105 : decode cX12_line 105 = .ok (.imul, 1) := by decide +kernel
theorem dX12_line_106 : decode cX12_line 106 = .ok (.iconst 1, 1) := by decide +kernel
theorem dX12_line_107 : decode cX12_line 107 = .ok (.iadd, 1) := by decide +kernel
theorem dX12_line_108 : decode cX12_line 108 = .ok (.iload 6, 2) := by decide +kernel
theorem dX12_line_110 : decode cX12_line 110 = .ok (.iastore, 1) := by decide +kernel
theorem dX12_line_111 : decode cX12_line 111 = .ok (.iload 7, 2) := by decide +kernel
theorem dX12_line_113 : decode cX12_line 113 = .ok (.ireturn, 1) := by decide +kernel
theorem dX12_films_0 : decode cX12_films 0 = .ok (.aload_n 0, 1) := by decide +kernel
theorem dX12_films_1 : decode cX12_films 1 = .ok (.iload_n 2, 1) := by decide +kernel
theorem dX12_films_2 : decode cX12_films 2 = .ok (.iload_n 3, 1) := by decide +kernel
theorem dX12_films_3 : decode cX12_films 3 = .ok (.iload 4, 2) := by decide +kernel
theorem dX12_films_5 : decode cX12_films 5 = .ok (.iload 5, 2) := by decide +kernel
theorem dX12_films_7 : decode cX12_films 7 = .ok (.invokevirtual 274, 3) := by decide +kernel
theorem dX12_films_10 : decode cX12_films 10 = .ok (.aload_n 0, 1) := by decide +kernel
theorem dX12_films_11 : decode cX12_films 11 = .ok (.invokevirtual 278, 3) := by decide +kernel
theorem dX12_films_14 : decode cX12_films 14 = .ok (.ifCond .ne 32, 3) := by decide +kernel
theorem dX12_films_17 : decode cX12_films 17 = .ok (.aload_n 0, 1) := by decide +kernel
theorem dX12_films_18 : decode cX12_films 18 = .ok (.getfield 232, 3) := by decide +kernel
theorem dX12_films_21 : decode cX12_films 21 = .ok (.sipush 400, 3) := by decide +kernel
theorem dX12_films_24 : decode cX12_films 24 = .ok (.if_icmp .ge 22, 3) := by decide +kernel
theorem dX12_films_27 : decode cX12_films 27 = .ok (.aload_n 0, 1) := by decide +kernel
theorem dX12_films_28 : decode cX12_films 28 = .ok (.invokevirtual 282, 3) := by decide +kernel
theorem dX12_films_31 : decode cX12_films 31 = .ok (.aload_n 1, 1) := by decide +kernel
theorem dX12_films_32 : decode cX12_films 32 = .ok (.aload_n 0, 1) := by decide +kernel
theorem dX12_films_33 : decode cX12_films 33 = .ok (.getfield 232, 3) := by decide +kernel
theorem dX12_films_36 : decode cX12_films 36 = .ok (.iconst 1, 1) := by decide +kernel
theorem dX12_films_37 : decode cX12_films 37 = .ok (.isub, 1) := by decide +kernel
theorem dX12_films_38 : decode cX12_films 38 = .ok (.aload_n 0, 1) := by decide +kernel
theorem dX12_films_39 : decode cX12_films 39 = .ok (.getfield 235, 3) := by decide +kernel
theorem dX12_films_42 : decode cX12_films 42 = .ok (.iastore, 1) := by decide +kernel
theorem dX12_films_43 : decode cX12_films 43 = .ok (.goto (-33), 3) := by decide +kernel
theorem dX12_films_46 : decode cX12_films 46 = .ok (.aload_n 0, 1) := by decide +kernel
theorem dX12_films_47 : decode cX12_films 47 = .ok (.getfield 232, 3) := by decide +kernel
theorem dX12_films_50 : decode cX12_films 50 = .ok (.ireturn, 1) := by decide +kernel
theorem dX12_parted_0 : decode cX12_parted 0 = .ok (.aload_n 0, 1) := by decide +kernel
theorem dX12_parted_1 : decode cX12_parted 1 = .ok (.iload_n 1, 1) := by decide +kernel
theorem dX12_parted_2 : decode cX12_parted 2 = .ok (.iload_n 2, 1) := by decide +kernel
theorem dX12_parted_3 : decode cX12_parted 3 = .ok (.iload_n 3, 1) := by decide +kernel
theorem dX12_parted_4 : decode cX12_parted 4 = .ok (.iload 4, 2) := by decide +kernel
theorem dX12_parted_6 : decode cX12_parted 6 = .ok (.invokevirtual 288, 3) := by decide +kernel
theorem dX12_parted_9 : decode cX12_parted 9 = .ok (.ifCond .eq 15, 3) := by decide +kernel
theorem dX12_parted_12 : decode cX12_parted 12 = .ok (.iload 5, 2) := by decide +kernel
theorem dX12_parted_14 : decode cX12_parted 14 = .ok (.iconst 0, 1) := by decide +kernel
theorem dX12_parted_15 : decode cX12_parted 15 = .ok (.sipush 9999, 3) := by decide +kernel
theorem dX12_parted_18 : decode cX12_parted 18 = .ok (.invokestatic 84, 3) := by decide +kernel
theorem dX12_parted_21 : decode cX12_parted 21 = .ok (.ifCond .ne 5, 3) := by decide +kernel
theorem dX12_parted_24 : decode cX12_parted 24 = .ok (.iconst (-1), 1) := by decide +kernel
theorem dX12_parted_25 : decode cX12_parted 25 = .ok (.ireturn, 1) := by decide +kernel
theorem dX12_parted_26 : decode cX12_parted 26 = .ok (.aload_n 0, 1) := by decide +kernel
theorem dX12_parted_27 : decode cX12_parted 27 = .ok (.aload_n 0, 1) := by decide +kernel
theorem dX12_parted_28 : decode cX12_parted 28 = .ok (.getfield 41, 3) := by decide +kernel
theorem dX12_parted_31 : decode cX12_parted 31 = .ok (.iload_n 1, 1) := by decide +kernel
theorem dX12_parted_32 : decode cX12_parted 32 = .ok (.iload_n 2, 1) := by decide +kernel
theorem dX12_parted_33 : decode cX12_parted 33 = .ok (.iload_n 3, 1) := by decide +kernel
theorem dX12_parted_34 : decode cX12_parted 34 = .ok (.iload 4, 2) := by decide +kernel
theorem dX12_parted_36 : decode cX12_parted 36 = .ok (.invokevirtual 307, 3) := by decide +kernel
theorem dX12_parted_39 : decode cX12_parted 39 = .ok (.istore 6, 2) := by decide +kernel
theorem dX12_parted_41 : decode cX12_parted 41 = .ok (.aload_n 0, 1) := by decide +kernel
theorem dX12_parted_42 : decode cX12_parted 42 = .ok (.aload_n 0, 1) := by decide +kernel
theorem dX12_parted_43 : decode cX12_parted 43 = .ok (.getfield 44, 3) := by decide +kernel
theorem dX12_parted_46 : decode cX12_parted 46 = .ok (.iload_n 1, 1) := by decide +kernel
theorem dX12_parted_47 : decode cX12_parted 47 = .ok (.iload_n 2, 1) := by decide +kernel
theorem dX12_parted_48 : decode cX12_parted 48 = .ok (.iload_n 3, 1) := by decide +kernel
theorem dX12_parted_49 : decode cX12_parted 49 = .ok (.iconst 1, 1) := by decide +kernel
theorem dX12_parted_50 : decode cX12_parted 50 = .ok (.iadd, 1) := by decide +kernel
theorem dX12_parted_51 : decode cX12_parted 51 = .ok (.bipush 36, 2) := by decide +kernel
theorem dX12_parted_53 : decode cX12_parted 53 = .ok (.irem, 1) := by decide +kernel
theorem dX12_parted_54 : decode cX12_parted 54 = .ok (.iload 4, 2) := by decide +kernel
theorem dX12_parted_56 : decode cX12_parted 56 = .ok (.invokevirtual 307, 3) := by decide +kernel
theorem dX12_parted_59 : decode cX12_parted 59 = .ok (.istore 7, 2) := by decide +kernel
theorem dX12_parted_61 : decode cX12_parted 61 = .ok (.iconst 0, 1) := by decide +kernel
theorem dX12_parted_62 : decode cX12_parted 62 = .ok (.istore 8, 2) := by decide +kernel
theorem dX12_parted_64 : decode cX12_parted 64 = .ok (.iload 8, 2) := by decide +kernel
theorem dX12_parted_66 : decode cX12_parted 66 = .ok (.iload 6, 2) := by decide +kernel
theorem dX12_parted_68 : decode cX12_parted 68 = .ok (.if_icmp .ge 44, 3) := by decide +kernel
theorem dX12_parted_71 : decode cX12_parted 71 = .ok (.iload 8, 2) := by decide +kernel
theorem dX12_parted_73 : decode cX12_parted 73 = .ok (.iload 7, 2) := by decide +kernel
theorem dX12_parted_75 : decode cX12_parted 75 = .ok (.if_icmp .ge 37, 3) := by decide +kernel
theorem dX12_parted_78 : decode cX12_parted 78 = .ok (.aload_n 0, 1) := by decide +kernel
theorem dX12_parted_79 : decode cX12_parted 79 = .ok (.getfield 41, 3) := by decide +kernel
theorem dX12_parted_82 : decode cX12_parted 82 = .ok (.iload 8, 2) := by decide +kernel
theorem dX12_parted_84 : decode cX12_parted 84 = .ok (.iaload, 1) := by decide +kernel
theorem dX12_parted_85 : decode cX12_parted 85 = .ok (.aload_n 0, 1) := by decide +kernel
theorem dX12_parted_86 : decode cX12_parted 86 = .ok (.getfield 44, 3) := by decide +kernel
theorem dX12_parted_89 : decode cX12_parted 89 = .ok (.iload 8, 2) := by decide +kernel
theorem dX12_parted_91 : decode cX12_parted 91 = .ok (.iaload, 1) := by decide +kernel
theorem dX12_parted_92 : decode cX12_parted 92 = .ok (.isub, 1) := by decide +kernel
theorem dX12_parted_93 : decode cX12_parted 93 = .ok (.invokestatic 265, 3) := by decide +kernel
theorem dX12_parted_96 : decode cX12_parted 96 = .ok (.iload 5, 2) := by decide +kernel
theorem dX12_parted_98 : decode cX12_parted 98 = .ok (.if_icmp .le 8, 3) := by decide +kernel
theorem dX12_parted_101 : decode cX12_parted 101 = .ok (.iload 8, 2) := by decide +kernel
theorem dX12_parted_103 : decode cX12_parted 103 = .ok (.iconst 1, 1) := by decide +kernel
theorem dX12_parted_104 : decode cX12_parted 104 = .ok (.iadd, 1) := by decide +kernel
theorem dX12_parted_105 : decode cX12_parted 105 = .ok (.ireturn, 1) := by decide +kernel
theorem dX12_parted_106 : decode cX12_parted 106 = .ok (.iinc 8 1, 3) := by decide +kernel
theorem dX12_parted_109 : decode cX12_parted 109 = .ok (.goto (-45), 3) := by decide +kernel
theorem dX12_parted_112 : decode cX12_parted 112 = .ok (.bipush (-3), 2) := by decide +kernel
theorem dX12_parted_114 : decode cX12_parted 114 = .ok (.ireturn, 1) := by decide +kernel
theorem dX12_oftenOn_0 : decode cX12_oftenOn 0 = .ok (.iconst 0, 1) := by decide +kernel
theorem dX12_oftenOn_1 : decode cX12_oftenOn 1 = .ok (.istore 6, 2) := by decide +kernel
theorem dX12_oftenOn_3 : decode cX12_oftenOn 3 = .ok (.iconst 0, 1) := by decide +kernel
theorem dX12_oftenOn_4 : decode cX12_oftenOn 4 = .ok (.istore 7, 2) := by decide +kernel
theorem dX12_oftenOn_6 : decode cX12_oftenOn 6 = .ok (.iload 7, 2) := by decide +kernel
theorem dX12_oftenOn_8 : decode cX12_oftenOn 8 = .ok (.iconst 5, 1) := by decide +kernel
theorem dX12_oftenOn_9 : decode cX12_oftenOn 9 = .ok (.if_icmp .ge 65, 3) := by decide +kernel
theorem dX12_oftenOn_12 : decode cX12_oftenOn 12 = .ok (.aload_n 0, 1) := by decide +kernel
theorem dX12_oftenOn_13 : decode cX12_oftenOn 13 = .ok (.getfield 16, 3) := by decide +kernel
theorem dX12_oftenOn_16 : decode cX12_oftenOn 16 = .ok (.iload 7, 2) := by decide +kernel
theorem dX12_oftenOn_18 : decode cX12_oftenOn 18 = .ok (.iaload, 1) := by decide +kernel
theorem dX12_oftenOn_19 : decode cX12_oftenOn 19 = .ok (.ifCond .le 49, 3) := by decide +kernel
theorem dX12_oftenOn_22 : decode cX12_oftenOn 22 = .ok (.aload_n 0, 1) := by decide +kernel
theorem dX12_oftenOn_23 : decode cX12_oftenOn 23 = .ok (.iload_n 1, 1) := by decide +kernel
theorem dX12_oftenOn_24 : decode cX12_oftenOn 24 = .ok (.iload_n 2, 1) := by decide +kernel
theorem dX12_oftenOn_25 : decode cX12_oftenOn 25 = .ok (.iload_n 3, 1) := by decide +kernel
theorem dX12_oftenOn_26 : decode cX12_oftenOn 26 = .ok (.iload 7, 2) := by decide +kernel
theorem dX12_oftenOn_28 : decode cX12_oftenOn 28 = .ok (.iadd, 1) := by decide +kernel
theorem dX12_oftenOn_29 : decode cX12_oftenOn 29 = .ok (.bipush 34, 2) := by decide +kernel
theorem dX12_oftenOn_31 : decode cX12_oftenOn 31 = .ok (.iadd, 1) := by decide +kernel
theorem dX12_oftenOn_32 : decode cX12_oftenOn 32 = .ok (.bipush 36, 2) := by decide +kernel
theorem dX12_oftenOn_34 : decode cX12_oftenOn 34 = .ok (.irem, 1) := by decide +kernel
theorem dX12_oftenOn_35 : decode cX12_oftenOn 35 = .ok (.iload 4, 2) := by decide +kernel
theorem dX12_oftenOn_37 : decode cX12_oftenOn 37 = .ok (.invokevirtual 298, 3) := by decide +kernel
theorem dX12_oftenOn_40 : decode cX12_oftenOn 40 = .ok (.ifCond .eq 28, 3) := by decide +kernel
theorem dX12_oftenOn_43 : decode cX12_oftenOn 43 = .ok (.iload 6, 2) := by decide +kernel
theorem dX12_oftenOn_45 : decode cX12_oftenOn 45 = .ok (.aload_n 0, 1) := by decide +kernel
theorem dX12_oftenOn_46 : decode cX12_oftenOn 46 = .ok (.invokevirtual 304, 3) := by decide +kernel
theorem dX12_oftenOn_49 : decode cX12_oftenOn 49 = .ok (.iload 5, 2) := by decide +kernel
theorem dX12_oftenOn_51 : decode cX12_oftenOn 51 = .ok (.if_icmp .ne 13, 3) := by decide +kernel
theorem dX12_oftenOn_54 : decode cX12_oftenOn 54 = .ok (.aload_n 0, 1) := by decide +kernel
theorem dX12_oftenOn_55 : decode cX12_oftenOn 55 = .ok (.getfield 16, 3) := by decide +kernel
theorem dX12_oftenOn_58 : decode cX12_oftenOn 58 = .ok (.iload 7, 2) := by decide +kernel
theorem dX12_oftenOn_60 : decode cX12_oftenOn 60 = .ok (.iaload, 1) := by decide +kernel
theorem dX12_oftenOn_61 : decode cX12_oftenOn 61 = .ok (.goto 4, 3) := by decide +kernel
theorem dX12_oftenOn_64 : decode cX12_oftenOn 64 = .ok (.iconst 0, 1) := by decide +kernel
theorem dX12_oftenOn_65 : decode cX12_oftenOn 65 = .ok (.iadd, 1) := by decide +kernel
theorem dX12_oftenOn_66 : decode cX12_oftenOn 66 = .ok (.istore 6, 2) := by decide +kernel
theorem dX12_oftenOn_68 : decode cX12_oftenOn 68 = .ok (.iinc 7 1, 3) := by decide +kernel
theorem dX12_oftenOn_71 : decode cX12_oftenOn 71 = .ok (.goto (-65), 3) := by decide +kernel
theorem dX12_oftenOn_74 : decode cX12_oftenOn 74 = .ok (.iload 6, 2) := by decide +kernel
theorem dX12_oftenOn_76 : decode cX12_oftenOn 76 = .ok (.ireturn, 1) := by decide +kernel
theorem dX12_isSquare_0 : decode cX12_isSquare 0 = .ok (.iload_n 0, 1) := by decide +kernel
theorem dX12_isSquare_1 : decode cX12_isSquare 1 = .ok (.sipush (-999), 3) := by decide +kernel
theorem dX12_isSquare_4 : decode cX12_isSquare 4 = .ok (.sipush 999, 3) := by decide +kernel
theorem dX12_isSquare_7 : decode cX12_isSquare 7 = .ok (.invokestatic 84, 3) := by decide +kernel
theorem dX12_isSquare_10 : decode cX12_isSquare 10 = .ok (.ireturn, 1) := by decide +kernel
theorem dX12_partOf_0 : decode cX12_partOf 0 = .ok (.iload_n 0, 1) := by decide +kernel
theorem dX12_partOf_1 : decode cX12_partOf 1 = .ok (.istore_n 3, 1) := by decide +kernel
theorem dX12_partOf_2 : decode cX12_partOf 2 = .ok (.iload_n 1, 1) := by decide +kernel
theorem dX12_partOf_3 : decode cX12_partOf 3 = .ok (.istore 4, 2) := by decide +kernel
theorem dX12_partOf_5 : decode cX12_partOf 5 = .ok (.iload 4, 2) := by decide +kernel
theorem dX12_partOf_7 : decode cX12_partOf 7 = .ok (.ifCond .eq 19, 3) := by decide +kernel
theorem dX12_partOf_10 : decode cX12_partOf 10 = .ok (.iload_n 3, 1) := by decide +kernel
theorem dX12_partOf_11 : decode cX12_partOf 11 = .ok (.iload 4, 2) := by decide +kernel
theorem dX12_partOf_13 : decode cX12_partOf 13 = .ok (.irem, 1) := by decide +kernel
theorem dX12_partOf_14 : decode cX12_partOf 14 = .ok (.istore 5, 2) := by decide +kernel
theorem dX12_partOf_16 : decode cX12_partOf 16 = .ok (.iload 4, 2) := by decide +kernel
theorem dX12_partOf_18 : decode cX12_partOf 18 = .ok (.istore_n 3, 1) := by decide +kernel
theorem dX12_partOf_19 : decode cX12_partOf 19 = .ok (.iload 5, 2) := by decide +kernel
theorem dX12_partOf_21 : decode cX12_partOf 21 = .ok (.istore 4, 2) := by decide +kernel
theorem dX12_partOf_23 : decode cX12_partOf 23 = .ok (.goto (-18), 3) := by decide +kernel
theorem dX12_partOf_26 : decode cX12_partOf 26 = .ok (.iload_n 2, 1) := by decide +kernel
theorem dX12_partOf_27 : decode cX12_partOf 27 = .ok (.ifCond .ne 7, 3) := by decide +kernel
theorem dX12_partOf_30 : decode cX12_partOf 30 = .ok (.iload_n 0, 1) := by decide +kernel
theorem dX12_partOf_31 : decode cX12_partOf 31 = .ok (.goto 4, 3) := by decide +kernel
theorem dX12_partOf_34 : decode cX12_partOf 34 = .ok (.iload_n 1, 1) := by decide +kernel
theorem dX12_partOf_35 : decode cX12_partOf 35 = .ok (.iload_n 3, 1) := by decide +kernel
theorem dX12_partOf_36 : decode cX12_partOf 36 = .ok (.idiv, 1) := by decide +kernel
theorem dX12_partOf_37 : decode cX12_partOf 37 = .ok (.ireturn, 1) := by decide +kernel
theorem dX12_odds_0 : decode cX12_odds 0 = .ok (.aload_n 0, 1) := by decide +kernel
theorem dX12_odds_1 : decode cX12_odds 1 = .ok (.iload_n 1, 1) := by decide +kernel
theorem dX12_odds_2 : decode cX12_odds 2 = .ok (.iload_n 2, 1) := by decide +kernel
theorem dX12_odds_3 : decode cX12_odds 3 = .ok (.iload_n 3, 1) := by decide +kernel
theorem dX12_odds_4 : decode cX12_odds 4 = .ok (.iload 4, 2) := by decide +kernel
theorem dX12_odds_6 : decode cX12_odds 6 = .ok (.invokevirtual 288, 3) := by decide +kernel
theorem dX12_odds_9 : decode cX12_odds 9 = .ok (.ifCond .eq 19, 3) := by decide +kernel
theorem dX12_odds_12 : decode cX12_odds 12 = .ok (.iload 5, 2) := by decide +kernel
theorem dX12_odds_14 : decode cX12_odds 14 = .ok (.invokestatic 311, 3) := by decide +kernel
theorem dX12_odds_17 : decode cX12_odds 17 = .ok (.ifCond .eq 11, 3) := by decide +kernel
theorem dX12_odds_20 : decode cX12_odds 20 = .ok (.iload 6, 2) := by decide +kernel
theorem dX12_odds_22 : decode cX12_odds 22 = .ok (.invokestatic 314, 3) := by decide +kernel
theorem dX12_odds_25 : decode cX12_odds 25 = .ok (.ifCond .ne 5, 3) := by decide +kernel
theorem dX12_odds_28 : decode cX12_odds 28 = .ok (.iconst (-1), 1) := by decide +kernel
theorem dX12_odds_29 : decode cX12_odds 29 = .ok (.ireturn, 1) := by decide +kernel
theorem dX12_odds_30 : decode cX12_odds 30 = .ok (.aload_n 0, 1) := by decide +kernel
theorem dX12_odds_31 : decode cX12_odds 31 = .ok (.iload_n 1, 1) := by decide +kernel
theorem dX12_odds_32 : decode cX12_odds 32 = .ok (.iload_n 2, 1) := by decide +kernel
theorem dX12_odds_33 : decode cX12_odds 33 = .ok (.iload_n 3, 1) := by decide +kernel
theorem dX12_odds_34 : decode cX12_odds 34 = .ok (.iload 4, 2) := by decide +kernel
theorem dX12_odds_36 : decode cX12_odds 36 = .ok (.iload 5, 2) := by decide +kernel
theorem dX12_odds_38 : decode cX12_odds 38 = .ok (.invokevirtual 317, 3) := by decide +kernel
theorem dX12_odds_41 : decode cX12_odds 41 = .ok (.aload_n 0, 1) := by decide +kernel
theorem dX12_odds_42 : decode cX12_odds 42 = .ok (.invokevirtual 214, 3) := by decide +kernel
theorem dX12_odds_45 : decode cX12_odds 45 = .ok (.iload 6, 2) := by decide +kernel
theorem dX12_odds_47 : decode cX12_odds 47 = .ok (.invokestatic 321, 3) := by decide +kernel
theorem dX12_odds_50 : decode cX12_odds 50 = .ok (.ireturn, 1) := by decide +kernel
theorem dX12_aim_0 : decode cX12_aim 0 = .ok (.aload_n 0, 1) := by decide +kernel
theorem dX12_aim_1 : decode cX12_aim 1 = .ok (.iload_n 1, 1) := by decide +kernel
theorem dX12_aim_2 : decode cX12_aim 2 = .ok (.iload_n 2, 1) := by decide +kernel
theorem dX12_aim_3 : decode cX12_aim 3 = .ok (.iconst 0, 1) := by decide +kernel
theorem dX12_aim_4 : decode cX12_aim 4 = .ok (.iload_n 3, 1) := by decide +kernel
theorem dX12_aim_5 : decode cX12_aim 5 = .ok (.invokevirtual 288, 3) := by decide +kernel
theorem dX12_aim_8 : decode cX12_aim 8 = .ok (.ifCond .eq 11, 3) := by decide +kernel
theorem dX12_aim_11 : decode cX12_aim 11 = .ok (.iload 4, 2) := by decide +kernel
theorem dX12_aim_13 : decode cX12_aim 13 = .ok (.invokestatic 311, 3) := by decide +kernel
theorem dX12_aim_16 : decode cX12_aim 16 = .ok (.ifCond .ne 5, 3) := by decide +kernel
theorem dX12_aim_19 : decode cX12_aim 19 = .ok (.iconst (-1), 1) := by decide +kernel
theorem dX12_aim_20 : decode cX12_aim 20 = .ok (.ireturn, 1) := by decide +kernel
theorem dX12_aim_21 : decode cX12_aim 21 = .ok (.bipush (-3), 2) := by decide +kernel
theorem dX12_aim_23 : decode cX12_aim 23 = .ok (.istore 5, 2) := by decide +kernel
theorem dX12_aim_25 : decode cX12_aim 25 = .ok (.iconst 0, 1) := by decide +kernel
theorem dX12_aim_26 : decode cX12_aim 26 = .ok (.istore 6, 2) := by decide +kernel
theorem dX12_aim_28 : decode cX12_aim 28 = .ok (.iconst 0, 1) := by decide +kernel
theorem dX12_aim_29 : decode cX12_aim 29 = .ok (.istore 7, 2) := by decide +kernel
theorem dX12_aim_31 : decode cX12_aim 31 = .ok (.iload 7, 2) := by decide +kernel
theorem dX12_aim_33 : decode cX12_aim 33 = .ok (.bipush 36, 2) := by decide +kernel
theorem dX12_aim_35 : decode cX12_aim 35 = .ok (.if_icmp .ge 54, 3) := by decide +kernel
theorem dX12_aim_38 : decode cX12_aim 38 = .ok (.aload_n 0, 1) := by decide +kernel
theorem dX12_aim_39 : decode cX12_aim 39 = .ok (.iload_n 1, 1) := by decide +kernel
theorem dX12_aim_40 : decode cX12_aim 40 = .ok (.iload_n 2, 1) := by decide +kernel
theorem dX12_aim_41 : decode cX12_aim 41 = .ok (.iload 7, 2) := by decide +kernel
theorem dX12_aim_43 : decode cX12_aim 43 = .ok (.iload_n 3, 1) := by decide +kernel
theorem dX12_aim_44 : decode cX12_aim 44 = .ok (.iload 4, 2) := by decide +kernel
theorem dX12_aim_46 : decode cX12_aim 46 = .ok (.invokevirtual 317, 3) := by decide +kernel
theorem dX12_aim_49 : decode cX12_aim 49 = .ok (.istore 8, 2) := by decide +kernel
theorem dX12_aim_51 : decode cX12_aim 51 = .ok (.iload 8, 2) := by decide +kernel
theorem dX12_aim_53 : decode cX12_aim 53 = .ok (.iload 6, 2) := by decide +kernel
theorem dX12_aim_55 : decode cX12_aim 55 = .ok (.if_icmp .le 8, 3) := by decide +kernel
theorem dX12_aim_58 : decode cX12_aim 58 = .ok (.iload 7, 2) := by decide +kernel
theorem dX12_aim_60 : decode cX12_aim 60 = .ok (.goto 5, 3) := by decide +kernel
theorem dX12_aim_63 : decode cX12_aim 63 = .ok (.iload 5, 2) := by decide +kernel
theorem dX12_aim_65 : decode cX12_aim 65 = .ok (.istore 5, 2) := by decide +kernel
theorem dX12_aim_67 : decode cX12_aim 67 = .ok (.iload 8, 2) := by decide +kernel
theorem dX12_aim_69 : decode cX12_aim 69 = .ok (.iload 6, 2) := by decide +kernel
theorem dX12_aim_71 : decode cX12_aim 71 = .ok (.if_icmp .le 8, 3) := by decide +kernel
theorem dX12_aim_74 : decode cX12_aim 74 = .ok (.iload 8, 2) := by decide +kernel
theorem dX12_aim_76 : decode cX12_aim 76 = .ok (.goto 5, 3) := by decide +kernel
theorem dX12_aim_79 : decode cX12_aim 79 = .ok (.iload 6, 2) := by decide +kernel
theorem dX12_aim_81 : decode cX12_aim 81 = .ok (.istore 6, 2) := by decide +kernel
theorem dX12_aim_83 : decode cX12_aim 83 = .ok (.iinc 7 1, 3) := by decide +kernel
theorem dX12_aim_86 : decode cX12_aim 86 = .ok (.goto (-55), 3) := by decide +kernel
theorem dX12_aim_89 : decode cX12_aim 89 = .ok (.iload 5, 2) := by decide +kernel
theorem dX12_aim_91 : decode cX12_aim 91 = .ok (.ireturn, 1) := by decide +kernel
theorem dX12_longest_0 : decode cX12_longest 0 = .ok (.iload_n 1, 1) := by decide +kernel
theorem dX12_longest_1 : decode cX12_longest 1 = .ok (.iload_n 2, 1) := by decide +kernel
theorem dX12_longest_2 : decode cX12_longest 2 = .ok (.iload_n 3, 1) := by decide +kernel
theorem dX12_longest_3 : decode cX12_longest 3 = .ok (.invokestatic 285, 3) := by decide +kernel
theorem dX12_longest_6 : decode cX12_longest 6 = .ok (.ifCond .ne 5, 3) := by decide +kernel
theorem dX12_longest_9 : decode cX12_longest 9 = .ok (.iconst (-1), 1) := by decide +kernel
theorem dX12_longest_10 : decode cX12_longest 10 = .ok (.ireturn, 1) := by decide +kernel
theorem dX12_longest_11 : decode cX12_longest 11 = .ok (.bipush (-3), 2) := by decide +kernel
theorem dX12_longest_13 : decode cX12_longest 13 = .ok (.istore 4, 2) := by decide +kernel
theorem dX12_longest_15 : decode cX12_longest 15 = .ok (.iconst 0, 1) := by decide +kernel
theorem dX12_longest_16 : decode cX12_longest 16 = .ok (.istore 5, 2) := by decide +kernel
theorem dX12_longest_18 : decode cX12_longest 18 = .ok (.iconst 0, 1) := by decide +kernel
theorem dX12_longest_19 : decode cX12_longest 19 = .ok (.istore 6, 2) := by decide +kernel
theorem dX12_longest_21 : decode cX12_longest 21 = .ok (.iload 6, 2) := by decide +kernel
theorem dX12_longest_23 : decode cX12_longest 23 = .ok (.aload_n 0, 1) := by decide +kernel
theorem dX12_longest_24 : decode cX12_longest 24 = .ok (.getfield 81, 3) := by decide +kernel
theorem dX12_longest_27 : decode cX12_longest 27 = .ok (.if_icmp .ge 52, 3) := by decide +kernel
theorem dX12_longest_30 : decode cX12_longest 30 = .ok (.aload_n 0, 1) := by decide +kernel
theorem dX12_longest_31 : decode cX12_longest 31 = .ok (.iload 6, 2) := by decide +kernel
theorem dX12_longest_33 : decode cX12_longest 33 = .ok (.iload_n 1, 1) := by decide +kernel
theorem dX12_longest_34 : decode cX12_longest 34 = .ok (.iload_n 2, 1) := by decide +kernel
theorem dX12_longest_35 : decode cX12_longest 35 = .ok (.iload_n 3, 1) := by decide +kernel
theorem dX12_longest_36 : decode cX12_longest 36 = .ok (.invokevirtual 298, 3) := by decide +kernel
theorem dX12_longest_39 : decode cX12_longest 39 = .ok (.istore 7, 2) := by decide +kernel
theorem dX12_longest_41 : decode cX12_longest 41 = .ok (.iload 7, 2) := by decide +kernel
theorem dX12_longest_43 : decode cX12_longest 43 = .ok (.ifCond .eq 10, 3) := by decide +kernel
theorem dX12_longest_46 : decode cX12_longest 46 = .ok (.aload_n 0, 1) := by decide +kernel
theorem dX12_longest_47 : decode cX12_longest 47 = .ok (.getfield 232, 3) := by decide +kernel
theorem dX12_longest_50 : decode cX12_longest 50 = .ok (.goto 6, 3) := by decide +kernel
theorem dX12_longest_53 : decode cX12_longest 53 = .ok (.sipush 400, 3) := by decide +kernel
theorem dX12_longest_56 : decode cX12_longest 56 = .ok (.istore 8, 2) := by decide +kernel
theorem dX12_longest_58 : decode cX12_longest 58 = .ok (.iload 8, 2) := by decide +kernel
theorem dX12_longest_60 : decode cX12_longest 60 = .ok (.iload 5, 2) := by decide +kernel
theorem dX12_longest_62 : decode cX12_longest 62 = .ok (.if_icmp .le 11, 3) := by decide +kernel
theorem dX12_longest_65 : decode cX12_longest 65 = .ok (.iload 8, 2) := by decide +kernel
theorem dX12_longest_67 : decode cX12_longest 67 = .ok (.istore 5, 2) := by decide +kernel
theorem dX12_longest_69 : decode cX12_longest 69 = .ok (.iload 6, 2) := by decide +kernel
theorem dX12_longest_71 : decode cX12_longest 71 = .ok (.istore 4, 2) := by decide +kernel
theorem dX12_longest_73 : decode cX12_longest 73 = .ok (.iinc 6 1, 3) := by decide +kernel
theorem dX12_longest_76 : decode cX12_longest 76 = .ok (.goto (-55), 3) := by decide +kernel
theorem dX12_longest_79 : decode cX12_longest 79 = .ok (.iload 4, 2) := by decide +kernel
theorem dX12_longest_81 : decode cX12_longest 81 = .ok (.ireturn, 1) := by decide +kernel
theorem dX12_missOf_0 : decode cX12_missOf 0 = .ok (.aload_n 0, 1) := by decide +kernel
theorem dX12_missOf_1 : decode cX12_missOf 1 = .ok (.aload_n 0, 1) := by decide +kernel
theorem dX12_missOf_2 : decode cX12_missOf 2 = .ok (.getfield 41, 3) := by decide +kernel
theorem dX12_missOf_5 : decode cX12_missOf 5 = .ok (.iload_n 1, 1) := by decide +kernel
theorem dX12_missOf_6 : decode cX12_missOf 6 = .ok (.iload_n 2, 1) := by decide +kernel
theorem dX12_missOf_7 : decode cX12_missOf 7 = .ok (.iload_n 3, 1) := by decide +kernel
theorem dX12_missOf_8 : decode cX12_missOf 8 = .ok (.iload 4, 2) := by decide +kernel
theorem dX12_missOf_10 : decode cX12_missOf 10 = .ok (.invokevirtual 307, 3) := by decide +kernel
theorem dX12_missOf_13 : decode cX12_missOf 13 = .ok (.istore 6, 2) := by decide +kernel
theorem dX12_missOf_15 : decode cX12_missOf 15 = .ok (.lconst 0, 1) := by decide +kernel
theorem dX12_missOf_16 : decode cX12_missOf 16 = .ok (.lstore 7, 2) := by decide +kernel
theorem dX12_missOf_18 : decode cX12_missOf 18 = .ok (.iconst 0, 1) := by decide +kernel
theorem dX12_missOf_19 : decode cX12_missOf 19 = .ok (.istore 9, 2) := by decide +kernel
theorem dX12_missOf_21 : decode cX12_missOf 21 = .ok (.iload 9, 2) := by decide +kernel
theorem dX12_missOf_23 : decode cX12_missOf 23 = .ok (.iload 6, 2) := by decide +kernel
theorem dX12_missOf_25 : decode cX12_missOf 25 = .ok (.if_icmp .ge 65, 3) := by decide +kernel
theorem dX12_missOf_28 : decode cX12_missOf 28 = .ok (.iload 9, 2) := by decide +kernel
theorem dX12_missOf_30 : decode cX12_missOf 30 = .ok (.aload_n 0, 1) := by decide +kernel
theorem dX12_missOf_31 : decode cX12_missOf 31 = .ok (.getfield 56, 3) := by decide +kernel
theorem dX12_missOf_34 : decode cX12_missOf 34 = .ok (.iload 5, 2) := by decide +kernel
theorem dX12_missOf_36 : decode cX12_missOf 36 = .ok (.iaload, 1) := by decide +kernel
theorem dX12_missOf_37 : decode cX12_missOf 37 = .ok (.if_icmp .ge 53, 3) := by decide +kernel
theorem dX12_missOf_40 : decode cX12_missOf 40 = .ok (.aload_n 0, 1) := by decide +kernel
theorem dX12_missOf_41 : decode cX12_missOf 41 = .ok (.getfield 41, 3) := by decide +kernel
theorem dX12_missOf_44 : decode cX12_missOf 44 = .ok (.iload 9, 2) := by decide +kernel
theorem dX12_missOf_46 : decode cX12_missOf 46 = .ok (.iaload, 1) := by decide +kernel
theorem dX12_missOf_47 : decode cX12_missOf 47 = .ok (.i2l, 1) := by decide +kernel
theorem dX12_missOf_48 : decode cX12_missOf 48 = .ok (.aload_n 0, 1) := by decide +kernel
theorem dX12_missOf_49 : decode cX12_missOf 49 = .ok (.getfield 59, 3) := by decide +kernel
theorem dX12_missOf_52 : decode cX12_missOf 52 = .ok (.bipush 40, 2) := by decide +kernel
theorem dX12_missOf_54 : decode cX12_missOf 54 = .ok (.iload 5, 2) := by decide +kernel
theorem dX12_missOf_56 : decode cX12_missOf 56 = .ok (.imul, 1) := by decide +kernel
theorem dX12_missOf_57 : decode cX12_missOf 57 = .ok (.iload 9, 2) := by decide +kernel
theorem dX12_missOf_59 : decode cX12_missOf 59 = .ok (.iadd, 1) := by decide +kernel
theorem dX12_missOf_60 : decode cX12_missOf 60 = .ok (.laload, 1) := by decide +kernel
theorem dX12_missOf_61 : decode cX12_missOf 61 = .ok (.lsub, 1) := by decide +kernel
theorem dX12_missOf_62 : decode cX12_missOf 62 = .ok (.lstore 10, 2) := by decide +kernel
theorem dX12_missOf_64 : decode cX12_missOf 64 = .ok (.lload 7, 2) := by decide +kernel
theorem dX12_missOf_66 : decode cX12_missOf 66 = .ok (.lload 10, 2) := by decide +kernel
theorem dX12_missOf_68 : decode cX12_missOf 68 = .ok (.lconst 0, 1) := by decide +kernel
theorem dX12_missOf_69 : decode cX12_missOf 69 = .ok (.lcmp, 1) := by decide +kernel
theorem dX12_missOf_70 : decode cX12_missOf 70 = .ok (.ifCond .ge 9, 3) := by decide +kernel
theorem dX12_missOf_73 : decode cX12_missOf 73 = .ok (.lload 10, 2) := by decide +kernel
theorem dX12_missOf_75 : decode cX12_missOf 75 = .ok (.lneg, 1) := by decide +kernel
theorem dX12_missOf_76 : decode cX12_missOf 76 = .ok (.goto 5, 3) := by decide +kernel
theorem dX12_missOf_79 : decode cX12_missOf 79 = .ok (.lload 10, 2) := by decide +kernel
theorem dX12_missOf_81 : decode cX12_missOf 81 = .ok (.ladd, 1) := by decide +kernel
theorem dX12_missOf_82 : decode cX12_missOf 82 = .ok (.lstore 7, 2) := by decide +kernel
theorem dX12_missOf_84 : decode cX12_missOf 84 = .ok (.iinc 9 1, 3) := by decide +kernel
theorem dX12_missOf_87 : decode cX12_missOf 87 = .ok (.goto (-66), 3) := by decide +kernel
theorem dX12_missOf_90 : decode cX12_missOf 90 = .ok (.lload 7, 2) := by decide +kernel
theorem dX12_missOf_92 : decode cX12_missOf 92 = .ok (.ldc2_w 325, 3) := by decide +kernel
theorem dX12_missOf_95 : decode cX12_missOf 95 = .ok (.lcmp, 1) := by decide +kernel
theorem dX12_missOf_96 : decode cX12_missOf 96 = .ok (.ifCond .le 9, 3) := by decide +kernel
theorem dX12_missOf_99 : decode cX12_missOf 99 = .ok (.ldc_w 327, 3) := by decide +kernel
theorem dX12_missOf_102 : decode cX12_missOf 102 = .ok (.goto 6, 3) := by decide +kernel
theorem dX12_missOf_105 : decode cX12_missOf 105 = .ok (.lload 7, 2) := by decide +kernel
theorem dX12_missOf_107 : decode cX12_missOf 107 = .ok (.l2i, 1) := by decide +kernel
theorem dX12_missOf_108 : decode cX12_missOf 108 = .ok (.ireturn, 1) := by decide +kernel
theorem dX12_miss_0 : decode cX12_miss 0 = .ok (.aload_n 0, 1) := by decide +kernel
theorem dX12_miss_1 : decode cX12_miss 1 = .ok (.iload_n 1, 1) := by decide +kernel
theorem dX12_miss_2 : decode cX12_miss 2 = .ok (.iload_n 2, 1) := by decide +kernel
theorem dX12_miss_3 : decode cX12_miss 3 = .ok (.iload_n 3, 1) := by decide +kernel
theorem dX12_miss_4 : decode cX12_miss 4 = .ok (.iload 4, 2) := by decide +kernel
theorem dX12_miss_6 : decode cX12_miss 6 = .ok (.invokevirtual 288, 3) := by decide +kernel
theorem dX12_miss_9 : decode cX12_miss 9 = .ok (.ifCond .eq 11, 3) := by decide +kernel
theorem dX12_miss_12 : decode cX12_miss 12 = .ok (.iload 5, 2) := by decide +kernel
theorem dX12_miss_14 : decode cX12_miss 14 = .ok (.invokestatic 328, 3) := by decide +kernel
theorem dX12_miss_17 : decode cX12_miss 17 = .ok (.ifCond .ne 5, 3) := by decide +kernel
theorem dX12_miss_20 : decode cX12_miss 20 = .ok (.iconst (-1), 1) := by decide +kernel
theorem dX12_miss_21 : decode cX12_miss 21 = .ok (.ireturn, 1) := by decide +kernel
theorem dX12_miss_22 : decode cX12_miss 22 = .ok (.aload_n 0, 1) := by decide +kernel
theorem dX12_miss_23 : decode cX12_miss 23 = .ok (.iload 5, 2) := by decide +kernel
theorem dX12_miss_25 : decode cX12_miss 25 = .ok (.iconst 2, 1) := by decide +kernel
theorem dX12_miss_26 : decode cX12_miss 26 = .ok (.invokevirtual 331, 3) := by decide +kernel
theorem dX12_miss_29 : decode cX12_miss 29 = .ok (.istore 6, 2) := by decide +kernel
theorem dX12_miss_31 : decode cX12_miss 31 = .ok (.iload 6, 2) := by decide +kernel
theorem dX12_miss_33 : decode cX12_miss 33 = .ok (.ifCond .eq 8, 3) := by decide +kernel
theorem dX12_miss_36 : decode cX12_miss 36 = .ok (.iload 6, 2) := by decide +kernel
theorem dX12_miss_38 : decode cX12_miss 38 = .ok (.goto 14, 3) := by decide +kernel
theorem dX12_miss_41 : decode cX12_miss 41 = .ok (.aload_n 0, 1) := by decide +kernel
theorem dX12_miss_42 : decode cX12_miss 42 = .ok (.iload_n 1, 1) := by decide +kernel
theorem dX12_miss_43 : decode cX12_miss 43 = .ok (.iload_n 2, 1) := by decide +kernel
theorem dX12_miss_44 : decode cX12_miss 44 = .ok (.iload_n 3, 1) := by decide +kernel
theorem dX12_miss_45 : decode cX12_miss 45 = .ok (.iload 4, 2) := by decide +kernel
theorem dX12_miss_47 : decode cX12_miss 47 = .ok (.iload 5, 2) := by decide +kernel
theorem dX12_miss_49 : decode cX12_miss 49 = .ok (.invokevirtual 334, 3) := by decide +kernel
theorem dX12_miss_52 : decode cX12_miss 52 = .ok (.ireturn, 1) := by decide +kernel
theorem dX12_fit_0 : decode cX12_fit 0 = .ok (.aload_n 0, 1) := by decide +kernel
theorem dX12_fit_1 : decode cX12_fit 1 = .ok (.iload_n 1, 1) := by decide +kernel
theorem dX12_fit_2 : decode cX12_fit 2 = .ok (.iload_n 2, 1) := by decide +kernel
theorem dX12_fit_3 : decode cX12_fit 3 = .ok (.iload_n 3, 1) := by decide +kernel
theorem dX12_fit_4 : decode cX12_fit 4 = .ok (.iload 4, 2) := by decide +kernel
theorem dX12_fit_6 : decode cX12_fit 6 = .ok (.invokevirtual 288, 3) := by decide +kernel
theorem dX12_fit_9 : decode cX12_fit 9 = .ok (.ifCond .eq 19, 3) := by decide +kernel
theorem dX12_fit_12 : decode cX12_fit 12 = .ok (.iload 5, 2) := by decide +kernel
theorem dX12_fit_14 : decode cX12_fit 14 = .ok (.invokestatic 328, 3) := by decide +kernel
theorem dX12_fit_17 : decode cX12_fit 17 = .ok (.ifCond .eq 11, 3) := by decide +kernel
theorem dX12_fit_20 : decode cX12_fit 20 = .ok (.iload 6, 2) := by decide +kernel
theorem dX12_fit_22 : decode cX12_fit 22 = .ok (.invokestatic 211, 3) := by decide +kernel
theorem dX12_fit_25 : decode cX12_fit 25 = .ok (.ifCond .ne 5, 3) := by decide +kernel
theorem dX12_fit_28 : decode cX12_fit 28 = .ok (.iconst (-1), 1) := by decide +kernel
theorem dX12_fit_29 : decode cX12_fit 29 = .ok (.ireturn, 1) := by decide +kernel
theorem dX12_fit_30 : decode cX12_fit 30 = .ok (.aload_n 0, 1) := by decide +kernel
theorem dX12_fit_31 : decode cX12_fit 31 = .ok (.iload 5, 2) := by decide +kernel
theorem dX12_fit_33 : decode cX12_fit 33 = .ok (.iconst 2, 1) := by decide +kernel
theorem dX12_fit_34 : decode cX12_fit 34 = .ok (.invokevirtual 331, 3) := by decide +kernel
theorem dX12_fit_37 : decode cX12_fit 37 = .ok (.istore 7, 2) := by decide +kernel
theorem dX12_fit_39 : decode cX12_fit 39 = .ok (.iload 7, 2) := by decide +kernel
theorem dX12_fit_41 : decode cX12_fit 41 = .ok (.ifCond .eq 6, 3) := by decide +kernel
theorem dX12_fit_44 : decode cX12_fit 44 = .ok (.iload 7, 2) := by decide +kernel
theorem dX12_fit_46 : decode cX12_fit 46 = .ok (.ireturn, 1) := by decide +kernel
theorem dX12_fit_47 : decode cX12_fit 47 = .ok (.aload_n 0, 1) := by decide +kernel
theorem dX12_fit_48 : decode cX12_fit 48 = .ok (.getfield 13, 3) := by decide +kernel
theorem dX12_fit_51 : decode cX12_fit 51 = .ok (.iload 6, 2) := by decide +kernel
theorem dX12_fit_53 : decode cX12_fit 53 = .ok (.iaload, 1) := by decide +kernel
theorem dX12_fit_54 : decode cX12_fit 54 = .ok (.istore 8, 2) := by decide +kernel
theorem dX12_fit_56 : decode cX12_fit 56 = .ok (.iconst 0, 1) := by decide +kernel
theorem dX12_fit_57 : decode cX12_fit 57 = .ok (.istore 9, 2) := by decide +kernel
theorem dX12_fit_59 : decode cX12_fit 59 = .ok (.iconst (-1), 1) := by decide +kernel
theorem dX12_fit_60 : decode cX12_fit 60 = .ok (.istore 10, 2) := by decide +kernel
theorem dX12_fit_62 : decode cX12_fit 62 = .ok (.iconst 0, 1) := by decide +kernel
theorem dX12_fit_63 : decode cX12_fit 63 = .ok (.istore 11, 2) := by decide +kernel
theorem dX12_fit_65 : decode cX12_fit 65 = .ok (.iload 11, 2) := by decide +kernel
theorem dX12_fit_67 : decode cX12_fit 67 = .ok (.bipush 64, 2) := by decide +kernel
theorem dX12_fit_69 : decode cX12_fit 69 = .ok (.if_icmp .ge 51, 3) := by decide +kernel
theorem dX12_fit_72 : decode cX12_fit 72 = .ok (.aload_n 0, 1) := by decide +kernel
theorem dX12_fit_73 : decode cX12_fit 73 = .ok (.getfield 13, 3) := by decide +kernel
theorem dX12_fit_76 : decode cX12_fit 76 = .ok (.iload 6, 2) := by decide +kernel
theorem dX12_fit_78 : decode cX12_fit 78 = .ok (.iload 11, 2) := by decide +kernel
theorem dX12_fit_80 : decode cX12_fit 80 = .ok (.iastore, 1) := by decide +kernel
theorem dX12_fit_81 : decode cX12_fit 81 = .ok (.aload_n 0, 1) := by decide +kernel
theorem dX12_fit_82 : decode cX12_fit 82 = .ok (.iload_n 1, 1) := by decide +kernel
theorem dX12_fit_83 : decode cX12_fit 83 = .ok (.iload_n 2, 1) := by decide +kernel
theorem dX12_fit_84 : decode cX12_fit 84 = .ok (.iload_n 3, 1) := by decide +kernel
theorem dX12_fit_85 : decode cX12_fit 85 = .ok (.iload 4, 2) := by decide +kernel
theorem dX12_fit_87 : decode cX12_fit 87 = .ok (.iload 5, 2) := by decide +kernel
theorem dX12_fit_89 : decode cX12_fit 89 = .ok (.invokevirtual 334, 3) := by decide +kernel
theorem dX12_fit_92 : decode cX12_fit 92 = .ok (.istore 12, 2) := by decide +kernel
theorem dX12_fit_94 : decode cX12_fit 94 = .ok (.iload 10, 2) := by decide +kernel
theorem dX12_fit_96 : decode cX12_fit 96 = .ok (.ifCond .lt 10, 3) := by decide +kernel
theorem dX12_fit_99 : decode cX12_fit 99 = .ok (.iload 12, 2) := by decide +kernel
theorem dX12_fit_101 : decode cX12_fit 101 = .ok (.iload 10, 2) := by decide +kernel
theorem dX12_fit_103 : decode cX12_fit 103 = .ok (.if_icmp .ge 11, 3) := by decide +kernel
theorem dX12_fit_106 : decode cX12_fit 106 = .ok (.iload 12, 2) := by decide +kernel
theorem dX12_fit_108 : decode cX12_fit 108 = .ok (.istore 10, 2) := by decide +kernel
theorem dX12_fit_110 : decode cX12_fit 110 = .ok (.iload 11, 2) := by decide +kernel
theorem dX12_fit_112 : decode cX12_fit 112 = .ok (.istore 9, 2) := by decide +kernel
theorem dX12_fit_114 : decode cX12_fit 114 = .ok (.iinc 11 1, 3) := by decide +kernel
theorem dX12_fit_117 : decode cX12_fit 117 = .ok (.goto (-52), 3) := by decide +kernel
theorem dX12_fit_120 : decode cX12_fit 120 = .ok (.aload_n 0, 1) := by decide +kernel
theorem dX12_fit_121 : decode cX12_fit 121 = .ok (.getfield 13, 3) := by decide +kernel
theorem dX12_fit_124 : decode cX12_fit 124 = .ok (.iload 6, 2) := by decide +kernel
theorem dX12_fit_126 : decode cX12_fit 126 = .ok (.iload 8, 2) := by decide +kernel
theorem dX12_fit_128 : decode cX12_fit 128 = .ok (.iastore, 1) := by decide +kernel
theorem dX12_fit_129 : decode cX12_fit 129 = .ok (.iload 9, 2) := by decide +kernel
theorem dX12_fit_131 : decode cX12_fit 131 = .ok (.ireturn, 1) := by decide +kernel
theorem dX12_toss_0 : decode cX12_toss 0 = .ok (.aload_n 0, 1) := by decide +kernel
theorem dX12_toss_1 : decode cX12_toss 1 = .ok (.iload_n 1, 1) := by decide +kernel
theorem dX12_toss_2 : decode cX12_toss 2 = .ok (.iload_n 2, 1) := by decide +kernel
theorem dX12_toss_3 : decode cX12_toss 3 = .ok (.iload_n 3, 1) := by decide +kernel
theorem dX12_toss_4 : decode cX12_toss 4 = .ok (.iload 4, 2) := by decide +kernel
theorem dX12_toss_6 : decode cX12_toss 6 = .ok (.invokevirtual 288, 3) := by decide +kernel
theorem dX12_toss_9 : decode cX12_toss 9 = .ok (.ifCond .ne 7, 3) := by decide +kernel
theorem dX12_toss_12 : decode cX12_toss 12 = .ok (.ldc_w 297, 3) := by decide +kernel
theorem dX12_toss_15 : decode cX12_toss 15 = .ok (.ireturn, 1) := by decide +kernel
theorem dX12_toss_16 : decode cX12_toss 16 = .ok (.aload_n 0, 1) := by decide +kernel
theorem dX12_toss_17 : decode cX12_toss 17 = .ok (.aload_n 0, 1) := by decide +kernel
theorem dX12_toss_18 : decode cX12_toss 18 = .ok (.getfield 22, 3) := by decide +kernel
theorem dX12_toss_21 : decode cX12_toss 21 = .ok (.ldc_w 337, 3) := by decide +kernel
theorem dX12_toss_24 : decode cX12_toss 24 = .ok (.imul, 1) := by decide +kernel
theorem dX12_toss_25 : decode cX12_toss 25 = .ok (.sipush 12345, 3) := by decide +kernel
theorem dX12_toss_28 : decode cX12_toss 28 = .ok (.iadd, 1) := by decide +kernel
theorem dX12_toss_29 : decode cX12_toss 29 = .ok (.putfield 22, 3) := by decide +kernel
theorem dX12_toss_32 : decode cX12_toss 32 = .ok (.aload_n 0, 1) := by decide +kernel
theorem dX12_toss_33 : decode cX12_toss 33 = .ok (.getfield 22, 3) := by decide +kernel
theorem dX12_toss_36 : decode cX12_toss 36 = .ok (.bipush 16, 2) := by decide +kernel
theorem dX12_toss_38 : decode cX12_toss 38 = .ok (.iushr, 1) := by decide +kernel
theorem dX12_toss_39 : decode cX12_toss 39 = .ok (.aload_n 0, 1) := by decide +kernel
theorem dX12_toss_40 : decode cX12_toss 40 = .ok (.invokevirtual 214, 3) := by decide +kernel
theorem dX12_toss_43 : decode cX12_toss 43 = .ok (.irem, 1) := by decide +kernel
theorem dX12_toss_44 : decode cX12_toss 44 = .ok (.istore 5, 2) := by decide +kernel
theorem dX12_toss_46 : decode cX12_toss 46 = .ok (.iconst 0, 1) := by decide +kernel
theorem dX12_toss_47 : decode cX12_toss 47 = .ok (.istore 6, 2) := by decide +kernel
theorem dX12_toss_49 : decode cX12_toss 49 = .ok (.iload 5, 2) := by decide +kernel
theorem dX12_toss_51 : decode cX12_toss 51 = .ok (.aload_n 0, 1) := by decide +kernel
theorem dX12_toss_52 : decode cX12_toss 52 = .ok (.getfield 16, 3) := by decide +kernel
theorem dX12_toss_55 : decode cX12_toss 55 = .ok (.iload 6, 2) := by decide +kernel
theorem dX12_toss_57 : decode cX12_toss 57 = .ok (.iaload, 1) := by decide +kernel
theorem dX12_toss_58 : decode cX12_toss 58 = .ok (.if_icmp .lt 21, 3) := by decide +kernel
theorem dX12_toss_61 : decode cX12_toss 61 = .ok (.iload 5, 2) := by decide +kernel
theorem dX12_toss_63 : decode cX12_toss 63 = .ok (.aload_n 0, 1) := by decide +kernel
theorem dX12_toss_64 : decode cX12_toss 64 = .ok (.getfield 16, 3) := by decide +kernel
theorem dX12_toss_67 : decode cX12_toss 67 = .ok (.iload 6, 2) := by decide +kernel
theorem dX12_toss_69 : decode cX12_toss 69 = .ok (.iaload, 1) := by decide +kernel
theorem dX12_toss_70 : decode cX12_toss 70 = .ok (.isub, 1) := by decide +kernel
theorem dX12_toss_71 : decode cX12_toss 71 = .ok (.istore 5, 2) := by decide +kernel
theorem dX12_toss_73 : decode cX12_toss 73 = .ok (.iinc 6 1, 3) := by decide +kernel
theorem dX12_toss_76 : decode cX12_toss 76 = .ok (.goto (-27), 3) := by decide +kernel
theorem dX12_toss_79 : decode cX12_toss 79 = .ok (.aload_n 0, 1) := by decide +kernel
theorem dX12_toss_80 : decode cX12_toss 80 = .ok (.iload_n 1, 1) := by decide +kernel
theorem dX12_toss_81 : decode cX12_toss 81 = .ok (.iload_n 2, 1) := by decide +kernel
theorem dX12_toss_82 : decode cX12_toss 82 = .ok (.iload_n 3, 1) := by decide +kernel
theorem dX12_toss_83 : decode cX12_toss 83 = .ok (.iload 6, 2) := by decide +kernel
theorem dX12_toss_85 : decode cX12_toss 85 = .ok (.iadd, 1) := by decide +kernel
theorem dX12_toss_86 : decode cX12_toss 86 = .ok (.bipush 34, 2) := by decide +kernel
theorem dX12_toss_88 : decode cX12_toss 88 = .ok (.iadd, 1) := by decide +kernel
theorem dX12_toss_89 : decode cX12_toss 89 = .ok (.bipush 36, 2) := by decide +kernel
theorem dX12_toss_91 : decode cX12_toss 91 = .ok (.irem, 1) := by decide +kernel
theorem dX12_toss_92 : decode cX12_toss 92 = .ok (.iload 4, 2) := by decide +kernel
theorem dX12_toss_94 : decode cX12_toss 94 = .ok (.invokevirtual 298, 3) := by decide +kernel
theorem dX12_toss_97 : decode cX12_toss 97 = .ok (.ifCond .eq 10, 3) := by decide +kernel
theorem dX12_toss_100 : decode cX12_toss 100 = .ok (.aload_n 0, 1) := by decide +kernel
theorem dX12_toss_101 : decode cX12_toss 101 = .ok (.invokevirtual 304, 3) := by decide +kernel
theorem dX12_toss_104 : decode cX12_toss 104 = .ok (.goto 6, 3) := by decide +kernel
theorem dX12_toss_107 : decode cX12_toss 107 = .ok (.ldc_w 297, 3) := by decide +kernel
theorem dX12_toss_110 : decode cX12_toss 110 = .ok (.ireturn, 1) := by decide +kernel
theorem dX12_seed_0 : decode cX12_seed 0 = .ok (.aload_n 0, 1) := by decide +kernel
theorem dX12_seed_1 : decode cX12_seed 1 = .ok (.getfield 22, 3) := by decide +kernel
theorem dX12_seed_4 : decode cX12_seed 4 = .ok (.istore_n 2, 1) := by decide +kernel
theorem dX12_seed_5 : decode cX12_seed 5 = .ok (.aload_n 0, 1) := by decide +kernel
theorem dX12_seed_6 : decode cX12_seed 6 = .ok (.iload_n 1, 1) := by decide +kernel
theorem dX12_seed_7 : decode cX12_seed 7 = .ok (.putfield 22, 3) := by decide +kernel
theorem dX12_seed_10 : decode cX12_seed 10 = .ok (.iload_n 2, 1) := by decide +kernel
theorem dX12_seed_11 : decode cX12_seed 11 = .ok (.ireturn, 1) := by decide +kernel
theorem dX12_findRows_0 : decode cX12_findRows 0 = .ok (.aload_n 0, 1) := by decide +kernel
theorem dX12_findRows_1 : decode cX12_findRows 1 = .ok (.invokevirtual 294, 3) := by decide +kernel
theorem dX12_findRows_4 : decode cX12_findRows 4 = .ok (.aload_n 0, 1) := by decide +kernel
theorem dX12_findRows_5 : decode cX12_findRows 5 = .ok (.iconst 0, 1) := by decide +kernel
theorem dX12_findRows_6 : decode cX12_findRows 6 = .ok (.putfield 338, 3) := by decide +kernel
theorem dX12_findRows_9 : decode cX12_findRows 9 = .ok (.aload_n 0, 1) := by decide +kernel
theorem dX12_findRows_10 : decode cX12_findRows 10 = .ok (.getfield 338, 3) := by decide +kernel
theorem dX12_findRows_13 : decode cX12_findRows 13 = .ok (.iload_n 1, 1) := by decide +kernel
theorem dX12_findRows_14 : decode cX12_findRows 14 = .ok (.if_icmp .ge 76, 3) := by decide +kernel
theorem dX12_findRows_17 : decode cX12_findRows 17 = .ok (.aload_n 0, 1) := by decide +kernel
theorem dX12_findRows_18 : decode cX12_findRows 18 = .ok (.invokevirtual 278, 3) := by decide +kernel
theorem dX12_findRows_21 : decode cX12_findRows 21 = .ok (.ifCond .ne 69, 3) := by decide +kernel
theorem dX12_findRows_24 : decode cX12_findRows 24 = .ok (.aload_n 0, 1) := by decide +kernel
theorem dX12_findRows_25 : decode cX12_findRows 25 = .ok (.invokevirtual 282, 3) := by decide +kernel
theorem dX12_findRows_28 : decode cX12_findRows 28 = .ok (.aload_n 0, 1) := by decide +kernel
theorem dX12_findRows_29 : decode cX12_findRows 29 = .ok (.getfield 50, 3) := by decide +kernel
theorem dX12_findRows_32 : decode cX12_findRows 32 = .ok (.iconst 3, 1) := by decide +kernel
theorem dX12_findRows_33 : decode cX12_findRows 33 = .ok (.aload_n 0, 1) := by decide +kernel
theorem dX12_findRows_34 : decode cX12_findRows 34 = .ok (.getfield 338, 3) := by decide +kernel
theorem dX12_findRows_37 : decode cX12_findRows 37 = .ok (.imul, 1) := by decide +kernel
theorem dX12_findRows_38 : decode cX12_findRows 38 = .ok (.aload_n 0, 1) := by decide +kernel
theorem dX12_findRows_39 : decode cX12_findRows 39 = .ok (.getfield 235, 3) := by decide +kernel
theorem dX12_findRows_42 : decode cX12_findRows 42 = .ok (.iastore, 1) := by decide +kernel
theorem dX12_findRows_43 : decode cX12_findRows 43 = .ok (.aload_n 0, 1) := by decide +kernel
theorem dX12_findRows_44 : decode cX12_findRows 44 = .ok (.getfield 50, 3) := by decide +kernel
theorem dX12_findRows_47 : decode cX12_findRows 47 = .ok (.iconst 3, 1) := by decide +kernel
theorem dX12_findRows_48 : decode cX12_findRows 48 = .ok (.aload_n 0, 1) := by decide +kernel
theorem dX12_findRows_49 : decode cX12_findRows 49 = .ok (.getfield 338, 3) := by decide +kernel
theorem dX12_findRows_52 : decode cX12_findRows 52 = .ok (.imul, 1) := by decide +kernel
theorem dX12_findRows_53 : decode cX12_findRows 53 = .ok (.iconst 1, 1) := by decide +kernel
theorem dX12_findRows_54 : decode cX12_findRows 54 = .ok (.iadd, 1) := by decide +kernel
theorem dX12_findRows_55 : decode cX12_findRows 55 = .ok (.aload_n 0, 1) := by decide +kernel
theorem dX12_findRows_56 : decode cX12_findRows 56 = .ok (.getfield 238, 3) := by decide +kernel
theorem dX12_findRows_59 : decode cX12_findRows 59 = .ok (.iastore, 1) := by decide +kernel
theorem dX12_findRows_60 : decode cX12_findRows 60 = .ok (.aload_n 0, 1) := by decide +kernel
theorem dX12_findRows_61 : decode cX12_findRows 61 = .ok (.getfield 50, 3) := by decide +kernel
theorem dX12_findRows_64 : decode cX12_findRows 64 = .ok (.iconst 3, 1) := by decide +kernel
theorem dX12_findRows_65 : decode cX12_findRows 65 = .ok (.aload_n 0, 1) := by decide +kernel
theorem dX12_findRows_66 : decode cX12_findRows 66 = .ok (.getfield 338, 3) := by decide +kernel
theorem dX12_findRows_69 : decode cX12_findRows 69 = .ok (.imul, 1) := by decide +kernel
theorem dX12_findRows_70 : decode cX12_findRows 70 = .ok (.iconst 2, 1) := by decide +kernel
theorem dX12_findRows_71 : decode cX12_findRows 71 = .ok (.iadd, 1) := by decide +kernel
theorem dX12_findRows_72 : decode cX12_findRows 72 = .ok (.aload_n 0, 1) := by decide +kernel
theorem dX12_findRows_73 : decode cX12_findRows 73 = .ok (.getfield 241, 3) := by decide +kernel
theorem dX12_findRows_76 : decode cX12_findRows 76 = .ok (.iastore, 1) := by decide +kernel
theorem dX12_findRows_77 : decode cX12_findRows 77 = .ok (.aload_n 0, 1) := by decide +kernel
theorem dX12_findRows_78 : decode cX12_findRows 78 = .ok (.dup, 1) := by decide +kernel
theorem dX12_findRows_79 : decode cX12_findRows 79 = .ok (.getfield 338, 3) := by decide +kernel
theorem dX12_findRows_82 : decode cX12_findRows 82 = .ok (.iconst 1, 1) := by decide +kernel
theorem dX12_findRows_83 : decode cX12_findRows 83 = .ok (.iadd, 1) := by decide +kernel
theorem dX12_findRows_84 : decode cX12_findRows 84 = .ok (.putfield 338, 3) := by decide +kernel
theorem dX12_findRows_87 : decode cX12_findRows 87 = .ok (.goto (-78), 3) := by decide +kernel
theorem dX12_findRows_90 : decode cX12_findRows 90 = .ok (.return_, 1) := by decide +kernel
theorem dX12_prove_0 : decode cX12_prove 0 = .ok (.iload_n 1, 1) := by decide +kernel
theorem dX12_prove_1 : decode cX12_prove 1 = .ok (.iconst 1, 1) := by decide +kernel
theorem dX12_prove_2 : decode cX12_prove 2 = .ok (.bipush 20, 2) := by decide +kernel
theorem dX12_prove_4 : decode cX12_prove 4 = .ok (.invokestatic 84, 3) := by decide +kernel
theorem dX12_prove_7 : decode cX12_prove 7 = .ok (.ifCond .ne 5, 3) := by decide +kernel
theorem dX12_prove_10 : decode cX12_prove 10 = .ok (.iconst (-1), 1) := by decide +kernel
theorem dX12_prove_11 : decode cX12_prove 11 = .ok (.ireturn, 1) := by decide +kernel
theorem dX12_prove_12 : decode cX12_prove 12 = .ok (.aload_n 0, 1) := by decide +kernel
theorem dX12_prove_13 : decode cX12_prove 13 = .ok (.getfield 26, 3) := by decide +kernel
theorem dX12_prove_16 : decode cX12_prove 16 = .ok (.iconst 0, 1) := by decide +kernel
theorem dX12_prove_17 : decode cX12_prove 17 = .ok (.iaload, 1) := by decide +kernel
theorem dX12_prove_18 : decode cX12_prove 18 = .ok (.ifCond .ge 6, 3) := by decide +kernel
theorem dX12_prove_21 : decode cX12_prove 21 = .ok (.bipush (-4), 2) := by decide +kernel
theorem dX12_prove_23 : decode cX12_prove 23 = .ok (.ireturn, 1) := by decide +kernel
theorem dX12_prove_24 : decode cX12_prove 24 = .ok (.aload_n 0, 1) := by decide +kernel
theorem dX12_prove_25 : decode cX12_prove 25 = .ok (.iload_n 1, 1) := by decide +kernel
theorem dX12_prove_26 : decode cX12_prove 26 = .ok (.invokevirtual 341, 3) := by decide +kernel
theorem dX12_prove_29 : decode cX12_prove 29 = .ok (.aload_n 0, 1) := by decide +kernel
theorem dX12_prove_30 : decode cX12_prove 30 = .ok (.aload_n 0, 1) := by decide +kernel
theorem dX12_prove_31 : decode cX12_prove 31 = .ok (.getfield 338, 3) := by decide +kernel
theorem dX12_prove_34 : decode cX12_prove 34 = .ok (.putfield 198, 3) := by decide +kernel
theorem dX12_prove_37 : decode cX12_prove 37 = .ok (.iconst 0, 1) := by decide +kernel
theorem dX12_prove_38 : decode cX12_prove 38 = .ok (.istore_n 2, 1) := by decide +kernel
theorem dX12_prove_39 : decode cX12_prove 39 = .ok (.iload_n 2, 1) := by decide +kernel
theorem dX12_prove_40 : decode cX12_prove 40 = .ok (.iconst 3, 1) := by decide +kernel
theorem dX12_prove_41 : decode cX12_prove 41 = .ok (.aload_n 0, 1) := by decide +kernel
theorem dX12_prove_42 : decode cX12_prove 42 = .ok (.getfield 198, 3) := by decide +kernel
theorem dX12_prove_45 : decode cX12_prove 45 = .ok (.imul, 1) := by decide +kernel
theorem dX12_prove_46 : decode cX12_prove 46 = .ok (.if_icmp .ge 21, 3) := by decide +kernel
theorem dX12_prove_49 : decode cX12_prove 49 = .ok (.aload_n 0, 1) := by decide +kernel
theorem dX12_prove_50 : decode cX12_prove 50 = .ok (.getfield 47, 3) := by decide +kernel
theorem dX12_prove_53 : decode cX12_prove 53 = .ok (.iload_n 2, 1) := by decide +kernel
theorem dX12_prove_54 : decode cX12_prove 54 = .ok (.aload_n 0, 1) := by decide +kernel
theorem dX12_prove_55 : decode cX12_prove 55 = .ok (.getfield 50, 3) := by decide +kernel
theorem dX12_prove_58 : decode cX12_prove 58 = .ok (.iload_n 2, 1) := by decide +kernel
theorem dX12_prove_59 : decode cX12_prove 59 = .ok (.iaload, 1) := by decide +kernel
theorem dX12_prove_60 : decode cX12_prove 60 = .ok (.iastore, 1) := by decide +kernel
theorem dX12_prove_61 : decode cX12_prove 61 = .ok (.iinc 2 1, 3) := by decide +kernel
theorem dX12_prove_64 : decode cX12_prove 64 = .ok (.goto (-25), 3) := by decide +kernel
theorem dX12_prove_67 : decode cX12_prove 67 = .ok (.aload_n 0, 1) := by decide +kernel
theorem dX12_prove_68 : decode cX12_prove 68 = .ok (.getfield 198, 3) := by decide +kernel
theorem dX12_prove_71 : decode cX12_prove 71 = .ok (.ireturn, 1) := by decide +kernel
theorem dX12_isRow_0 : decode cX12_isRow 0 = .ok (.iload_n 1, 1) := by decide +kernel
theorem dX12_isRow_1 : decode cX12_isRow 1 = .ok (.iconst 0, 1) := by decide +kernel
theorem dX12_isRow_2 : decode cX12_isRow 2 = .ok (.aload_n 0, 1) := by decide +kernel
theorem dX12_isRow_3 : decode cX12_isRow 3 = .ok (.getfield 198, 3) := by decide +kernel
theorem dX12_isRow_6 : decode cX12_isRow 6 = .ok (.iconst 1, 1) := by decide +kernel
theorem dX12_isRow_7 : decode cX12_isRow 7 = .ok (.isub, 1) := by decide +kernel
theorem dX12_isRow_8 : decode cX12_isRow 8 = .ok (.invokestatic 84, 3) := by decide +kernel
theorem dX12_isRow_11 : decode cX12_isRow 11 = .ok (.ifCond .eq 16, 3) := by decide +kernel
theorem dX12_isRow_14 : decode cX12_isRow 14 = .ok (.iload_n 2, 1) := by decide +kernel
theorem dX12_isRow_15 : decode cX12_isRow 15 = .ok (.iconst 0, 1) := by decide +kernel
theorem dX12_isRow_16 : decode cX12_isRow 16 = .ok (.iconst 2, 1) := by decide +kernel
theorem dX12_isRow_17 : decode cX12_isRow 17 = .ok (.invokestatic 84, 3) := by decide +kernel
theorem dX12_isRow_20 : decode cX12_isRow 20 = .ok (.ifCond .eq 7, 3) := by decide +kernel
theorem dX12_isRow_23 : decode cX12_isRow 23 = .ok (.iconst 1, 1) := by decide +kernel
theorem dX12_isRow_24 : decode cX12_isRow 24 = .ok (.goto 4, 3) := by decide +kernel
theorem dX12_isRow_27 : decode cX12_isRow 27 = .ok (.iconst 0, 1) := by decide +kernel
theorem dX12_isRow_28 : decode cX12_isRow 28 = .ok (.ireturn, 1) := by decide +kernel
theorem dX12_row_0 : decode cX12_row 0 = .ok (.aload_n 0, 1) := by decide +kernel
theorem dX12_row_1 : decode cX12_row 1 = .ok (.iload_n 1, 1) := by decide +kernel
theorem dX12_row_2 : decode cX12_row 2 = .ok (.iload_n 2, 1) := by decide +kernel
theorem dX12_row_3 : decode cX12_row 3 = .ok (.invokevirtual 344, 3) := by decide +kernel
theorem dX12_row_6 : decode cX12_row 6 = .ok (.ifCond .eq 16, 3) := by decide +kernel
theorem dX12_row_9 : decode cX12_row 9 = .ok (.aload_n 0, 1) := by decide +kernel
theorem dX12_row_10 : decode cX12_row 10 = .ok (.getfield 47, 3) := by decide +kernel
theorem dX12_row_13 : decode cX12_row 13 = .ok (.iconst 3, 1) := by decide +kernel
theorem dX12_row_14 : decode cX12_row 14 = .ok (.iload_n 1, 1) := by decide +kernel
theorem dX12_row_15 : decode cX12_row 15 = .ok (.imul, 1) := by decide +kernel
theorem dX12_row_16 : decode cX12_row 16 = .ok (.iload_n 2, 1) := by decide +kernel
theorem dX12_row_17 : decode cX12_row 17 = .ok (.iadd, 1) := by decide +kernel
theorem dX12_row_18 : decode cX12_row 18 = .ok (.iaload, 1) := by decide +kernel
theorem dX12_row_19 : decode cX12_row 19 = .ok (.goto 6, 3) := by decide +kernel
theorem dX12_row_22 : decode cX12_row 22 = .ok (.ldc_w 297, 3) := by decide +kernel
theorem dX12_row_25 : decode cX12_row 25 = .ok (.ireturn, 1) := by decide +kernel
theorem dX12_alterRow_0 : decode cX12_alterRow 0 = .ok (.aload_n 0, 1) := by decide +kernel
theorem dX12_alterRow_1 : decode cX12_alterRow 1 = .ok (.iload_n 1, 1) := by decide +kernel
theorem dX12_alterRow_2 : decode cX12_alterRow 2 = .ok (.iload_n 2, 1) := by decide +kernel
theorem dX12_alterRow_3 : decode cX12_alterRow 3 = .ok (.invokevirtual 344, 3) := by decide +kernel
theorem dX12_alterRow_6 : decode cX12_alterRow 6 = .ok (.ifCond .ne 7, 3) := by decide +kernel
theorem dX12_alterRow_9 : decode cX12_alterRow 9 = .ok (.ldc_w 297, 3) := by decide +kernel
theorem dX12_alterRow_12 : decode cX12_alterRow 12 = .ok (.ireturn, 1) := by decide +kernel
theorem dX12_alterRow_13 : decode cX12_alterRow 13 = .ok (.aload_n 0, 1) := by decide +kernel
theorem dX12_alterRow_14 : decode cX12_alterRow 14 = .ok (.getfield 47, 3) := by decide +kernel
theorem dX12_alterRow_17 : decode cX12_alterRow 17 = .ok (.iconst 3, 1) := by decide +kernel
theorem dX12_alterRow_18 : decode cX12_alterRow 18 = .ok (.iload_n 1, 1) := by decide +kernel
theorem dX12_alterRow_19 : decode cX12_alterRow 19 = .ok (.imul, 1) := by decide +kernel
theorem dX12_alterRow_20 : decode cX12_alterRow 20 = .ok (.iload_n 2, 1) := by decide +kernel
theorem dX12_alterRow_21 : decode cX12_alterRow 21 = .ok (.iadd, 1) := by decide +kernel
theorem dX12_alterRow_22 : decode cX12_alterRow 22 = .ok (.iaload, 1) := by decide +kernel
theorem dX12_alterRow_23 : decode cX12_alterRow 23 = .ok (.istore 4, 2) := by decide +kernel
theorem dX12_alterRow_25 : decode cX12_alterRow 25 = .ok (.aload_n 0, 1) := by decide +kernel
theorem dX12_alterRow_26 : decode cX12_alterRow 26 = .ok (.getfield 47, 3) := by decide +kernel
theorem dX12_alterRow_29 : decode cX12_alterRow 29 = .ok (.iconst 3, 1) := by decide +kernel
theorem dX12_alterRow_30 : decode cX12_alterRow 30 = .ok (.iload_n 1, 1) := by decide +kernel
theorem dX12_alterRow_31 : decode cX12_alterRow 31 = .ok (.imul, 1) := by decide +kernel
theorem dX12_alterRow_32 : decode cX12_alterRow 32 = .ok (.iload_n 2, 1) := by decide +kernel
theorem dX12_alterRow_33 : decode cX12_alterRow 33 = .ok (.iadd, 1) := by decide +kernel
theorem dX12_alterRow_34 : decode cX12_alterRow 34 = .ok (.iload_n 3, 1) := by decide +kernel
theorem dX12_alterRow_35 : decode cX12_alterRow 35 = .ok (.iastore, 1) := by decide +kernel
theorem dX12_alterRow_36 : decode cX12_alterRow 36 = .ok (.iload 4, 2) := by decide +kernel
theorem dX12_alterRow_38 : decode cX12_alterRow 38 = .ok (.ireturn, 1) := by decide +kernel
theorem dX12_judge_0 : decode cX12_judge 0 = .ok (.aload_n 0, 1) := by decide +kernel
theorem dX12_judge_1 : decode cX12_judge 1 = .ok (.getfield 26, 3) := by decide +kernel
theorem dX12_judge_4 : decode cX12_judge 4 = .ok (.iconst 0, 1) := by decide +kernel
theorem dX12_judge_5 : decode cX12_judge 5 = .ok (.iaload, 1) := by decide +kernel
theorem dX12_judge_6 : decode cX12_judge 6 = .ok (.ifCond .ge 6, 3) := by decide +kernel
theorem dX12_judge_9 : decode cX12_judge 9 = .ok (.bipush (-4), 2) := by decide +kernel
theorem dX12_judge_11 : decode cX12_judge 11 = .ok (.ireturn, 1) := by decide +kernel
theorem dX12_judge_12 : decode cX12_judge 12 = .ok (.aload_n 0, 1) := by decide +kernel
theorem dX12_judge_13 : decode cX12_judge 13 = .ok (.aload_n 0, 1) := by decide +kernel
theorem dX12_judge_14 : decode cX12_judge 14 = .ok (.getfield 198, 3) := by decide +kernel
theorem dX12_judge_17 : decode cX12_judge 17 = .ok (.invokevirtual 341, 3) := by decide +kernel
theorem dX12_judge_20 : decode cX12_judge 20 = .ok (.iconst 0, 1) := by decide +kernel
theorem dX12_judge_21 : decode cX12_judge 21 = .ok (.istore_n 1, 1) := by decide +kernel
theorem dX12_judge_22 : decode cX12_judge 22 = .ok (.iload_n 1, 1) := by decide +kernel
theorem dX12_judge_23 : decode cX12_judge 23 = .ok (.aload_n 0, 1) := by decide +kernel
theorem dX12_judge_24 : decode cX12_judge 24 = .ok (.getfield 198, 3) := by decide +kernel
theorem dX12_judge_27 : decode cX12_judge 27 = .ok (.if_icmp .ge 77, 3) := by decide +kernel
theorem dX12_judge_30 : decode cX12_judge 30 = .ok (.iload_n 1, 1) := by decide +kernel
theorem dX12_judge_31 : decode cX12_judge 31 = .ok (.aload_n 0, 1) := by decide +kernel
theorem dX12_judge_32 : decode cX12_judge 32 = .ok (.getfield 338, 3) := by decide +kernel
theorem dX12_judge_35 : decode cX12_judge 35 = .ok (.if_icmp .ge 7, 3) := by decide +kernel
theorem dX12_judge_38 : decode cX12_judge 38 = .ok (.iconst 1, 1) := by decide +kernel
theorem dX12_judge_39 : decode cX12_judge 39 = .ok (.goto 4, 3) := by decide +kernel
theorem dX12_judge_42 : decode cX12_judge 42 = .ok (.iconst 0, 1) := by decide +kernel
theorem dX12_judge_43 : decode cX12_judge 43 = .ok (.istore_n 2, 1) := by decide +kernel
theorem dX12_judge_44 : decode cX12_judge 44 = .ok (.iconst 0, 1) := by decide +kernel
theorem dX12_judge_45 : decode cX12_judge 45 = .ok (.istore_n 3, 1) := by decide +kernel
theorem dX12_judge_46 : decode cX12_judge 46 = .ok (.iload_n 3, 1) := by decide +kernel
theorem dX12_judge_47 : decode cX12_judge 47 = .ok (.iconst 3, 1) := by decide +kernel
theorem dX12_judge_48 : decode cX12_judge 48 = .ok (.if_icmp .ge 42, 3) := by decide +kernel
theorem dX12_judge_51 : decode cX12_judge 51 = .ok (.iload_n 2, 1) := by decide +kernel
theorem dX12_judge_52 : decode cX12_judge 52 = .ok (.ifCond .eq 38, 3) := by decide +kernel
theorem dX12_judge_55 : decode cX12_judge 55 = .ok (.aload_n 0, 1) := by decide +kernel
theorem dX12_judge_56 : decode cX12_judge 56 = .ok (.getfield 47, 3) := by decide +kernel
theorem dX12_judge_59 : decode cX12_judge 59 = .ok (.iconst 3, 1) := by decide +kernel
theorem dX12_judge_60 : decode cX12_judge 60 = .ok (.iload_n 1, 1) := by decide +kernel
theorem dX12_judge_61 : decode cX12_judge 61 = .ok (.imul, 1) := by decide +kernel
theorem dX12_judge_62 : decode cX12_judge 62 = .ok (.iload_n 3, 1) := by decide +kernel
theorem dX12_judge_63 : decode cX12_judge 63 = .ok (.iadd, 1) := by decide +kernel
theorem dX12_judge_64 : decode cX12_judge 64 = .ok (.iaload, 1) := by decide +kernel
theorem dX12_judge_65 : decode cX12_judge 65 = .ok (.aload_n 0, 1) := by decide +kernel
theorem dX12_judge_66 : decode cX12_judge 66 = .ok (.getfield 50, 3) := by decide +kernel
theorem dX12_judge_69 : decode cX12_judge 69 = .ok (.iconst 3, 1) := by decide +kernel
theorem dX12_judge_70 : decode cX12_judge 70 = .ok (.iload_n 1, 1) := by decide +kernel
theorem dX12_judge_71 : decode cX12_judge 71 = .ok (.imul, 1) := by decide +kernel
theorem dX12_judge_72 : decode cX12_judge 72 = .ok (.iload_n 3, 1) := by decide +kernel
theorem dX12_judge_73 : decode cX12_judge 73 = .ok (.iadd, 1) := by decide +kernel
theorem dX12_judge_74 : decode cX12_judge 74 = .ok (.iaload, 1) := by decide +kernel
theorem dX12_judge_75 : decode cX12_judge 75 = .ok (.if_icmp .ne 7, 3) := by decide +kernel
theorem dX12_judge_78 : decode cX12_judge 78 = .ok (.iconst 1, 1) := by decide +kernel
theorem dX12_judge_79 : decode cX12_judge 79 = .ok (.goto 4, 3) := by decide +kernel
theorem dX12_judge_82 : decode cX12_judge 82 = .ok (.iconst 0, 1) := by decide +kernel
theorem dX12_judge_83 : decode cX12_judge 83 = .ok (.istore_n 2, 1) := by decide +kernel
theorem dX12_judge_84 : decode cX12_judge 84 = .ok (.iinc 3 1, 3) := by decide +kernel
theorem dX12_judge_87 : decode cX12_judge 87 = .ok (.goto (-41), 3) := by decide +kernel
theorem dX12_judge_90 : decode cX12_judge 90 = .ok (.iload_n 2, 1) := by decide +kernel
theorem dX12_judge_91 : decode cX12_judge 91 = .ok (.ifCond .ne 7, 3) := by decide +kernel
theorem dX12_judge_94 : decode cX12_judge 94 = .ok (.iload_n 1, 1) := by decide +kernel
theorem dX12_judge_95 : decode cX12_judge 95 = .ok (.iconst 1, 1) := by decide +kernel
theorem dX12_judge_96 : decode cX12_judge 96 = .ok (.iadd, 1) := by decide +kernel
theorem dX12_judge_97 : decode cX12_judge 97 = .ok (.ireturn, 1) := by decide +kernel
theorem dX12_judge_98 : decode cX12_judge 98 = .ok (.iinc 1 1, 3) := by decide +kernel
theorem dX12_judge_101 : decode cX12_judge 101 = .ok (.goto (-79), 3) := by decide +kernel
theorem dX12_judge_104 : decode cX12_judge 104 = .ok (.iconst 0, 1) := by decide +kernel
theorem dX12_judge_105 : decode cX12_judge 105 = .ok (.ireturn, 1) := by decide +kernel
theorem dX12_isShelf_0 : decode cX12_isShelf 0 = .ok (.iload_n 0, 1) := by decide +kernel
theorem dX12_isShelf_1 : decode cX12_isShelf 1 = .ok (.iconst 0, 1) := by decide +kernel
theorem dX12_isShelf_2 : decode cX12_isShelf 2 = .ok (.iconst 3, 1) := by decide +kernel
theorem dX12_isShelf_3 : decode cX12_isShelf 3 = .ok (.invokestatic 84, 3) := by decide +kernel
theorem dX12_isShelf_6 : decode cX12_isShelf 6 = .ok (.ireturn, 1) := by decide +kernel
theorem dX12_sheet_0 : decode cX12_sheet 0 = .ok (.iload_n 1, 1) := by decide +kernel
theorem dX12_sheet_1 : decode cX12_sheet 1 = .ok (.invokestatic 328, 3) := by decide +kernel
theorem dX12_sheet_4 : decode cX12_sheet 4 = .ok (.ifCond .eq 22, 3) := by decide +kernel
theorem dX12_sheet_7 : decode cX12_sheet 7 = .ok (.iload_n 2, 1) := by decide +kernel
theorem dX12_sheet_8 : decode cX12_sheet 8 = .ok (.iconst (-1), 1) := by decide +kernel
theorem dX12_sheet_9 : decode cX12_sheet 9 = .ok (.iconst 3, 1) := by decide +kernel
theorem dX12_sheet_10 : decode cX12_sheet 10 = .ok (.invokestatic 84, 3) := by decide +kernel
theorem dX12_sheet_13 : decode cX12_sheet 13 = .ok (.ifCond .eq 13, 3) := by decide +kernel
theorem dX12_sheet_16 : decode cX12_sheet 16 = .ok (.iload_n 2, 1) := by decide +kernel
theorem dX12_sheet_17 : decode cX12_sheet 17 = .ok (.ifCond .lt 11, 3) := by decide +kernel
theorem dX12_sheet_20 : decode cX12_sheet 20 = .ok (.iload_n 3, 1) := by decide +kernel
theorem dX12_sheet_21 : decode cX12_sheet 21 = .ok (.bipush 40, 2) := by decide +kernel
theorem dX12_sheet_23 : decode cX12_sheet 23 = .ok (.if_icmp .le 5, 3) := by decide +kernel
theorem dX12_sheet_26 : decode cX12_sheet 26 = .ok (.iconst (-1), 1) := by decide +kernel
theorem dX12_sheet_27 : decode cX12_sheet 27 = .ok (.ireturn, 1) := by decide +kernel
theorem dX12_sheet_28 : decode cX12_sheet 28 = .ok (.iload_n 2, 1) := by decide +kernel
theorem dX12_sheet_29 : decode cX12_sheet 29 = .ok (.ifCond .lt 10, 3) := by decide +kernel
theorem dX12_sheet_32 : decode cX12_sheet 32 = .ok (.iload_n 3, 1) := by decide +kernel
theorem dX12_sheet_33 : decode cX12_sheet 33 = .ok (.ifCond .ge 6, 3) := by decide +kernel
theorem dX12_sheet_36 : decode cX12_sheet 36 = .ok (.bipush (-14), 2) := by decide +kernel
theorem dX12_sheet_38 : decode cX12_sheet 38 = .ok (.ireturn, 1) := by decide +kernel
theorem dX12_sheet_39 : decode cX12_sheet 39 = .ok (.aload_n 0, 1) := by decide +kernel
theorem dX12_sheet_40 : decode cX12_sheet 40 = .ok (.getfield 53, 3) := by decide +kernel
theorem dX12_sheet_43 : decode cX12_sheet 43 = .ok (.iload_n 1, 1) := by decide +kernel
theorem dX12_sheet_44 : decode cX12_sheet 44 = .ok (.iload_n 2, 1) := by decide +kernel
theorem dX12_sheet_45 : decode cX12_sheet 45 = .ok (.iastore, 1) := by decide +kernel
theorem dX12_sheet_46 : decode cX12_sheet 46 = .ok (.aload_n 0, 1) := by decide +kernel
theorem dX12_sheet_47 : decode cX12_sheet 47 = .ok (.getfield 56, 3) := by decide +kernel
theorem dX12_sheet_50 : decode cX12_sheet 50 = .ok (.iload_n 1, 1) := by decide +kernel
theorem dX12_sheet_51 : decode cX12_sheet 51 = .ok (.iload_n 2, 1) := by decide +kernel
theorem dX12_sheet_52 : decode cX12_sheet 52 = .ok (.ifCond .ge 7, 3) := by decide +kernel
theorem dX12_sheet_55 : decode cX12_sheet 55 = .ok (.iconst 0, 1) := by decide +kernel
theorem dX12_sheet_56 : decode cX12_sheet 56 = .ok (.goto 4, 3) := by decide +kernel
theorem dX12_sheet_59 : decode cX12_sheet 59 = .ok (.iload_n 3, 1) := by decide +kernel
theorem dX12_sheet_60 : decode cX12_sheet 60 = .ok (.iastore, 1) := by decide +kernel
theorem dX12_sheet_61 : decode cX12_sheet 61 = .ok (.iconst 0, 1) := by decide +kernel
theorem dX12_sheet_62 : decode cX12_sheet 62 = .ok (.istore 4, 2) := by decide +kernel
theorem dX12_sheet_64 : decode cX12_sheet 64 = .ok (.iload 4, 2) := by decide +kernel
theorem dX12_sheet_66 : decode cX12_sheet 66 = .ok (.bipush 40, 2) := by decide +kernel
theorem dX12_sheet_68 : decode cX12_sheet 68 = .ok (.if_icmp .ge 22, 3) := by decide +kernel
theorem dX12_sheet_71 : decode cX12_sheet 71 = .ok (.aload_n 0, 1) := by decide +kernel
theorem dX12_sheet_72 : decode cX12_sheet 72 = .ok (.getfield 59, 3) := by decide +kernel
theorem dX12_sheet_75 : decode cX12_sheet 75 = .ok (.bipush 40, 2) := by decide +kernel
theorem dX12_sheet_77 : decode cX12_sheet 77 = .ok (.iload_n 1, 1) := by decide +kernel
theorem dX12_sheet_78 : decode cX12_sheet 78 = .ok (.imul, 1) := by decide +kernel
theorem dX12_sheet_79 : decode cX12_sheet 79 = .ok (.iload 4, 2) := by decide +kernel
theorem dX12_sheet_81 : decode cX12_sheet 81 = .ok (.iadd, 1) := by decide +kernel
theorem dX12_sheet_82 : decode cX12_sheet 82 = .ok (.lconst 0, 1) := by decide +kernel
theorem dX12_sheet_83 : decode cX12_sheet 83 = .ok (.lastore, 1) := by decide +kernel
theorem dX12_sheet_84 : decode cX12_sheet 84 = .ok (.iinc 4 1, 3) := by decide +kernel
theorem dX12_sheet_87 : decode cX12_sheet 87 = .ok (.goto (-23), 3) := by decide +kernel
theorem dX12_sheet_90 : decode cX12_sheet 90 = .ok (.iconst 1, 1) := by decide +kernel
theorem dX12_sheet_91 : decode cX12_sheet 91 = .ok (.ireturn, 1) := by decide +kernel
theorem dX12_put_0 : decode cX12_put 0 = .ok (.iload_n 1, 1) := by decide +kernel
theorem dX12_put_1 : decode cX12_put 1 = .ok (.invokestatic 328, 3) := by decide +kernel
theorem dX12_put_4 : decode cX12_put 4 = .ok (.ifCond .ne 5, 3) := by decide +kernel
theorem dX12_put_7 : decode cX12_put 7 = .ok (.iconst (-1), 1) := by decide +kernel
theorem dX12_put_8 : decode cX12_put 8 = .ok (.ireturn, 1) := by decide +kernel
theorem dX12_put_9 : decode cX12_put 9 = .ok (.aload_n 0, 1) := by decide +kernel
theorem dX12_put_10 : decode cX12_put 10 = .ok (.getfield 53, 3) := by decide +kernel
theorem dX12_put_13 : decode cX12_put 13 = .ok (.iload_n 1, 1) := by decide +kernel
theorem dX12_put_14 : decode cX12_put 14 = .ok (.iaload, 1) := by decide +kernel
theorem dX12_put_15 : decode cX12_put 15 = .ok (.ifCond .ge 6, 3) := by decide +kernel
theorem dX12_put_18 : decode cX12_put 18 = .ok (.bipush (-11), 2) := by decide +kernel
theorem dX12_put_20 : decode cX12_put 20 = .ok (.ireturn, 1) := by decide +kernel
theorem dX12_put_21 : decode cX12_put 21 = .ok (.iload_n 2, 1) := by decide +kernel
theorem dX12_put_22 : decode cX12_put 22 = .ok (.iconst 0, 1) := by decide +kernel
theorem dX12_put_23 : decode cX12_put 23 = .ok (.aload_n 0, 1) := by decide +kernel
theorem dX12_put_24 : decode cX12_put 24 = .ok (.getfield 56, 3) := by decide +kernel
theorem dX12_put_27 : decode cX12_put 27 = .ok (.iload_n 1, 1) := by decide +kernel
theorem dX12_put_28 : decode cX12_put 28 = .ok (.iaload, 1) := by decide +kernel
theorem dX12_put_29 : decode cX12_put 29 = .ok (.iconst 1, 1) := by decide +kernel
theorem dX12_put_30 : decode cX12_put 30 = .ok (.isub, 1) := by decide +kernel
theorem dX12_put_31 : decode cX12_put 31 = .ok (.invokestatic 84, 3) := by decide +kernel
theorem dX12_put_34 : decode cX12_put 34 = .ok (.ifCond .ne 6, 3) := by decide +kernel
theorem dX12_put_37 : decode cX12_put 37 = .ok (.bipush (-12), 2) := by decide +kernel
theorem dX12_put_39 : decode cX12_put 39 = .ok (.ireturn, 1) := by decide +kernel
theorem dX12_put_40 : decode cX12_put 40 = .ok (.aload_n 0, 1) := by decide +kernel
theorem dX12_put_41 : decode cX12_put 41 = .ok (.getfield 59, 3) := by decide +kernel
theorem dX12_put_44 : decode cX12_put 44 = .ok (.bipush 40, 2) := by decide +kernel
theorem dX12_put_46 : decode cX12_put 46 = .ok (.iload_n 1, 1) := by decide +kernel
theorem dX12_put_47 : decode cX12_put 47 = .ok (.imul, 1) := by decide +kernel
theorem dX12_put_48 : decode cX12_put 48 = .ok (.iload_n 2, 1) := by decide +kernel
theorem dX12_put_49 : decode cX12_put 49 = .ok (.iadd, 1) := by decide +kernel
theorem dX12_put_50 : decode cX12_put 50 = .ok (.aload_n 0, 1) := by decide +kernel
theorem dX12_put_51 : decode cX12_put 51 = .ok (.getfield 53, 3) := by decide +kernel
theorem dX12_put_54 : decode cX12_put 54 = .ok (.iload_n 1, 1) := by decide +kernel
theorem dX12_put_55 : decode cX12_put 55 = .ok (.iaload, 1) := by decide +kernel
theorem dX12_put_56 : decode cX12_put 56 = .ok (.ifCond .ne 9, 3) := by decide +kernel
theorem dX12_put_59 : decode cX12_put 59 = .ok (.iload_n 3, 1) := by decide +kernel
theorem dX12_put_60 : decode cX12_put 60 = .ok (.i2b, 1) := by decide +kernel
theorem dX12_put_61 : decode cX12_put 61 = .ok (.i2l, 1) := by decide +kernel
theorem dX12_put_62 : decode cX12_put 62 = .ok (.goto 21, 3) := by decide +kernel
theorem dX12_put_65 : decode cX12_put 65 = .ok (.aload_n 0, 1) := by decide +kernel
theorem dX12_put_66 : decode cX12_put 66 = .ok (.getfield 53, 3) := by decide +kernel
theorem dX12_put_69 : decode cX12_put 69 = .ok (.iload_n 1, 1) := by decide +kernel
theorem dX12_put_70 : decode cX12_put 70 = .ok (.iaload, 1) := by decide +kernel
theorem dX12_put_71 : decode cX12_put 71 = .ok (.iconst 1, 1) := by decide +kernel
theorem dX12_put_72 : decode cX12_put 72 = .ok (.if_icmp .ne 9, 3) := by decide +kernel
theorem dX12_put_75 : decode cX12_put 75 = .ok (.iload_n 3, 1) := by decide +kernel
theorem dX12_put_76 : decode cX12_put 76 = .ok (.i2s, 1) := by decide +kernel
theorem dX12_put_77 : decode cX12_put 77 = .ok (.i2l, 1) := by decide +kernel
theorem dX12_put_78 : decode cX12_put 78 = .ok (.goto 5, 3) := by decide +kernel
theorem dX12_put_81 : decode cX12_put 81 = .ok (.iload_n 3, 1) := by decide +kernel
theorem dX12_put_82 : decode cX12_put 82 = .ok (.i2l, 1) := by decide +kernel
theorem dX12_put_83 : decode cX12_put 83 = .ok (.lastore, 1) := by decide +kernel
theorem dX12_put_84 : decode cX12_put 84 = .ok (.iconst 1, 1) := by decide +kernel
theorem dX12_put_85 : decode cX12_put 85 = .ok (.ireturn, 1) := by decide +kernel
theorem dX12_lacksSort_0 : decode cX12_lacksSort 0 = .ok (.aload_n 0, 1) := by decide +kernel
theorem dX12_lacksSort_1 : decode cX12_lacksSort 1 = .ok (.getfield 53, 3) := by decide +kernel
theorem dX12_lacksSort_4 : decode cX12_lacksSort 4 = .ok (.iload_n 1, 1) := by decide +kernel
theorem dX12_lacksSort_5 : decode cX12_lacksSort 5 = .ok (.iaload, 1) := by decide +kernel
theorem dX12_lacksSort_6 : decode cX12_lacksSort 6 = .ok (.ifCond .ge 8, 3) := by decide +kernel
theorem dX12_lacksSort_9 : decode cX12_lacksSort 9 = .ok (.bipush (-11), 2) := by decide +kernel
theorem dX12_lacksSort_11 : decode cX12_lacksSort 11 = .ok (.goto 19, 3) := by decide +kernel
theorem dX12_lacksSort_14 : decode cX12_lacksSort 14 = .ok (.aload_n 0, 1) := by decide +kernel
theorem dX12_lacksSort_15 : decode cX12_lacksSort 15 = .ok (.getfield 53, 3) := by decide +kernel
theorem dX12_lacksSort_18 : decode cX12_lacksSort 18 = .ok (.iload_n 1, 1) := by decide +kernel
theorem dX12_lacksSort_19 : decode cX12_lacksSort 19 = .ok (.iaload, 1) := by decide +kernel
theorem dX12_lacksSort_20 : decode cX12_lacksSort 20 = .ok (.iload_n 2, 1) := by decide +kernel
theorem dX12_lacksSort_21 : decode cX12_lacksSort 21 = .ok (.if_icmp .eq 8, 3) := by decide +kernel
theorem dX12_lacksSort_24 : decode cX12_lacksSort 24 = .ok (.bipush (-13), 2) := by decide +kernel
theorem dX12_lacksSort_26 : decode cX12_lacksSort 26 = .ok (.goto 4, 3) := by decide +kernel
theorem dX12_lacksSort_29 : decode cX12_lacksSort 29 = .ok (.iconst 0, 1) := by decide +kernel
theorem dX12_lacksSort_30 : decode cX12_lacksSort 30 = .ok (.ireturn, 1) := by decide +kernel
theorem dX12_item_0 : decode cX12_item 0 = .ok (.iload_n 1, 1) := by decide +kernel
theorem dX12_item_1 : decode cX12_item 1 = .ok (.invokestatic 328, 3) := by decide +kernel
theorem dX12_item_4 : decode cX12_item 4 = .ok (.ifCond .eq 12, 3) := by decide +kernel
theorem dX12_item_7 : decode cX12_item 7 = .ok (.iload_n 2, 1) := by decide +kernel
theorem dX12_item_8 : decode cX12_item 8 = .ok (.iconst 0, 1) := by decide +kernel
theorem dX12_item_9 : decode cX12_item 9 = .ok (.iconst 3, 1) := by decide +kernel
theorem dX12_item_10 : decode cX12_item 10 = .ok (.invokestatic 84, 3) := by decide +kernel
theorem dX12_item_13 : decode cX12_item 13 = .ok (.ifCond .ne 5, 3) := by decide +kernel
theorem dX12_item_16 : decode cX12_item 16 = .ok (.iconst (-1), 1) := by decide +kernel
theorem dX12_item_17 : decode cX12_item 17 = .ok (.ireturn, 1) := by decide +kernel
theorem dX12_item_18 : decode cX12_item 18 = .ok (.aload_n 0, 1) := by decide +kernel
theorem dX12_item_19 : decode cX12_item 19 = .ok (.iload_n 1, 1) := by decide +kernel
theorem dX12_item_20 : decode cX12_item 20 = .ok (.iload_n 2, 1) := by decide +kernel
theorem dX12_item_21 : decode cX12_item 21 = .ok (.invokevirtual 331, 3) := by decide +kernel
theorem dX12_item_24 : decode cX12_item 24 = .ok (.istore 4, 2) := by decide +kernel
theorem dX12_item_26 : decode cX12_item 26 = .ok (.iload 4, 2) := by decide +kernel
theorem dX12_item_28 : decode cX12_item 28 = .ok (.ifCond .eq 6, 3) := by decide +kernel
theorem dX12_item_31 : decode cX12_item 31 = .ok (.iload 4, 2) := by decide +kernel
theorem dX12_item_33 : decode cX12_item 33 = .ok (.ireturn, 1) := by decide +kernel
theorem dX12_item_34 : decode cX12_item 34 = .ok (.iload_n 3, 1) := by decide +kernel
theorem dX12_item_35 : decode cX12_item 35 = .ok (.iconst 0, 1) := by decide +kernel
theorem dX12_item_36 : decode cX12_item 36 = .ok (.aload_n 0, 1) := by decide +kernel
theorem dX12_item_37 : decode cX12_item 37 = .ok (.getfield 56, 3) := by decide +kernel
theorem dX12_item_40 : decode cX12_item 40 = .ok (.iload_n 1, 1) := by decide +kernel
theorem dX12_item_41 : decode cX12_item 41 = .ok (.iaload, 1) := by decide +kernel
theorem dX12_item_42 : decode cX12_item 42 = .ok (.iconst 1, 1) := by decide +kernel
theorem dX12_item_43 : decode cX12_item 43 = .ok (.isub, 1) := by decide +kernel
theorem dX12_item_44 : decode cX12_item 44 = .ok (.invokestatic 84, 3) := by decide +kernel
theorem dX12_item_47 : decode cX12_item 47 = .ok (.ifCond .eq 18, 3) := by decide +kernel
theorem dX12_item_50 : decode cX12_item 50 = .ok (.aload_n 0, 1) := by decide +kernel
theorem dX12_item_51 : decode cX12_item 51 = .ok (.getfield 59, 3) := by decide +kernel
theorem dX12_item_54 : decode cX12_item 54 = .ok (.bipush 40, 2) := by decide +kernel
theorem dX12_item_56 : decode cX12_item 56 = .ok (.iload_n 1, 1) := by decide +kernel
theorem dX12_item_57 : decode cX12_item 57 = .ok (.imul, 1) := by decide +kernel
theorem dX12_item_58 : decode cX12_item 58 = .ok (.iload_n 3, 1) := by decide +kernel
theorem dX12_item_59 : decode cX12_item 59 = .ok (.iadd, 1) := by decide +kernel
theorem dX12_item_60 : decode cX12_item 60 = .ok (.laload, 1) := by decide +kernel
theorem dX12_item_61 : decode cX12_item 61 = .ok (.l2i, 1) := by decide +kernel
theorem dX12_item_62 : decode cX12_item 62 = .ok (.goto 5, 3) := by decide +kernel
theorem dX12_item_65 : decode cX12_item 65 = .ok (.bipush (-12), 2) := by decide +kernel
theorem dX12_item_67 : decode cX12_item 67 = .ok (.ireturn, 1) := by decide +kernel
theorem dX12_isHeld_0 : decode cX12_isHeld 0 = .ok (.iload_n 1, 1) := by decide +kernel
theorem dX12_isHeld_1 : decode cX12_isHeld 1 = .ok (.ifCond .ne 11, 3) := by decide +kernel
theorem dX12_isHeld_4 : decode cX12_isHeld 4 = .ok (.aload_n 0, 1) := by decide +kernel
theorem dX12_isHeld_5 : decode cX12_isHeld 5 = .ok (.iload_n 2, 1) := by decide +kernel
theorem dX12_isHeld_6 : decode cX12_isHeld 6 = .ok (.invokevirtual 205, 3) := by decide +kernel
theorem dX12_isHeld_9 : decode cX12_isHeld 9 = .ok (.goto 25, 3) := by decide +kernel
theorem dX12_isHeld_12 : decode cX12_isHeld 12 = .ok (.iload_n 1, 1) := by decide +kernel
theorem dX12_isHeld_13 : decode cX12_isHeld 13 = .ok (.iconst 1, 1) := by decide +kernel
theorem dX12_isHeld_14 : decode cX12_isHeld 14 = .ok (.if_icmp .ne 10, 3) := by decide +kernel
theorem dX12_isHeld_17 : decode cX12_isHeld 17 = .ok (.iload_n 2, 1) := by decide +kernel
theorem dX12_isHeld_18 : decode cX12_isHeld 18 = .ok (.invokestatic 328, 3) := by decide +kernel
theorem dX12_isHeld_21 : decode cX12_isHeld 21 = .ok (.goto 13, 3) := by decide +kernel
theorem dX12_isHeld_24 : decode cX12_isHeld 24 = .ok (.iload_n 1, 1) := by decide +kernel
theorem dX12_isHeld_25 : decode cX12_isHeld 25 = .ok (.iconst 2, 1) := by decide +kernel
theorem dX12_isHeld_26 : decode cX12_isHeld 26 = .ok (.if_icmp .ne 7, 3) := by decide +kernel
theorem dX12_isHeld_29 : decode cX12_isHeld 29 = .ok (.iconst 1, 1) := by decide +kernel
theorem dX12_isHeld_30 : decode cX12_isHeld 30 = .ok (.goto 4, 3) := by decide +kernel
theorem dX12_isHeld_33 : decode cX12_isHeld 33 = .ok (.iconst 0, 1) := by decide +kernel
theorem dX12_isHeld_34 : decode cX12_isHeld 34 = .ok (.ireturn, 1) := by decide +kernel
theorem dX12_shelf_0 : decode cX12_shelf 0 = .ok (.iload_n 1, 1) := by decide +kernel
theorem dX12_shelf_1 : decode cX12_shelf 1 = .ok (.invokestatic 328, 3) := by decide +kernel
theorem dX12_shelf_4 : decode cX12_shelf 4 = .ok (.ifCond .eq 12, 3) := by decide +kernel
theorem dX12_shelf_7 : decode cX12_shelf 7 = .ok (.aload_n 0, 1) := by decide +kernel
theorem dX12_shelf_8 : decode cX12_shelf 8 = .ok (.iload_n 2, 1) := by decide +kernel
theorem dX12_shelf_9 : decode cX12_shelf 9 = .ok (.iload_n 3, 1) := by decide +kernel
theorem dX12_shelf_10 : decode cX12_shelf 10 = .ok (.invokevirtual 348, 3) := by decide +kernel
theorem dX12_shelf_13 : decode cX12_shelf 13 = .ok (.ifCond .ne 5, 3) := by decide +kernel
theorem dX12_shelf_16 : decode cX12_shelf 16 = .ok (.iconst (-1), 1) := by decide +kernel
theorem dX12_shelf_17 : decode cX12_shelf 17 = .ok (.ireturn, 1) := by decide +kernel
theorem dX12_shelf_18 : decode cX12_shelf 18 = .ok (.aload_n 0, 1) := by decide +kernel
theorem dX12_shelf_19 : decode cX12_shelf 19 = .ok (.getfield 63, 3) := by decide +kernel
theorem dX12_shelf_22 : decode cX12_shelf 22 = .ok (.iload_n 1, 1) := by decide +kernel
theorem dX12_shelf_23 : decode cX12_shelf 23 = .ok (.iload_n 2, 1) := by decide +kernel
theorem dX12_shelf_24 : decode cX12_shelf 24 = .ok (.iconst 2, 1) := by decide +kernel
theorem dX12_shelf_25 : decode cX12_shelf 25 = .ok (.if_icmp .eq 17, 3) := by decide +kernel
theorem dX12_shelf_28 : decode cX12_shelf 28 = .ok (.iload_n 2, 1) := by decide +kernel
theorem dX12_shelf_29 : decode cX12_shelf 29 = .ok (.iconst 1, 1) := by decide +kernel
theorem dX12_shelf_30 : decode cX12_shelf 30 = .ok (.if_icmp .ne 16, 3) := by decide +kernel
theorem dX12_shelf_33 : decode cX12_shelf 33 = .ok (.aload_n 0, 1) := by decide +kernel
theorem dX12_shelf_34 : decode cX12_shelf 34 = .ok (.getfield 53, 3) := by decide +kernel
theorem dX12_shelf_37 : decode cX12_shelf 37 = .ok (.iload_n 3, 1) := by decide +kernel
theorem dX12_shelf_38 : decode cX12_shelf 38 = .ok (.iaload, 1) := by decide +kernel
theorem dX12_shelf_39 : decode cX12_shelf 39 = .ok (.ifCond .ge 7, 3) := by decide +kernel
theorem dX12_shelf_42 : decode cX12_shelf 42 = .ok (.iconst (-1), 1) := by decide +kernel
theorem dX12_shelf_43 : decode cX12_shelf 43 = .ok (.goto 4, 3) := by decide +kernel
theorem dX12_shelf_46 : decode cX12_shelf 46 = .ok (.iload_n 2, 1) := by decide +kernel
theorem dX12_shelf_47 : decode cX12_shelf 47 = .ok (.iastore, 1) := by decide +kernel
theorem dX12_shelf_48 : decode cX12_shelf 48 = .ok (.aload_n 0, 1) := by decide +kernel
theorem dX12_shelf_49 : decode cX12_shelf 49 = .ok (.getfield 66, 3) := by decide +kernel
theorem dX12_shelf_52 : decode cX12_shelf 52 = .ok (.iload_n 1, 1) := by decide +kernel
theorem dX12_shelf_53 : decode cX12_shelf 53 = .ok (.iload_n 2, 1) := by decide +kernel
theorem dX12_shelf_54 : decode cX12_shelf 54 = .ok (.iconst 1, 1) := by decide +kernel
theorem dX12_shelf_55 : decode cX12_shelf 55 = .ok (.if_icmp .ne 12, 3) := by decide +kernel
theorem dX12_shelf_58 : decode cX12_shelf 58 = .ok (.aload_n 0, 1) := by decide +kernel
theorem dX12_shelf_59 : decode cX12_shelf 59 = .ok (.getfield 53, 3) := by decide +kernel
theorem dX12_shelf_62 : decode cX12_shelf 62 = .ok (.iload_n 3, 1) := by decide +kernel
theorem dX12_shelf_63 : decode cX12_shelf 63 = .ok (.iaload, 1) := by decide +kernel
theorem dX12_shelf_64 : decode cX12_shelf 64 = .ok (.goto 4, 3) := by decide +kernel
theorem dX12_shelf_67 : decode cX12_shelf 67 = .ok (.iload_n 3, 1) := by decide +kernel
theorem dX12_shelf_68 : decode cX12_shelf 68 = .ok (.iastore, 1) := by decide +kernel
theorem dX12_shelf_69 : decode cX12_shelf 69 = .ok (.aload_n 0, 1) := by decide +kernel
theorem dX12_shelf_70 : decode cX12_shelf 70 = .ok (.getfield 69, 3) := by decide +kernel
theorem dX12_shelf_73 : decode cX12_shelf 73 = .ok (.iload_n 1, 1) := by decide +kernel
theorem dX12_shelf_74 : decode cX12_shelf 74 = .ok (.iload_n 2, 1) := by decide +kernel
theorem dX12_shelf_75 : decode cX12_shelf 75 = .ok (.iconst 1, 1) := by decide +kernel
theorem dX12_shelf_76 : decode cX12_shelf 76 = .ok (.if_icmp .ne 12, 3) := by decide +kernel
theorem dX12_shelf_79 : decode cX12_shelf 79 = .ok (.aload_n 0, 1) := by decide +kernel
theorem dX12_shelf_80 : decode cX12_shelf 80 = .ok (.getfield 56, 3) := by decide +kernel
theorem dX12_shelf_83 : decode cX12_shelf 83 = .ok (.iload_n 3, 1) := by decide +kernel
theorem dX12_shelf_84 : decode cX12_shelf 84 = .ok (.iaload, 1) := by decide +kernel
theorem dX12_shelf_85 : decode cX12_shelf 85 = .ok (.goto 4, 3) := by decide +kernel
theorem dX12_shelf_88 : decode cX12_shelf 88 = .ok (.iconst 0, 1) := by decide +kernel
theorem dX12_shelf_89 : decode cX12_shelf 89 = .ok (.iastore, 1) := by decide +kernel
theorem dX12_shelf_90 : decode cX12_shelf 90 = .ok (.iconst 1, 1) := by decide +kernel
theorem dX12_shelf_91 : decode cX12_shelf 91 = .ok (.ireturn, 1) := by decide +kernel
theorem dX12_kindOn_0 : decode cX12_kindOn 0 = .ok (.aload_n 0, 1) := by decide +kernel
theorem dX12_kindOn_1 : decode cX12_kindOn 1 = .ok (.getfield 63, 3) := by decide +kernel
theorem dX12_kindOn_4 : decode cX12_kindOn 4 = .ok (.iload_n 1, 1) := by decide +kernel
theorem dX12_kindOn_5 : decode cX12_kindOn 5 = .ok (.iaload, 1) := by decide +kernel
theorem dX12_kindOn_6 : decode cX12_kindOn 6 = .ok (.ifCond .eq 19, 3) := by decide +kernel
theorem dX12_kindOn_9 : decode cX12_kindOn 9 = .ok (.aload_n 0, 1) := by decide +kernel
theorem dX12_kindOn_10 : decode cX12_kindOn 10 = .ok (.getfield 63, 3) := by decide +kernel
theorem dX12_kindOn_13 : decode cX12_kindOn 13 = .ok (.iload_n 1, 1) := by decide +kernel
theorem dX12_kindOn_14 : decode cX12_kindOn 14 = .ok (.iaload, 1) := by decide +kernel
theorem dX12_kindOn_15 : decode cX12_kindOn 15 = .ok (.ifCond .ge 7, 3) := by decide +kernel
theorem dX12_kindOn_18 : decode cX12_kindOn 18 = .ok (.iconst (-1), 1) := by decide +kernel
theorem dX12_kindOn_19 : decode cX12_kindOn 19 = .ok (.goto 5, 3) := by decide +kernel
theorem dX12_kindOn_22 : decode cX12_kindOn 22 = .ok (.bipush 9, 2) := by decide +kernel
theorem dX12_kindOn_24 : decode cX12_kindOn 24 = .ok (.ireturn, 1) := by decide +kernel
theorem dX12_kindOn_25 : decode cX12_kindOn 25 = .ok (.aload_n 0, 1) := by decide +kernel
theorem dX12_kindOn_26 : decode cX12_kindOn 26 = .ok (.aload_n 0, 1) := by decide +kernel
theorem dX12_kindOn_27 : decode cX12_kindOn 27 = .ok (.getfield 66, 3) := by decide +kernel
theorem dX12_kindOn_30 : decode cX12_kindOn 30 = .ok (.iload_n 1, 1) := by decide +kernel
theorem dX12_kindOn_31 : decode cX12_kindOn 31 = .ok (.iaload, 1) := by decide +kernel
theorem dX12_kindOn_32 : decode cX12_kindOn 32 = .ok (.invokevirtual 205, 3) := by decide +kernel
theorem dX12_kindOn_35 : decode cX12_kindOn 35 = .ok (.ifCond .eq 17, 3) := by decide +kernel
theorem dX12_kindOn_38 : decode cX12_kindOn 38 = .ok (.aload_n 0, 1) := by decide +kernel
theorem dX12_kindOn_39 : decode cX12_kindOn 39 = .ok (.aload_n 0, 1) := by decide +kernel
theorem dX12_kindOn_40 : decode cX12_kindOn 40 = .ok (.getfield 66, 3) := by decide +kernel
theorem dX12_kindOn_43 : decode cX12_kindOn 43 = .ok (.iload_n 1, 1) := by decide +kernel
theorem dX12_kindOn_44 : decode cX12_kindOn 44 = .ok (.iaload, 1) := by decide +kernel
theorem dX12_kindOn_45 : decode cX12_kindOn 45 = .ok (.iconst 0, 1) := by decide +kernel
theorem dX12_kindOn_46 : decode cX12_kindOn 46 = .ok (.invokevirtual 208, 3) := by decide +kernel
theorem dX12_kindOn_49 : decode cX12_kindOn 49 = .ok (.goto 4, 3) := by decide +kernel
theorem dX12_kindOn_52 : decode cX12_kindOn 52 = .ok (.iconst (-1), 1) := by decide +kernel
theorem dX12_kindOn_53 : decode cX12_kindOn 53 = .ok (.ireturn, 1) := by decide +kernel
theorem dX12_isUnder_0 : decode cX12_isUnder 0 = .ok (.iload_n 1, 1) := by decide +kernel
theorem dX12_isUnder_1 : decode cX12_isUnder 1 = .ok (.ifCond .eq 28, 3) := by decide +kernel
theorem dX12_isUnder_4 : decode cX12_isUnder 4 = .ok (.iload_n 1, 1) := by decide +kernel
theorem dX12_isUnder_5 : decode cX12_isUnder 5 = .ok (.iload_n 0, 1) := by decide +kernel
theorem dX12_isUnder_6 : decode cX12_isUnder 6 = .ok (.if_icmp .eq 23, 3) := by decide +kernel
theorem dX12_isUnder_9 : decode cX12_isUnder 9 = .ok (.iload_n 1, 1) := by decide +kernel
theorem dX12_isUnder_10 : decode cX12_isUnder 10 = .ok (.iconst 1, 1) := by decide +kernel
theorem dX12_isUnder_11 : decode cX12_isUnder 11 = .ok (.if_icmp .ne 8, 3) := by decide +kernel
theorem dX12_isUnder_14 : decode cX12_isUnder 14 = .ok (.iload_n 0, 1) := by decide +kernel
theorem dX12_isUnder_15 : decode cX12_isUnder 15 = .ok (.iconst 4, 1) := by decide +kernel
theorem dX12_isUnder_16 : decode cX12_isUnder 16 = .ok (.if_icmp .eq 13, 3) := by decide +kernel
theorem dX12_isUnder_19 : decode cX12_isUnder 19 = .ok (.iload_n 1, 1) := by decide +kernel
theorem dX12_isUnder_20 : decode cX12_isUnder 20 = .ok (.iconst 3, 1) := by decide +kernel
theorem dX12_isUnder_21 : decode cX12_isUnder 21 = .ok (.if_icmp .ne 12, 3) := by decide +kernel
theorem dX12_isUnder_24 : decode cX12_isUnder 24 = .ok (.iload_n 0, 1) := by decide +kernel
theorem dX12_isUnder_25 : decode cX12_isUnder 25 = .ok (.iconst 5, 1) := by decide +kernel
theorem dX12_isUnder_26 : decode cX12_isUnder 26 = .ok (.if_icmp .ne 7, 3) := by decide +kernel
theorem dX12_isUnder_29 : decode cX12_isUnder 29 = .ok (.iconst 1, 1) := by decide +kernel
theorem dX12_isUnder_30 : decode cX12_isUnder 30 = .ok (.goto 4, 3) := by decide +kernel
theorem dX12_isUnder_33 : decode cX12_isUnder 33 = .ok (.iconst 0, 1) := by decide +kernel
theorem dX12_isUnder_34 : decode cX12_isUnder 34 = .ok (.ireturn, 1) := by decide +kernel
theorem dX12_taken_0 : decode cX12_taken 0 = .ok (.iload_n 1, 1) := by decide +kernel
theorem dX12_taken_1 : decode cX12_taken 1 = .ok (.invokestatic 328, 3) := by decide +kernel
theorem dX12_taken_4 : decode cX12_taken 4 = .ok (.ifCond .eq 23, 3) := by decide +kernel
theorem dX12_taken_7 : decode cX12_taken 7 = .ok (.iload_n 2, 1) := by decide +kernel
theorem dX12_taken_8 : decode cX12_taken 8 = .ok (.iconst 0, 1) := by decide +kernel
theorem dX12_taken_9 : decode cX12_taken 9 = .ok (.iconst 5, 1) := by decide +kernel
theorem dX12_taken_10 : decode cX12_taken 10 = .ok (.invokestatic 84, 3) := by decide +kernel
theorem dX12_taken_13 : decode cX12_taken 13 = .ok (.ifCond .ne 16, 3) := by decide +kernel
theorem dX12_taken_16 : decode cX12_taken 16 = .ok (.iload_n 2, 1) := by decide +kernel
theorem dX12_taken_17 : decode cX12_taken 17 = .ok (.bipush 10, 2) := by decide +kernel
theorem dX12_taken_19 : decode cX12_taken 19 = .ok (.bipush 13, 2) := by decide +kernel
theorem dX12_taken_21 : decode cX12_taken 21 = .ok (.invokestatic 84, 3) := by decide +kernel
theorem dX12_taken_24 : decode cX12_taken 24 = .ok (.ifCond .ne 5, 3) := by decide +kernel
theorem dX12_taken_27 : decode cX12_taken 27 = .ok (.iconst (-1), 1) := by decide +kernel
theorem dX12_taken_28 : decode cX12_taken 28 = .ok (.ireturn, 1) := by decide +kernel
theorem dX12_taken_29 : decode cX12_taken 29 = .ok (.aload_n 0, 1) := by decide +kernel
theorem dX12_taken_30 : decode cX12_taken 30 = .ok (.iload_n 1, 1) := by decide +kernel
theorem dX12_taken_31 : decode cX12_taken 31 = .ok (.invokevirtual 351, 3) := by decide +kernel
theorem dX12_taken_34 : decode cX12_taken 34 = .ok (.istore_n 3, 1) := by decide +kernel
theorem dX12_taken_35 : decode cX12_taken 35 = .ok (.iload_n 3, 1) := by decide +kernel
theorem dX12_taken_36 : decode cX12_taken 36 = .ok (.ifCond .ge 6, 3) := by decide +kernel
theorem dX12_taken_39 : decode cX12_taken 39 = .ok (.bipush (-11), 2) := by decide +kernel
theorem dX12_taken_41 : decode cX12_taken 41 = .ok (.ireturn, 1) := by decide +kernel
theorem dX12_taken_42 : decode cX12_taken 42 = .ok (.iload_n 3, 1) := by decide +kernel
theorem dX12_taken_43 : decode cX12_taken 43 = .ok (.bipush 9, 2) := by decide +kernel
theorem dX12_taken_45 : decode cX12_taken 45 = .ok (.if_icmp .ne 28, 3) := by decide +kernel
theorem dX12_taken_48 : decode cX12_taken 48 = .ok (.iload_n 2, 1) := by decide +kernel
theorem dX12_taken_49 : decode cX12_taken 49 = .ok (.bipush 10, 2) := by decide +kernel
theorem dX12_taken_51 : decode cX12_taken 51 = .ok (.aload_n 0, 1) := by decide +kernel
theorem dX12_taken_52 : decode cX12_taken 52 = .ok (.getfield 66, 3) := by decide +kernel
theorem dX12_taken_55 : decode cX12_taken 55 = .ok (.iload_n 1, 1) := by decide +kernel
theorem dX12_taken_56 : decode cX12_taken 56 = .ok (.iaload, 1) := by decide +kernel
theorem dX12_taken_57 : decode cX12_taken 57 = .ok (.iadd, 1) := by decide +kernel
theorem dX12_taken_58 : decode cX12_taken 58 = .ok (.if_icmp .ne 12, 3) := by decide +kernel
theorem dX12_taken_61 : decode cX12_taken 61 = .ok (.aload_n 0, 1) := by decide +kernel
theorem dX12_taken_62 : decode cX12_taken 62 = .ok (.getfield 69, 3) := by decide +kernel
theorem dX12_taken_65 : decode cX12_taken 65 = .ok (.iload_n 1, 1) := by decide +kernel
theorem dX12_taken_66 : decode cX12_taken 66 = .ok (.iaload, 1) := by decide +kernel
theorem dX12_taken_67 : decode cX12_taken 67 = .ok (.goto 5, 3) := by decide +kernel
theorem dX12_taken_70 : decode cX12_taken 70 = .ok (.bipush (-13), 2) := by decide +kernel
theorem dX12_taken_72 : decode cX12_taken 72 = .ok (.ireturn, 1) := by decide +kernel
theorem dX12_taken_73 : decode cX12_taken 73 = .ok (.iload_n 2, 1) := by decide +kernel
theorem dX12_taken_74 : decode cX12_taken 74 = .ok (.bipush 10, 2) := by decide +kernel
theorem dX12_taken_76 : decode cX12_taken 76 = .ok (.if_icmp .ge 20, 3) := by decide +kernel
theorem dX12_taken_79 : decode cX12_taken 79 = .ok (.iload_n 3, 1) := by decide +kernel
theorem dX12_taken_80 : decode cX12_taken 80 = .ok (.iload_n 2, 1) := by decide +kernel
theorem dX12_taken_81 : decode cX12_taken 81 = .ok (.invokestatic 354, 3) := by decide +kernel
theorem dX12_taken_84 : decode cX12_taken 84 = .ok (.ifCond .eq 12, 3) := by decide +kernel
theorem dX12_taken_87 : decode cX12_taken 87 = .ok (.aload_n 0, 1) := by decide +kernel
theorem dX12_taken_88 : decode cX12_taken 88 = .ok (.getfield 66, 3) := by decide +kernel
theorem dX12_taken_91 : decode cX12_taken 91 = .ok (.iload_n 1, 1) := by decide +kernel
theorem dX12_taken_92 : decode cX12_taken 92 = .ok (.iaload, 1) := by decide +kernel
theorem dX12_taken_93 : decode cX12_taken 93 = .ok (.goto 5, 3) := by decide +kernel
theorem dX12_taken_96 : decode cX12_taken 96 = .ok (.bipush (-13), 2) := by decide +kernel
theorem dX12_taken_98 : decode cX12_taken 98 = .ok (.ireturn, 1) := by decide +kernel
theorem dX12_ran_0 : decode cX12_ran 0 = .ok (.aload_n 0, 1) := by decide +kernel
theorem dX12_ran_1 : decode cX12_ran 1 = .ok (.getfield 357, 3) := by decide +kernel
theorem dX12_ran_4 : decode cX12_ran 4 = .ok (.bipush 30, 2) := by decide +kernel
theorem dX12_ran_6 : decode cX12_ran 6 = .ok (.if_icmp .ge 23, 3) := by decide +kernel
theorem dX12_ran_9 : decode cX12_ran 9 = .ok (.aload_n 0, 1) := by decide +kernel
theorem dX12_ran_10 : decode cX12_ran 10 = .ok (.getfield 72, 3) := by decide +kernel
theorem dX12_ran_13 : decode cX12_ran 13 = .ok (.aload_n 0, 1) := by decide +kernel
theorem dX12_ran_14 : decode cX12_ran 14 = .ok (.getfield 357, 3) := by decide +kernel
theorem dX12_ran_17 : decode cX12_ran 17 = .ok (.iload_n 1, 1) := by decide +kernel
theorem dX12_ran_18 : decode cX12_ran 18 = .ok (.iastore, 1) := by decide +kernel
theorem dX12_ran_19 : decode cX12_ran 19 = .ok (.aload_n 0, 1) := by decide +kernel
theorem dX12_ran_20 : decode cX12_ran 20 = .ok (.dup, 1) := by decide +kernel
theorem dX12_ran_21 : decode cX12_ran 21 = .ok (.getfield 357, 3) := by decide +kernel
theorem dX12_ran_24 : decode cX12_ran 24 = .ok (.iconst 1, 1) := by decide +kernel
theorem dX12_ran_25 : decode cX12_ran 25 = .ok (.iadd, 1) := by decide +kernel
theorem dX12_ran_26 : decode cX12_ran 26 = .ok (.putfield 357, 3) := by decide +kernel
theorem dX12_ran_29 : decode cX12_ran 29 = .ok (.return_, 1) := by decide +kernel
theorem dX12_plainFalls_0 : decode cX12_plainFalls 0 = .ok (.aload_n 0, 1) := by decide +kernel
theorem dX12_plainFalls_1 : decode cX12_plainFalls 1 = .ok (.bipush 10, 2) := by decide +kernel
theorem dX12_plainFalls_3 : decode cX12_plainFalls 3 = .ok (.invokevirtual 360, 3) := by decide +kernel
theorem dX12_plainFalls_6 : decode cX12_plainFalls 6 = .ok (.iload_n 1, 1) := by decide +kernel
theorem dX12_plainFalls_7 : decode cX12_plainFalls 7 = .ok (.aload_n 0, 1) := by decide +kernel
theorem dX12_plainFalls_8 : decode cX12_plainFalls 8 = .ok (.getfield 363, 3) := by decide +kernel
theorem dX12_plainFalls_11 : decode cX12_plainFalls 11 = .ok (.iadd, 1) := by decide +kernel
theorem dX12_plainFalls_12 : decode cX12_plainFalls 12 = .ok (.ireturn, 1) := by decide +kernel
theorem dX12_fallsIt_0 : decode cX12_fallsIt 0 = .ok (.aload_n 0, 1) := by decide +kernel
theorem dX12_fallsIt_1 : decode cX12_fallsIt 1 = .ok (.getfield 366, 3) := by decide +kernel
theorem dX12_fallsIt_4 : decode cX12_fallsIt 4 = .ok (.iconst 2, 1) := by decide +kernel
theorem dX12_fallsIt_5 : decode cX12_fallsIt 5 = .ok (.if_icmp .ne 17, 3) := by decide +kernel
theorem dX12_fallsIt_8 : decode cX12_fallsIt 8 = .ok (.aload_n 0, 1) := by decide +kernel
theorem dX12_fallsIt_9 : decode cX12_fallsIt 9 = .ok (.bipush 30, 2) := by decide +kernel
theorem dX12_fallsIt_11 : decode cX12_fallsIt 11 = .ok (.invokevirtual 360, 3) := by decide +kernel
theorem dX12_fallsIt_14 : decode cX12_fallsIt 14 = .ok (.aload_n 0, 1) := by decide +kernel
theorem dX12_fallsIt_15 : decode cX12_fallsIt 15 = .ok (.iload_n 1, 1) := by decide +kernel
theorem dX12_fallsIt_16 : decode cX12_fallsIt 16 = .ok (.invokevirtual 369, 3) := by decide +kernel
theorem dX12_fallsIt_19 : decode cX12_fallsIt 19 = .ok (.iconst 3, 1) := by decide +kernel
theorem dX12_fallsIt_20 : decode cX12_fallsIt 20 = .ok (.imul, 1) := by decide +kernel
theorem dX12_fallsIt_21 : decode cX12_fallsIt 21 = .ok (.ireturn, 1) := by decide +kernel
theorem dX12_fallsIt_22 : decode cX12_fallsIt 22 = .ok (.aload_n 0, 1) := by decide +kernel
theorem dX12_fallsIt_23 : decode cX12_fallsIt 23 = .ok (.getfield 366, 3) := by decide +kernel
theorem dX12_fallsIt_26 : decode cX12_fallsIt 26 = .ok (.iconst 4, 1) := by decide +kernel
theorem dX12_fallsIt_27 : decode cX12_fallsIt 27 = .ok (.if_icmp .ne 20, 3) := by decide +kernel
theorem dX12_fallsIt_30 : decode cX12_fallsIt 30 = .ok (.aload_n 0, 1) := by decide +kernel
theorem dX12_fallsIt_31 : decode cX12_fallsIt 31 = .ok (.bipush 51, 2) := by decide +kernel
theorem dX12_fallsIt_33 : decode cX12_fallsIt 33 = .ok (.invokevirtual 360, 3) := by decide +kernel
theorem dX12_fallsIt_36 : decode cX12_fallsIt 36 = .ok (.aload_n 0, 1) := by decide +kernel
theorem dX12_fallsIt_37 : decode cX12_fallsIt 37 = .ok (.iload_n 1, 1) := by decide +kernel
theorem dX12_fallsIt_38 : decode cX12_fallsIt 38 = .ok (.invokevirtual 369, 3) := by decide +kernel
theorem dX12_fallsIt_41 : decode cX12_fallsIt 41 = .ok (.aload_n 0, 1) := by decide +kernel
theorem dX12_fallsIt_42 : decode cX12_fallsIt 42 = .ok (.getfield 363, 3) := by decide +kernel
theorem dX12_fallsIt_45 : decode cX12_fallsIt 45 = .ok (.isub, 1) := by decide +kernel
theorem dX12_fallsIt_46 : decode cX12_fallsIt 46 = .ok (.ireturn, 1) := by decide +kernel
theorem dX12_fallsIt_47 : decode cX12_fallsIt 47 = .ok (.aload_n 0, 1) := by decide +kernel
theorem dX12_fallsIt_48 : decode cX12_fallsIt 48 = .ok (.iload_n 1, 1) := by decide +kernel
theorem dX12_fallsIt_49 : decode cX12_fallsIt 49 = .ok (.invokevirtual 369, 3) := by decide +kernel
theorem dX12_fallsIt_52 : decode cX12_fallsIt 52 = .ok (.ireturn, 1) := by decide +kernel
theorem dX12_plainTurns_0 : decode cX12_plainTurns 0 = .ok (.aload_n 0, 1) := by decide +kernel
theorem dX12_plainTurns_1 : decode cX12_plainTurns 1 = .ok (.bipush 11, 2) := by decide +kernel
theorem dX12_plainTurns_3 : decode cX12_plainTurns 3 = .ok (.invokevirtual 360, 3) := by decide +kernel
theorem dX12_plainTurns_6 : decode cX12_plainTurns 6 = .ok (.aload_n 0, 1) := by decide +kernel
theorem dX12_plainTurns_7 : decode cX12_plainTurns 7 = .ok (.iload_n 1, 1) := by decide +kernel
theorem dX12_plainTurns_8 : decode cX12_plainTurns 8 = .ok (.invokevirtual 372, 3) := by decide +kernel
theorem dX12_plainTurns_11 : decode cX12_plainTurns 11 = .ok (.iconst 2, 1) := by decide +kernel
theorem dX12_plainTurns_12 : decode cX12_plainTurns 12 = .ok (.imul, 1) := by decide +kernel
theorem dX12_plainTurns_13 : decode cX12_plainTurns 13 = .ok (.ireturn, 1) := by decide +kernel
theorem dX12_turnsIt_0 : decode cX12_turnsIt 0 = .ok (.aload_n 0, 1) := by decide +kernel
theorem dX12_turnsIt_1 : decode cX12_turnsIt 1 = .ok (.getfield 366, 3) := by decide +kernel
theorem dX12_turnsIt_4 : decode cX12_turnsIt 4 = .ok (.iconst 1, 1) := by decide +kernel
theorem dX12_turnsIt_5 : decode cX12_turnsIt 5 = .ok (.if_icmp .eq 11, 3) := by decide +kernel
theorem dX12_turnsIt_8 : decode cX12_turnsIt 8 = .ok (.aload_n 0, 1) := by decide +kernel
theorem dX12_turnsIt_9 : decode cX12_turnsIt 9 = .ok (.getfield 366, 3) := by decide +kernel
theorem dX12_turnsIt_12 : decode cX12_turnsIt 12 = .ok (.iconst 4, 1) := by decide +kernel
theorem dX12_turnsIt_13 : decode cX12_turnsIt 13 = .ok (.if_icmp .ne 20, 3) := by decide +kernel
theorem dX12_turnsIt_16 : decode cX12_turnsIt 16 = .ok (.aload_n 0, 1) := by decide +kernel
theorem dX12_turnsIt_17 : decode cX12_turnsIt 17 = .ok (.bipush 20, 2) := by decide +kernel
theorem dX12_turnsIt_19 : decode cX12_turnsIt 19 = .ok (.invokevirtual 360, 3) := by decide +kernel
theorem dX12_turnsIt_22 : decode cX12_turnsIt 22 = .ok (.aload_n 0, 1) := by decide +kernel
theorem dX12_turnsIt_23 : decode cX12_turnsIt 23 = .ok (.iload_n 1, 1) := by decide +kernel
theorem dX12_turnsIt_24 : decode cX12_turnsIt 24 = .ok (.invokevirtual 375, 3) := by decide +kernel
theorem dX12_turnsIt_27 : decode cX12_turnsIt 27 = .ok (.aload_n 0, 1) := by decide +kernel
theorem dX12_turnsIt_28 : decode cX12_turnsIt 28 = .ok (.getfield 378, 3) := by decide +kernel
theorem dX12_turnsIt_31 : decode cX12_turnsIt 31 = .ok (.isub, 1) := by decide +kernel
theorem dX12_turnsIt_32 : decode cX12_turnsIt 32 = .ok (.ireturn, 1) := by decide +kernel
theorem dX12_turnsIt_33 : decode cX12_turnsIt 33 = .ok (.aload_n 0, 1) := by decide +kernel
theorem dX12_turnsIt_34 : decode cX12_turnsIt 34 = .ok (.getfield 366, 3) := by decide +kernel
theorem dX12_turnsIt_37 : decode cX12_turnsIt 37 = .ok (.iconst 3, 1) := by decide +kernel
theorem dX12_turnsIt_38 : decode cX12_turnsIt 38 = .ok (.if_icmp .eq 11, 3) := by decide +kernel
theorem dX12_turnsIt_41 : decode cX12_turnsIt 41 = .ok (.aload_n 0, 1) := by decide +kernel
theorem dX12_turnsIt_42 : decode cX12_turnsIt 42 = .ok (.getfield 366, 3) := by decide +kernel
theorem dX12_turnsIt_45 : decode cX12_turnsIt 45 = .ok (.iconst 5, 1) := by decide +kernel
theorem dX12_turnsIt_46 : decode cX12_turnsIt 46 = .ok (.if_icmp .ne 17, 3) := by decide +kernel
theorem dX12_turnsIt_49 : decode cX12_turnsIt 49 = .ok (.aload_n 0, 1) := by decide +kernel
theorem dX12_turnsIt_50 : decode cX12_turnsIt 50 = .ok (.bipush 40, 2) := by decide +kernel
theorem dX12_turnsIt_52 : decode cX12_turnsIt 52 = .ok (.invokevirtual 360, 3) := by decide +kernel
theorem dX12_turnsIt_55 : decode cX12_turnsIt 55 = .ok (.iconst 0, 1) := by decide +kernel
theorem dX12_turnsIt_56 : decode cX12_turnsIt 56 = .ok (.aload_n 0, 1) := by decide +kernel
theorem dX12_turnsIt_57 : decode cX12_turnsIt 57 = .ok (.iload_n 1, 1) := by decide +kernel
theorem dX12_turnsIt_58 : decode cX12_turnsIt 58 = .ok (.invokevirtual 375, 3) := by decide +kernel
theorem dX12_turnsIt_61 : decode cX12_turnsIt 61 = .ok (.isub, 1) := by decide +kernel
theorem dX12_turnsIt_62 : decode cX12_turnsIt 62 = .ok (.ireturn, 1) := by decide +kernel
theorem dX12_turnsIt_63 : decode cX12_turnsIt 63 = .ok (.aload_n 0, 1) := by decide +kernel
theorem dX12_turnsIt_64 : decode cX12_turnsIt 64 = .ok (.iload_n 1, 1) := by decide +kernel
theorem dX12_turnsIt_65 : decode cX12_turnsIt 65 = .ok (.invokevirtual 375, 3) := by decide +kernel
theorem dX12_turnsIt_68 : decode cX12_turnsIt 68 = .ok (.ireturn, 1) := by decide +kernel
theorem dX12_plainShares_0 : decode cX12_plainShares 0 = .ok (.aload_n 0, 1) := by decide +kernel
theorem dX12_plainShares_1 : decode cX12_plainShares 1 = .ok (.bipush 12, 2) := by decide +kernel
theorem dX12_plainShares_3 : decode cX12_plainShares 3 = .ok (.invokevirtual 360, 3) := by decide +kernel
theorem dX12_plainShares_6 : decode cX12_plainShares 6 = .ok (.aload_n 0, 1) := by decide +kernel
theorem dX12_plainShares_7 : decode cX12_plainShares 7 = .ok (.getfield 378, 3) := by decide +kernel
theorem dX12_plainShares_10 : decode cX12_plainShares 10 = .ok (.aload_n 0, 1) := by decide +kernel
theorem dX12_plainShares_11 : decode cX12_plainShares 11 = .ok (.getfield 363, 3) := by decide +kernel
theorem dX12_plainShares_14 : decode cX12_plainShares 14 = .ok (.if_icmp .ne 10, 3) := by decide +kernel
theorem dX12_plainShares_17 : decode cX12_plainShares 17 = .ok (.aload_n 0, 1) := by decide +kernel
theorem dX12_plainShares_18 : decode cX12_plainShares 18 = .ok (.iconst 1, 1) := by decide +kernel
theorem dX12_plainShares_19 : decode cX12_plainShares 19 = .ok (.putfield 381, 3) := by decide +kernel
theorem dX12_plainShares_22 : decode cX12_plainShares 22 = .ok (.iconst 0, 1) := by decide +kernel
theorem dX12_plainShares_23 : decode cX12_plainShares 23 = .ok (.ireturn, 1) := by decide +kernel
theorem dX12_plainShares_24 : decode cX12_plainShares 24 = .ok (.iload_n 1, 1) := by decide +kernel
theorem dX12_plainShares_25 : decode cX12_plainShares 25 = .ok (.aload_n 0, 1) := by decide +kernel
theorem dX12_plainShares_26 : decode cX12_plainShares 26 = .ok (.getfield 378, 3) := by decide +kernel
theorem dX12_plainShares_29 : decode cX12_plainShares 29 = .ok (.aload_n 0, 1) := by decide +kernel
theorem dX12_plainShares_30 : decode cX12_plainShares 30 = .ok (.getfield 363, 3) := by decide +kernel
theorem dX12_plainShares_33 : decode cX12_plainShares 33 = .ok (.isub, 1) := by decide +kernel
theorem dX12_plainShares_34 : decode cX12_plainShares 34 = .ok (.idiv, 1) := by decide +kernel
theorem dX12_plainShares_35 : decode cX12_plainShares 35 = .ok (.ireturn, 1) := by decide +kernel
theorem dX12_sharesIt_0 : decode cX12_sharesIt 0 = .ok (.aload_n 0, 1) := by decide +kernel
theorem dX12_sharesIt_1 : decode cX12_sharesIt 1 = .ok (.getfield 366, 3) := by decide +kernel
theorem dX12_sharesIt_4 : decode cX12_sharesIt 4 = .ok (.iconst 4, 1) := by decide +kernel
theorem dX12_sharesIt_5 : decode cX12_sharesIt 5 = .ok (.if_icmp .ne 19, 3) := by decide +kernel
theorem dX12_sharesIt_8 : decode cX12_sharesIt 8 = .ok (.aload_n 0, 1) := by decide +kernel
theorem dX12_sharesIt_9 : decode cX12_sharesIt 9 = .ok (.bipush 50, 2) := by decide +kernel
theorem dX12_sharesIt_11 : decode cX12_sharesIt 11 = .ok (.invokevirtual 360, 3) := by decide +kernel
theorem dX12_sharesIt_14 : decode cX12_sharesIt 14 = .ok (.aload_n 0, 1) := by decide +kernel
theorem dX12_sharesIt_15 : decode cX12_sharesIt 15 = .ok (.iload_n 1, 1) := by decide +kernel
theorem dX12_sharesIt_16 : decode cX12_sharesIt 16 = .ok (.iconst 2, 1) := by decide +kernel
theorem dX12_sharesIt_17 : decode cX12_sharesIt 17 = .ok (.iadd, 1) := by decide +kernel
theorem dX12_sharesIt_18 : decode cX12_sharesIt 18 = .ok (.invokevirtual 384, 3) := by decide +kernel
theorem dX12_sharesIt_21 : decode cX12_sharesIt 21 = .ok (.iconst 1, 1) := by decide +kernel
theorem dX12_sharesIt_22 : decode cX12_sharesIt 22 = .ok (.ixor, 1) := by decide +kernel
theorem dX12_sharesIt_23 : decode cX12_sharesIt 23 = .ok (.ireturn, 1) := by decide +kernel
theorem dX12_sharesIt_24 : decode cX12_sharesIt 24 = .ok (.aload_n 0, 1) := by decide +kernel
theorem dX12_sharesIt_25 : decode cX12_sharesIt 25 = .ok (.getfield 366, 3) := by decide +kernel
theorem dX12_sharesIt_28 : decode cX12_sharesIt 28 = .ok (.iconst 5, 1) := by decide +kernel
theorem dX12_sharesIt_29 : decode cX12_sharesIt 29 = .ok (.if_icmp .ne 37, 3) := by decide +kernel
theorem dX12_sharesIt_32 : decode cX12_sharesIt 32 = .ok (.aload_n 0, 1) := by decide +kernel
theorem dX12_sharesIt_33 : decode cX12_sharesIt 33 = .ok (.bipush 61, 2) := by decide +kernel
theorem dX12_sharesIt_35 : decode cX12_sharesIt 35 = .ok (.invokevirtual 360, 3) := by decide +kernel
theorem dX12_sharesIt_38 : decode cX12_sharesIt 38 = .ok (.aload_n 0, 1) := by decide +kernel
theorem dX12_sharesIt_39 : decode cX12_sharesIt 39 = .ok (.iload_n 1, 1) := by decide +kernel
theorem dX12_sharesIt_40 : decode cX12_sharesIt 40 = .ok (.invokevirtual 384, 3) := by decide +kernel
theorem dX12_sharesIt_43 : decode cX12_sharesIt 43 = .ok (.istore_n 2, 1) := by decide +kernel
theorem dX12_sharesIt_44 : decode cX12_sharesIt 44 = .ok (.aload_n 0, 1) := by decide +kernel
theorem dX12_sharesIt_45 : decode cX12_sharesIt 45 = .ok (.getfield 381, 3) := by decide +kernel
theorem dX12_sharesIt_48 : decode cX12_sharesIt 48 = .ok (.ifCond .eq 7, 3) := by decide +kernel
theorem dX12_sharesIt_51 : decode cX12_sharesIt 51 = .ok (.iconst 0, 1) := by decide +kernel
theorem dX12_sharesIt_52 : decode cX12_sharesIt 52 = .ok (.goto 13, 3) := by decide +kernel
theorem dX12_sharesIt_55 : decode cX12_sharesIt 55 = .ok (.iload_n 2, 1) := by decide +kernel
theorem dX12_sharesIt_56 : decode cX12_sharesIt 56 = .ok (.aload_n 0, 1) := by decide +kernel
theorem dX12_sharesIt_57 : decode cX12_sharesIt 57 = .ok (.aload_n 0, 1) := by decide +kernel
theorem dX12_sharesIt_58 : decode cX12_sharesIt 58 = .ok (.getfield 378, 3) := by decide +kernel
theorem dX12_sharesIt_61 : decode cX12_sharesIt 61 = .ok (.invokevirtual 372, 3) := by decide +kernel
theorem dX12_sharesIt_64 : decode cX12_sharesIt 64 = .ok (.iadd, 1) := by decide +kernel
theorem dX12_sharesIt_65 : decode cX12_sharesIt 65 = .ok (.ireturn, 1) := by decide +kernel
theorem dX12_sharesIt_66 : decode cX12_sharesIt 66 = .ok (.aload_n 0, 1) := by decide +kernel
theorem dX12_sharesIt_67 : decode cX12_sharesIt 67 = .ok (.iload_n 1, 1) := by decide +kernel
theorem dX12_sharesIt_68 : decode cX12_sharesIt 68 = .ok (.invokevirtual 384, 3) := by decide +kernel
theorem dX12_sharesIt_71 : decode cX12_sharesIt 71 = .ok (.ireturn, 1) := by decide +kernel
theorem dX12_plainTells_0 : decode cX12_plainTells 0 = .ok (.aload_n 0, 1) := by decide +kernel
theorem dX12_plainTells_1 : decode cX12_plainTells 1 = .ok (.bipush 13, 2) := by decide +kernel
theorem dX12_plainTells_3 : decode cX12_plainTells 3 = .ok (.invokevirtual 360, 3) := by decide +kernel
theorem dX12_plainTells_6 : decode cX12_plainTells 6 = .ok (.aload_n 0, 1) := by decide +kernel
theorem dX12_plainTells_7 : decode cX12_plainTells 7 = .ok (.iload_n 1, 1) := by decide +kernel
theorem dX12_plainTells_8 : decode cX12_plainTells 8 = .ok (.invokevirtual 387, 3) := by decide +kernel
theorem dX12_plainTells_11 : decode cX12_plainTells 11 = .ok (.aload_n 0, 1) := by decide +kernel
theorem dX12_plainTells_12 : decode cX12_plainTells 12 = .ok (.getfield 378, 3) := by decide +kernel
theorem dX12_plainTells_15 : decode cX12_plainTells 15 = .ok (.ixor, 1) := by decide +kernel
theorem dX12_plainTells_16 : decode cX12_plainTells 16 = .ok (.ireturn, 1) := by decide +kernel
theorem dX12_tellsIt_0 : decode cX12_tellsIt 0 = .ok (.aload_n 0, 1) := by decide +kernel
theorem dX12_tellsIt_1 : decode cX12_tellsIt 1 = .ok (.getfield 366, 3) := by decide +kernel
theorem dX12_tellsIt_4 : decode cX12_tellsIt 4 = .ok (.iconst 2, 1) := by decide +kernel
theorem dX12_tellsIt_5 : decode cX12_tellsIt 5 = .ok (.if_icmp .ne 26, 3) := by decide +kernel
theorem dX12_tellsIt_8 : decode cX12_tellsIt 8 = .ok (.aload_n 0, 1) := by decide +kernel
theorem dX12_tellsIt_9 : decode cX12_tellsIt 9 = .ok (.bipush 31, 2) := by decide +kernel
theorem dX12_tellsIt_11 : decode cX12_tellsIt 11 = .ok (.invokevirtual 360, 3) := by decide +kernel
theorem dX12_tellsIt_14 : decode cX12_tellsIt 14 = .ok (.aload_n 0, 1) := by decide +kernel
theorem dX12_tellsIt_15 : decode cX12_tellsIt 15 = .ok (.iload_n 1, 1) := by decide +kernel
theorem dX12_tellsIt_16 : decode cX12_tellsIt 16 = .ok (.invokevirtual 390, 3) := by decide +kernel
theorem dX12_tellsIt_19 : decode cX12_tellsIt 19 = .ok (.istore_n 2, 1) := by decide +kernel
theorem dX12_tellsIt_20 : decode cX12_tellsIt 20 = .ok (.iload_n 2, 1) := by decide +kernel
theorem dX12_tellsIt_21 : decode cX12_tellsIt 21 = .ok (.aload_n 0, 1) := by decide +kernel
theorem dX12_tellsIt_22 : decode cX12_tellsIt 22 = .ok (.aload_n 0, 1) := by decide +kernel
theorem dX12_tellsIt_23 : decode cX12_tellsIt 23 = .ok (.getfield 363, 3) := by decide +kernel
theorem dX12_tellsIt_26 : decode cX12_tellsIt 26 = .ok (.invokevirtual 393, 3) := by decide +kernel
theorem dX12_tellsIt_29 : decode cX12_tellsIt 29 = .ok (.iadd, 1) := by decide +kernel
theorem dX12_tellsIt_30 : decode cX12_tellsIt 30 = .ok (.ireturn, 1) := by decide +kernel
theorem dX12_tellsIt_31 : decode cX12_tellsIt 31 = .ok (.aload_n 0, 1) := by decide +kernel
theorem dX12_tellsIt_32 : decode cX12_tellsIt 32 = .ok (.getfield 366, 3) := by decide +kernel
theorem dX12_tellsIt_35 : decode cX12_tellsIt 35 = .ok (.iconst 5, 1) := by decide +kernel
theorem dX12_tellsIt_36 : decode cX12_tellsIt 36 = .ok (.if_icmp .ne 17, 3) := by decide +kernel
theorem dX12_tellsIt_39 : decode cX12_tellsIt 39 = .ok (.aload_n 0, 1) := by decide +kernel
theorem dX12_tellsIt_40 : decode cX12_tellsIt 40 = .ok (.bipush 60, 2) := by decide +kernel
theorem dX12_tellsIt_42 : decode cX12_tellsIt 42 = .ok (.invokevirtual 360, 3) := by decide +kernel
theorem dX12_tellsIt_45 : decode cX12_tellsIt 45 = .ok (.aload_n 0, 1) := by decide +kernel
theorem dX12_tellsIt_46 : decode cX12_tellsIt 46 = .ok (.iload_n 1, 1) := by decide +kernel
theorem dX12_tellsIt_47 : decode cX12_tellsIt 47 = .ok (.invokevirtual 390, 3) := by decide +kernel
theorem dX12_tellsIt_50 : decode cX12_tellsIt 50 = .ok (.iconst 2, 1) := by decide +kernel
theorem dX12_tellsIt_51 : decode cX12_tellsIt 51 = .ok (.imul, 1) := by decide +kernel
theorem dX12_tellsIt_52 : decode cX12_tellsIt 52 = .ok (.ireturn, 1) := by decide +kernel
theorem dX12_tellsIt_53 : decode cX12_tellsIt 53 = .ok (.aload_n 0, 1) := by decide +kernel
theorem dX12_tellsIt_54 : decode cX12_tellsIt 54 = .ok (.iload_n 1, 1) := by decide +kernel
theorem dX12_tellsIt_55 : decode cX12_tellsIt 55 = .ok (.invokevirtual 390, 3) := by decide +kernel
theorem dX12_tellsIt_58 : decode cX12_tellsIt 58 = .ok (.ireturn, 1) := by decide +kernel
theorem dX12_act_0 : decode cX12_act 0 = .ok (.aload_n 0, 1) := by decide +kernel
theorem dX12_act_1 : decode cX12_act 1 = .ok (.iconst 0, 1) := by decide +kernel
theorem dX12_act_2 : decode cX12_act 2 = .ok (.putfield 357, 3) := by decide +kernel
theorem dX12_act_5 : decode cX12_act 5 = .ok (.iload_n 1, 1) := by decide +kernel
theorem dX12_act_6 : decode cX12_act 6 = .ok (.invokestatic 328, 3) := by decide +kernel
theorem dX12_act_9 : decode cX12_act 9 = .ok (.ifCond .eq 11, 3) := by decide +kernel
theorem dX12_act_12 : decode cX12_act 12 = .ok (.aload_n 0, 1) := by decide +kernel
theorem dX12_act_13 : decode cX12_act 13 = .ok (.iload_n 1, 1) := by decide +kernel
theorem dX12_act_14 : decode cX12_act 14 = .ok (.invokevirtual 351, 3) := by decide +kernel
theorem dX12_act_17 : decode cX12_act 17 = .ok (.goto 4, 3) := by decide +kernel
theorem dX12_act_20 : decode cX12_act 20 = .ok (.iconst (-1), 1) := by decide +kernel
theorem dX12_act_21 : decode cX12_act 21 = .ok (.istore 4, 2) := by decide +kernel
theorem dX12_act_23 : decode cX12_act 23 = .ok (.iload_n 2, 1) := by decide +kernel
theorem dX12_act_24 : decode cX12_act 24 = .ok (.iconst 0, 1) := by decide +kernel
theorem dX12_act_25 : decode cX12_act 25 = .ok (.iconst 3, 1) := by decide +kernel
theorem dX12_act_26 : decode cX12_act 26 = .ok (.invokestatic 84, 3) := by decide +kernel
theorem dX12_act_29 : decode cX12_act 29 = .ok (.ifCond .eq 13, 3) := by decide +kernel
theorem dX12_act_32 : decode cX12_act 32 = .ok (.iload 4, 2) := by decide +kernel
theorem dX12_act_34 : decode cX12_act 34 = .ok (.iconst 0, 1) := by decide +kernel
theorem dX12_act_35 : decode cX12_act 35 = .ok (.iconst 5, 1) := by decide +kernel
theorem dX12_act_36 : decode cX12_act 36 = .ok (.invokestatic 84, 3) := by decide +kernel
theorem dX12_act_39 : decode cX12_act 39 = .ok (.ifCond .ne 5, 3) := by decide +kernel
theorem dX12_act_42 : decode cX12_act 42 = .ok (.iconst 0, 1) := by decide +kernel
theorem dX12_act_43 : decode cX12_act 43 = .ok (.ireturn, 1) := by decide +kernel
theorem dX12_act_44 : decode cX12_act 44 = .ok (.aload_n 0, 1) := by decide +kernel
theorem dX12_act_45 : decode cX12_act 45 = .ok (.iload 4, 2) := by decide +kernel
theorem dX12_act_47 : decode cX12_act 47 = .ok (.putfield 366, 3) := by decide +kernel
theorem dX12_act_50 : decode cX12_act 50 = .ok (.aload_n 0, 1) := by decide +kernel
theorem dX12_act_51 : decode cX12_act 51 = .ok (.aload_n 0, 1) := by decide +kernel
theorem dX12_act_52 : decode cX12_act 52 = .ok (.getfield 66, 3) := by decide +kernel
theorem dX12_act_55 : decode cX12_act 55 = .ok (.iload_n 1, 1) := by decide +kernel
theorem dX12_act_56 : decode cX12_act 56 = .ok (.iaload, 1) := by decide +kernel
theorem dX12_act_57 : decode cX12_act 57 = .ok (.putfield 363, 3) := by decide +kernel
theorem dX12_act_60 : decode cX12_act 60 = .ok (.aload_n 0, 1) := by decide +kernel
theorem dX12_act_61 : decode cX12_act 61 = .ok (.aload_n 0, 1) := by decide +kernel
theorem dX12_act_62 : decode cX12_act 62 = .ok (.aload_n 0, 1) := by decide +kernel
theorem dX12_act_63 : decode cX12_act 63 = .ok (.getfield 363, 3) := by decide +kernel
theorem dX12_act_66 : decode cX12_act 66 = .ok (.iconst 1, 1) := by decide +kernel
theorem dX12_act_67 : decode cX12_act 67 = .ok (.invokevirtual 208, 3) := by decide +kernel
theorem dX12_act_70 : decode cX12_act 70 = .ok (.putfield 378, 3) := by decide +kernel
theorem dX12_act_73 : decode cX12_act 73 = .ok (.aload_n 0, 1) := by decide +kernel
theorem dX12_act_74 : decode cX12_act 74 = .ok (.iconst 0, 1) := by decide +kernel
theorem dX12_act_75 : decode cX12_act 75 = .ok (.putfield 381, 3) := by decide +kernel
theorem dX12_act_78 : decode cX12_act 78 = .ok (.iload_n 2, 1) := by decide +kernel
theorem dX12_act_79 : decode cX12_act 79 = .ok (.ifCond .ne 11, 3) := by decide +kernel
theorem dX12_act_82 : decode cX12_act 82 = .ok (.aload_n 0, 1) := by decide +kernel
theorem dX12_act_83 : decode cX12_act 83 = .ok (.iload_n 3, 1) := by decide +kernel
theorem dX12_act_84 : decode cX12_act 84 = .ok (.invokevirtual 372, 3) := by decide +kernel
theorem dX12_act_87 : decode cX12_act 87 = .ok (.goto 34, 3) := by decide +kernel
theorem dX12_act_90 : decode cX12_act 90 = .ok (.iload_n 2, 1) := by decide +kernel
theorem dX12_act_91 : decode cX12_act 91 = .ok (.iconst 1, 1) := by decide +kernel
theorem dX12_act_92 : decode cX12_act 92 = .ok (.if_icmp .ne 11, 3) := by decide +kernel
theorem dX12_act_95 : decode cX12_act 95 = .ok (.aload_n 0, 1) := by decide +kernel
theorem dX12_act_96 : decode cX12_act 96 = .ok (.iload_n 3, 1) := by decide +kernel
theorem dX12_act_97 : decode cX12_act 97 = .ok (.invokevirtual 387, 3) := by decide +kernel
theorem dX12_act_100 : decode cX12_act 100 = .ok (.goto 21, 3) := by decide +kernel
theorem dX12_act_103 : decode cX12_act 103 = .ok (.iload_n 2, 1) := by decide +kernel
theorem dX12_act_104 : decode cX12_act 104 = .ok (.iconst 2, 1) := by decide +kernel
theorem dX12_act_105 : decode cX12_act 105 = .ok (.if_icmp .ne 11, 3) := by decide +kernel
theorem dX12_act_108 : decode cX12_act 108 = .ok (.aload_n 0, 1) := by decide +kernel
theorem dX12_act_109 : decode cX12_act 109 = .ok (.iload_n 3, 1) := by decide +kernel
theorem dX12_act_110 : decode cX12_act 110 = .ok (.invokevirtual 393, 3) := by decide +kernel
theorem dX12_act_113 : decode cX12_act 113 = .ok (.goto 8, 3) := by decide +kernel
theorem dX12_act_116 : decode cX12_act 116 = .ok (.aload_n 0, 1) := by decide +kernel
theorem dX12_act_117 : decode cX12_act 117 = .ok (.iload_n 3, 1) := by decide +kernel
theorem dX12_act_118 : decode cX12_act 118 = .ok (.invokevirtual 396, 3) := by decide +kernel
theorem dX12_act_121 : decode cX12_act 121 = .ok (.istore 5, 2) := by decide +kernel
theorem dX12_act_123 : decode cX12_act 123 = .ok (.aload_n 0, 1) := by decide +kernel
theorem dX12_act_124 : decode cX12_act 124 = .ok (.getfield 381, 3) := by decide +kernel
theorem dX12_act_127 : decode cX12_act 127 = .ok (.ifCond .eq 8, 3) := by decide +kernel
theorem dX12_act_130 : decode cX12_act 130 = .ok (.bipush (-15), 2) := by decide +kernel
theorem dX12_act_132 : decode cX12_act 132 = .ok (.goto 5, 3) := by decide +kernel
theorem dX12_act_135 : decode cX12_act 135 = .ok (.iload 5, 2) := by decide +kernel
theorem dX12_act_137 : decode cX12_act 137 = .ok (.ireturn, 1) := by decide +kernel
theorem dX12_trace_0 : decode cX12_trace 0 = .ok (.iload_n 1, 1) := by decide +kernel
theorem dX12_trace_1 : decode cX12_trace 1 = .ok (.iconst 0, 1) := by decide +kernel
theorem dX12_trace_2 : decode cX12_trace 2 = .ok (.aload_n 0, 1) := by decide +kernel
theorem dX12_trace_3 : decode cX12_trace 3 = .ok (.getfield 357, 3) := by decide +kernel
theorem dX12_trace_6 : decode cX12_trace 6 = .ok (.iconst 1, 1) := by decide +kernel
theorem dX12_trace_7 : decode cX12_trace 7 = .ok (.isub, 1) := by decide +kernel
theorem dX12_trace_8 : decode cX12_trace 8 = .ok (.invokestatic 84, 3) := by decide +kernel
theorem dX12_trace_11 : decode cX12_trace 11 = .ok (.ifCond .eq 12, 3) := by decide +kernel
theorem dX12_trace_14 : decode cX12_trace 14 = .ok (.aload_n 0, 1) := by decide +kernel
theorem dX12_trace_15 : decode cX12_trace 15 = .ok (.getfield 72, 3) := by decide +kernel
theorem dX12_trace_18 : decode cX12_trace 18 = .ok (.iload_n 1, 1) := by decide +kernel
theorem dX12_trace_19 : decode cX12_trace 19 = .ok (.iaload, 1) := by decide +kernel
theorem dX12_trace_20 : decode cX12_trace 20 = .ok (.goto 5, 3) := by decide +kernel
theorem dX12_trace_23 : decode cX12_trace 23 = .ok (.bipush (-3), 2) := by decide +kernel
theorem dX12_trace_25 : decode cX12_trace 25 = .ok (.ireturn, 1) := by decide +kernel
theorem dX12_many_0 : decode cX12_many 0 = .ok (.iload_n 1, 1) := by decide +kernel
theorem dX12_many_1 : decode cX12_many 1 = .ok (.tableswitch 60 0 4 #[35, 40, 45, 50, 55], 35) := by decide +kernel
theorem dX12_many_36 : decode cX12_many 36 = .ok (.aload_n 0, 1) := by decide +kernel
theorem dX12_many_37 : decode cX12_many 37 = .ok (.getfield 81, 3) := by decide +kernel
theorem dX12_many_40 : decode cX12_many 40 = .ok (.ireturn, 1) := by decide +kernel
theorem dX12_many_41 : decode cX12_many 41 = .ok (.aload_n 0, 1) := by decide +kernel
theorem dX12_many_42 : decode cX12_many 42 = .ok (.getfield 198, 3) := by decide +kernel
theorem dX12_many_45 : decode cX12_many 45 = .ok (.ireturn, 1) := by decide +kernel
theorem dX12_many_46 : decode cX12_many 46 = .ok (.aload_n 0, 1) := by decide +kernel
theorem dX12_many_47 : decode cX12_many 47 = .ok (.getfield 88, 3) := by decide +kernel
theorem dX12_many_50 : decode cX12_many 50 = .ok (.ireturn, 1) := by decide +kernel
theorem dX12_many_51 : decode cX12_many 51 = .ok (.aload_n 0, 1) := by decide +kernel
theorem dX12_many_52 : decode cX12_many 52 = .ok (.getfield 357, 3) := by decide +kernel
theorem dX12_many_55 : decode cX12_many 55 = .ok (.ireturn, 1) := by decide +kernel
theorem dX12_many_56 : decode cX12_many 56 = .ok (.aload_n 0, 1) := by decide +kernel
theorem dX12_many_57 : decode cX12_many 57 = .ok (.invokevirtual 214, 3) := by decide +kernel
theorem dX12_many_60 : decode cX12_many 60 = .ok (.ireturn, 1) := by decide +kernel
theorem dX12_many_61 : decode cX12_many 61 = .ok (.iconst (-1), 1) := by decide +kernel
theorem dX12_many_62 : decode cX12_many 62 = .ok (.ireturn, 1) := by decide +kernel
theorem dX12_move_0 : decode cX12_move 0 = .ok (.iconst 0, 1) := by decide +kernel
theorem dX12_move_1 : decode cX12_move 1 = .ok (.istore 4, 2) := by decide +kernel
theorem dX12_move_3 : decode cX12_move 3 = .ok (.iload 4, 2) := by decide +kernel
theorem dX12_move_5 : decode cX12_move 5 = .ok (.iload_n 2, 1) := by decide +kernel
theorem dX12_move_6 : decode cX12_move 6 = .ok (.if_icmp .ge 52, 3) := by decide +kernel
theorem dX12_move_9 : decode cX12_move 9 = .ok (.iload_n 3, 1) := by decide +kernel
theorem dX12_move_10 : decode cX12_move 10 = .ok (.ifCond .eq 19, 3) := by decide +kernel
theorem dX12_move_13 : decode cX12_move 13 = .ok (.aload_n 0, 1) := by decide +kernel
theorem dX12_move_14 : decode cX12_move 14 = .ok (.getfield 75, 3) := by decide +kernel
theorem dX12_move_17 : decode cX12_move 17 = .ok (.aload_n 0, 1) := by decide +kernel
theorem dX12_move_18 : decode cX12_move 18 = .ok (.getfield 399, 3) := by decide +kernel
theorem dX12_move_21 : decode cX12_move 21 = .ok (.aload_n 1, 1) := by decide +kernel
theorem dX12_move_22 : decode cX12_move 22 = .ok (.iload 4, 2) := by decide +kernel
theorem dX12_move_24 : decode cX12_move 24 = .ok (.iaload, 1) := by decide +kernel
theorem dX12_move_25 : decode cX12_move 25 = .ok (.iastore, 1) := by decide +kernel
theorem dX12_move_26 : decode cX12_move 26 = .ok (.goto 16, 3) := by decide +kernel
theorem dX12_move_29 : decode cX12_move 29 = .ok (.aload_n 1, 1) := by decide +kernel
theorem dX12_move_30 : decode cX12_move 30 = .ok (.iload 4, 2) := by decide +kernel
theorem dX12_move_32 : decode cX12_move 32 = .ok (.aload_n 0, 1) := by decide +kernel
theorem dX12_move_33 : decode cX12_move 33 = .ok (.getfield 75, 3) := by decide +kernel
theorem dX12_move_36 : decode cX12_move 36 = .ok (.aload_n 0, 1) := by decide +kernel
theorem dX12_move_37 : decode cX12_move 37 = .ok (.getfield 399, 3) := by decide +kernel
theorem dX12_move_40 : decode cX12_move 40 = .ok (.iaload, 1) := by decide +kernel
theorem dX12_move_41 : decode cX12_move 41 = .ok (.iastore, 1) := by decide +kernel
theorem dX12_move_42 : decode cX12_move 42 = .ok (.aload_n 0, 1) := by decide +kernel
theorem dX12_move_43 : decode cX12_move 43 = .ok (.dup, 1) := by decide +kernel
theorem dX12_move_44 : decode cX12_move 44 = .ok (.getfield 399, 3) := by decide +kernel
theorem dX12_move_47 : decode cX12_move 47 = .ok (.iconst 1, 1) := by decide +kernel
theorem dX12_move_48 : decode cX12_move 48 = .ok (.iadd, 1) := by decide +kernel
theorem dX12_move_49 : decode cX12_move 49 = .ok (.putfield 399, 3) := by decide +kernel
theorem dX12_move_52 : decode cX12_move 52 = .ok (.iinc 4 1, 3) := by decide +kernel
theorem dX12_move_55 : decode cX12_move 55 = .ok (.goto (-52), 3) := by decide +kernel
theorem dX12_move_58 : decode cX12_move 58 = .ok (.return_, 1) := by decide +kernel
theorem dX12_moveAll_0 : decode cX12_moveAll 0 = .ok (.aload_n 0, 1) := by decide +kernel
theorem dX12_moveAll_1 : decode cX12_moveAll 1 = .ok (.iconst 0, 1) := by decide +kernel
theorem dX12_moveAll_2 : decode cX12_moveAll 2 = .ok (.putfield 399, 3) := by decide +kernel
theorem dX12_moveAll_5 : decode cX12_moveAll 5 = .ok (.aload_n 0, 1) := by decide +kernel
theorem dX12_moveAll_6 : decode cX12_moveAll 6 = .ok (.getfield 78, 3) := by decide +kernel
theorem dX12_moveAll_9 : decode cX12_moveAll 9 = .ok (.iconst 0, 1) := by decide +kernel
theorem dX12_moveAll_10 : decode cX12_moveAll 10 = .ok (.aload_n 0, 1) := by decide +kernel
theorem dX12_moveAll_11 : decode cX12_moveAll 11 = .ok (.getfield 81, 3) := by decide +kernel
theorem dX12_moveAll_14 : decode cX12_moveAll 14 = .ok (.iastore, 1) := by decide +kernel
theorem dX12_moveAll_15 : decode cX12_moveAll 15 = .ok (.aload_n 0, 1) := by decide +kernel
theorem dX12_moveAll_16 : decode cX12_moveAll 16 = .ok (.getfield 78, 3) := by decide +kernel
theorem dX12_moveAll_19 : decode cX12_moveAll 19 = .ok (.iconst 1, 1) := by decide +kernel
theorem dX12_moveAll_20 : decode cX12_moveAll 20 = .ok (.aload_n 0, 1) := by decide +kernel
theorem dX12_moveAll_21 : decode cX12_moveAll 21 = .ok (.getfield 22, 3) := by decide +kernel
theorem dX12_moveAll_24 : decode cX12_moveAll 24 = .ok (.iastore, 1) := by decide +kernel
theorem dX12_moveAll_25 : decode cX12_moveAll 25 = .ok (.aload_n 0, 1) := by decide +kernel
theorem dX12_moveAll_26 : decode cX12_moveAll 26 = .ok (.aload_n 0, 1) := by decide +kernel
theorem dX12_moveAll_27 : decode cX12_moveAll 27 = .ok (.getfield 78, 3) := by decide +kernel
theorem dX12_moveAll_30 : decode cX12_moveAll 30 = .ok (.iconst 2, 1) := by decide +kernel
theorem dX12_moveAll_31 : decode cX12_moveAll 31 = .ok (.iload_n 1, 1) := by decide +kernel
theorem dX12_moveAll_32 : decode cX12_moveAll 32 = .ok (.invokevirtual 402, 3) := by decide +kernel
theorem dX12_moveAll_35 : decode cX12_moveAll 35 = .ok (.aload_n 0, 1) := by decide +kernel
theorem dX12_moveAll_36 : decode cX12_moveAll 36 = .ok (.aload_n 0, 1) := by decide +kernel
theorem dX12_moveAll_37 : decode cX12_moveAll 37 = .ok (.getfield 7, 3) := by decide +kernel
theorem dX12_moveAll_40 : decode cX12_moveAll 40 = .ok (.bipush 24, 2) := by decide +kernel
theorem dX12_moveAll_42 : decode cX12_moveAll 42 = .ok (.iload_n 1, 1) := by decide +kernel
theorem dX12_moveAll_43 : decode cX12_moveAll 43 = .ok (.invokevirtual 402, 3) := by decide +kernel
theorem dX12_moveAll_46 : decode cX12_moveAll 46 = .ok (.aload_n 0, 1) := by decide +kernel
theorem dX12_moveAll_47 : decode cX12_moveAll 47 = .ok (.aload_n 0, 1) := by decide +kernel
theorem dX12_moveAll_48 : decode cX12_moveAll 48 = .ok (.getfield 13, 3) := by decide +kernel
theorem dX12_moveAll_51 : decode cX12_moveAll 51 = .ok (.bipush 6, 2) := by decide +kernel
theorem dX12_moveAll_53 : decode cX12_moveAll 53 = .ok (.iload_n 1, 1) := by decide +kernel
theorem dX12_moveAll_54 : decode cX12_moveAll 54 = .ok (.invokevirtual 402, 3) := by decide +kernel
theorem dX12_moveAll_57 : decode cX12_moveAll 57 = .ok (.aload_n 0, 1) := by decide +kernel
theorem dX12_moveAll_58 : decode cX12_moveAll 58 = .ok (.aload_n 0, 1) := by decide +kernel
theorem dX12_moveAll_59 : decode cX12_moveAll 59 = .ok (.getfield 16, 3) := by decide +kernel
theorem dX12_moveAll_62 : decode cX12_moveAll 62 = .ok (.iconst 5, 1) := by decide +kernel
theorem dX12_moveAll_63 : decode cX12_moveAll 63 = .ok (.iload_n 1, 1) := by decide +kernel
theorem dX12_moveAll_64 : decode cX12_moveAll 64 = .ok (.invokevirtual 402, 3) := by decide +kernel
theorem dX12_moveAll_67 : decode cX12_moveAll 67 = .ok (.aload_n 0, 1) := by decide +kernel
theorem dX12_moveAll_68 : decode cX12_moveAll 68 = .ok (.aload_n 0, 1) := by decide +kernel
theorem dX12_moveAll_69 : decode cX12_moveAll 69 = .ok (.getfield 26, 3) := by decide +kernel
theorem dX12_moveAll_72 : decode cX12_moveAll 72 = .ok (.bipush 8, 2) := by decide +kernel
theorem dX12_moveAll_74 : decode cX12_moveAll 74 = .ok (.iload_n 1, 1) := by decide +kernel
theorem dX12_moveAll_75 : decode cX12_moveAll 75 = .ok (.invokevirtual 402, 3) := by decide +kernel
theorem dX12_moveAll_78 : decode cX12_moveAll 78 = .ok (.return_, 1) := by decide +kernel
theorem dX12_keep_0 : decode cX12_keep 0 = .ok (.aload_n 0, 1) := by decide +kernel
theorem dX12_keep_1 : decode cX12_keep 1 = .ok (.iconst 1, 1) := by decide +kernel
theorem dX12_keep_2 : decode cX12_keep 2 = .ok (.invokevirtual 406, 3) := by decide +kernel
theorem dX12_keep_5 : decode cX12_keep 5 = .ok (.aload_n 0, 1) := by decide +kernel
theorem dX12_keep_6 : decode cX12_keep 6 = .ok (.iconst 1, 1) := by decide +kernel
theorem dX12_keep_7 : decode cX12_keep 7 = .ok (.putfield 410, 3) := by decide +kernel
theorem dX12_keep_10 : decode cX12_keep 10 = .ok (.iconst 1, 1) := by decide +kernel
theorem dX12_keep_11 : decode cX12_keep 11 = .ok (.ireturn, 1) := by decide +kernel
theorem dX12_again_0 : decode cX12_again 0 = .ok (.aload_n 0, 1) := by decide +kernel
theorem dX12_again_1 : decode cX12_again 1 = .ok (.getfield 410, 3) := by decide +kernel
theorem dX12_again_4 : decode cX12_again 4 = .ok (.ifCond .ne 6, 3) := by decide +kernel
theorem dX12_again_7 : decode cX12_again 7 = .ok (.bipush (-3), 2) := by decide +kernel
theorem dX12_again_9 : decode cX12_again 9 = .ok (.ireturn, 1) := by decide +kernel
theorem dX12_again_10 : decode cX12_again 10 = .ok (.aload_n 0, 1) := by decide +kernel
theorem dX12_again_11 : decode cX12_again 11 = .ok (.iconst 0, 1) := by decide +kernel
theorem dX12_again_12 : decode cX12_again 12 = .ok (.invokevirtual 406, 3) := by decide +kernel
theorem dX12_again_15 : decode cX12_again 15 = .ok (.aload_n 0, 1) := by decide +kernel
theorem dX12_again_16 : decode cX12_again 16 = .ok (.aload_n 0, 1) := by decide +kernel
theorem dX12_again_17 : decode cX12_again 17 = .ok (.getfield 78, 3) := by decide +kernel
theorem dX12_again_20 : decode cX12_again 20 = .ok (.iconst 0, 1) := by decide +kernel
theorem dX12_again_21 : decode cX12_again 21 = .ok (.iaload, 1) := by decide +kernel
theorem dX12_again_22 : decode cX12_again 22 = .ok (.putfield 81, 3) := by decide +kernel
theorem dX12_again_25 : decode cX12_again 25 = .ok (.aload_n 0, 1) := by decide +kernel
theorem dX12_again_26 : decode cX12_again 26 = .ok (.aload_n 0, 1) := by decide +kernel
theorem dX12_again_27 : decode cX12_again 27 = .ok (.getfield 78, 3) := by decide +kernel
theorem dX12_again_30 : decode cX12_again 30 = .ok (.iconst 1, 1) := by decide +kernel
theorem dX12_again_31 : decode cX12_again 31 = .ok (.iaload, 1) := by decide +kernel
theorem dX12_again_32 : decode cX12_again 32 = .ok (.putfield 22, 3) := by decide +kernel
theorem dX12_again_35 : decode cX12_again 35 = .ok (.aload_n 0, 1) := by decide +kernel
theorem dX12_again_36 : decode cX12_again 36 = .ok (.getfield 81, 3) := by decide +kernel
theorem dX12_again_39 : decode cX12_again 39 = .ok (.ireturn, 1) := by decide +kernel
end
section
theorem dL_law_0 : decode cL_law 0 = .ok (.new 7, 3) := by decide +kernel
theorem dL_law_3 : decode cL_law 3 = .ok (.dup, 1) := by decide +kernel
theorem dL_law_4 : decode cL_law 4 = .ok (.invokespecial 9, 3) := by decide +kernel
theorem dL_law_7 : decode cL_law 7 = .ok (.astore_n 1, 1) := by decide +kernel
theorem dL_law_8 : decode cL_law 8 = .ok (.new 10, 3) := by decide +kernel
theorem dL_law_11 : decode cL_law 11 = .ok (.dup, 1) := by decide +kernel
theorem dL_law_12 : decode cL_law 12 = .ok (.invokespecial 12, 3) := by decide +kernel
theorem dL_law_15 : decode cL_law 15 = .ok (.astore_n 2, 1) := by decide +kernel
theorem dL_law_16 : decode cL_law 16 = .ok (.iconst 0, 1) := by decide +kernel
theorem dL_law_17 : decode cL_law 17 = .ok (.istore_n 3, 1) := by decide +kernel
theorem dL_law_18 : decode cL_law 18 = .ok (.iload_n 3, 1) := by decide +kernel
theorem dL_law_19 : decode cL_law 19 = .ok (.aload_n 0, 1) := by decide +kernel
theorem dL_law_20 : decode cL_law 20 = .ok (.arraylength, 1) := by decide +kernel
theorem dL_law_21 : decode cL_law 21 = .ok (.bipush 7, 2) := by decide +kernel
theorem dL_law_23 : decode cL_law 23 = .ok (.isub, 1) := by decide +kernel
theorem dL_law_24 : decode cL_law 24 = .ok (.if_icmp .gt 1559, 3) := by decide +kernel
theorem dL_law_27 : decode cL_law 27 = .ok (.aload_n 0, 1) := by decide +kernel
theorem dL_law_28 : decode cL_law 28 = .ok (.iload_n 3, 1) := by decide +kernel
theorem dL_law_29 : decode cL_law 29 = .ok (.iaload, 1) := by decide +kernel
theorem dL_law_30 : decode cL_law 30 = .ok (.bipush 63, 2) := by decide +kernel
theorem dL_law_32 : decode cL_law 32 = .ok (.iand, 1) := by decide +kernel
theorem dL_law_33 : decode cL_law 33 = .ok (.tableswitch 1544 0 34 #[155, 218, 231, 284, 317, 350, 383, 406, 459, 482, 505, 538, 601, 664, 727, 802, 855, 898, 973, 1036, 1089, 1112, 1135, 1168, 1211, 1224, 1267, 1310, 1353, 1396, 1429, 1472, 1495, 1518, 1531], 155) := by decide +kernel
theorem dL_law_188 : decode cL_law 188 = .ok (.aload_n 1, 1) := by decide +kernel
theorem dL_law_189 : decode cL_law 189 = .ok (.aload_n 0, 1) := by decide +kernel
theorem dL_law_190 : decode cL_law 190 = .ok (.iload_n 3, 1) := by decide +kernel
theorem dL_law_191 : decode cL_law 191 = .ok (.iconst 1, 1) := by decide +kernel
theorem dL_law_192 : decode cL_law 192 = .ok (.iadd, 1) := by decide +kernel
theorem dL_law_193 : decode cL_law 193 = .ok (.iaload, 1) := by decide +kernel
theorem dL_law_194 : decode cL_law 194 = .ok (.i2l, 1) := by decide +kernel
theorem dL_law_195 : decode cL_law 195 = .ok (.bipush 32, 2) := by decide +kernel
theorem dL_law_197 : decode cL_law 197 = .ok (.lshl, 1) := by decide +kernel
theorem dL_law_198 : decode cL_law 198 = .ok (.aload_n 0, 1) := by decide +kernel
theorem dL_law_199 : decode cL_law 199 = .ok (.iload_n 3, 1) := by decide +kernel
theorem dL_law_200 : decode cL_law 200 = .ok (.iconst 2, 1) := by decide +kernel
theorem dL_law_201 : decode cL_law 201 = .ok (.iadd, 1) := by decide +kernel
theorem dL_law_202 : decode cL_law 202 = .ok (.iaload, 1) := by decide +kernel
theorem dL_law_203 : decode cL_law 203 = .ok (.i2l, 1) := by decide +kernel
theorem dL_law_204 : decode cL_law 204 = .ok (.ldc2_w 13, 3) := by decide +kernel
theorem dL_law_207 : decode cL_law 207 = .ok (.land, 1) := by decide +kernel
theorem dL_law_208 : decode cL_law 208 = .ok (.lor, 1) := by decide +kernel
theorem dL_law_209 : decode cL_law 209 = .ok (.aload_n 0, 1) := by decide +kernel
theorem dL_law_210 : decode cL_law 210 = .ok (.iload_n 3, 1) := by decide +kernel
theorem dL_law_211 : decode cL_law 211 = .ok (.iconst 3, 1) := by decide +kernel
theorem dL_law_212 : decode cL_law 212 = .ok (.iadd, 1) := by decide +kernel
theorem dL_law_213 : decode cL_law 213 = .ok (.iaload, 1) := by decide +kernel
theorem dL_law_214 : decode cL_law 214 = .ok (.invokevirtual 15, 3) := by decide +kernel
theorem dL_law_217 : decode cL_law 217 = .ok (.aload_n 2, 1) := by decide +kernel
theorem dL_law_218 : decode cL_law 218 = .ok (.aload_n 0, 1) := by decide +kernel
theorem dL_law_219 : decode cL_law 219 = .ok (.iload_n 3, 1) := by decide +kernel
theorem dL_law_220 : decode cL_law 220 = .ok (.iconst 1, 1) := by decide +kernel
theorem dL_law_221 : decode cL_law 221 = .ok (.iadd, 1) := by decide +kernel
theorem dL_law_222 : decode cL_law 222 = .ok (.iaload, 1) := by decide +kernel
theorem dL_law_223 : decode cL_law 223 = .ok (.i2l, 1) := by decide +kernel
theorem dL_law_224 : decode cL_law 224 = .ok (.bipush 32, 2) := by decide +kernel
theorem dL_law_226 : decode cL_law 226 = .ok (.lshl, 1) := by decide +kernel
theorem dL_law_227 : decode cL_law 227 = .ok (.aload_n 0, 1) := by decide +kernel
theorem dL_law_228 : decode cL_law 228 = .ok (.iload_n 3, 1) := by decide +kernel
theorem dL_law_229 : decode cL_law 229 = .ok (.iconst 2, 1) := by decide +kernel
theorem dL_law_230 : decode cL_law 230 = .ok (.iadd, 1) := by decide +kernel
theorem dL_law_231 : decode cL_law 231 = .ok (.iaload, 1) := by decide +kernel
theorem dL_law_232 : decode cL_law 232 = .ok (.i2l, 1) := by decide +kernel
theorem dL_law_233 : decode cL_law 233 = .ok (.ldc2_w 13, 3) := by decide +kernel
theorem dL_law_236 : decode cL_law 236 = .ok (.land, 1) := by decide +kernel
theorem dL_law_237 : decode cL_law 237 = .ok (.lor, 1) := by decide +kernel
theorem dL_law_238 : decode cL_law 238 = .ok (.aload_n 0, 1) := by decide +kernel
theorem dL_law_239 : decode cL_law 239 = .ok (.iload_n 3, 1) := by decide +kernel
theorem dL_law_240 : decode cL_law 240 = .ok (.iconst 3, 1) := by decide +kernel
theorem dL_law_241 : decode cL_law 241 = .ok (.iadd, 1) := by decide +kernel
theorem dL_law_242 : decode cL_law 242 = .ok (.iaload, 1) := by decide +kernel
theorem dL_law_243 : decode cL_law 243 = .ok (.invokevirtual 19, 3) := by decide +kernel
theorem dL_law_246 : decode cL_law 246 = .ok (.if_icmp .eq 1331, 3) := by decide +kernel
theorem dL_law_249 : decode cL_law 249 = .ok (.iconst 0, 1) := by decide +kernel
theorem dL_law_250 : decode cL_law 250 = .ok (.ireturn, 1) := by decide +kernel
theorem dL_law_251 : decode cL_law 251 = .ok (.aload_n 1, 1) := by decide +kernel
theorem dL_law_252 : decode cL_law 252 = .ok (.invokevirtual 20, 3) := by decide +kernel
theorem dL_law_255 : decode cL_law 255 = .ok (.aload_n 2, 1) := by decide +kernel
theorem dL_law_256 : decode cL_law 256 = .ok (.invokevirtual 24, 3) := by decide +kernel
theorem dL_law_259 : decode cL_law 259 = .ok (.if_icmp .eq 1318, 3) := by decide +kernel
theorem dL_law_262 : decode cL_law 262 = .ok (.iconst 0, 1) := by decide +kernel
theorem dL_law_263 : decode cL_law 263 = .ok (.ireturn, 1) := by decide +kernel
theorem dL_law_264 : decode cL_law 264 = .ok (.aload_n 1, 1) := by decide +kernel
theorem dL_law_265 : decode cL_law 265 = .ok (.aload_n 0, 1) := by decide +kernel
theorem dL_law_266 : decode cL_law 266 = .ok (.iload_n 3, 1) := by decide +kernel
theorem dL_law_267 : decode cL_law 267 = .ok (.iconst 1, 1) := by decide +kernel
theorem dL_law_268 : decode cL_law 268 = .ok (.iadd, 1) := by decide +kernel
theorem dL_law_269 : decode cL_law 269 = .ok (.iaload, 1) := by decide +kernel
theorem dL_law_270 : decode cL_law 270 = .ok (.aload_n 0, 1) := by decide +kernel
theorem dL_law_271 : decode cL_law 271 = .ok (.iload_n 3, 1) := by decide +kernel
theorem dL_law_272 : decode cL_law 272 = .ok (.iconst 2, 1) := by decide +kernel
theorem dL_law_273 : decode cL_law 273 = .ok (.iadd, 1) := by decide +kernel
theorem dL_law_274 : decode cL_law 274 = .ok (.iaload, 1) := by decide +kernel
theorem dL_law_275 : decode cL_law 275 = .ok (.aload_n 0, 1) := by decide +kernel
theorem dL_law_276 : decode cL_law 276 = .ok (.iload_n 3, 1) := by decide +kernel
theorem dL_law_277 : decode cL_law 277 = .ok (.iconst 3, 1) := by decide +kernel
theorem dL_law_278 : decode cL_law 278 = .ok (.iadd, 1) := by decide +kernel
theorem dL_law_279 : decode cL_law 279 = .ok (.iaload, 1) := by decide +kernel
theorem dL_law_280 : decode cL_law 280 = .ok (.aload_n 0, 1) := by decide +kernel
theorem dL_law_281 : decode cL_law 281 = .ok (.iload_n 3, 1) := by decide +kernel
theorem dL_law_282 : decode cL_law 282 = .ok (.iconst 4, 1) := by decide +kernel
theorem dL_law_283 : decode cL_law 283 = .ok (.iadd, 1) := by decide +kernel
theorem dL_law_284 : decode cL_law 284 = .ok (.iaload, 1) := by decide +kernel
theorem dL_law_285 : decode cL_law 285 = .ok (.invokevirtual 25, 3) := by decide +kernel
theorem dL_law_288 : decode cL_law 288 = .ok (.aload_n 2, 1) := by decide +kernel
theorem dL_law_289 : decode cL_law 289 = .ok (.aload_n 0, 1) := by decide +kernel
theorem dL_law_290 : decode cL_law 290 = .ok (.iload_n 3, 1) := by decide +kernel
theorem dL_law_291 : decode cL_law 291 = .ok (.iconst 1, 1) := by decide +kernel
theorem dL_law_292 : decode cL_law 292 = .ok (.iadd, 1) := by decide +kernel
theorem dL_law_293 : decode cL_law 293 = .ok (.iaload, 1) := by decide +kernel
theorem dL_law_294 : decode cL_law 294 = .ok (.aload_n 0, 1) := by decide +kernel
theorem dL_law_295 : decode cL_law 295 = .ok (.iload_n 3, 1) := by decide +kernel
theorem dL_law_296 : decode cL_law 296 = .ok (.iconst 2, 1) := by decide +kernel
theorem dL_law_297 : decode cL_law 297 = .ok (.iadd, 1) := by decide +kernel
theorem dL_law_298 : decode cL_law 298 = .ok (.iaload, 1) := by decide +kernel
theorem dL_law_299 : decode cL_law 299 = .ok (.aload_n 0, 1) := by decide +kernel
theorem dL_law_300 : decode cL_law 300 = .ok (.iload_n 3, 1) := by decide +kernel
theorem dL_law_301 : decode cL_law 301 = .ok (.iconst 3, 1) := by decide +kernel
theorem dL_law_302 : decode cL_law 302 = .ok (.iadd, 1) := by decide +kernel
theorem dL_law_303 : decode cL_law 303 = .ok (.iaload, 1) := by decide +kernel
theorem dL_law_304 : decode cL_law 304 = .ok (.aload_n 0, 1) := by decide +kernel
theorem dL_law_305 : decode cL_law 305 = .ok (.iload_n 3, 1) := by decide +kernel
theorem dL_law_306 : decode cL_law 306 = .ok (.iconst 4, 1) := by decide +kernel
theorem dL_law_307 : decode cL_law 307 = .ok (.iadd, 1) := by decide +kernel
theorem dL_law_308 : decode cL_law 308 = .ok (.iaload, 1) := by decide +kernel
theorem dL_law_309 : decode cL_law 309 = .ok (.invokevirtual 29, 3) := by decide +kernel
theorem dL_law_312 : decode cL_law 312 = .ok (.if_icmp .eq 1265, 3) := by decide +kernel
theorem dL_law_315 : decode cL_law 315 = .ok (.iconst 0, 1) := by decide +kernel
theorem dL_law_316 : decode cL_law 316 = .ok (.ireturn, 1) := by decide +kernel
theorem dL_law_317 : decode cL_law 317 = .ok (.aload_n 1, 1) := by decide +kernel
theorem dL_law_318 : decode cL_law 318 = .ok (.aload_n 0, 1) := by decide +kernel
theorem dL_law_319 : decode cL_law 319 = .ok (.iload_n 3, 1) := by decide +kernel
theorem dL_law_320 : decode cL_law 320 = .ok (.iconst 1, 1) := by decide +kernel
theorem dL_law_321 : decode cL_law 321 = .ok (.iadd, 1) := by decide +kernel
theorem dL_law_322 : decode cL_law 322 = .ok (.iaload, 1) := by decide +kernel
theorem dL_law_323 : decode cL_law 323 = .ok (.aload_n 0, 1) := by decide +kernel
theorem dL_law_324 : decode cL_law 324 = .ok (.iload_n 3, 1) := by decide +kernel
theorem dL_law_325 : decode cL_law 325 = .ok (.iconst 2, 1) := by decide +kernel
theorem dL_law_326 : decode cL_law 326 = .ok (.iadd, 1) := by decide +kernel
theorem dL_law_327 : decode cL_law 327 = .ok (.iaload, 1) := by decide +kernel
theorem dL_law_328 : decode cL_law 328 = .ok (.invokevirtual 30, 3) := by decide +kernel
theorem dL_law_331 : decode cL_law 331 = .ok (.aload_n 2, 1) := by decide +kernel
theorem dL_law_332 : decode cL_law 332 = .ok (.aload_n 0, 1) := by decide +kernel
theorem dL_law_333 : decode cL_law 333 = .ok (.iload_n 3, 1) := by decide +kernel
theorem dL_law_334 : decode cL_law 334 = .ok (.iconst 1, 1) := by decide +kernel
theorem dL_law_335 : decode cL_law 335 = .ok (.iadd, 1) := by decide +kernel
theorem dL_law_336 : decode cL_law 336 = .ok (.iaload, 1) := by decide +kernel
theorem dL_law_337 : decode cL_law 337 = .ok (.aload_n 0, 1) := by decide +kernel
theorem dL_law_338 : decode cL_law 338 = .ok (.iload_n 3, 1) := by decide +kernel
theorem dL_law_339 : decode cL_law 339 = .ok (.iconst 2, 1) := by decide +kernel
theorem dL_law_340 : decode cL_law 340 = .ok (.iadd, 1) := by decide +kernel
theorem dL_law_341 : decode cL_law 341 = .ok (.iaload, 1) := by decide +kernel
theorem dL_law_342 : decode cL_law 342 = .ok (.invokevirtual 34, 3) := by decide +kernel
theorem dL_law_345 : decode cL_law 345 = .ok (.if_icmp .eq 1232, 3) := by decide +kernel
theorem dL_law_348 : decode cL_law 348 = .ok (.iconst 0, 1) := by decide +kernel
theorem dL_law_349 : decode cL_law 349 = .ok (.ireturn, 1) := by decide +kernel
theorem dL_law_350 : decode cL_law 350 = .ok (.aload_n 1, 1) := by decide +kernel
theorem dL_law_351 : decode cL_law 351 = .ok (.aload_n 0, 1) := by decide +kernel
theorem dL_law_352 : decode cL_law 352 = .ok (.iload_n 3, 1) := by decide +kernel
theorem dL_law_353 : decode cL_law 353 = .ok (.iconst 1, 1) := by decide +kernel
theorem dL_law_354 : decode cL_law 354 = .ok (.iadd, 1) := by decide +kernel
theorem dL_law_355 : decode cL_law 355 = .ok (.iaload, 1) := by decide +kernel
theorem dL_law_356 : decode cL_law 356 = .ok (.aload_n 0, 1) := by decide +kernel
theorem dL_law_357 : decode cL_law 357 = .ok (.iload_n 3, 1) := by decide +kernel
theorem dL_law_358 : decode cL_law 358 = .ok (.iconst 2, 1) := by decide +kernel
theorem dL_law_359 : decode cL_law 359 = .ok (.iadd, 1) := by decide +kernel
theorem dL_law_360 : decode cL_law 360 = .ok (.iaload, 1) := by decide +kernel
theorem dL_law_361 : decode cL_law 361 = .ok (.invokevirtual 35, 3) := by decide +kernel
theorem dL_law_364 : decode cL_law 364 = .ok (.aload_n 2, 1) := by decide +kernel
theorem dL_law_365 : decode cL_law 365 = .ok (.aload_n 0, 1) := by decide +kernel
theorem dL_law_366 : decode cL_law 366 = .ok (.iload_n 3, 1) := by decide +kernel
theorem dL_law_367 : decode cL_law 367 = .ok (.iconst 1, 1) := by decide +kernel
theorem dL_law_368 : decode cL_law 368 = .ok (.iadd, 1) := by decide +kernel
theorem dL_law_369 : decode cL_law 369 = .ok (.iaload, 1) := by decide +kernel
theorem dL_law_370 : decode cL_law 370 = .ok (.aload_n 0, 1) := by decide +kernel
theorem dL_law_371 : decode cL_law 371 = .ok (.iload_n 3, 1) := by decide +kernel
theorem dL_law_372 : decode cL_law 372 = .ok (.iconst 2, 1) := by decide +kernel
theorem dL_law_373 : decode cL_law 373 = .ok (.iadd, 1) := by decide +kernel
theorem dL_law_374 : decode cL_law 374 = .ok (.iaload, 1) := by decide +kernel
theorem dL_law_375 : decode cL_law 375 = .ok (.invokevirtual 38, 3) := by decide +kernel
theorem dL_law_378 : decode cL_law 378 = .ok (.if_icmp .eq 1199, 3) := by decide +kernel
theorem dL_law_381 : decode cL_law 381 = .ok (.iconst 0, 1) := by decide +kernel
theorem dL_law_382 : decode cL_law 382 = .ok (.ireturn, 1) := by decide +kernel
theorem dL_law_383 : decode cL_law 383 = .ok (.aload_n 1, 1) := by decide +kernel
theorem dL_law_384 : decode cL_law 384 = .ok (.aload_n 0, 1) := by decide +kernel
theorem dL_law_385 : decode cL_law 385 = .ok (.iload_n 3, 1) := by decide +kernel
theorem dL_law_386 : decode cL_law 386 = .ok (.iconst 1, 1) := by decide +kernel
theorem dL_law_387 : decode cL_law 387 = .ok (.iadd, 1) := by decide +kernel
theorem dL_law_388 : decode cL_law 388 = .ok (.iaload, 1) := by decide +kernel
theorem dL_law_389 : decode cL_law 389 = .ok (.aload_n 0, 1) := by decide +kernel
theorem dL_law_390 : decode cL_law 390 = .ok (.iload_n 3, 1) := by decide +kernel
theorem dL_law_391 : decode cL_law 391 = .ok (.iconst 2, 1) := by decide +kernel
theorem dL_law_392 : decode cL_law 392 = .ok (.iadd, 1) := by decide +kernel
theorem dL_law_393 : decode cL_law 393 = .ok (.iaload, 1) := by decide +kernel
theorem dL_law_394 : decode cL_law 394 = .ok (.invokevirtual 39, 3) := by decide +kernel
theorem dL_law_397 : decode cL_law 397 = .ok (.aload_n 2, 1) := by decide +kernel
theorem dL_law_398 : decode cL_law 398 = .ok (.aload_n 0, 1) := by decide +kernel
theorem dL_law_399 : decode cL_law 399 = .ok (.iload_n 3, 1) := by decide +kernel
theorem dL_law_400 : decode cL_law 400 = .ok (.iconst 1, 1) := by decide +kernel
theorem dL_law_401 : decode cL_law 401 = .ok (.iadd, 1) := by decide +kernel
theorem dL_law_402 : decode cL_law 402 = .ok (.iaload, 1) := by decide +kernel
theorem dL_law_403 : decode cL_law 403 = .ok (.aload_n 0, 1) := by decide +kernel
theorem dL_law_404 : decode cL_law 404 = .ok (.iload_n 3, 1) := by decide +kernel
theorem dL_law_405 : decode cL_law 405 = .ok (.iconst 2, 1) := by decide +kernel
theorem dL_law_406 : decode cL_law 406 = .ok (.iadd, 1) := by decide +kernel
theorem dL_law_407 : decode cL_law 407 = .ok (.iaload, 1) := by decide +kernel
theorem dL_law_408 : decode cL_law 408 = .ok (.invokevirtual 42, 3) := by decide +kernel
theorem dL_law_411 : decode cL_law 411 = .ok (.if_icmp .eq 1166, 3) := by decide +kernel
theorem dL_law_414 : decode cL_law 414 = .ok (.iconst 0, 1) := by decide +kernel
theorem dL_law_415 : decode cL_law 415 = .ok (.ireturn, 1) := by decide +kernel
theorem dL_law_416 : decode cL_law 416 = .ok (.aload_n 1, 1) := by decide +kernel
theorem dL_law_417 : decode cL_law 417 = .ok (.aload_n 0, 1) := by decide +kernel
theorem dL_law_418 : decode cL_law 418 = .ok (.iload_n 3, 1) := by decide +kernel
theorem dL_law_419 : decode cL_law 419 = .ok (.iconst 1, 1) := by decide +kernel
theorem dL_law_420 : decode cL_law 420 = .ok (.iadd, 1) := by decide +kernel
theorem dL_law_421 : decode cL_law 421 = .ok (.iaload, 1) := by decide +kernel
theorem dL_law_422 : decode cL_law 422 = .ok (.invokevirtual 43, 3) := by decide +kernel
theorem dL_law_425 : decode cL_law 425 = .ok (.aload_n 2, 1) := by decide +kernel
theorem dL_law_426 : decode cL_law 426 = .ok (.aload_n 0, 1) := by decide +kernel
theorem dL_law_427 : decode cL_law 427 = .ok (.iload_n 3, 1) := by decide +kernel
theorem dL_law_428 : decode cL_law 428 = .ok (.iconst 1, 1) := by decide +kernel
theorem dL_law_429 : decode cL_law 429 = .ok (.iadd, 1) := by decide +kernel
theorem dL_law_430 : decode cL_law 430 = .ok (.iaload, 1) := by decide +kernel
theorem dL_law_431 : decode cL_law 431 = .ok (.invokevirtual 47, 3) := by decide +kernel
theorem dL_law_434 : decode cL_law 434 = .ok (.if_icmp .eq 1143, 3) := by decide +kernel
theorem dL_law_437 : decode cL_law 437 = .ok (.iconst 0, 1) := by decide +kernel
theorem dL_law_438 : decode cL_law 438 = .ok (.ireturn, 1) := by decide +kernel
theorem dL_law_439 : decode cL_law 439 = .ok (.aload_n 1, 1) := by decide +kernel
theorem dL_law_440 : decode cL_law 440 = .ok (.aload_n 0, 1) := by decide +kernel
theorem dL_law_441 : decode cL_law 441 = .ok (.iload_n 3, 1) := by decide +kernel
theorem dL_law_442 : decode cL_law 442 = .ok (.iconst 1, 1) := by decide +kernel
theorem dL_law_443 : decode cL_law 443 = .ok (.iadd, 1) := by decide +kernel
theorem dL_law_444 : decode cL_law 444 = .ok (.iaload, 1) := by decide +kernel
theorem dL_law_445 : decode cL_law 445 = .ok (.aload_n 0, 1) := by decide +kernel
theorem dL_law_446 : decode cL_law 446 = .ok (.iload_n 3, 1) := by decide +kernel
theorem dL_law_447 : decode cL_law 447 = .ok (.iconst 2, 1) := by decide +kernel
theorem dL_law_448 : decode cL_law 448 = .ok (.iadd, 1) := by decide +kernel
theorem dL_law_449 : decode cL_law 449 = .ok (.iaload, 1) := by decide +kernel
theorem dL_law_450 : decode cL_law 450 = .ok (.aload_n 0, 1) := by decide +kernel
theorem dL_law_451 : decode cL_law 451 = .ok (.iload_n 3, 1) := by decide +kernel
theorem dL_law_452 : decode cL_law 452 = .ok (.iconst 3, 1) := by decide +kernel
theorem dL_law_453 : decode cL_law 453 = .ok (.iadd, 1) := by decide +kernel
theorem dL_law_454 : decode cL_law 454 = .ok (.iaload, 1) := by decide +kernel
theorem dL_law_455 : decode cL_law 455 = .ok (.aload_n 0, 1) := by decide +kernel
theorem dL_law_456 : decode cL_law 456 = .ok (.iload_n 3, 1) := by decide +kernel
theorem dL_law_457 : decode cL_law 457 = .ok (.iconst 4, 1) := by decide +kernel
theorem dL_law_458 : decode cL_law 458 = .ok (.iadd, 1) := by decide +kernel
theorem dL_law_459 : decode cL_law 459 = .ok (.iaload, 1) := by decide +kernel
theorem dL_law_460 : decode cL_law 460 = .ok (.invokevirtual 48, 3) := by decide +kernel
theorem dL_law_463 : decode cL_law 463 = .ok (.aload_n 2, 1) := by decide +kernel
theorem dL_law_464 : decode cL_law 464 = .ok (.aload_n 0, 1) := by decide +kernel
theorem dL_law_465 : decode cL_law 465 = .ok (.iload_n 3, 1) := by decide +kernel
theorem dL_law_466 : decode cL_law 466 = .ok (.iconst 1, 1) := by decide +kernel
theorem dL_law_467 : decode cL_law 467 = .ok (.iadd, 1) := by decide +kernel
theorem dL_law_468 : decode cL_law 468 = .ok (.iaload, 1) := by decide +kernel
theorem dL_law_469 : decode cL_law 469 = .ok (.aload_n 0, 1) := by decide +kernel
theorem dL_law_470 : decode cL_law 470 = .ok (.iload_n 3, 1) := by decide +kernel
theorem dL_law_471 : decode cL_law 471 = .ok (.iconst 2, 1) := by decide +kernel
theorem dL_law_472 : decode cL_law 472 = .ok (.iadd, 1) := by decide +kernel
theorem dL_law_473 : decode cL_law 473 = .ok (.iaload, 1) := by decide +kernel
theorem dL_law_474 : decode cL_law 474 = .ok (.aload_n 0, 1) := by decide +kernel
theorem dL_law_475 : decode cL_law 475 = .ok (.iload_n 3, 1) := by decide +kernel
theorem dL_law_476 : decode cL_law 476 = .ok (.iconst 3, 1) := by decide +kernel
theorem dL_law_477 : decode cL_law 477 = .ok (.iadd, 1) := by decide +kernel
theorem dL_law_478 : decode cL_law 478 = .ok (.iaload, 1) := by decide +kernel
theorem dL_law_479 : decode cL_law 479 = .ok (.aload_n 0, 1) := by decide +kernel
theorem dL_law_480 : decode cL_law 480 = .ok (.iload_n 3, 1) := by decide +kernel
theorem dL_law_481 : decode cL_law 481 = .ok (.iconst 4, 1) := by decide +kernel
theorem dL_law_482 : decode cL_law 482 = .ok (.iadd, 1) := by decide +kernel
theorem dL_law_483 : decode cL_law 483 = .ok (.iaload, 1) := by decide +kernel
theorem dL_law_484 : decode cL_law 484 = .ok (.invokevirtual 51, 3) := by decide +kernel
theorem dL_law_487 : decode cL_law 487 = .ok (.if_icmp .eq 1090, 3) := by decide +kernel
theorem dL_law_490 : decode cL_law 490 = .ok (.iconst 0, 1) := by decide +kernel
theorem dL_law_491 : decode cL_law 491 = .ok (.ireturn, 1) := by decide +kernel
theorem dL_law_492 : decode cL_law 492 = .ok (.aload_n 1, 1) := by decide +kernel
theorem dL_law_493 : decode cL_law 493 = .ok (.aload_n 0, 1) := by decide +kernel
theorem dL_law_494 : decode cL_law 494 = .ok (.iload_n 3, 1) := by decide +kernel
theorem dL_law_495 : decode cL_law 495 = .ok (.iconst 1, 1) := by decide +kernel
theorem dL_law_496 : decode cL_law 496 = .ok (.iadd, 1) := by decide +kernel
theorem dL_law_497 : decode cL_law 497 = .ok (.iaload, 1) := by decide +kernel
theorem dL_law_498 : decode cL_law 498 = .ok (.invokevirtual 52, 3) := by decide +kernel
theorem dL_law_501 : decode cL_law 501 = .ok (.aload_n 2, 1) := by decide +kernel
theorem dL_law_502 : decode cL_law 502 = .ok (.aload_n 0, 1) := by decide +kernel
theorem dL_law_503 : decode cL_law 503 = .ok (.iload_n 3, 1) := by decide +kernel
theorem dL_law_504 : decode cL_law 504 = .ok (.iconst 1, 1) := by decide +kernel
theorem dL_law_505 : decode cL_law 505 = .ok (.iadd, 1) := by decide +kernel
theorem dL_law_506 : decode cL_law 506 = .ok (.iaload, 1) := by decide +kernel
theorem dL_law_507 : decode cL_law 507 = .ok (.invokevirtual 55, 3) := by decide +kernel
theorem dL_law_510 : decode cL_law 510 = .ok (.if_icmp .eq 1067, 3) := by decide +kernel
theorem dL_law_513 : decode cL_law 513 = .ok (.iconst 0, 1) := by decide +kernel
theorem dL_law_514 : decode cL_law 514 = .ok (.ireturn, 1) := by decide +kernel
theorem dL_law_515 : decode cL_law 515 = .ok (.aload_n 1, 1) := by decide +kernel
theorem dL_law_516 : decode cL_law 516 = .ok (.aload_n 0, 1) := by decide +kernel
theorem dL_law_517 : decode cL_law 517 = .ok (.iload_n 3, 1) := by decide +kernel
theorem dL_law_518 : decode cL_law 518 = .ok (.iconst 1, 1) := by decide +kernel
theorem dL_law_519 : decode cL_law 519 = .ok (.iadd, 1) := by decide +kernel
theorem dL_law_520 : decode cL_law 520 = .ok (.iaload, 1) := by decide +kernel
theorem dL_law_521 : decode cL_law 521 = .ok (.invokevirtual 56, 3) := by decide +kernel
theorem dL_law_524 : decode cL_law 524 = .ok (.aload_n 2, 1) := by decide +kernel
theorem dL_law_525 : decode cL_law 525 = .ok (.aload_n 0, 1) := by decide +kernel
theorem dL_law_526 : decode cL_law 526 = .ok (.iload_n 3, 1) := by decide +kernel
theorem dL_law_527 : decode cL_law 527 = .ok (.iconst 1, 1) := by decide +kernel
theorem dL_law_528 : decode cL_law 528 = .ok (.iadd, 1) := by decide +kernel
theorem dL_law_529 : decode cL_law 529 = .ok (.iaload, 1) := by decide +kernel
theorem dL_law_530 : decode cL_law 530 = .ok (.invokevirtual 59, 3) := by decide +kernel
theorem dL_law_533 : decode cL_law 533 = .ok (.if_icmp .eq 1044, 3) := by decide +kernel
theorem dL_law_536 : decode cL_law 536 = .ok (.iconst 0, 1) := by decide +kernel
theorem dL_law_537 : decode cL_law 537 = .ok (.ireturn, 1) := by decide +kernel
theorem dL_law_538 : decode cL_law 538 = .ok (.aload_n 1, 1) := by decide +kernel
theorem dL_law_539 : decode cL_law 539 = .ok (.aload_n 0, 1) := by decide +kernel
theorem dL_law_540 : decode cL_law 540 = .ok (.iload_n 3, 1) := by decide +kernel
theorem dL_law_541 : decode cL_law 541 = .ok (.iconst 1, 1) := by decide +kernel
theorem dL_law_542 : decode cL_law 542 = .ok (.iadd, 1) := by decide +kernel
theorem dL_law_543 : decode cL_law 543 = .ok (.iaload, 1) := by decide +kernel
theorem dL_law_544 : decode cL_law 544 = .ok (.aload_n 0, 1) := by decide +kernel
theorem dL_law_545 : decode cL_law 545 = .ok (.iload_n 3, 1) := by decide +kernel
theorem dL_law_546 : decode cL_law 546 = .ok (.iconst 2, 1) := by decide +kernel
theorem dL_law_547 : decode cL_law 547 = .ok (.iadd, 1) := by decide +kernel
theorem dL_law_548 : decode cL_law 548 = .ok (.iaload, 1) := by decide +kernel
theorem dL_law_549 : decode cL_law 549 = .ok (.invokevirtual 60, 3) := by decide +kernel
theorem dL_law_552 : decode cL_law 552 = .ok (.aload_n 2, 1) := by decide +kernel
theorem dL_law_553 : decode cL_law 553 = .ok (.aload_n 0, 1) := by decide +kernel
theorem dL_law_554 : decode cL_law 554 = .ok (.iload_n 3, 1) := by decide +kernel
theorem dL_law_555 : decode cL_law 555 = .ok (.iconst 1, 1) := by decide +kernel
theorem dL_law_556 : decode cL_law 556 = .ok (.iadd, 1) := by decide +kernel
theorem dL_law_557 : decode cL_law 557 = .ok (.iaload, 1) := by decide +kernel
theorem dL_law_558 : decode cL_law 558 = .ok (.aload_n 0, 1) := by decide +kernel
theorem dL_law_559 : decode cL_law 559 = .ok (.iload_n 3, 1) := by decide +kernel
theorem dL_law_560 : decode cL_law 560 = .ok (.iconst 2, 1) := by decide +kernel
theorem dL_law_561 : decode cL_law 561 = .ok (.iadd, 1) := by decide +kernel
theorem dL_law_562 : decode cL_law 562 = .ok (.iaload, 1) := by decide +kernel
theorem dL_law_563 : decode cL_law 563 = .ok (.invokevirtual 63, 3) := by decide +kernel
theorem dL_law_566 : decode cL_law 566 = .ok (.if_icmp .eq 1011, 3) := by decide +kernel
theorem dL_law_569 : decode cL_law 569 = .ok (.iconst 0, 1) := by decide +kernel
theorem dL_law_570 : decode cL_law 570 = .ok (.ireturn, 1) := by decide +kernel
theorem dL_law_571 : decode cL_law 571 = .ok (.aload_n 1, 1) := by decide +kernel
theorem dL_law_572 : decode cL_law 572 = .ok (.aload_n 0, 1) := by decide +kernel
theorem dL_law_573 : decode cL_law 573 = .ok (.iload_n 3, 1) := by decide +kernel
theorem dL_law_574 : decode cL_law 574 = .ok (.iconst 1, 1) := by decide +kernel
theorem dL_law_575 : decode cL_law 575 = .ok (.iadd, 1) := by decide +kernel
theorem dL_law_576 : decode cL_law 576 = .ok (.iaload, 1) := by decide +kernel
theorem dL_law_577 : decode cL_law 577 = .ok (.aload_n 0, 1) := by decide +kernel
theorem dL_law_578 : decode cL_law 578 = .ok (.iload_n 3, 1) := by decide +kernel
theorem dL_law_579 : decode cL_law 579 = .ok (.iconst 2, 1) := by decide +kernel
theorem dL_law_580 : decode cL_law 580 = .ok (.iadd, 1) := by decide +kernel
theorem dL_law_581 : decode cL_law 581 = .ok (.iaload, 1) := by decide +kernel
theorem dL_law_582 : decode cL_law 582 = .ok (.aload_n 0, 1) := by decide +kernel
theorem dL_law_583 : decode cL_law 583 = .ok (.iload_n 3, 1) := by decide +kernel
theorem dL_law_584 : decode cL_law 584 = .ok (.iconst 3, 1) := by decide +kernel
theorem dL_law_585 : decode cL_law 585 = .ok (.iadd, 1) := by decide +kernel
theorem dL_law_586 : decode cL_law 586 = .ok (.iaload, 1) := by decide +kernel
theorem dL_law_587 : decode cL_law 587 = .ok (.aload_n 0, 1) := by decide +kernel
theorem dL_law_588 : decode cL_law 588 = .ok (.iload_n 3, 1) := by decide +kernel
theorem dL_law_589 : decode cL_law 589 = .ok (.iconst 4, 1) := by decide +kernel
theorem dL_law_590 : decode cL_law 590 = .ok (.iadd, 1) := by decide +kernel
theorem dL_law_591 : decode cL_law 591 = .ok (.iaload, 1) := by decide +kernel
theorem dL_law_592 : decode cL_law 592 = .ok (.aload_n 0, 1) := by decide +kernel
theorem dL_law_593 : decode cL_law 593 = .ok (.iload_n 3, 1) := by decide +kernel
theorem dL_law_594 : decode cL_law 594 = .ok (.iconst 5, 1) := by decide +kernel
theorem dL_law_595 : decode cL_law 595 = .ok (.iadd, 1) := by decide +kernel
theorem dL_law_596 : decode cL_law 596 = .ok (.iaload, 1) := by decide +kernel
theorem dL_law_597 : decode cL_law 597 = .ok (.invokevirtual 64, 3) := by decide +kernel
theorem dL_law_600 : decode cL_law 600 = .ok (.aload_n 2, 1) := by decide +kernel
theorem dL_law_601 : decode cL_law 601 = .ok (.aload_n 0, 1) := by decide +kernel
theorem dL_law_602 : decode cL_law 602 = .ok (.iload_n 3, 1) := by decide +kernel
theorem dL_law_603 : decode cL_law 603 = .ok (.iconst 1, 1) := by decide +kernel
theorem dL_law_604 : decode cL_law 604 = .ok (.iadd, 1) := by decide +kernel
theorem dL_law_605 : decode cL_law 605 = .ok (.iaload, 1) := by decide +kernel
theorem dL_law_606 : decode cL_law 606 = .ok (.aload_n 0, 1) := by decide +kernel
theorem dL_law_607 : decode cL_law 607 = .ok (.iload_n 3, 1) := by decide +kernel
theorem dL_law_608 : decode cL_law 608 = .ok (.iconst 2, 1) := by decide +kernel
theorem dL_law_609 : decode cL_law 609 = .ok (.iadd, 1) := by decide +kernel
theorem dL_law_610 : decode cL_law 610 = .ok (.iaload, 1) := by decide +kernel
theorem dL_law_611 : decode cL_law 611 = .ok (.aload_n 0, 1) := by decide +kernel
theorem dL_law_612 : decode cL_law 612 = .ok (.iload_n 3, 1) := by decide +kernel
theorem dL_law_613 : decode cL_law 613 = .ok (.iconst 3, 1) := by decide +kernel
theorem dL_law_614 : decode cL_law 614 = .ok (.iadd, 1) := by decide +kernel
theorem dL_law_615 : decode cL_law 615 = .ok (.iaload, 1) := by decide +kernel
theorem dL_law_616 : decode cL_law 616 = .ok (.aload_n 0, 1) := by decide +kernel
theorem dL_law_617 : decode cL_law 617 = .ok (.iload_n 3, 1) := by decide +kernel
theorem dL_law_618 : decode cL_law 618 = .ok (.iconst 4, 1) := by decide +kernel
theorem dL_law_619 : decode cL_law 619 = .ok (.iadd, 1) := by decide +kernel
theorem dL_law_620 : decode cL_law 620 = .ok (.iaload, 1) := by decide +kernel
theorem dL_law_621 : decode cL_law 621 = .ok (.aload_n 0, 1) := by decide +kernel
theorem dL_law_622 : decode cL_law 622 = .ok (.iload_n 3, 1) := by decide +kernel
theorem dL_law_623 : decode cL_law 623 = .ok (.iconst 5, 1) := by decide +kernel
theorem dL_law_624 : decode cL_law 624 = .ok (.iadd, 1) := by decide +kernel
theorem dL_law_625 : decode cL_law 625 = .ok (.iaload, 1) := by decide +kernel
theorem dL_law_626 : decode cL_law 626 = .ok (.invokevirtual 68, 3) := by decide +kernel
theorem dL_law_629 : decode cL_law 629 = .ok (.if_icmp .eq 948, 3) := by decide +kernel
theorem dL_law_632 : decode cL_law 632 = .ok (.iconst 0, 1) := by decide +kernel
theorem dL_law_633 : decode cL_law 633 = .ok (.ireturn, 1) := by decide +kernel
theorem dL_law_634 : decode cL_law 634 = .ok (.aload_n 1, 1) := by decide +kernel
theorem dL_law_635 : decode cL_law 635 = .ok (.aload_n 0, 1) := by decide +kernel
theorem dL_law_636 : decode cL_law 636 = .ok (.iload_n 3, 1) := by decide +kernel
theorem dL_law_637 : decode cL_law 637 = .ok (.iconst 1, 1) := by decide +kernel
theorem dL_law_638 : decode cL_law 638 = .ok (.iadd, 1) := by decide +kernel
theorem dL_law_639 : decode cL_law 639 = .ok (.iaload, 1) := by decide +kernel
theorem dL_law_640 : decode cL_law 640 = .ok (.aload_n 0, 1) := by decide +kernel
theorem dL_law_641 : decode cL_law 641 = .ok (.iload_n 3, 1) := by decide +kernel
theorem dL_law_642 : decode cL_law 642 = .ok (.iconst 2, 1) := by decide +kernel
theorem dL_law_643 : decode cL_law 643 = .ok (.iadd, 1) := by decide +kernel
theorem dL_law_644 : decode cL_law 644 = .ok (.iaload, 1) := by decide +kernel
theorem dL_law_645 : decode cL_law 645 = .ok (.aload_n 0, 1) := by decide +kernel
theorem dL_law_646 : decode cL_law 646 = .ok (.iload_n 3, 1) := by decide +kernel
theorem dL_law_647 : decode cL_law 647 = .ok (.iconst 3, 1) := by decide +kernel
theorem dL_law_648 : decode cL_law 648 = .ok (.iadd, 1) := by decide +kernel
theorem dL_law_649 : decode cL_law 649 = .ok (.iaload, 1) := by decide +kernel
theorem dL_law_650 : decode cL_law 650 = .ok (.aload_n 0, 1) := by decide +kernel
theorem dL_law_651 : decode cL_law 651 = .ok (.iload_n 3, 1) := by decide +kernel
theorem dL_law_652 : decode cL_law 652 = .ok (.iconst 4, 1) := by decide +kernel
theorem dL_law_653 : decode cL_law 653 = .ok (.iadd, 1) := by decide +kernel
theorem dL_law_654 : decode cL_law 654 = .ok (.iaload, 1) := by decide +kernel
theorem dL_law_655 : decode cL_law 655 = .ok (.aload_n 0, 1) := by decide +kernel
theorem dL_law_656 : decode cL_law 656 = .ok (.iload_n 3, 1) := by decide +kernel
theorem dL_law_657 : decode cL_law 657 = .ok (.iconst 5, 1) := by decide +kernel
theorem dL_law_658 : decode cL_law 658 = .ok (.iadd, 1) := by decide +kernel
theorem dL_law_659 : decode cL_law 659 = .ok (.iaload, 1) := by decide +kernel
theorem dL_law_660 : decode cL_law 660 = .ok (.invokevirtual 69, 3) := by decide +kernel
theorem dL_law_663 : decode cL_law 663 = .ok (.aload_n 2, 1) := by decide +kernel
theorem dL_law_664 : decode cL_law 664 = .ok (.aload_n 0, 1) := by decide +kernel
theorem dL_law_665 : decode cL_law 665 = .ok (.iload_n 3, 1) := by decide +kernel
theorem dL_law_666 : decode cL_law 666 = .ok (.iconst 1, 1) := by decide +kernel
theorem dL_law_667 : decode cL_law 667 = .ok (.iadd, 1) := by decide +kernel
theorem dL_law_668 : decode cL_law 668 = .ok (.iaload, 1) := by decide +kernel
theorem dL_law_669 : decode cL_law 669 = .ok (.aload_n 0, 1) := by decide +kernel
theorem dL_law_670 : decode cL_law 670 = .ok (.iload_n 3, 1) := by decide +kernel
theorem dL_law_671 : decode cL_law 671 = .ok (.iconst 2, 1) := by decide +kernel
theorem dL_law_672 : decode cL_law 672 = .ok (.iadd, 1) := by decide +kernel
theorem dL_law_673 : decode cL_law 673 = .ok (.iaload, 1) := by decide +kernel
theorem dL_law_674 : decode cL_law 674 = .ok (.aload_n 0, 1) := by decide +kernel
theorem dL_law_675 : decode cL_law 675 = .ok (.iload_n 3, 1) := by decide +kernel
theorem dL_law_676 : decode cL_law 676 = .ok (.iconst 3, 1) := by decide +kernel
theorem dL_law_677 : decode cL_law 677 = .ok (.iadd, 1) := by decide +kernel
theorem dL_law_678 : decode cL_law 678 = .ok (.iaload, 1) := by decide +kernel
theorem dL_law_679 : decode cL_law 679 = .ok (.aload_n 0, 1) := by decide +kernel
theorem dL_law_680 : decode cL_law 680 = .ok (.iload_n 3, 1) := by decide +kernel
theorem dL_law_681 : decode cL_law 681 = .ok (.iconst 4, 1) := by decide +kernel
theorem dL_law_682 : decode cL_law 682 = .ok (.iadd, 1) := by decide +kernel
theorem dL_law_683 : decode cL_law 683 = .ok (.iaload, 1) := by decide +kernel
theorem dL_law_684 : decode cL_law 684 = .ok (.aload_n 0, 1) := by decide +kernel
theorem dL_law_685 : decode cL_law 685 = .ok (.iload_n 3, 1) := by decide +kernel
theorem dL_law_686 : decode cL_law 686 = .ok (.iconst 5, 1) := by decide +kernel
theorem dL_law_687 : decode cL_law 687 = .ok (.iadd, 1) := by decide +kernel
theorem dL_law_688 : decode cL_law 688 = .ok (.iaload, 1) := by decide +kernel
theorem dL_law_689 : decode cL_law 689 = .ok (.invokevirtual 72, 3) := by decide +kernel
theorem dL_law_692 : decode cL_law 692 = .ok (.if_icmp .eq 885, 3) := by decide +kernel
theorem dL_law_695 : decode cL_law 695 = .ok (.iconst 0, 1) := by decide +kernel
theorem dL_law_696 : decode cL_law 696 = .ok (.ireturn, 1) := by decide +kernel
theorem dL_law_697 : decode cL_law 697 = .ok (.aload_n 1, 1) := by decide +kernel
theorem dL_law_698 : decode cL_law 698 = .ok (.aload_n 0, 1) := by decide +kernel
theorem dL_law_699 : decode cL_law 699 = .ok (.iload_n 3, 1) := by decide +kernel
theorem dL_law_700 : decode cL_law 700 = .ok (.iconst 1, 1) := by decide +kernel
theorem dL_law_701 : decode cL_law 701 = .ok (.iadd, 1) := by decide +kernel
theorem dL_law_702 : decode cL_law 702 = .ok (.iaload, 1) := by decide +kernel
theorem dL_law_703 : decode cL_law 703 = .ok (.aload_n 0, 1) := by decide +kernel
theorem dL_law_704 : decode cL_law 704 = .ok (.iload_n 3, 1) := by decide +kernel
theorem dL_law_705 : decode cL_law 705 = .ok (.iconst 2, 1) := by decide +kernel
theorem dL_law_706 : decode cL_law 706 = .ok (.iadd, 1) := by decide +kernel
theorem dL_law_707 : decode cL_law 707 = .ok (.iaload, 1) := by decide +kernel
theorem dL_law_708 : decode cL_law 708 = .ok (.aload_n 0, 1) := by decide +kernel
theorem dL_law_709 : decode cL_law 709 = .ok (.iload_n 3, 1) := by decide +kernel
theorem dL_law_710 : decode cL_law 710 = .ok (.iconst 3, 1) := by decide +kernel
theorem dL_law_711 : decode cL_law 711 = .ok (.iadd, 1) := by decide +kernel
theorem dL_law_712 : decode cL_law 712 = .ok (.iaload, 1) := by decide +kernel
theorem dL_law_713 : decode cL_law 713 = .ok (.aload_n 0, 1) := by decide +kernel
theorem dL_law_714 : decode cL_law 714 = .ok (.iload_n 3, 1) := by decide +kernel
theorem dL_law_715 : decode cL_law 715 = .ok (.iconst 4, 1) := by decide +kernel
theorem dL_law_716 : decode cL_law 716 = .ok (.iadd, 1) := by decide +kernel
theorem dL_law_717 : decode cL_law 717 = .ok (.iaload, 1) := by decide +kernel
theorem dL_law_718 : decode cL_law 718 = .ok (.aload_n 0, 1) := by decide +kernel
theorem dL_law_719 : decode cL_law 719 = .ok (.iload_n 3, 1) := by decide +kernel
theorem dL_law_720 : decode cL_law 720 = .ok (.iconst 5, 1) := by decide +kernel
theorem dL_law_721 : decode cL_law 721 = .ok (.iadd, 1) := by decide +kernel
theorem dL_law_722 : decode cL_law 722 = .ok (.iaload, 1) := by decide +kernel
theorem dL_law_723 : decode cL_law 723 = .ok (.invokevirtual 73, 3) := by decide +kernel
theorem dL_law_726 : decode cL_law 726 = .ok (.aload_n 2, 1) := by decide +kernel
theorem dL_law_727 : decode cL_law 727 = .ok (.aload_n 0, 1) := by decide +kernel
theorem dL_law_728 : decode cL_law 728 = .ok (.iload_n 3, 1) := by decide +kernel
theorem dL_law_729 : decode cL_law 729 = .ok (.iconst 1, 1) := by decide +kernel
theorem dL_law_730 : decode cL_law 730 = .ok (.iadd, 1) := by decide +kernel
theorem dL_law_731 : decode cL_law 731 = .ok (.iaload, 1) := by decide +kernel
theorem dL_law_732 : decode cL_law 732 = .ok (.aload_n 0, 1) := by decide +kernel
theorem dL_law_733 : decode cL_law 733 = .ok (.iload_n 3, 1) := by decide +kernel
theorem dL_law_734 : decode cL_law 734 = .ok (.iconst 2, 1) := by decide +kernel
theorem dL_law_735 : decode cL_law 735 = .ok (.iadd, 1) := by decide +kernel
theorem dL_law_736 : decode cL_law 736 = .ok (.iaload, 1) := by decide +kernel
theorem dL_law_737 : decode cL_law 737 = .ok (.aload_n 0, 1) := by decide +kernel
theorem dL_law_738 : decode cL_law 738 = .ok (.iload_n 3, 1) := by decide +kernel
theorem dL_law_739 : decode cL_law 739 = .ok (.iconst 3, 1) := by decide +kernel
theorem dL_law_740 : decode cL_law 740 = .ok (.iadd, 1) := by decide +kernel
theorem dL_law_741 : decode cL_law 741 = .ok (.iaload, 1) := by decide +kernel
theorem dL_law_742 : decode cL_law 742 = .ok (.aload_n 0, 1) := by decide +kernel
theorem dL_law_743 : decode cL_law 743 = .ok (.iload_n 3, 1) := by decide +kernel
theorem dL_law_744 : decode cL_law 744 = .ok (.iconst 4, 1) := by decide +kernel
theorem dL_law_745 : decode cL_law 745 = .ok (.iadd, 1) := by decide +kernel
theorem dL_law_746 : decode cL_law 746 = .ok (.iaload, 1) := by decide +kernel
theorem dL_law_747 : decode cL_law 747 = .ok (.aload_n 0, 1) := by decide +kernel
theorem dL_law_748 : decode cL_law 748 = .ok (.iload_n 3, 1) := by decide +kernel
theorem dL_law_749 : decode cL_law 749 = .ok (.iconst 5, 1) := by decide +kernel
theorem dL_law_750 : decode cL_law 750 = .ok (.iadd, 1) := by decide +kernel
theorem dL_law_751 : decode cL_law 751 = .ok (.iaload, 1) := by decide +kernel
theorem dL_law_752 : decode cL_law 752 = .ok (.invokevirtual 76, 3) := by decide +kernel
theorem dL_law_755 : decode cL_law 755 = .ok (.if_icmp .eq 822, 3) := by decide +kernel
theorem dL_law_758 : decode cL_law 758 = .ok (.iconst 0, 1) := by decide +kernel
theorem dL_law_759 : decode cL_law 759 = .ok (.ireturn, 1) := by decide +kernel
theorem dL_law_760 : decode cL_law 760 = .ok (.aload_n 1, 1) := by decide +kernel
theorem dL_law_761 : decode cL_law 761 = .ok (.aload_n 0, 1) := by decide +kernel
theorem dL_law_762 : decode cL_law 762 = .ok (.iload_n 3, 1) := by decide +kernel
theorem dL_law_763 : decode cL_law 763 = .ok (.iconst 1, 1) := by decide +kernel
theorem dL_law_764 : decode cL_law 764 = .ok (.iadd, 1) := by decide +kernel
theorem dL_law_765 : decode cL_law 765 = .ok (.iaload, 1) := by decide +kernel
theorem dL_law_766 : decode cL_law 766 = .ok (.aload_n 0, 1) := by decide +kernel
theorem dL_law_767 : decode cL_law 767 = .ok (.iload_n 3, 1) := by decide +kernel
theorem dL_law_768 : decode cL_law 768 = .ok (.iconst 2, 1) := by decide +kernel
theorem dL_law_769 : decode cL_law 769 = .ok (.iadd, 1) := by decide +kernel
theorem dL_law_770 : decode cL_law 770 = .ok (.iaload, 1) := by decide +kernel
theorem dL_law_771 : decode cL_law 771 = .ok (.aload_n 0, 1) := by decide +kernel
theorem dL_law_772 : decode cL_law 772 = .ok (.iload_n 3, 1) := by decide +kernel
theorem dL_law_773 : decode cL_law 773 = .ok (.iconst 3, 1) := by decide +kernel
theorem dL_law_774 : decode cL_law 774 = .ok (.iadd, 1) := by decide +kernel
theorem dL_law_775 : decode cL_law 775 = .ok (.iaload, 1) := by decide +kernel
theorem dL_law_776 : decode cL_law 776 = .ok (.aload_n 0, 1) := by decide +kernel
theorem dL_law_777 : decode cL_law 777 = .ok (.iload_n 3, 1) := by decide +kernel
theorem dL_law_778 : decode cL_law 778 = .ok (.iconst 4, 1) := by decide +kernel
theorem dL_law_779 : decode cL_law 779 = .ok (.iadd, 1) := by decide +kernel
theorem dL_law_780 : decode cL_law 780 = .ok (.iaload, 1) := by decide +kernel
theorem dL_law_781 : decode cL_law 781 = .ok (.aload_n 0, 1) := by decide +kernel
theorem dL_law_782 : decode cL_law 782 = .ok (.iload_n 3, 1) := by decide +kernel
theorem dL_law_783 : decode cL_law 783 = .ok (.iconst 5, 1) := by decide +kernel
theorem dL_law_784 : decode cL_law 784 = .ok (.iadd, 1) := by decide +kernel
theorem dL_law_785 : decode cL_law 785 = .ok (.iaload, 1) := by decide +kernel
theorem dL_law_786 : decode cL_law 786 = .ok (.aload_n 0, 1) := by decide +kernel
theorem dL_law_787 : decode cL_law 787 = .ok (.iload_n 3, 1) := by decide +kernel
theorem dL_law_788 : decode cL_law 788 = .ok (.bipush 6, 2) := by decide +kernel
theorem dL_law_790 : decode cL_law 790 = .ok (.iadd, 1) := by decide +kernel
theorem dL_law_791 : decode cL_law 791 = .ok (.iaload, 1) := by decide +kernel
theorem dL_law_792 : decode cL_law 792 = .ok (.invokevirtual 77, 3) := by decide +kernel
theorem dL_law_795 : decode cL_law 795 = .ok (.aload_n 2, 1) := by decide +kernel
theorem dL_law_796 : decode cL_law 796 = .ok (.aload_n 0, 1) := by decide +kernel
theorem dL_law_797 : decode cL_law 797 = .ok (.iload_n 3, 1) := by decide +kernel
theorem dL_law_798 : decode cL_law 798 = .ok (.iconst 1, 1) := by decide +kernel
theorem dL_law_799 : decode cL_law 799 = .ok (.iadd, 1) := by decide +kernel
theorem dL_law_800 : decode cL_law 800 = .ok (.iaload, 1) := by decide +kernel
theorem dL_law_801 : decode cL_law 801 = .ok (.aload_n 0, 1) := by decide +kernel
theorem dL_law_802 : decode cL_law 802 = .ok (.iload_n 3, 1) := by decide +kernel
theorem dL_law_803 : decode cL_law 803 = .ok (.iconst 2, 1) := by decide +kernel
theorem dL_law_804 : decode cL_law 804 = .ok (.iadd, 1) := by decide +kernel
theorem dL_law_805 : decode cL_law 805 = .ok (.iaload, 1) := by decide +kernel
theorem dL_law_806 : decode cL_law 806 = .ok (.aload_n 0, 1) := by decide +kernel
theorem dL_law_807 : decode cL_law 807 = .ok (.iload_n 3, 1) := by decide +kernel
theorem dL_law_808 : decode cL_law 808 = .ok (.iconst 3, 1) := by decide +kernel
theorem dL_law_809 : decode cL_law 809 = .ok (.iadd, 1) := by decide +kernel
theorem dL_law_810 : decode cL_law 810 = .ok (.iaload, 1) := by decide +kernel
theorem dL_law_811 : decode cL_law 811 = .ok (.aload_n 0, 1) := by decide +kernel
theorem dL_law_812 : decode cL_law 812 = .ok (.iload_n 3, 1) := by decide +kernel
theorem dL_law_813 : decode cL_law 813 = .ok (.iconst 4, 1) := by decide +kernel
theorem dL_law_814 : decode cL_law 814 = .ok (.iadd, 1) := by decide +kernel
theorem dL_law_815 : decode cL_law 815 = .ok (.iaload, 1) := by decide +kernel
theorem dL_law_816 : decode cL_law 816 = .ok (.aload_n 0, 1) := by decide +kernel
theorem dL_law_817 : decode cL_law 817 = .ok (.iload_n 3, 1) := by decide +kernel
theorem dL_law_818 : decode cL_law 818 = .ok (.iconst 5, 1) := by decide +kernel
theorem dL_law_819 : decode cL_law 819 = .ok (.iadd, 1) := by decide +kernel
theorem dL_law_820 : decode cL_law 820 = .ok (.iaload, 1) := by decide +kernel
theorem dL_law_821 : decode cL_law 821 = .ok (.aload_n 0, 1) := by decide +kernel
theorem dL_law_822 : decode cL_law 822 = .ok (.iload_n 3, 1) := by decide +kernel
theorem dL_law_823 : decode cL_law 823 = .ok (.bipush 6, 2) := by decide +kernel
theorem dL_law_825 : decode cL_law 825 = .ok (.iadd, 1) := by decide +kernel
theorem dL_law_826 : decode cL_law 826 = .ok (.iaload, 1) := by decide +kernel
theorem dL_law_827 : decode cL_law 827 = .ok (.invokevirtual 81, 3) := by decide +kernel
theorem dL_law_830 : decode cL_law 830 = .ok (.if_icmp .eq 747, 3) := by decide +kernel
theorem dL_law_833 : decode cL_law 833 = .ok (.iconst 0, 1) := by decide +kernel
theorem dL_law_834 : decode cL_law 834 = .ok (.ireturn, 1) := by decide +kernel
theorem dL_law_835 : decode cL_law 835 = .ok (.aload_n 1, 1) := by decide +kernel
theorem dL_law_836 : decode cL_law 836 = .ok (.aload_n 0, 1) := by decide +kernel
theorem dL_law_837 : decode cL_law 837 = .ok (.iload_n 3, 1) := by decide +kernel
theorem dL_law_838 : decode cL_law 838 = .ok (.iconst 1, 1) := by decide +kernel
theorem dL_law_839 : decode cL_law 839 = .ok (.iadd, 1) := by decide +kernel
theorem dL_law_840 : decode cL_law 840 = .ok (.iaload, 1) := by decide +kernel
theorem dL_law_841 : decode cL_law 841 = .ok (.aload_n 0, 1) := by decide +kernel
theorem dL_law_842 : decode cL_law 842 = .ok (.iload_n 3, 1) := by decide +kernel
theorem dL_law_843 : decode cL_law 843 = .ok (.iconst 2, 1) := by decide +kernel
theorem dL_law_844 : decode cL_law 844 = .ok (.iadd, 1) := by decide +kernel
theorem dL_law_845 : decode cL_law 845 = .ok (.iaload, 1) := by decide +kernel
theorem dL_law_846 : decode cL_law 846 = .ok (.aload_n 0, 1) := by decide +kernel
theorem dL_law_847 : decode cL_law 847 = .ok (.iload_n 3, 1) := by decide +kernel
theorem dL_law_848 : decode cL_law 848 = .ok (.iconst 3, 1) := by decide +kernel
theorem dL_law_849 : decode cL_law 849 = .ok (.iadd, 1) := by decide +kernel
theorem dL_law_850 : decode cL_law 850 = .ok (.iaload, 1) := by decide +kernel
theorem dL_law_851 : decode cL_law 851 = .ok (.aload_n 0, 1) := by decide +kernel
theorem dL_law_852 : decode cL_law 852 = .ok (.iload_n 3, 1) := by decide +kernel
theorem dL_law_853 : decode cL_law 853 = .ok (.iconst 4, 1) := by decide +kernel
theorem dL_law_854 : decode cL_law 854 = .ok (.iadd, 1) := by decide +kernel
theorem dL_law_855 : decode cL_law 855 = .ok (.iaload, 1) := by decide +kernel
theorem dL_law_856 : decode cL_law 856 = .ok (.invokevirtual 82, 3) := by decide +kernel
theorem dL_law_859 : decode cL_law 859 = .ok (.aload_n 2, 1) := by decide +kernel
theorem dL_law_860 : decode cL_law 860 = .ok (.aload_n 0, 1) := by decide +kernel
theorem dL_law_861 : decode cL_law 861 = .ok (.iload_n 3, 1) := by decide +kernel
theorem dL_law_862 : decode cL_law 862 = .ok (.iconst 1, 1) := by decide +kernel
theorem dL_law_863 : decode cL_law 863 = .ok (.iadd, 1) := by decide +kernel
theorem dL_law_864 : decode cL_law 864 = .ok (.iaload, 1) := by decide +kernel
theorem dL_law_865 : decode cL_law 865 = .ok (.aload_n 0, 1) := by decide +kernel
theorem dL_law_866 : decode cL_law 866 = .ok (.iload_n 3, 1) := by decide +kernel
theorem dL_law_867 : decode cL_law 867 = .ok (.iconst 2, 1) := by decide +kernel
theorem dL_law_868 : decode cL_law 868 = .ok (.iadd, 1) := by decide +kernel
theorem dL_law_869 : decode cL_law 869 = .ok (.iaload, 1) := by decide +kernel
theorem dL_law_870 : decode cL_law 870 = .ok (.aload_n 0, 1) := by decide +kernel
theorem dL_law_871 : decode cL_law 871 = .ok (.iload_n 3, 1) := by decide +kernel
theorem dL_law_872 : decode cL_law 872 = .ok (.iconst 3, 1) := by decide +kernel
theorem dL_law_873 : decode cL_law 873 = .ok (.iadd, 1) := by decide +kernel
theorem dL_law_874 : decode cL_law 874 = .ok (.iaload, 1) := by decide +kernel
theorem dL_law_875 : decode cL_law 875 = .ok (.aload_n 0, 1) := by decide +kernel
theorem dL_law_876 : decode cL_law 876 = .ok (.iload_n 3, 1) := by decide +kernel
theorem dL_law_877 : decode cL_law 877 = .ok (.iconst 4, 1) := by decide +kernel
theorem dL_law_878 : decode cL_law 878 = .ok (.iadd, 1) := by decide +kernel
theorem dL_law_879 : decode cL_law 879 = .ok (.iaload, 1) := by decide +kernel
theorem dL_law_880 : decode cL_law 880 = .ok (.invokevirtual 85, 3) := by decide +kernel
theorem dL_law_883 : decode cL_law 883 = .ok (.if_icmp .eq 694, 3) := by decide +kernel
theorem dL_law_886 : decode cL_law 886 = .ok (.iconst 0, 1) := by decide +kernel
theorem dL_law_887 : decode cL_law 887 = .ok (.ireturn, 1) := by decide +kernel
theorem dL_law_888 : decode cL_law 888 = .ok (.aload_n 1, 1) := by decide +kernel
theorem dL_law_889 : decode cL_law 889 = .ok (.aload_n 0, 1) := by decide +kernel
theorem dL_law_890 : decode cL_law 890 = .ok (.iload_n 3, 1) := by decide +kernel
theorem dL_law_891 : decode cL_law 891 = .ok (.iconst 1, 1) := by decide +kernel
theorem dL_law_892 : decode cL_law 892 = .ok (.iadd, 1) := by decide +kernel
theorem dL_law_893 : decode cL_law 893 = .ok (.iaload, 1) := by decide +kernel
theorem dL_law_894 : decode cL_law 894 = .ok (.aload_n 0, 1) := by decide +kernel
theorem dL_law_895 : decode cL_law 895 = .ok (.iload_n 3, 1) := by decide +kernel
theorem dL_law_896 : decode cL_law 896 = .ok (.iconst 2, 1) := by decide +kernel
theorem dL_law_897 : decode cL_law 897 = .ok (.iadd, 1) := by decide +kernel
theorem dL_law_898 : decode cL_law 898 = .ok (.iaload, 1) := by decide +kernel
theorem dL_law_899 : decode cL_law 899 = .ok (.aload_n 0, 1) := by decide +kernel
theorem dL_law_900 : decode cL_law 900 = .ok (.iload_n 3, 1) := by decide +kernel
theorem dL_law_901 : decode cL_law 901 = .ok (.iconst 3, 1) := by decide +kernel
theorem dL_law_902 : decode cL_law 902 = .ok (.iadd, 1) := by decide +kernel
theorem dL_law_903 : decode cL_law 903 = .ok (.iaload, 1) := by decide +kernel
theorem dL_law_904 : decode cL_law 904 = .ok (.invokevirtual 86, 3) := by decide +kernel
theorem dL_law_907 : decode cL_law 907 = .ok (.aload_n 2, 1) := by decide +kernel
theorem dL_law_908 : decode cL_law 908 = .ok (.aload_n 0, 1) := by decide +kernel
theorem dL_law_909 : decode cL_law 909 = .ok (.iload_n 3, 1) := by decide +kernel
theorem dL_law_910 : decode cL_law 910 = .ok (.iconst 1, 1) := by decide +kernel
theorem dL_law_911 : decode cL_law 911 = .ok (.iadd, 1) := by decide +kernel
theorem dL_law_912 : decode cL_law 912 = .ok (.iaload, 1) := by decide +kernel
theorem dL_law_913 : decode cL_law 913 = .ok (.aload_n 0, 1) := by decide +kernel
theorem dL_law_914 : decode cL_law 914 = .ok (.iload_n 3, 1) := by decide +kernel
theorem dL_law_915 : decode cL_law 915 = .ok (.iconst 2, 1) := by decide +kernel
theorem dL_law_916 : decode cL_law 916 = .ok (.iadd, 1) := by decide +kernel
theorem dL_law_917 : decode cL_law 917 = .ok (.iaload, 1) := by decide +kernel
theorem dL_law_918 : decode cL_law 918 = .ok (.aload_n 0, 1) := by decide +kernel
theorem dL_law_919 : decode cL_law 919 = .ok (.iload_n 3, 1) := by decide +kernel
theorem dL_law_920 : decode cL_law 920 = .ok (.iconst 3, 1) := by decide +kernel
theorem dL_law_921 : decode cL_law 921 = .ok (.iadd, 1) := by decide +kernel
theorem dL_law_922 : decode cL_law 922 = .ok (.iaload, 1) := by decide +kernel
theorem dL_law_923 : decode cL_law 923 = .ok (.invokevirtual 90, 3) := by decide +kernel
theorem dL_law_926 : decode cL_law 926 = .ok (.if_icmp .eq 651, 3) := by decide +kernel
theorem dL_law_929 : decode cL_law 929 = .ok (.iconst 0, 1) := by decide +kernel
theorem dL_law_930 : decode cL_law 930 = .ok (.ireturn, 1) := by decide +kernel
theorem dL_law_931 : decode cL_law 931 = .ok (.aload_n 1, 1) := by decide +kernel
theorem dL_law_932 : decode cL_law 932 = .ok (.aload_n 0, 1) := by decide +kernel
theorem dL_law_933 : decode cL_law 933 = .ok (.iload_n 3, 1) := by decide +kernel
theorem dL_law_934 : decode cL_law 934 = .ok (.iconst 1, 1) := by decide +kernel
theorem dL_law_935 : decode cL_law 935 = .ok (.iadd, 1) := by decide +kernel
theorem dL_law_936 : decode cL_law 936 = .ok (.iaload, 1) := by decide +kernel
theorem dL_law_937 : decode cL_law 937 = .ok (.aload_n 0, 1) := by decide +kernel
theorem dL_law_938 : decode cL_law 938 = .ok (.iload_n 3, 1) := by decide +kernel
theorem dL_law_939 : decode cL_law 939 = .ok (.iconst 2, 1) := by decide +kernel
theorem dL_law_940 : decode cL_law 940 = .ok (.iadd, 1) := by decide +kernel
theorem dL_law_941 : decode cL_law 941 = .ok (.iaload, 1) := by decide +kernel
theorem dL_law_942 : decode cL_law 942 = .ok (.aload_n 0, 1) := by decide +kernel
theorem dL_law_943 : decode cL_law 943 = .ok (.iload_n 3, 1) := by decide +kernel
theorem dL_law_944 : decode cL_law 944 = .ok (.iconst 3, 1) := by decide +kernel
theorem dL_law_945 : decode cL_law 945 = .ok (.iadd, 1) := by decide +kernel
theorem dL_law_946 : decode cL_law 946 = .ok (.iaload, 1) := by decide +kernel
theorem dL_law_947 : decode cL_law 947 = .ok (.aload_n 0, 1) := by decide +kernel
theorem dL_law_948 : decode cL_law 948 = .ok (.iload_n 3, 1) := by decide +kernel
theorem dL_law_949 : decode cL_law 949 = .ok (.iconst 4, 1) := by decide +kernel
theorem dL_law_950 : decode cL_law 950 = .ok (.iadd, 1) := by decide +kernel
theorem dL_law_951 : decode cL_law 951 = .ok (.iaload, 1) := by decide +kernel
theorem dL_law_952 : decode cL_law 952 = .ok (.aload_n 0, 1) := by decide +kernel
theorem dL_law_953 : decode cL_law 953 = .ok (.iload_n 3, 1) := by decide +kernel
theorem dL_law_954 : decode cL_law 954 = .ok (.iconst 5, 1) := by decide +kernel
theorem dL_law_955 : decode cL_law 955 = .ok (.iadd, 1) := by decide +kernel
theorem dL_law_956 : decode cL_law 956 = .ok (.iaload, 1) := by decide +kernel
theorem dL_law_957 : decode cL_law 957 = .ok (.aload_n 0, 1) := by decide +kernel
theorem dL_law_958 : decode cL_law 958 = .ok (.iload_n 3, 1) := by decide +kernel
theorem dL_law_959 : decode cL_law 959 = .ok (.bipush 6, 2) := by decide +kernel
theorem dL_law_961 : decode cL_law 961 = .ok (.iadd, 1) := by decide +kernel
theorem dL_law_962 : decode cL_law 962 = .ok (.iaload, 1) := by decide +kernel
theorem dL_law_963 : decode cL_law 963 = .ok (.invokevirtual 91, 3) := by decide +kernel
theorem dL_law_966 : decode cL_law 966 = .ok (.aload_n 2, 1) := by decide +kernel
theorem dL_law_967 : decode cL_law 967 = .ok (.aload_n 0, 1) := by decide +kernel
theorem dL_law_968 : decode cL_law 968 = .ok (.iload_n 3, 1) := by decide +kernel
theorem dL_law_969 : decode cL_law 969 = .ok (.iconst 1, 1) := by decide +kernel
theorem dL_law_970 : decode cL_law 970 = .ok (.iadd, 1) := by decide +kernel
theorem dL_law_971 : decode cL_law 971 = .ok (.iaload, 1) := by decide +kernel
theorem dL_law_972 : decode cL_law 972 = .ok (.aload_n 0, 1) := by decide +kernel
theorem dL_law_973 : decode cL_law 973 = .ok (.iload_n 3, 1) := by decide +kernel
theorem dL_law_974 : decode cL_law 974 = .ok (.iconst 2, 1) := by decide +kernel
theorem dL_law_975 : decode cL_law 975 = .ok (.iadd, 1) := by decide +kernel
theorem dL_law_976 : decode cL_law 976 = .ok (.iaload, 1) := by decide +kernel
theorem dL_law_977 : decode cL_law 977 = .ok (.aload_n 0, 1) := by decide +kernel
theorem dL_law_978 : decode cL_law 978 = .ok (.iload_n 3, 1) := by decide +kernel
theorem dL_law_979 : decode cL_law 979 = .ok (.iconst 3, 1) := by decide +kernel
theorem dL_law_980 : decode cL_law 980 = .ok (.iadd, 1) := by decide +kernel
theorem dL_law_981 : decode cL_law 981 = .ok (.iaload, 1) := by decide +kernel
theorem dL_law_982 : decode cL_law 982 = .ok (.aload_n 0, 1) := by decide +kernel
theorem dL_law_983 : decode cL_law 983 = .ok (.iload_n 3, 1) := by decide +kernel
theorem dL_law_984 : decode cL_law 984 = .ok (.iconst 4, 1) := by decide +kernel
theorem dL_law_985 : decode cL_law 985 = .ok (.iadd, 1) := by decide +kernel
theorem dL_law_986 : decode cL_law 986 = .ok (.iaload, 1) := by decide +kernel
theorem dL_law_987 : decode cL_law 987 = .ok (.aload_n 0, 1) := by decide +kernel
theorem dL_law_988 : decode cL_law 988 = .ok (.iload_n 3, 1) := by decide +kernel
theorem dL_law_989 : decode cL_law 989 = .ok (.iconst 5, 1) := by decide +kernel
theorem dL_law_990 : decode cL_law 990 = .ok (.iadd, 1) := by decide +kernel
theorem dL_law_991 : decode cL_law 991 = .ok (.iaload, 1) := by decide +kernel
theorem dL_law_992 : decode cL_law 992 = .ok (.aload_n 0, 1) := by decide +kernel
theorem dL_law_993 : decode cL_law 993 = .ok (.iload_n 3, 1) := by decide +kernel
theorem dL_law_994 : decode cL_law 994 = .ok (.bipush 6, 2) := by decide +kernel
theorem dL_law_996 : decode cL_law 996 = .ok (.iadd, 1) := by decide +kernel
theorem dL_law_997 : decode cL_law 997 = .ok (.iaload, 1) := by decide +kernel
theorem dL_law_998 : decode cL_law 998 = .ok (.invokevirtual 94, 3) := by decide +kernel
theorem dL_law_1001 : decode cL_law 1001 = .ok (.if_icmp .eq 576, 3) := by decide +kernel
theorem dL_law_1004 : decode cL_law 1004 = .ok (.iconst 0, 1) := by decide +kernel
theorem dL_law_1005 : decode cL_law 1005 = .ok (.ireturn, 1) := by decide +kernel
theorem dL_law_1006 : decode cL_law 1006 = .ok (.aload_n 1, 1) := by decide +kernel
theorem dL_law_1007 : decode cL_law 1007 = .ok (.aload_n 0, 1) := by decide +kernel
theorem dL_law_1008 : decode cL_law 1008 = .ok (.iload_n 3, 1) := by decide +kernel
theorem dL_law_1009 : decode cL_law 1009 = .ok (.iconst 1, 1) := by decide +kernel
theorem dL_law_1010 : decode cL_law 1010 = .ok (.iadd, 1) := by decide +kernel
theorem dL_law_1011 : decode cL_law 1011 = .ok (.iaload, 1) := by decide +kernel
theorem dL_law_1012 : decode cL_law 1012 = .ok (.aload_n 0, 1) := by decide +kernel
theorem dL_law_1013 : decode cL_law 1013 = .ok (.iload_n 3, 1) := by decide +kernel
theorem dL_law_1014 : decode cL_law 1014 = .ok (.iconst 2, 1) := by decide +kernel
theorem dL_law_1015 : decode cL_law 1015 = .ok (.iadd, 1) := by decide +kernel
theorem dL_law_1016 : decode cL_law 1016 = .ok (.iaload, 1) := by decide +kernel
theorem dL_law_1017 : decode cL_law 1017 = .ok (.aload_n 0, 1) := by decide +kernel
theorem dL_law_1018 : decode cL_law 1018 = .ok (.iload_n 3, 1) := by decide +kernel
theorem dL_law_1019 : decode cL_law 1019 = .ok (.iconst 3, 1) := by decide +kernel
theorem dL_law_1020 : decode cL_law 1020 = .ok (.iadd, 1) := by decide +kernel
theorem dL_law_1021 : decode cL_law 1021 = .ok (.iaload, 1) := by decide +kernel
theorem dL_law_1022 : decode cL_law 1022 = .ok (.aload_n 0, 1) := by decide +kernel
theorem dL_law_1023 : decode cL_law 1023 = .ok (.iload_n 3, 1) := by decide +kernel
theorem dL_law_1024 : decode cL_law 1024 = .ok (.iconst 4, 1) := by decide +kernel
theorem dL_law_1025 : decode cL_law 1025 = .ok (.iadd, 1) := by decide +kernel
theorem dL_law_1026 : decode cL_law 1026 = .ok (.iaload, 1) := by decide +kernel
theorem dL_law_1027 : decode cL_law 1027 = .ok (.aload_n 0, 1) := by decide +kernel
theorem dL_law_1028 : decode cL_law 1028 = .ok (.iload_n 3, 1) := by decide +kernel
theorem dL_law_1029 : decode cL_law 1029 = .ok (.iconst 5, 1) := by decide +kernel
theorem dL_law_1030 : decode cL_law 1030 = .ok (.iadd, 1) := by decide +kernel
theorem dL_law_1031 : decode cL_law 1031 = .ok (.iaload, 1) := by decide +kernel
theorem dL_law_1032 : decode cL_law 1032 = .ok (.invokevirtual 95, 3) := by decide +kernel
theorem dL_law_1035 : decode cL_law 1035 = .ok (.aload_n 2, 1) := by decide +kernel
theorem dL_law_1036 : decode cL_law 1036 = .ok (.aload_n 0, 1) := by decide +kernel
theorem dL_law_1037 : decode cL_law 1037 = .ok (.iload_n 3, 1) := by decide +kernel
theorem dL_law_1038 : decode cL_law 1038 = .ok (.iconst 1, 1) := by decide +kernel
theorem dL_law_1039 : decode cL_law 1039 = .ok (.iadd, 1) := by decide +kernel
theorem dL_law_1040 : decode cL_law 1040 = .ok (.iaload, 1) := by decide +kernel
theorem dL_law_1041 : decode cL_law 1041 = .ok (.aload_n 0, 1) := by decide +kernel
theorem dL_law_1042 : decode cL_law 1042 = .ok (.iload_n 3, 1) := by decide +kernel
theorem dL_law_1043 : decode cL_law 1043 = .ok (.iconst 2, 1) := by decide +kernel
theorem dL_law_1044 : decode cL_law 1044 = .ok (.iadd, 1) := by decide +kernel
theorem dL_law_1045 : decode cL_law 1045 = .ok (.iaload, 1) := by decide +kernel
theorem dL_law_1046 : decode cL_law 1046 = .ok (.aload_n 0, 1) := by decide +kernel
theorem dL_law_1047 : decode cL_law 1047 = .ok (.iload_n 3, 1) := by decide +kernel
theorem dL_law_1048 : decode cL_law 1048 = .ok (.iconst 3, 1) := by decide +kernel
theorem dL_law_1049 : decode cL_law 1049 = .ok (.iadd, 1) := by decide +kernel
theorem dL_law_1050 : decode cL_law 1050 = .ok (.iaload, 1) := by decide +kernel
theorem dL_law_1051 : decode cL_law 1051 = .ok (.aload_n 0, 1) := by decide +kernel
theorem dL_law_1052 : decode cL_law 1052 = .ok (.iload_n 3, 1) := by decide +kernel
theorem dL_law_1053 : decode cL_law 1053 = .ok (.iconst 4, 1) := by decide +kernel
theorem dL_law_1054 : decode cL_law 1054 = .ok (.iadd, 1) := by decide +kernel
theorem dL_law_1055 : decode cL_law 1055 = .ok (.iaload, 1) := by decide +kernel
theorem dL_law_1056 : decode cL_law 1056 = .ok (.aload_n 0, 1) := by decide +kernel
theorem dL_law_1057 : decode cL_law 1057 = .ok (.iload_n 3, 1) := by decide +kernel
theorem dL_law_1058 : decode cL_law 1058 = .ok (.iconst 5, 1) := by decide +kernel
theorem dL_law_1059 : decode cL_law 1059 = .ok (.iadd, 1) := by decide +kernel
theorem dL_law_1060 : decode cL_law 1060 = .ok (.iaload, 1) := by decide +kernel
theorem dL_law_1061 : decode cL_law 1061 = .ok (.invokevirtual 98, 3) := by decide +kernel
theorem dL_law_1064 : decode cL_law 1064 = .ok (.if_icmp .eq 513, 3) := by decide +kernel
theorem dL_law_1067 : decode cL_law 1067 = .ok (.iconst 0, 1) := by decide +kernel
theorem dL_law_1068 : decode cL_law 1068 = .ok (.ireturn, 1) := by decide +kernel
theorem dL_law_1069 : decode cL_law 1069 = .ok (.aload_n 1, 1) := by decide +kernel
theorem dL_law_1070 : decode cL_law 1070 = .ok (.aload_n 0, 1) := by decide +kernel
theorem dL_law_1071 : decode cL_law 1071 = .ok (.iload_n 3, 1) := by decide +kernel
theorem dL_law_1072 : decode cL_law 1072 = .ok (.iconst 1, 1) := by decide +kernel
theorem dL_law_1073 : decode cL_law 1073 = .ok (.iadd, 1) := by decide +kernel
theorem dL_law_1074 : decode cL_law 1074 = .ok (.iaload, 1) := by decide +kernel
theorem dL_law_1075 : decode cL_law 1075 = .ok (.aload_n 0, 1) := by decide +kernel
theorem dL_law_1076 : decode cL_law 1076 = .ok (.iload_n 3, 1) := by decide +kernel
theorem dL_law_1077 : decode cL_law 1077 = .ok (.iconst 2, 1) := by decide +kernel
theorem dL_law_1078 : decode cL_law 1078 = .ok (.iadd, 1) := by decide +kernel
theorem dL_law_1079 : decode cL_law 1079 = .ok (.iaload, 1) := by decide +kernel
theorem dL_law_1080 : decode cL_law 1080 = .ok (.aload_n 0, 1) := by decide +kernel
theorem dL_law_1081 : decode cL_law 1081 = .ok (.iload_n 3, 1) := by decide +kernel
theorem dL_law_1082 : decode cL_law 1082 = .ok (.iconst 3, 1) := by decide +kernel
theorem dL_law_1083 : decode cL_law 1083 = .ok (.iadd, 1) := by decide +kernel
theorem dL_law_1084 : decode cL_law 1084 = .ok (.iaload, 1) := by decide +kernel
theorem dL_law_1085 : decode cL_law 1085 = .ok (.aload_n 0, 1) := by decide +kernel
theorem dL_law_1086 : decode cL_law 1086 = .ok (.iload_n 3, 1) := by decide +kernel
theorem dL_law_1087 : decode cL_law 1087 = .ok (.iconst 4, 1) := by decide +kernel
theorem dL_law_1088 : decode cL_law 1088 = .ok (.iadd, 1) := by decide +kernel
theorem dL_law_1089 : decode cL_law 1089 = .ok (.iaload, 1) := by decide +kernel
theorem dL_law_1090 : decode cL_law 1090 = .ok (.invokevirtual 99, 3) := by decide +kernel
theorem dL_law_1093 : decode cL_law 1093 = .ok (.aload_n 2, 1) := by decide +kernel
theorem dL_law_1094 : decode cL_law 1094 = .ok (.aload_n 0, 1) := by decide +kernel
theorem dL_law_1095 : decode cL_law 1095 = .ok (.iload_n 3, 1) := by decide +kernel
theorem dL_law_1096 : decode cL_law 1096 = .ok (.iconst 1, 1) := by decide +kernel
theorem dL_law_1097 : decode cL_law 1097 = .ok (.iadd, 1) := by decide +kernel
theorem dL_law_1098 : decode cL_law 1098 = .ok (.iaload, 1) := by decide +kernel
theorem dL_law_1099 : decode cL_law 1099 = .ok (.aload_n 0, 1) := by decide +kernel
theorem dL_law_1100 : decode cL_law 1100 = .ok (.iload_n 3, 1) := by decide +kernel
theorem dL_law_1101 : decode cL_law 1101 = .ok (.iconst 2, 1) := by decide +kernel
theorem dL_law_1102 : decode cL_law 1102 = .ok (.iadd, 1) := by decide +kernel
theorem dL_law_1103 : decode cL_law 1103 = .ok (.iaload, 1) := by decide +kernel
theorem dL_law_1104 : decode cL_law 1104 = .ok (.aload_n 0, 1) := by decide +kernel
theorem dL_law_1105 : decode cL_law 1105 = .ok (.iload_n 3, 1) := by decide +kernel
theorem dL_law_1106 : decode cL_law 1106 = .ok (.iconst 3, 1) := by decide +kernel
theorem dL_law_1107 : decode cL_law 1107 = .ok (.iadd, 1) := by decide +kernel
theorem dL_law_1108 : decode cL_law 1108 = .ok (.iaload, 1) := by decide +kernel
theorem dL_law_1109 : decode cL_law 1109 = .ok (.aload_n 0, 1) := by decide +kernel
theorem dL_law_1110 : decode cL_law 1110 = .ok (.iload_n 3, 1) := by decide +kernel
theorem dL_law_1111 : decode cL_law 1111 = .ok (.iconst 4, 1) := by decide +kernel
theorem dL_law_1112 : decode cL_law 1112 = .ok (.iadd, 1) := by decide +kernel
theorem dL_law_1113 : decode cL_law 1113 = .ok (.iaload, 1) := by decide +kernel
theorem dL_law_1114 : decode cL_law 1114 = .ok (.invokevirtual 102, 3) := by decide +kernel
theorem dL_law_1117 : decode cL_law 1117 = .ok (.if_icmp .eq 460, 3) := by decide +kernel
theorem dL_law_1120 : decode cL_law 1120 = .ok (.iconst 0, 1) := by decide +kernel
theorem dL_law_1121 : decode cL_law 1121 = .ok (.ireturn, 1) := by decide +kernel
theorem dL_law_1122 : decode cL_law 1122 = .ok (.aload_n 1, 1) := by decide +kernel
theorem dL_law_1123 : decode cL_law 1123 = .ok (.aload_n 0, 1) := by decide +kernel
theorem dL_law_1124 : decode cL_law 1124 = .ok (.iload_n 3, 1) := by decide +kernel
theorem dL_law_1125 : decode cL_law 1125 = .ok (.iconst 1, 1) := by decide +kernel
theorem dL_law_1126 : decode cL_law 1126 = .ok (.iadd, 1) := by decide +kernel
theorem dL_law_1127 : decode cL_law 1127 = .ok (.iaload, 1) := by decide +kernel
theorem dL_law_1128 : decode cL_law 1128 = .ok (.invokevirtual 103, 3) := by decide +kernel
theorem dL_law_1131 : decode cL_law 1131 = .ok (.aload_n 2, 1) := by decide +kernel
theorem dL_law_1132 : decode cL_law 1132 = .ok (.aload_n 0, 1) := by decide +kernel
theorem dL_law_1133 : decode cL_law 1133 = .ok (.iload_n 3, 1) := by decide +kernel
theorem dL_law_1134 : decode cL_law 1134 = .ok (.iconst 1, 1) := by decide +kernel
theorem dL_law_1135 : decode cL_law 1135 = .ok (.iadd, 1) := by decide +kernel
theorem dL_law_1136 : decode cL_law 1136 = .ok (.iaload, 1) := by decide +kernel
theorem dL_law_1137 : decode cL_law 1137 = .ok (.invokevirtual 106, 3) := by decide +kernel
theorem dL_law_1140 : decode cL_law 1140 = .ok (.if_icmp .eq 437, 3) := by decide +kernel
theorem dL_law_1143 : decode cL_law 1143 = .ok (.iconst 0, 1) := by decide +kernel
theorem dL_law_1144 : decode cL_law 1144 = .ok (.ireturn, 1) := by decide +kernel
theorem dL_law_1145 : decode cL_law 1145 = .ok (.aload_n 1, 1) := by decide +kernel
theorem dL_law_1146 : decode cL_law 1146 = .ok (.aload_n 0, 1) := by decide +kernel
theorem dL_law_1147 : decode cL_law 1147 = .ok (.iload_n 3, 1) := by decide +kernel
theorem dL_law_1148 : decode cL_law 1148 = .ok (.iconst 1, 1) := by decide +kernel
theorem dL_law_1149 : decode cL_law 1149 = .ok (.iadd, 1) := by decide +kernel
theorem dL_law_1150 : decode cL_law 1150 = .ok (.iaload, 1) := by decide +kernel
theorem dL_law_1151 : decode cL_law 1151 = .ok (.invokevirtual 107, 3) := by decide +kernel
theorem dL_law_1154 : decode cL_law 1154 = .ok (.aload_n 2, 1) := by decide +kernel
theorem dL_law_1155 : decode cL_law 1155 = .ok (.aload_n 0, 1) := by decide +kernel
theorem dL_law_1156 : decode cL_law 1156 = .ok (.iload_n 3, 1) := by decide +kernel
theorem dL_law_1157 : decode cL_law 1157 = .ok (.iconst 1, 1) := by decide +kernel
theorem dL_law_1158 : decode cL_law 1158 = .ok (.iadd, 1) := by decide +kernel
theorem dL_law_1159 : decode cL_law 1159 = .ok (.iaload, 1) := by decide +kernel
theorem dL_law_1160 : decode cL_law 1160 = .ok (.invokevirtual 110, 3) := by decide +kernel
theorem dL_law_1163 : decode cL_law 1163 = .ok (.if_icmp .eq 414, 3) := by decide +kernel
theorem dL_law_1166 : decode cL_law 1166 = .ok (.iconst 0, 1) := by decide +kernel
theorem dL_law_1167 : decode cL_law 1167 = .ok (.ireturn, 1) := by decide +kernel
theorem dL_law_1168 : decode cL_law 1168 = .ok (.aload_n 1, 1) := by decide +kernel
theorem dL_law_1169 : decode cL_law 1169 = .ok (.aload_n 0, 1) := by decide +kernel
theorem dL_law_1170 : decode cL_law 1170 = .ok (.iload_n 3, 1) := by decide +kernel
theorem dL_law_1171 : decode cL_law 1171 = .ok (.iconst 1, 1) := by decide +kernel
theorem dL_law_1172 : decode cL_law 1172 = .ok (.iadd, 1) := by decide +kernel
theorem dL_law_1173 : decode cL_law 1173 = .ok (.iaload, 1) := by decide +kernel
theorem dL_law_1174 : decode cL_law 1174 = .ok (.aload_n 0, 1) := by decide +kernel
theorem dL_law_1175 : decode cL_law 1175 = .ok (.iload_n 3, 1) := by decide +kernel
theorem dL_law_1176 : decode cL_law 1176 = .ok (.iconst 2, 1) := by decide +kernel
theorem dL_law_1177 : decode cL_law 1177 = .ok (.iadd, 1) := by decide +kernel
theorem dL_law_1178 : decode cL_law 1178 = .ok (.iaload, 1) := by decide +kernel
theorem dL_law_1179 : decode cL_law 1179 = .ok (.invokevirtual 111, 3) := by decide +kernel
theorem dL_law_1182 : decode cL_law 1182 = .ok (.aload_n 2, 1) := by decide +kernel
theorem dL_law_1183 : decode cL_law 1183 = .ok (.aload_n 0, 1) := by decide +kernel
theorem dL_law_1184 : decode cL_law 1184 = .ok (.iload_n 3, 1) := by decide +kernel
theorem dL_law_1185 : decode cL_law 1185 = .ok (.iconst 1, 1) := by decide +kernel
theorem dL_law_1186 : decode cL_law 1186 = .ok (.iadd, 1) := by decide +kernel
theorem dL_law_1187 : decode cL_law 1187 = .ok (.iaload, 1) := by decide +kernel
theorem dL_law_1188 : decode cL_law 1188 = .ok (.aload_n 0, 1) := by decide +kernel
theorem dL_law_1189 : decode cL_law 1189 = .ok (.iload_n 3, 1) := by decide +kernel
theorem dL_law_1190 : decode cL_law 1190 = .ok (.iconst 2, 1) := by decide +kernel
theorem dL_law_1191 : decode cL_law 1191 = .ok (.iadd, 1) := by decide +kernel
theorem dL_law_1192 : decode cL_law 1192 = .ok (.iaload, 1) := by decide +kernel
theorem dL_law_1193 : decode cL_law 1193 = .ok (.invokevirtual 114, 3) := by decide +kernel
theorem dL_law_1196 : decode cL_law 1196 = .ok (.if_icmp .eq 381, 3) := by decide +kernel
theorem dL_law_1199 : decode cL_law 1199 = .ok (.iconst 0, 1) := by decide +kernel
theorem dL_law_1200 : decode cL_law 1200 = .ok (.ireturn, 1) := by decide +kernel
theorem dL_law_1201 : decode cL_law 1201 = .ok (.aload_n 1, 1) := by decide +kernel
theorem dL_law_1202 : decode cL_law 1202 = .ok (.aload_n 0, 1) := by decide +kernel
theorem dL_law_1203 : decode cL_law 1203 = .ok (.iload_n 3, 1) := by decide +kernel
theorem dL_law_1204 : decode cL_law 1204 = .ok (.iconst 1, 1) := by decide +kernel
theorem dL_law_1205 : decode cL_law 1205 = .ok (.iadd, 1) := by decide +kernel
theorem dL_law_1206 : decode cL_law 1206 = .ok (.iaload, 1) := by decide +kernel
theorem dL_law_1207 : decode cL_law 1207 = .ok (.aload_n 0, 1) := by decide +kernel
theorem dL_law_1208 : decode cL_law 1208 = .ok (.iload_n 3, 1) := by decide +kernel
theorem dL_law_1209 : decode cL_law 1209 = .ok (.iconst 2, 1) := by decide +kernel
theorem dL_law_1210 : decode cL_law 1210 = .ok (.iadd, 1) := by decide +kernel
theorem dL_law_1211 : decode cL_law 1211 = .ok (.iaload, 1) := by decide +kernel
theorem dL_law_1212 : decode cL_law 1212 = .ok (.aload_n 0, 1) := by decide +kernel
theorem dL_law_1213 : decode cL_law 1213 = .ok (.iload_n 3, 1) := by decide +kernel
theorem dL_law_1214 : decode cL_law 1214 = .ok (.iconst 3, 1) := by decide +kernel
theorem dL_law_1215 : decode cL_law 1215 = .ok (.iadd, 1) := by decide +kernel
theorem dL_law_1216 : decode cL_law 1216 = .ok (.iaload, 1) := by decide +kernel
theorem dL_law_1217 : decode cL_law 1217 = .ok (.invokevirtual 115, 3) := by decide +kernel
theorem dL_law_1220 : decode cL_law 1220 = .ok (.aload_n 2, 1) := by decide +kernel
theorem dL_law_1221 : decode cL_law 1221 = .ok (.aload_n 0, 1) := by decide +kernel
theorem dL_law_1222 : decode cL_law 1222 = .ok (.iload_n 3, 1) := by decide +kernel
theorem dL_law_1223 : decode cL_law 1223 = .ok (.iconst 1, 1) := by decide +kernel
theorem dL_law_1224 : decode cL_law 1224 = .ok (.iadd, 1) := by decide +kernel
theorem dL_law_1225 : decode cL_law 1225 = .ok (.iaload, 1) := by decide +kernel
theorem dL_law_1226 : decode cL_law 1226 = .ok (.aload_n 0, 1) := by decide +kernel
theorem dL_law_1227 : decode cL_law 1227 = .ok (.iload_n 3, 1) := by decide +kernel
theorem dL_law_1228 : decode cL_law 1228 = .ok (.iconst 2, 1) := by decide +kernel
theorem dL_law_1229 : decode cL_law 1229 = .ok (.iadd, 1) := by decide +kernel
theorem dL_law_1230 : decode cL_law 1230 = .ok (.iaload, 1) := by decide +kernel
theorem dL_law_1231 : decode cL_law 1231 = .ok (.aload_n 0, 1) := by decide +kernel
theorem dL_law_1232 : decode cL_law 1232 = .ok (.iload_n 3, 1) := by decide +kernel
theorem dL_law_1233 : decode cL_law 1233 = .ok (.iconst 3, 1) := by decide +kernel
theorem dL_law_1234 : decode cL_law 1234 = .ok (.iadd, 1) := by decide +kernel
theorem dL_law_1235 : decode cL_law 1235 = .ok (.iaload, 1) := by decide +kernel
theorem dL_law_1236 : decode cL_law 1236 = .ok (.invokevirtual 118, 3) := by decide +kernel
theorem dL_law_1239 : decode cL_law 1239 = .ok (.if_icmp .eq 338, 3) := by decide +kernel
theorem dL_law_1242 : decode cL_law 1242 = .ok (.iconst 0, 1) := by decide +kernel
theorem dL_law_1243 : decode cL_law 1243 = .ok (.ireturn, 1) := by decide +kernel
theorem dL_law_1244 : decode cL_law 1244 = .ok (.aload_n 1, 1) := by decide +kernel
theorem dL_law_1245 : decode cL_law 1245 = .ok (.invokevirtual 119, 3) := by decide +kernel
theorem dL_law_1248 : decode cL_law 1248 = .ok (.aload_n 2, 1) := by decide +kernel
theorem dL_law_1249 : decode cL_law 1249 = .ok (.invokevirtual 122, 3) := by decide +kernel
theorem dL_law_1252 : decode cL_law 1252 = .ok (.if_icmp .eq 325, 3) := by decide +kernel
theorem dL_law_1255 : decode cL_law 1255 = .ok (.iconst 0, 1) := by decide +kernel
theorem dL_law_1256 : decode cL_law 1256 = .ok (.ireturn, 1) := by decide +kernel
theorem dL_law_1257 : decode cL_law 1257 = .ok (.aload_n 1, 1) := by decide +kernel
theorem dL_law_1258 : decode cL_law 1258 = .ok (.aload_n 0, 1) := by decide +kernel
theorem dL_law_1259 : decode cL_law 1259 = .ok (.iload_n 3, 1) := by decide +kernel
theorem dL_law_1260 : decode cL_law 1260 = .ok (.iconst 1, 1) := by decide +kernel
theorem dL_law_1261 : decode cL_law 1261 = .ok (.iadd, 1) := by decide +kernel
theorem dL_law_1262 : decode cL_law 1262 = .ok (.iaload, 1) := by decide +kernel
theorem dL_law_1263 : decode cL_law 1263 = .ok (.aload_n 0, 1) := by decide +kernel
theorem dL_law_1264 : decode cL_law 1264 = .ok (.iload_n 3, 1) := by decide +kernel
theorem dL_law_1265 : decode cL_law 1265 = .ok (.iconst 2, 1) := by decide +kernel
theorem dL_law_1266 : decode cL_law 1266 = .ok (.iadd, 1) := by decide +kernel
theorem dL_law_1267 : decode cL_law 1267 = .ok (.iaload, 1) := by decide +kernel
theorem dL_law_1268 : decode cL_law 1268 = .ok (.aload_n 0, 1) := by decide +kernel
theorem dL_law_1269 : decode cL_law 1269 = .ok (.iload_n 3, 1) := by decide +kernel
theorem dL_law_1270 : decode cL_law 1270 = .ok (.iconst 3, 1) := by decide +kernel
theorem dL_law_1271 : decode cL_law 1271 = .ok (.iadd, 1) := by decide +kernel
theorem dL_law_1272 : decode cL_law 1272 = .ok (.iaload, 1) := by decide +kernel
theorem dL_law_1273 : decode cL_law 1273 = .ok (.invokevirtual 123, 3) := by decide +kernel
theorem dL_law_1276 : decode cL_law 1276 = .ok (.aload_n 2, 1) := by decide +kernel
theorem dL_law_1277 : decode cL_law 1277 = .ok (.aload_n 0, 1) := by decide +kernel
theorem dL_law_1278 : decode cL_law 1278 = .ok (.iload_n 3, 1) := by decide +kernel
theorem dL_law_1279 : decode cL_law 1279 = .ok (.iconst 1, 1) := by decide +kernel
theorem dL_law_1280 : decode cL_law 1280 = .ok (.iadd, 1) := by decide +kernel
theorem dL_law_1281 : decode cL_law 1281 = .ok (.iaload, 1) := by decide +kernel
theorem dL_law_1282 : decode cL_law 1282 = .ok (.aload_n 0, 1) := by decide +kernel
theorem dL_law_1283 : decode cL_law 1283 = .ok (.iload_n 3, 1) := by decide +kernel
theorem dL_law_1284 : decode cL_law 1284 = .ok (.iconst 2, 1) := by decide +kernel
theorem dL_law_1285 : decode cL_law 1285 = .ok (.iadd, 1) := by decide +kernel
theorem dL_law_1286 : decode cL_law 1286 = .ok (.iaload, 1) := by decide +kernel
theorem dL_law_1287 : decode cL_law 1287 = .ok (.aload_n 0, 1) := by decide +kernel
theorem dL_law_1288 : decode cL_law 1288 = .ok (.iload_n 3, 1) := by decide +kernel
theorem dL_law_1289 : decode cL_law 1289 = .ok (.iconst 3, 1) := by decide +kernel
theorem dL_law_1290 : decode cL_law 1290 = .ok (.iadd, 1) := by decide +kernel
theorem dL_law_1291 : decode cL_law 1291 = .ok (.iaload, 1) := by decide +kernel
theorem dL_law_1292 : decode cL_law 1292 = .ok (.invokevirtual 126, 3) := by decide +kernel
theorem dL_law_1295 : decode cL_law 1295 = .ok (.if_icmp .eq 282, 3) := by decide +kernel
theorem dL_law_1298 : decode cL_law 1298 = .ok (.iconst 0, 1) := by decide +kernel
theorem dL_law_1299 : decode cL_law 1299 = .ok (.ireturn, 1) := by decide +kernel
theorem dL_law_1300 : decode cL_law 1300 = .ok (.aload_n 1, 1) := by decide +kernel
theorem dL_law_1301 : decode cL_law 1301 = .ok (.aload_n 0, 1) := by decide +kernel
theorem dL_law_1302 : decode cL_law 1302 = .ok (.iload_n 3, 1) := by decide +kernel
theorem dL_law_1303 : decode cL_law 1303 = .ok (.iconst 1, 1) := by decide +kernel
theorem dL_law_1304 : decode cL_law 1304 = .ok (.iadd, 1) := by decide +kernel
theorem dL_law_1305 : decode cL_law 1305 = .ok (.iaload, 1) := by decide +kernel
theorem dL_law_1306 : decode cL_law 1306 = .ok (.aload_n 0, 1) := by decide +kernel
theorem dL_law_1307 : decode cL_law 1307 = .ok (.iload_n 3, 1) := by decide +kernel
theorem dL_law_1308 : decode cL_law 1308 = .ok (.iconst 2, 1) := by decide +kernel
theorem dL_law_1309 : decode cL_law 1309 = .ok (.iadd, 1) := by decide +kernel
theorem dL_law_1310 : decode cL_law 1310 = .ok (.iaload, 1) := by decide +kernel
theorem dL_law_1311 : decode cL_law 1311 = .ok (.aload_n 0, 1) := by decide +kernel
theorem dL_law_1312 : decode cL_law 1312 = .ok (.iload_n 3, 1) := by decide +kernel
theorem dL_law_1313 : decode cL_law 1313 = .ok (.iconst 3, 1) := by decide +kernel
theorem dL_law_1314 : decode cL_law 1314 = .ok (.iadd, 1) := by decide +kernel
theorem dL_law_1315 : decode cL_law 1315 = .ok (.iaload, 1) := by decide +kernel
theorem dL_law_1316 : decode cL_law 1316 = .ok (.invokevirtual 127, 3) := by decide +kernel
theorem dL_law_1319 : decode cL_law 1319 = .ok (.aload_n 2, 1) := by decide +kernel
theorem dL_law_1320 : decode cL_law 1320 = .ok (.aload_n 0, 1) := by decide +kernel
theorem dL_law_1321 : decode cL_law 1321 = .ok (.iload_n 3, 1) := by decide +kernel
theorem dL_law_1322 : decode cL_law 1322 = .ok (.iconst 1, 1) := by decide +kernel
theorem dL_law_1323 : decode cL_law 1323 = .ok (.iadd, 1) := by decide +kernel
theorem dL_law_1324 : decode cL_law 1324 = .ok (.iaload, 1) := by decide +kernel
theorem dL_law_1325 : decode cL_law 1325 = .ok (.aload_n 0, 1) := by decide +kernel
theorem dL_law_1326 : decode cL_law 1326 = .ok (.iload_n 3, 1) := by decide +kernel
theorem dL_law_1327 : decode cL_law 1327 = .ok (.iconst 2, 1) := by decide +kernel
theorem dL_law_1328 : decode cL_law 1328 = .ok (.iadd, 1) := by decide +kernel
theorem dL_law_1329 : decode cL_law 1329 = .ok (.iaload, 1) := by decide +kernel
theorem dL_law_1330 : decode cL_law 1330 = .ok (.aload_n 0, 1) := by decide +kernel
theorem dL_law_1331 : decode cL_law 1331 = .ok (.iload_n 3, 1) := by decide +kernel
theorem dL_law_1332 : decode cL_law 1332 = .ok (.iconst 3, 1) := by decide +kernel
theorem dL_law_1333 : decode cL_law 1333 = .ok (.iadd, 1) := by decide +kernel
theorem dL_law_1334 : decode cL_law 1334 = .ok (.iaload, 1) := by decide +kernel
theorem dL_law_1335 : decode cL_law 1335 = .ok (.invokevirtual 130, 3) := by decide +kernel
theorem dL_law_1338 : decode cL_law 1338 = .ok (.if_icmp .eq 239, 3) := by decide +kernel
theorem dL_law_1341 : decode cL_law 1341 = .ok (.iconst 0, 1) := by decide +kernel
theorem dL_law_1342 : decode cL_law 1342 = .ok (.ireturn, 1) := by decide +kernel
theorem dL_law_1343 : decode cL_law 1343 = .ok (.aload_n 1, 1) := by decide +kernel
theorem dL_law_1344 : decode cL_law 1344 = .ok (.aload_n 0, 1) := by decide +kernel
theorem dL_law_1345 : decode cL_law 1345 = .ok (.iload_n 3, 1) := by decide +kernel
theorem dL_law_1346 : decode cL_law 1346 = .ok (.iconst 1, 1) := by decide +kernel
theorem dL_law_1347 : decode cL_law 1347 = .ok (.iadd, 1) := by decide +kernel
theorem dL_law_1348 : decode cL_law 1348 = .ok (.iaload, 1) := by decide +kernel
theorem dL_law_1349 : decode cL_law 1349 = .ok (.aload_n 0, 1) := by decide +kernel
theorem dL_law_1350 : decode cL_law 1350 = .ok (.iload_n 3, 1) := by decide +kernel
theorem dL_law_1351 : decode cL_law 1351 = .ok (.iconst 2, 1) := by decide +kernel
theorem dL_law_1352 : decode cL_law 1352 = .ok (.iadd, 1) := by decide +kernel
theorem dL_law_1353 : decode cL_law 1353 = .ok (.iaload, 1) := by decide +kernel
theorem dL_law_1354 : decode cL_law 1354 = .ok (.aload_n 0, 1) := by decide +kernel
theorem dL_law_1355 : decode cL_law 1355 = .ok (.iload_n 3, 1) := by decide +kernel
theorem dL_law_1356 : decode cL_law 1356 = .ok (.iconst 3, 1) := by decide +kernel
theorem dL_law_1357 : decode cL_law 1357 = .ok (.iadd, 1) := by decide +kernel
theorem dL_law_1358 : decode cL_law 1358 = .ok (.iaload, 1) := by decide +kernel
theorem dL_law_1359 : decode cL_law 1359 = .ok (.invokevirtual 131, 3) := by decide +kernel
theorem dL_law_1362 : decode cL_law 1362 = .ok (.aload_n 2, 1) := by decide +kernel
theorem dL_law_1363 : decode cL_law 1363 = .ok (.aload_n 0, 1) := by decide +kernel
theorem dL_law_1364 : decode cL_law 1364 = .ok (.iload_n 3, 1) := by decide +kernel
theorem dL_law_1365 : decode cL_law 1365 = .ok (.iconst 1, 1) := by decide +kernel
theorem dL_law_1366 : decode cL_law 1366 = .ok (.iadd, 1) := by decide +kernel
theorem dL_law_1367 : decode cL_law 1367 = .ok (.iaload, 1) := by decide +kernel
theorem dL_law_1368 : decode cL_law 1368 = .ok (.aload_n 0, 1) := by decide +kernel
theorem dL_law_1369 : decode cL_law 1369 = .ok (.iload_n 3, 1) := by decide +kernel
theorem dL_law_1370 : decode cL_law 1370 = .ok (.iconst 2, 1) := by decide +kernel
theorem dL_law_1371 : decode cL_law 1371 = .ok (.iadd, 1) := by decide +kernel
theorem dL_law_1372 : decode cL_law 1372 = .ok (.iaload, 1) := by decide +kernel
theorem dL_law_1373 : decode cL_law 1373 = .ok (.aload_n 0, 1) := by decide +kernel
theorem dL_law_1374 : decode cL_law 1374 = .ok (.iload_n 3, 1) := by decide +kernel
theorem dL_law_1375 : decode cL_law 1375 = .ok (.iconst 3, 1) := by decide +kernel
theorem dL_law_1376 : decode cL_law 1376 = .ok (.iadd, 1) := by decide +kernel
theorem dL_law_1377 : decode cL_law 1377 = .ok (.iaload, 1) := by decide +kernel
theorem dL_law_1378 : decode cL_law 1378 = .ok (.invokevirtual 134, 3) := by decide +kernel
theorem dL_law_1381 : decode cL_law 1381 = .ok (.if_icmp .eq 196, 3) := by decide +kernel
theorem dL_law_1384 : decode cL_law 1384 = .ok (.iconst 0, 1) := by decide +kernel
theorem dL_law_1385 : decode cL_law 1385 = .ok (.ireturn, 1) := by decide +kernel
theorem dL_law_1386 : decode cL_law 1386 = .ok (.aload_n 1, 1) := by decide +kernel
theorem dL_law_1387 : decode cL_law 1387 = .ok (.aload_n 0, 1) := by decide +kernel
theorem dL_law_1388 : decode cL_law 1388 = .ok (.iload_n 3, 1) := by decide +kernel
theorem dL_law_1389 : decode cL_law 1389 = .ok (.iconst 1, 1) := by decide +kernel
theorem dL_law_1390 : decode cL_law 1390 = .ok (.iadd, 1) := by decide +kernel
theorem dL_law_1391 : decode cL_law 1391 = .ok (.iaload, 1) := by decide +kernel
theorem dL_law_1392 : decode cL_law 1392 = .ok (.aload_n 0, 1) := by decide +kernel
theorem dL_law_1393 : decode cL_law 1393 = .ok (.iload_n 3, 1) := by decide +kernel
theorem dL_law_1394 : decode cL_law 1394 = .ok (.iconst 2, 1) := by decide +kernel
theorem dL_law_1395 : decode cL_law 1395 = .ok (.iadd, 1) := by decide +kernel
theorem dL_law_1396 : decode cL_law 1396 = .ok (.iaload, 1) := by decide +kernel
theorem dL_law_1397 : decode cL_law 1397 = .ok (.aload_n 0, 1) := by decide +kernel
theorem dL_law_1398 : decode cL_law 1398 = .ok (.iload_n 3, 1) := by decide +kernel
theorem dL_law_1399 : decode cL_law 1399 = .ok (.iconst 3, 1) := by decide +kernel
theorem dL_law_1400 : decode cL_law 1400 = .ok (.iadd, 1) := by decide +kernel
theorem dL_law_1401 : decode cL_law 1401 = .ok (.iaload, 1) := by decide +kernel
theorem dL_law_1402 : decode cL_law 1402 = .ok (.invokevirtual 135, 3) := by decide +kernel
theorem dL_law_1405 : decode cL_law 1405 = .ok (.aload_n 2, 1) := by decide +kernel
theorem dL_law_1406 : decode cL_law 1406 = .ok (.aload_n 0, 1) := by decide +kernel
theorem dL_law_1407 : decode cL_law 1407 = .ok (.iload_n 3, 1) := by decide +kernel
theorem dL_law_1408 : decode cL_law 1408 = .ok (.iconst 1, 1) := by decide +kernel
theorem dL_law_1409 : decode cL_law 1409 = .ok (.iadd, 1) := by decide +kernel
theorem dL_law_1410 : decode cL_law 1410 = .ok (.iaload, 1) := by decide +kernel
theorem dL_law_1411 : decode cL_law 1411 = .ok (.aload_n 0, 1) := by decide +kernel
theorem dL_law_1412 : decode cL_law 1412 = .ok (.iload_n 3, 1) := by decide +kernel
theorem dL_law_1413 : decode cL_law 1413 = .ok (.iconst 2, 1) := by decide +kernel
theorem dL_law_1414 : decode cL_law 1414 = .ok (.iadd, 1) := by decide +kernel
theorem dL_law_1415 : decode cL_law 1415 = .ok (.iaload, 1) := by decide +kernel
theorem dL_law_1416 : decode cL_law 1416 = .ok (.aload_n 0, 1) := by decide +kernel
theorem dL_law_1417 : decode cL_law 1417 = .ok (.iload_n 3, 1) := by decide +kernel
theorem dL_law_1418 : decode cL_law 1418 = .ok (.iconst 3, 1) := by decide +kernel
theorem dL_law_1419 : decode cL_law 1419 = .ok (.iadd, 1) := by decide +kernel
theorem dL_law_1420 : decode cL_law 1420 = .ok (.iaload, 1) := by decide +kernel
theorem dL_law_1421 : decode cL_law 1421 = .ok (.invokevirtual 138, 3) := by decide +kernel
theorem dL_law_1424 : decode cL_law 1424 = .ok (.if_icmp .eq 153, 3) := by decide +kernel
theorem dL_law_1427 : decode cL_law 1427 = .ok (.iconst 0, 1) := by decide +kernel
theorem dL_law_1428 : decode cL_law 1428 = .ok (.ireturn, 1) := by decide +kernel
theorem dL_law_1429 : decode cL_law 1429 = .ok (.aload_n 1, 1) := by decide +kernel
theorem dL_law_1430 : decode cL_law 1430 = .ok (.aload_n 0, 1) := by decide +kernel
theorem dL_law_1431 : decode cL_law 1431 = .ok (.iload_n 3, 1) := by decide +kernel
theorem dL_law_1432 : decode cL_law 1432 = .ok (.iconst 1, 1) := by decide +kernel
theorem dL_law_1433 : decode cL_law 1433 = .ok (.iadd, 1) := by decide +kernel
theorem dL_law_1434 : decode cL_law 1434 = .ok (.iaload, 1) := by decide +kernel
theorem dL_law_1435 : decode cL_law 1435 = .ok (.aload_n 0, 1) := by decide +kernel
theorem dL_law_1436 : decode cL_law 1436 = .ok (.iload_n 3, 1) := by decide +kernel
theorem dL_law_1437 : decode cL_law 1437 = .ok (.iconst 2, 1) := by decide +kernel
theorem dL_law_1438 : decode cL_law 1438 = .ok (.iadd, 1) := by decide +kernel
theorem dL_law_1439 : decode cL_law 1439 = .ok (.iaload, 1) := by decide +kernel
theorem dL_law_1440 : decode cL_law 1440 = .ok (.invokevirtual 139, 3) := by decide +kernel
theorem dL_law_1443 : decode cL_law 1443 = .ok (.aload_n 2, 1) := by decide +kernel
theorem dL_law_1444 : decode cL_law 1444 = .ok (.aload_n 0, 1) := by decide +kernel
theorem dL_law_1445 : decode cL_law 1445 = .ok (.iload_n 3, 1) := by decide +kernel
theorem dL_law_1446 : decode cL_law 1446 = .ok (.iconst 1, 1) := by decide +kernel
theorem dL_law_1447 : decode cL_law 1447 = .ok (.iadd, 1) := by decide +kernel
theorem dL_law_1448 : decode cL_law 1448 = .ok (.iaload, 1) := by decide +kernel
theorem dL_law_1449 : decode cL_law 1449 = .ok (.aload_n 0, 1) := by decide +kernel
theorem dL_law_1450 : decode cL_law 1450 = .ok (.iload_n 3, 1) := by decide +kernel
theorem dL_law_1451 : decode cL_law 1451 = .ok (.iconst 2, 1) := by decide +kernel
theorem dL_law_1452 : decode cL_law 1452 = .ok (.iadd, 1) := by decide +kernel
theorem dL_law_1453 : decode cL_law 1453 = .ok (.iaload, 1) := by decide +kernel
theorem dL_law_1454 : decode cL_law 1454 = .ok (.invokevirtual 142, 3) := by decide +kernel
theorem dL_law_1457 : decode cL_law 1457 = .ok (.if_icmp .eq 120, 3) := by decide +kernel
theorem dL_law_1460 : decode cL_law 1460 = .ok (.iconst 0, 1) := by decide +kernel
theorem dL_law_1461 : decode cL_law 1461 = .ok (.ireturn, 1) := by decide +kernel
theorem dL_law_1462 : decode cL_law 1462 = .ok (.aload_n 1, 1) := by decide +kernel
theorem dL_law_1463 : decode cL_law 1463 = .ok (.aload_n 0, 1) := by decide +kernel
theorem dL_law_1464 : decode cL_law 1464 = .ok (.iload_n 3, 1) := by decide +kernel
theorem dL_law_1465 : decode cL_law 1465 = .ok (.iconst 1, 1) := by decide +kernel
theorem dL_law_1466 : decode cL_law 1466 = .ok (.iadd, 1) := by decide +kernel
theorem dL_law_1467 : decode cL_law 1467 = .ok (.iaload, 1) := by decide +kernel
theorem dL_law_1468 : decode cL_law 1468 = .ok (.aload_n 0, 1) := by decide +kernel
theorem dL_law_1469 : decode cL_law 1469 = .ok (.iload_n 3, 1) := by decide +kernel
theorem dL_law_1470 : decode cL_law 1470 = .ok (.iconst 2, 1) := by decide +kernel
theorem dL_law_1471 : decode cL_law 1471 = .ok (.iadd, 1) := by decide +kernel
theorem dL_law_1472 : decode cL_law 1472 = .ok (.iaload, 1) := by decide +kernel
theorem dL_law_1473 : decode cL_law 1473 = .ok (.aload_n 0, 1) := by decide +kernel
theorem dL_law_1474 : decode cL_law 1474 = .ok (.iload_n 3, 1) := by decide +kernel
theorem dL_law_1475 : decode cL_law 1475 = .ok (.iconst 3, 1) := by decide +kernel
theorem dL_law_1476 : decode cL_law 1476 = .ok (.iadd, 1) := by decide +kernel
theorem dL_law_1477 : decode cL_law 1477 = .ok (.iaload, 1) := by decide +kernel
theorem dL_law_1478 : decode cL_law 1478 = .ok (.invokevirtual 143, 3) := by decide +kernel
theorem dL_law_1481 : decode cL_law 1481 = .ok (.aload_n 2, 1) := by decide +kernel
theorem dL_law_1482 : decode cL_law 1482 = .ok (.aload_n 0, 1) := by decide +kernel
theorem dL_law_1483 : decode cL_law 1483 = .ok (.iload_n 3, 1) := by decide +kernel
theorem dL_law_1484 : decode cL_law 1484 = .ok (.iconst 1, 1) := by decide +kernel
theorem dL_law_1485 : decode cL_law 1485 = .ok (.iadd, 1) := by decide +kernel
theorem dL_law_1486 : decode cL_law 1486 = .ok (.iaload, 1) := by decide +kernel
theorem dL_law_1487 : decode cL_law 1487 = .ok (.aload_n 0, 1) := by decide +kernel
theorem dL_law_1488 : decode cL_law 1488 = .ok (.iload_n 3, 1) := by decide +kernel
theorem dL_law_1489 : decode cL_law 1489 = .ok (.iconst 2, 1) := by decide +kernel
theorem dL_law_1490 : decode cL_law 1490 = .ok (.iadd, 1) := by decide +kernel
theorem dL_law_1491 : decode cL_law 1491 = .ok (.iaload, 1) := by decide +kernel
theorem dL_law_1492 : decode cL_law 1492 = .ok (.aload_n 0, 1) := by decide +kernel
theorem dL_law_1493 : decode cL_law 1493 = .ok (.iload_n 3, 1) := by decide +kernel
theorem dL_law_1494 : decode cL_law 1494 = .ok (.iconst 3, 1) := by decide +kernel
theorem dL_law_1495 : decode cL_law 1495 = .ok (.iadd, 1) := by decide +kernel
theorem dL_law_1496 : decode cL_law 1496 = .ok (.iaload, 1) := by decide +kernel
theorem dL_law_1497 : decode cL_law 1497 = .ok (.invokevirtual 146, 3) := by decide +kernel
theorem dL_law_1500 : decode cL_law 1500 = .ok (.if_icmp .eq 77, 3) := by decide +kernel
theorem dL_law_1503 : decode cL_law 1503 = .ok (.iconst 0, 1) := by decide +kernel
theorem dL_law_1504 : decode cL_law 1504 = .ok (.ireturn, 1) := by decide +kernel
theorem dL_law_1505 : decode cL_law 1505 = .ok (.aload_n 1, 1) := by decide +kernel
theorem dL_law_1506 : decode cL_law 1506 = .ok (.aload_n 0, 1) := by decide +kernel
theorem dL_law_1507 : decode cL_law 1507 = .ok (.iload_n 3, 1) := by decide +kernel
theorem dL_law_1508 : decode cL_law 1508 = .ok (.iconst 1, 1) := by decide +kernel
theorem dL_law_1509 : decode cL_law 1509 = .ok (.iadd, 1) := by decide +kernel
theorem dL_law_1510 : decode cL_law 1510 = .ok (.iaload, 1) := by decide +kernel
theorem dL_law_1511 : decode cL_law 1511 = .ok (.invokevirtual 147, 3) := by decide +kernel
theorem dL_law_1514 : decode cL_law 1514 = .ok (.aload_n 2, 1) := by decide +kernel
theorem dL_law_1515 : decode cL_law 1515 = .ok (.aload_n 0, 1) := by decide +kernel
theorem dL_law_1516 : decode cL_law 1516 = .ok (.iload_n 3, 1) := by decide +kernel
theorem dL_law_1517 : decode cL_law 1517 = .ok (.iconst 1, 1) := by decide +kernel
theorem dL_law_1518 : decode cL_law 1518 = .ok (.iadd, 1) := by decide +kernel
theorem dL_law_1519 : decode cL_law 1519 = .ok (.iaload, 1) := by decide +kernel
theorem dL_law_1520 : decode cL_law 1520 = .ok (.invokevirtual 150, 3) := by decide +kernel
theorem dL_law_1523 : decode cL_law 1523 = .ok (.if_icmp .eq 54, 3) := by decide +kernel
theorem dL_law_1526 : decode cL_law 1526 = .ok (.iconst 0, 1) := by decide +kernel
theorem dL_law_1527 : decode cL_law 1527 = .ok (.ireturn, 1) := by decide +kernel
theorem dL_law_1528 : decode cL_law 1528 = .ok (.aload_n 1, 1) := by decide +kernel
theorem dL_law_1529 : decode cL_law 1529 = .ok (.aload_n 0, 1) := by decide +kernel
theorem dL_law_1530 : decode cL_law 1530 = .ok (.iload_n 3, 1) := by decide +kernel
theorem dL_law_1531 : decode cL_law 1531 = .ok (.iconst 1, 1) := by decide +kernel
theorem dL_law_1532 : decode cL_law 1532 = .ok (.iadd, 1) := by decide +kernel
theorem dL_law_1533 : decode cL_law 1533 = .ok (.iaload, 1) := by decide +kernel
theorem dL_law_1534 : decode cL_law 1534 = .ok (.invokevirtual 151, 3) := by decide +kernel
theorem dL_law_1537 : decode cL_law 1537 = .ok (.aload_n 2, 1) := by decide +kernel
theorem dL_law_1538 : decode cL_law 1538 = .ok (.aload_n 0, 1) := by decide +kernel
theorem dL_law_1539 : decode cL_law 1539 = .ok (.iload_n 3, 1) := by decide +kernel
theorem dL_law_1540 : decode cL_law 1540 = .ok (.iconst 1, 1) := by decide +kernel
theorem dL_law_1541 : decode cL_law 1541 = .ok (.iadd, 1) := by decide +kernel
theorem dL_law_1542 : decode cL_law 1542 = .ok (.iaload, 1) := by decide +kernel
theorem dL_law_1543 : decode cL_law 1543 = .ok (.invokevirtual 154, 3) := by decide +kernel
theorem dL_law_1546 : decode cL_law 1546 = .ok (.if_icmp .eq 31, 3) := by decide +kernel
theorem dL_law_1549 : decode cL_law 1549 = .ok (.iconst 0, 1) := by decide +kernel
theorem dL_law_1550 : decode cL_law 1550 = .ok (.ireturn, 1) := by decide +kernel
theorem dL_law_1551 : decode cL_law 1551 = .ok (.aload_n 1, 1) := by decide +kernel
theorem dL_law_1552 : decode cL_law 1552 = .ok (.invokevirtual 155, 3) := by decide +kernel
theorem dL_law_1555 : decode cL_law 1555 = .ok (.aload_n 2, 1) := by decide +kernel
theorem dL_law_1556 : decode cL_law 1556 = .ok (.invokevirtual 158, 3) := by decide +kernel
theorem dL_law_1559 : decode cL_law 1559 = .ok (.if_icmp .eq 18, 3) := by decide +kernel
theorem dL_law_1562 : decode cL_law 1562 = .ok (.iconst 0, 1) := by decide +kernel
theorem dL_law_1563 : decode cL_law 1563 = .ok (.ireturn, 1) := by decide +kernel
theorem dL_law_1564 : decode cL_law 1564 = .ok (.aload_n 1, 1) := by decide +kernel
theorem dL_law_1565 : decode cL_law 1565 = .ok (.invokevirtual 159, 3) := by decide +kernel
theorem dL_law_1568 : decode cL_law 1568 = .ok (.aload_n 2, 1) := by decide +kernel
theorem dL_law_1569 : decode cL_law 1569 = .ok (.invokevirtual 162, 3) := by decide +kernel
theorem dL_law_1572 : decode cL_law 1572 = .ok (.if_icmp .eq 5, 3) := by decide +kernel
theorem dL_law_1575 : decode cL_law 1575 = .ok (.iconst 0, 1) := by decide +kernel
theorem dL_law_1576 : decode cL_law 1576 = .ok (.ireturn, 1) := by decide +kernel
theorem dL_law_1577 : decode cL_law 1577 = .ok (.iinc 3 7, 3) := by decide +kernel
theorem dL_law_1580 : decode cL_law 1580 = .ok (.goto (-1562), 3) := by decide +kernel
theorem dL_law_1583 : decode cL_law 1583 = .ok (.iconst 1, 1) := by decide +kernel
theorem dL_law_1584 : decode cL_law 1584 = .ok (.ireturn, 1) := by decide +kernel
end
section
/-! THE MEMORY: what the cells that the law makes hold, by their names (64, 65, .. in the order in which they are made); names below 64 are cells that were there before. -/
abbrev IM : Type := Nat → Nat → Int32
abbrev JM : Type := Nat → Nat → Int64
abbrev PM : Type := Nat → Nat → Option Nat
/-- how many cells, the kind of each (0 to 12: a class of vwCl; 13 ints, 14 longs, 15 bytes, 16 and 17 references), how long a row is -/
abbrev TM : Type := Nat × (Nat → Nat) × (Nat → Nat)
/-- the launch, where the first cell lies, where the cells from before lie, the classes' numbers, the array classes, the script -/
abbrev GE : Type := Launch × Nat × (Nat → Nat) × va_G × (Nat → ClassId) × Nat × (Nat → Int32)
def q_ (E : GE) (n : Nat) : Nat := if n < 64 then E.2.2.1 n else E.2.1 + (n - 64)
def cv (E : GE) (v : Value) : Value := match v with
  | .ref n => .ref (q_ E n)
  | v => v
def cv2 (E : GE) (q : Nat × Value) : Nat × Value := (q.1, cv E q.2)
theorem cv_cat (E : GE) (v : Value) : (cv E v).category = v.category := by cases v <;> rfl
def lay (ci : Nat) : List Nat := match ci with
  | 0 => [0, 0, 0, 0]
  | 1 => [2, 0, 0, 0, 0, 0, 0, 0, 0, 0, 0]
  | 2 => [0, 0, 0, 0]
  | 3 => [0, 0, 2]
  | 4 => [0, 0, 0, 0]
  | 5 => [0, 0, 0, 0]
  | 6 => [2, 0, 0, 0]
  | 7 => [2, 0, 0]
  | 8 => [0, 0, 0, 0]
  | 9 => [0, 0, 0, 0]
  | 10 => [2, 0, 2, 2, 2, 0]
  | 11 => [2, 2, 0, 2, 2, 2, 2, 2, 2, 2, 2, 0, 2, 2, 2, 2]
  | 12 => [0, 2, 2, 2, 2, 0, 2, 2, 0, 0, 0, 0, 1, 0, 0, 0, 2, 2, 2, 0, 0, 0, 0, 0, 0, 0, 0, 0, 0, 0, 0, 0, 2, 2, 2, 2, 0, 0, 2, 2, 2, 2, 2, 2, 0, 0, 0, 2, 0, 0, 0, 2, 0, 2]
  | _ => []
def fv (E : GE) (I : IM) (J : JM) (P : PM) (a k t : Nat) : Value := match t with
  | 0 => .int (I a k)
  | 1 => .long (J a k)
  | _ => va_rf ((P a k).map (q_ E))
def flds (E : GE) (I : IM) (J : JM) (P : PM) (a ci : Nat) : List Value := (List.range (lay ci).length).map (fun k => fv E I J P a k ((lay ci).getD k 0))
theorem flds_get {E : GE} {I : IM} {J : JM} {P : PM} {a ci k t : Nat} (h : (lay ci)[k]? = some t) : (flds E I J P a ci)[k]? = some (fv E I J P a k t) := by
  have hk : k < (lay ci).length := (List.getElem?_eq_some_iff.mp h).1
  simp [flds, List.getElem?_range hk, h]
theorem flds_len {E : GE} {I : IM} {J : JM} {P : PM} {a ci : Nat} : (flds E I J P a ci).length = (lay ci).length := by simp [flds]
theorem flds_set {E : GE} {I I' : IM} {J J' : JM} {P P' : PM} {a ci k t : Nat} (h : (lay ci)[k]? = some t) (ho : ∀ j, j ≠ k → ∀ t, fv E I' J' P' a j t = fv E I J P a j t) : (flds E I J P a ci).set k (fv E I' J' P' a k t) = flds E I' J' P' a ci := by
  have hk : k < (lay ci).length := (List.getElem?_eq_some_iff.mp h).1
  apply List.ext_getElem?
  intro j
  rw [List.getElem?_set]
  by_cases hj : k = j
  · subst hj
    rw [if_pos rfl, if_pos (by rw [flds_len]; exact hk), flds_get h]
  · rw [if_neg hj]
    by_cases hl : j < (lay ci).length
    · have h2 : (lay ci)[j]? = some ((lay ci)[j]) := List.getElem?_eq_getElem hl
      rw [flds_get h2, flds_get h2, ho j (fun e => hj e.symm)]
    · rw [List.getElem?_eq_none (by rw [flds_len]; omega), List.getElem?_eq_none (by rw [flds_len]; omega)]
def cell (E : GE) (T : TM) (I : IM) (J : JM) (P : PM) (a : Nat) : va_E :=
  if T.2.1 a < 13 then .inr (T.2.1 a, flds E I J P a (T.2.1 a))
  else if T.2.1 a = 14 then .inl (E.2.2.2.2.1 14, T.2.2 a, .inr (.inl (J a)))
  else if T.2.1 a < 16 then .inl (E.2.2.2.2.1 (T.2.1 a), T.2.2 a, .inl (I a))
  else .inl (E.2.2.2.2.1 (T.2.1 a), T.2.2 a, .inr (.inr (.inr (.inr (fun j => (P a j).map (q_ E))))))
def wl (E : GE) (T : TM) (I : IM) (J : JM) (P : PM) : va_W := (List.range T.1).map (fun i => (E.2.1 + i, cell E T I J P (64 + i)))
def AA (E : GE) : Nat → Prop := fun q => E.2.1 ≤ q
def IS (T : TM) (a k : Nat) : Prop := 64 ≤ a ∧ a < 64 + T.1 ∧ T.2.1 a = k
def KT (E : GE) : List (ClassId × FieldType) := [(E.2.2.2.2.1 13, .int), (E.2.2.2.2.1 14, .long), (E.2.2.2.2.1 15, .byte), (E.2.2.2.2.1 16, .object RX0), (E.2.2.2.2.1 17, .object RX3)]
def HP (E : GE) (T : TM) (I : IM) (J : JM) (P : PM) (H : Heap) : Prop := va_P E.2.2.2.1 vwCl (wl E T I J P) H
theorem wl_get {E : GE} {T : TM} {I : IM} {J : JM} {P : PM} {i : Nat} (h : i < T.1) : (wl E T I J P)[i]? = some (E.2.1 + i, cell E T I J P (64 + i)) := by
  simp [wl, List.getElem?_range h]
theorem wl_lt {E : GE} {T : TM} {I : IM} {J : JM} {P : PM} {i : Nat} {q : Nat × va_E} (h : (wl E T I J P)[i]? = some q) : i < T.1 ∧ q = (E.2.1 + i, cell E T I J P (64 + i)) := by
  have hi : i < T.1 := by
    have := (List.getElem?_eq_some_iff.mp h).1
    simpa [wl] using this
  rw [wl_get hi] at h
  exact ⟨hi, (Option.some.inj h).symm⟩
theorem wl_D {E : GE} {T : TM} {I : IM} {J : JM} {P : PM} : va_D (AA E) (wl E T I J P) := by
  refine ⟨fun i j p q hi hj he => ?_, fun k q hk => ?_⟩
  · obtain ⟨-, rfl⟩ := wl_lt hi
    obtain ⟨-, rfl⟩ := wl_lt hj
    have he : E.2.1 + i = E.2.1 + j := he
    omega
  · obtain ⟨-, rfl⟩ := wl_lt hk
    show E.2.1 ≤ E.2.1 + k
    omega
theorem q_hi {E : GE} {a : Nat} (h : 64 ≤ a) : q_ E a = E.2.1 + (a - 64) := by
  unfold q_
  rw [if_neg (by omega)]
theorem wl_at {E : GE} {T : TM} {I : IM} {J : JM} {P : PM} {a k : Nat} (h : IS T a k) : (wl E T I J P)[a - 64]? = some (q_ E a, cell E T I J P a) := by
  obtain ⟨h1, h2, -⟩ := h
  rw [wl_get (by omega), q_hi h1, show 64 + (a - 64) = a by omega]
/-- a world with one cell changed -/
theorem wl_set {E : GE} {T : TM} {I I' : IM} {J J' : JM} {P P' : PM} {a k : Nat} (h : IS T a k) {e : va_E} (he : cell E T I' J' P' a = e) (ho : ∀ b, b ≠ a → cell E T I' J' P' b = cell E T I J P b) : (wl E T I J P).set (a - 64) (q_ E a, e) = wl E T I' J' P' := by
  obtain ⟨h1, h2, -⟩ := h
  apply List.ext_getElem?
  intro j
  rw [List.getElem?_set]
  by_cases hj : a - 64 = j
  · subst hj
    rw [if_pos rfl, if_pos (by simp [wl]; omega), wl_get (by omega), q_hi h1, show 64 + (a - 64) = a by omega, he]
  · rw [if_neg hj]
    by_cases hl : j < T.1
    · rw [wl_get hl, wl_get hl, ho _ (by omega)]
    · rw [List.getElem?_eq_none (by simp [wl]; omega), List.getElem?_eq_none (by simp [wl]; omega)]
/-- one number of one cell becomes v -/
def up2 {α : Type} (I : Nat → Nat → α) (a k : Nat) (v : α) : Nat → Nat → α := fun b j => if b = a ∧ j = k then v else I b j
theorem up2_s {α : Type} (I : Nat → Nat → α) (a k : Nat) (v : α) : up2 I a k v a k = v := by simp [up2]
theorem up2_n {α : Type} (I : Nat → Nat → α) {a k : Nat} (v : α) {b j : Nat} (h : ¬ (b = a ∧ j = k)) : up2 I a k v b j = I b j := by simp [up2, h]
theorem up2_row {α : Type} (I : Nat → Nat → α) (a k : Nat) (v : α) : up2 I a k v a = fun j => if j = k then v else I a j := by funext j; simp [up2]
theorem up2_oth {α : Type} (I : Nat → Nat → α) {a : Nat} (k : Nat) (v : α) {b : Nat} (h : b ≠ a) : up2 I a k v b = I b := by funext j; simp [up2, h]
theorem cell_obj {E : GE} {T : TM} {I : IM} {J : JM} {P : PM} {a ci : Nat} (h : T.2.1 a = ci) (hc : ci < 13) : cell E T I J P a = .inr (ci, flds E I J P a ci) := by
  subst h
  simp [cell, hc]
theorem cell_cong {E : GE} {T : TM} {I I' : IM} {J J' : JM} {P P' : PM} {b : Nat} (hI : I' b = I b) (hJ : J' b = J b) (hP : P' b = P b) : cell E T I' J' P' b = cell E T I J P b := by
  have hf : ∀ k t, fv E I' J' P' b k t = fv E I J P b k t := fun k t => by
    match t with
    | 0 => simp [fv, hI]
    | 1 => simp [fv, hJ]
    | n + 2 => simp [fv, hP]
  have hfl : ∀ ci, flds E I' J' P' b ci = flds E I J P b ci := fun ci => by simp [flds, hf]
  simp [cell, hI, hJ, hP, hfl]
end
section
/-! THE JUDGEMENT: the machine at an instruction of a method, over the memory -/
def strIx : List Nat := [112, 114, 116, 118, 120, 122, 57, 124, 126, 128, 130, 132, 134, 77, 79]
def strTx : List String := ["lift", "drag", "edge", "spin", "damp", "wind", "hand", "fall", "steady", "swinging", "turning", "righted", "winged", "wide", "clip"]
def strBy : List (List Int32) := [[108, 105, 102, 116], [100, 114, 97, 103], [101, 100, 103, 101], [115, 112, 105, 110], [100, 97, 109, 112], [119, 105, 110, 100], [104, 97, 110, 100], [102, 97, 108, 108], [115, 116, 101, 97, 100, 121], [115, 119, 105, 110, 103, 105, 110, 103], [116, 117, 114, 110, 105, 110, 103], [114, 105, 103, 104, 116, 101, 100], [119, 105, 110, 103, 101, 100], [119, 105, 100, 101], [99, 108, 105, 112]]
def strLn : List Nat := [4, 4, 4, 4, 4, 4, 4, 4, 6, 8, 7, 7, 6, 4, 4]
def sinV : List Int32 := [0, 174, 342, 500, 643, 766, 866, 940, 985, 1000]
def ncs : List (String × String) := [(RX0, RX4), (RX0, RX5), (RX0, RX8), (RX0, RX2), (RX0, RX9), (RX4, RX5), (RX4, RX8), (RX4, RX2), (RX4, RX9), (RX5, RX4), (RX5, RX8), (RX5, RX2), (RX5, RX9), (RX8, RX4), (RX8, RX5), (RX8, RX2), (RX8, RX9), (RX2, RX5), (RX2, RX8), (RX2, RX9), (RX9, RX4), (RX9, RX5), (RX9, RX2)]
def cas : List (String × String) := [(RX2, RX4), (RX9, RX8), (RX4, RX0), (RX5, RX0), (RX8, RX0), (RX2, RX0), (RX9, RX0)]
def nests : List (Nat × MethodName) := [(49, yX11_sineOf), (58, yX11_heldTo)]
/-- the words of the tables that a call may hand on -/
def tbg : List Cond := lw_tbl.filter goodWord
/-- what stands outside the memory: the table of sines, the texts, the script, the classes -/
def ST (E : GE) (U : State) (H : Heap) : Prop :=
  va_K E.2.2.2.1 vwCl (KT E) U ∧ va_Z "FallCards" "SINES" "[I" (.ref (E.2.2.1 20)) (AA E) U H ∧ va_T .int (E.2.2.1 20) 10 (fun j => .int (sinV.getD j 0)) (AA E) U H ∧ va_Z "java/lang/String" "COMPACT_STRINGS" "Z" (.int 1) (AA E) U H ∧ vk_S 15 strLn strBy E.2.2.1 (fun i => E.2.2.1 (30 + i)) (AA E) U H ∧ (∀ i, i < 15 → vk_R "FallCards$Tape" (strIx.getD i 0) (strTx.getD i "") (E.2.2.1 i) U) ∧ (∀ q ∈ ncs, va_Nc q.1 q.2 U) ∧ va_X (E.2.2.1 21) E.2.2.2.2.2.1 E.2.2.2.2.2.2 U H ∧ E.2.2.1 21 < E.2.1 ∧ va_AO RX0 U ∧ va_AO RX3 U ∧ (∀ q ∈ cas, va_Nw (.castable q.1 q.2) U) ∧ ∀ x ∈ nests, va_Nw (.methodLinkNest RX1 x.1 x.2 RX11) U
theorem ST.to {E : GE} {s U : State} {H : Heap} (hW : s.WarmedH U.vm) {locs : List Loc} (hS : va_S (AA E) s.heap H locs) (hb : E.2.1 ≤ s.heap.size) (h : ST E s s.heap) : ST E U H := by
  obtain ⟨h1, h2, h3, h4, h5, h6, h7, h8, h9, h10, h11, h12, h13⟩ := h
  have hk : ∀ a : Nat, a < s.heap.size → ¬ AA E a → H[a]? = s.heap[a]? := fun a h1 h2 => hS.2.1 a h1 h2
  refine ⟨va_K.moved hW.alike h1, va_Z.moved hW.alike (h2.kept hk), va_T.moved hW.alike (h3.kept hk), va_Z.moved hW.alike (h4.kept hk), vk_S.moved hW.alike (h5.kept hk), fun i hi => vk_R.warm hW (h6 i hi), fun q hq => (h7 q hq).moved hW.alike, va_X.moved hW.alike (h8.kept (hk _ (by omega) (fun z => absurd h9 (Nat.not_lt.mpr z)))), h9, h10.moved hW.alike, h11.moved hW.alike, fun q hq => va_Nw.warmC hW (h12 q hq), fun x hx => va_Nw.warmM hW (h13 x hx)⟩
theorem ST.same {E : GE} {u U : State} (hv : U.vm = u.vm) {H : Heap} (h : ST E u H) : ST E U H := by
  obtain ⟨h1, h2, h3, h4, h5, h6, h7, h8, h9, h10, h11, h12, h13⟩ := h
  have ha : u.vm.Alike U.vm := by rw [hv]; exact Vm.Alike.refl u.vm
  exact ⟨va_K.moved ha h1, va_Z.moved ha h2, va_T.moved ha h3, va_Z.moved ha h4, vk_S.moved ha h5, fun i hi => vk_R.same hv (h6 i hi), fun q hq => (h7 q hq).moved ha, va_X.moved ha h8, h9, h10.moved ha, h11.moved ha, fun q hq => va_Nw.same rfl hv.symm (h12 q hq), fun x hx => va_Nw.same rfl hv.symm (h13 x hx)⟩
/-- what holds through a method's body -/
def CT (E : GE) (M : MD) (p : Program) (s : State) (m : MethodId) (args : Array Value) (meth : Method) (c : Code) : Prop :=
  p.tables.exec = Jvm.exec ∧ c.code = M.2.1 ∧ c.maxLocals = M.2.2.1 ∧ meth.sig.returnType = M.2.2.2 ∧ meth.locks = false ∧ meth.name = M.1.name ∧ s.vm.findClass M.1.cls = some m.cls ∧ (∀ w ∈ tbg, w.before args s = true) ∧ E.2.1 ≤ s.heap.size ∧ ST E s s.heap
def WW (E : GE) (M : MD) (R : Room) (Z : State → Array Value → List Frame → State → Prop) (kc ks : Nat) (T : TM) (I : IM) (J : JM) (P : PM) (pc : Nat) (ls : List (Nat × Value)) (st : List Value) : Prop :=
  ∀ (p : Program) (e : Env) (s : State) (m : MethodId) (args : Array Value) (below : List Frame) (meth : Method) (c : Code) (H : Heap) (locs : List Loc) (la : Array Slot), CT E M p s m args meth c → s.heap.size + kc = E.2.1 + T.1 → HP E T I J P H → va_S (AA E) s.heap H locs → lv_has la M.2.2.1 (ls.map (cv2 E)) → W p E.1 e R s m args below meth c H locs kc ks (Z s args below) (F0 m pc la (st.map (cv E)))
/-- a contract's end: the answer and the memory -/
def QM (E : GE) (v : Option Value) (T : TM) (I : IM) (J : JM) (P : PM) : Array Value → State → Outcome → State → Prop := fun _ st oc t => oc = .returned (v.map (cv E)) ∧ HP E T I J P t.heap ∧ va_F (AA E) st t
def RM (d bc bs : Nat) : Room := { frames := d, cells := bc, slots := bs, locals := 37 * d }
def wsM (M : MD) : List Cond := .code M.1 M.2.1 M.2.2.1 M.2.2.2 :: tbg
def Ctr (E : GE) (M : MD) (d bc bs : Nat) (as : List Value) (T : TM) (I : IM) (J : JM) (P : PM) (v : Option Value) (T' : TM) (I' : IM) (J' : JM) (P' : PM) : Prop :=
  T'.1 = T.1 + bc ∧ Met E.1 M.1 (wsM M) (RM d bc bs) (va_Pc (as.map (cv E)) (fun U => U.heap.size = E.2.1 + T.1 ∧ ST E U U.heap ∧ HP E T I J P U.heap)) (QM E v T' I' J' P') bc bs (AA E)
def ZM (E : GE) (bc bs : Nat) (v : Option Value) (T : TM) (I : IM) (J : JM) (P : PM) : State → Array Value → List Frame → State → Prop := fun s args below => MQ below (QM E v T I J P) args s bc bs (AA E)
theorem lv_args_cv (E : GE) : ∀ (as : List Value) (n : Nat), lv_args n (as.map (cv E)) = (lv_args n as).map (cv2 E) := by
  intro as
  induction as with
  | nil => intro n; rfl
  | cons v vs ih => intro n; simp only [List.map_cons, lv_args, ih, cv_cat, cv2]
theorem lg_sl_cv (E : GE) : ∀ (as : List Value), (lg_sl (as.map (cv E))).length = (lg_sl as).length := by
  intro as
  induction as with
  | nil => rfl
  | cons v vs ih =>
    have h1 : lg_sl ((v :: vs).map (cv E)) = (if (cv E v).category = 2 then [Slot.val (cv E v), Slot.second] else [Slot.val (cv E v)]) ++ lg_sl (vs.map (cv E)) := rfl
    have h2 : lg_sl (v :: vs) = (if v.category = 2 then [Slot.val v, Slot.second] else [Slot.val v]) ++ lg_sl vs := rfl
    rw [h1, h2, List.length_append, List.length_append, ih, cv_cat]
    by_cases hc : v.category = 2
    · rw [if_pos hc, if_pos hc]; rfl
    · rw [if_neg hc, if_neg hc]; rfl
theorem ctr_intro {E : GE} {M : MD} {d bc bs : Nat} {as : List Value} {T : TM} {I : IM} {J : JM} {P : PM} {v : Option Value} {T' : TM} {I' : IM} {J' : JM} {P' : PM} (hT : T'.1 = T.1 + bc) (hy : plainName M.1.cls = true) (hl : (lg_sl as).length ≤ M.2.2.1)
    (h : WW E M (RM d bc bs) (ZM E bc bs v T' I' J' P') 0 0 T I J P 0 (lv_args 0 as) []) : Ctr E M d bc bs as T I J P v T' I' J' P' := by
  refine ⟨hT, Met.ofW (cc := M.2.1) (maxL := M.2.2.1) (ret := M.2.2.2) hy rfl ?_⟩
  intro p e s m args below meth c s₁ B hml hv
  obtain ⟨rfl, hz, hST, hP⟩ := hv
  have hb : E.2.1 ≤ s.heap.size := by omega
  have hts := atoms_spec (ws := wsM M) B.pre
  rw [lg_entry_eq]
  exact h p e s m _ below meth c s.heap [] _ ⟨B.exec, B.bytes, hml, B.returns, B.notSynchronized, (name_of_methodNamed B.named B.method).1, findClass_of_methodNamed B.named, fun w hw => hts w (List.mem_cons_of_mem _ hw), hb, hST⟩ hz hP va_S.rf (by rw [← lv_args_cv]; exact lv_entry _ (by rw [lg_sl_cv]; exact hl))
/-- how large the heap is now -/
theorem size_of {E : GE} {M : MD} {p : Program} {l : Launch} {e : Env} {R : Room} {s : State} {m : MethodId} {args : Array Value} {below : List Frame} {meth : Method} {c : Code} {U : State} {H : Heap} {locs : List Loc} {kc ks : Nat} {T : TM} {I : IM} {J : JM} {P : PM} (C : CT E M p s m args meth c) (hU : U.heap = H) (X : Stand p l e R s m args below meth c U locs kc ks) (hz : s.heap.size + kc = E.2.1 + T.1) (hH : HP E T I J P H) (hS : va_S (AA E) s.heap H locs) : H.size = E.2.1 + T.1 := by
  have h1 : H.size ≤ s.heap.size + kc := by rw [← hU]; exact X.heapSize
  have h2 : E.2.1 + T.1 ≤ H.size := by
    by_cases h0 : T.1 = 0
    · have := hS.1
      have := C.2.2.2.2.2.2.2.2.1
      omega
    · have := (hH (T.1 - 1) _ (wl_get (by omega))).lt
      simp only at this
      omega
  omega
end
section
def lkp (ls : List (Nat × Value)) (i : Nat) : Option Value := match ls with
  | [] => none
  | q :: t => if q.1 = i then some q.2 else lkp t i
theorem lkp_mem : ∀ {ls : List (Nat × Value)} {i : Nat} {v : Value}, lkp ls i = some v → (i, v) ∈ ls := by
  intro ls
  induction ls with
  | nil => intro i v h; cases h
  | cons q t ih =>
    intro i v h
    unfold lkp at h
    by_cases hq : q.1 = i
    · rw [if_pos hq] at h
      obtain ⟨a, b⟩ := q
      cases h
      cases hq
      exact List.mem_cons_self
    · rw [if_neg hq] at h
      exact List.mem_cons_of_mem _ (ih h)
theorem lkp_la {E : GE} {la : Array Slot} {n : Nat} {ls : List (Nat × Value)} {i : Nat} {v : Value} (hl : lv_has la n (ls.map (cv2 E))) (h : lkp ls i = some v) : la[i]? = some (.val (cv E v)) := hl.2.2 (i, cv E v) (List.mem_map.mpr ⟨(i, v), lkp_mem h, rfl⟩)
def sto (ls : List (Nat × Value)) (i : Nat) (v : Value) : List (Nat × Value) := (i, v) :: ls.filter (fun q => !(q.1 == i) && !(q.1 + 1 == i && q.2.category == 2))
def sto2 (ls : List (Nat × Value)) (i : Nat) (v : Value) : List (Nat × Value) := (i, v) :: ls.filter (fun q => !(q.1 == i) && (!(q.1 == i + 1) && !(q.1 + 1 == i && q.2.category == 2)))
theorem sto_cv (E : GE) (ls : List (Nat × Value)) (i : Nat) (v : Value) : (i, cv E v) :: (ls.map (cv2 E)).filter (fun q => !(q.1 == i) && !(q.1 + 1 == i && q.2.category == 2)) = (sto ls i v).map (cv2 E) := by
  unfold sto
  rw [List.map_cons, List.filter_map]
  congr 2
  apply List.filter_congr
  intro q _
  simp only [Function.comp, cv2, cv_cat]
theorem sto2_cv (E : GE) (ls : List (Nat × Value)) (i : Nat) (v : Value) : (i, cv E v) :: (ls.map (cv2 E)).filter (fun q => !(q.1 == i) && (!(q.1 == i + 1) && !(q.1 + 1 == i && q.2.category == 2))) = (sto2 ls i v).map (cv2 E) := by
  unfold sto2
  rw [List.map_cons, List.filter_map]
  congr 2
  apply List.filter_congr
  intro q _
  simp only [Function.comp, cv2, cv_cat]
section RULES
variable {E : GE} {M : MD} {R : Room} {Z : State → Array Value → List Frame → State → Prop} {kc ks : Nat} {T : TM} {I : IM} {J : JM} {P : PM} {pc : Nat} {ls : List (Nat × Value)} {st : List Value}

theorem r_iconst {n : Int} {v : Int32} (hd : decode M.2.1 pc = .ok (.iconst n, 1)) (hv : Int32.ofInt n = v) (k : WW E M R Z kc ks T I J P (pc + 1) ls (.int v :: st)) : WW E M R Z kc ks T I J P pc ls st := fun p e s m args below meth c H locs la C hz hH hS hl => lv_iconst C.1 C.2.1 hd hv (k p e s m args below meth c H locs la C hz hH hS hl)
theorem r_bipush {n : Int} {v : Int32} (hd : decode M.2.1 pc = .ok (.bipush n, 2)) (hv : (Int8.ofInt n).toInt32 = v) (k : WW E M R Z kc ks T I J P (pc + 2) ls (.int v :: st)) : WW E M R Z kc ks T I J P pc ls st := fun p e s m args below meth c H locs la C hz hH hS hl => lv_bipush C.1 C.2.1 hd hv (k p e s m args below meth c H locs la C hz hH hS hl)
theorem r_sipush {n : Int} {v : Int32} (hd : decode M.2.1 pc = .ok (.sipush n, 3)) (hv : (Int16.ofInt n).toInt32 = v) (k : WW E M R Z kc ks T I J P (pc + 3) ls (.int v :: st)) : WW E M R Z kc ks T I J P pc ls st := fun p e s m args below meth c H locs la C hz hH hS hl => lv_sipush C.1 C.2.1 hd hv (k p e s m args below meth c H locs la C hz hH hS hl)
theorem r_lconst {n : Fin 2} {v : Int64} (hd : decode M.2.1 pc = .ok (.lconst n, 1)) (hv : Int64.ofNat (n : Nat) = v) (k : WW E M R Z kc ks T I J P (pc + 1) ls (.long v :: st)) : WW E M R Z kc ks T I J P pc ls st := fun p e s m args below meth c H locs la C hz hH hS hl => lv_lconst C.1 C.2.1 hd hv (k p e s m args below meth c H locs la C hz hH hS hl)
theorem r_iload_n {j : Fin 4} {i : Nat} {x : Int32} (hd : decode M.2.1 pc = .ok (.iload_n j, 1)) (hi : (j : Nat) = i) (h : lkp ls i = some (.int x)) (k : WW E M R Z kc ks T I J P (pc + 1) ls (.int x :: st)) : WW E M R Z kc ks T I J P pc ls st := fun p e s m args below meth c H locs la C hz hH hS hl => lv_iload_n C.1 C.2.1 hd hi (lkp_la hl h) (k p e s m args below meth c H locs la C hz hH hS hl)
theorem r_iload {i : Nat} {x : Int32} (hd : decode M.2.1 pc = .ok (.iload i, 2)) (h : lkp ls i = some (.int x)) (k : WW E M R Z kc ks T I J P (pc + 2) ls (.int x :: st)) : WW E M R Z kc ks T I J P pc ls st := fun p e s m args below meth c H locs la C hz hH hS hl => lv_iload C.1 C.2.1 hd (lkp_la hl h) (k p e s m args below meth c H locs la C hz hH hS hl)
theorem r_istore_n {j : Fin 4} {i : Nat} {x : Int32} {ls' : List (Nat × Value)} (hd : decode M.2.1 pc = .ok (.istore_n j, 1)) (hi : (j : Nat) = i) (hn : i < M.2.2.1) (h : sto ls i (.int x) = ls') (k : WW E M R Z kc ks T I J P (pc + 1) ls' st) : WW E M R Z kc ks T I J P pc ls (.int x :: st) := by
  subst h
  exact fun p e s m args below meth c H locs la C hz hH hS hl => lv_istore_n C.1 C.2.1 hd hi hl hn (sto_cv E ls i (.int x)) (fun la hl => (k p e s m args below meth c H locs la C hz hH hS hl))
theorem r_istore {i : Nat} {x : Int32} {ls' : List (Nat × Value)} (hd : decode M.2.1 pc = .ok (.istore i, 2)) (hn : i < M.2.2.1) (h : sto ls i (.int x) = ls') (k : WW E M R Z kc ks T I J P (pc + 2) ls' st) : WW E M R Z kc ks T I J P pc ls (.int x :: st) := by
  subst h
  exact fun p e s m args below meth c H locs la C hz hH hS hl => lv_istore C.1 C.2.1 hd hl hn (sto_cv E ls i (.int x)) (fun la hl => (k p e s m args below meth c H locs la C hz hH hS hl))
theorem r_lload_n {j : Fin 4} {i : Nat} {x : Int64} (hd : decode M.2.1 pc = .ok (.lload_n j, 1)) (hi : (j : Nat) = i) (h : lkp ls i = some (.long x)) (k : WW E M R Z kc ks T I J P (pc + 1) ls (.long x :: st)) : WW E M R Z kc ks T I J P pc ls st := fun p e s m args below meth c H locs la C hz hH hS hl => lv_lload_n C.1 C.2.1 hd hi (lkp_la hl h) (k p e s m args below meth c H locs la C hz hH hS hl)
theorem r_lload {i : Nat} {x : Int64} (hd : decode M.2.1 pc = .ok (.lload i, 2)) (h : lkp ls i = some (.long x)) (k : WW E M R Z kc ks T I J P (pc + 2) ls (.long x :: st)) : WW E M R Z kc ks T I J P pc ls st := fun p e s m args below meth c H locs la C hz hH hS hl => lv_lload C.1 C.2.1 hd (lkp_la hl h) (k p e s m args below meth c H locs la C hz hH hS hl)
theorem r_lstore_n {j : Fin 4} {i : Nat} {x : Int64} {ls' : List (Nat × Value)} (hd : decode M.2.1 pc = .ok (.lstore_n j, 1)) (hi : (j : Nat) = i) (hn : i + 1 < M.2.2.1) (h : sto2 ls i (.long x) = ls') (k : WW E M R Z kc ks T I J P (pc + 1) ls' st) : WW E M R Z kc ks T I J P pc ls (.long x :: st) := by
  subst h
  exact fun p e s m args below meth c H locs la C hz hH hS hl => lv_lstore_n C.1 C.2.1 hd hi hl hn (sto2_cv E ls i (.long x)) (fun la hl => (k p e s m args below meth c H locs la C hz hH hS hl))
theorem r_lstore {i : Nat} {x : Int64} {ls' : List (Nat × Value)} (hd : decode M.2.1 pc = .ok (.lstore i, 2)) (hn : i + 1 < M.2.2.1) (h : sto2 ls i (.long x) = ls') (k : WW E M R Z kc ks T I J P (pc + 2) ls' st) : WW E M R Z kc ks T I J P pc ls (.long x :: st) := by
  subst h
  exact fun p e s m args below meth c H locs la C hz hH hS hl => lv_lstore C.1 C.2.1 hd hl hn (sto2_cv E ls i (.long x)) (fun la hl => (k p e s m args below meth c H locs la C hz hH hS hl))
theorem r_aload_n {j : Fin 4} {i : Nat} {x : Nat} (hd : decode M.2.1 pc = .ok (.aload_n j, 1)) (hi : (j : Nat) = i) (h : lkp ls i = some (.ref x)) (k : WW E M R Z kc ks T I J P (pc + 1) ls (.ref x :: st)) : WW E M R Z kc ks T I J P pc ls st := fun p e s m args below meth c H locs la C hz hH hS hl => lv_aload_n C.1 C.2.1 hd hi (lkp_la hl h) (k p e s m args below meth c H locs la C hz hH hS hl)
theorem r_aload {i : Nat} {x : Nat} (hd : decode M.2.1 pc = .ok (.aload i, 2)) (h : lkp ls i = some (.ref x)) (k : WW E M R Z kc ks T I J P (pc + 2) ls (.ref x :: st)) : WW E M R Z kc ks T I J P pc ls st := fun p e s m args below meth c H locs la C hz hH hS hl => lv_aload C.1 C.2.1 hd (lkp_la hl h) (k p e s m args below meth c H locs la C hz hH hS hl)
theorem r_astore_n {j : Fin 4} {i : Nat} {x : Nat} {ls' : List (Nat × Value)} (hd : decode M.2.1 pc = .ok (.astore_n j, 1)) (hi : (j : Nat) = i) (hn : i < M.2.2.1) (h : sto ls i (.ref x) = ls') (k : WW E M R Z kc ks T I J P (pc + 1) ls' st) : WW E M R Z kc ks T I J P pc ls (.ref x :: st) := by
  subst h
  exact fun p e s m args below meth c H locs la C hz hH hS hl => lv_astore_n C.1 C.2.1 hd hi hl hn (sto_cv E ls i (.ref x)) (fun la hl => (k p e s m args below meth c H locs la C hz hH hS hl))
theorem r_astore {i : Nat} {x : Nat} {ls' : List (Nat × Value)} (hd : decode M.2.1 pc = .ok (.astore i, 2)) (hn : i < M.2.2.1) (h : sto ls i (.ref x) = ls') (k : WW E M R Z kc ks T I J P (pc + 2) ls' st) : WW E M R Z kc ks T I J P pc ls (.ref x :: st) := by
  subst h
  exact fun p e s m args below meth c H locs la C hz hH hS hl => lv_astore C.1 C.2.1 hd hl hn (sto_cv E ls i (.ref x)) (fun la hl => (k p e s m args below meth c H locs la C hz hH hS hl))
theorem r_aload_nN {j : Fin 4} {i : Nat} (hd : decode M.2.1 pc = .ok (.aload_n j, 1)) (hi : (j : Nat) = i) (h : lkp ls i = some .null) (k : WW E M R Z kc ks T I J P (pc + 1) ls (.null :: st)) : WW E M R Z kc ks T I J P pc ls st := fun p e s m args below meth c H locs la C hz hH hS hl => lv_aload_nN C.1 C.2.1 hd hi (lkp_la hl h) (k p e s m args below meth c H locs la C hz hH hS hl)
theorem r_aloadN {i : Nat} (hd : decode M.2.1 pc = .ok (.aload i, 2)) (h : lkp ls i = some .null) (k : WW E M R Z kc ks T I J P (pc + 2) ls (.null :: st)) : WW E M R Z kc ks T I J P pc ls st := fun p e s m args below meth c H locs la C hz hH hS hl => lv_aloadN C.1 C.2.1 hd (lkp_la hl h) (k p e s m args below meth c H locs la C hz hH hS hl)
theorem r_astore_nN {j : Fin 4} {i : Nat} {ls' : List (Nat × Value)} (hd : decode M.2.1 pc = .ok (.astore_n j, 1)) (hi : (j : Nat) = i) (hn : i < M.2.2.1) (h : sto ls i .null = ls') (k : WW E M R Z kc ks T I J P (pc + 1) ls' st) : WW E M R Z kc ks T I J P pc ls (.null :: st) := by
  subst h
  exact fun p e s m args below meth c H locs la C hz hH hS hl => lv_astore_nN C.1 C.2.1 hd hi hl hn (sto_cv E ls i .null) (fun la hl => (k p e s m args below meth c H locs la C hz hH hS hl))
theorem r_astoreN {i : Nat} {ls' : List (Nat × Value)} (hd : decode M.2.1 pc = .ok (.astore i, 2)) (hn : i < M.2.2.1) (h : sto ls i .null = ls') (k : WW E M R Z kc ks T I J P (pc + 2) ls' st) : WW E M R Z kc ks T I J P pc ls (.null :: st) := by
  subst h
  exact fun p e s m args below meth c H locs la C hz hH hS hl => lv_astoreN C.1 C.2.1 hd hl hn (sto_cv E ls i .null) (fun la hl => (k p e s m args below meth c H locs la C hz hH hS hl))
theorem r_iinc {i : Nat} {n : Int} {x v : Int32} {ls' : List (Nat × Value)} (hd : decode M.2.1 pc = .ok (.iinc i n, 3)) (hx : lkp ls i = some (.int x)) (hv : x + Int32.ofInt n = v) (hn : i < M.2.2.1) (h : sto ls i (.int v) = ls') (k : WW E M R Z kc ks T I J P (pc + 3) ls' st) : WW E M R Z kc ks T I J P pc ls st := by
  subst h
  intro p e s m args below meth c H locs la C hz hH hS hl
  obtain ⟨q, hq⟩ : ∃ q : Nat, (ls.map (cv2 E))[q]? = some (i, Value.int x) := List.getElem?_of_mem (List.mem_map.mpr ⟨(i, Value.int x), lkp_mem hx, rfl⟩)
  exact lv_iinc C.1 C.2.1 hd hl hq hv hn (sto_cv E ls i (.int v)) (fun la hl => (k p e s m args below meth c H locs la C hz hH hS hl))
theorem r_iadd {x y : Int32} (hd : decode M.2.1 pc = .ok (.iadd, 1)) (k : WW E M R Z kc ks T I J P (pc + 1) ls (.int (x + y) :: st)) : WW E M R Z kc ks T I J P pc ls (.int y :: .int x :: st) := fun p e s m args below meth c H locs la C hz hH hS hl => lv_iadd C.1 C.2.1 hd (k p e s m args below meth c H locs la C hz hH hS hl)
theorem r_isub {x y : Int32} (hd : decode M.2.1 pc = .ok (.isub, 1)) (k : WW E M R Z kc ks T I J P (pc + 1) ls (.int (x - y) :: st)) : WW E M R Z kc ks T I J P pc ls (.int y :: .int x :: st) := fun p e s m args below meth c H locs la C hz hH hS hl => lv_isub C.1 C.2.1 hd (k p e s m args below meth c H locs la C hz hH hS hl)
theorem r_imul {x y : Int32} (hd : decode M.2.1 pc = .ok (.imul, 1)) (k : WW E M R Z kc ks T I J P (pc + 1) ls (.int (x * y) :: st)) : WW E M R Z kc ks T I J P pc ls (.int y :: .int x :: st) := fun p e s m args below meth c H locs la C hz hH hS hl => lv_imul C.1 C.2.1 hd (k p e s m args below meth c H locs la C hz hH hS hl)
theorem r_iand {x y : Int32} (hd : decode M.2.1 pc = .ok (.iand, 1)) (k : WW E M R Z kc ks T I J P (pc + 1) ls (.int (x &&& y) :: st)) : WW E M R Z kc ks T I J P pc ls (.int y :: .int x :: st) := fun p e s m args below meth c H locs la C hz hH hS hl => lv_iand C.1 C.2.1 hd (k p e s m args below meth c H locs la C hz hH hS hl)
theorem r_ior {x y : Int32} (hd : decode M.2.1 pc = .ok (.ior, 1)) (k : WW E M R Z kc ks T I J P (pc + 1) ls (.int (x ||| y) :: st)) : WW E M R Z kc ks T I J P pc ls (.int y :: .int x :: st) := fun p e s m args below meth c H locs la C hz hH hS hl => lv_ior C.1 C.2.1 hd (k p e s m args below meth c H locs la C hz hH hS hl)
theorem r_ixor {x y : Int32} (hd : decode M.2.1 pc = .ok (.ixor, 1)) (k : WW E M R Z kc ks T I J P (pc + 1) ls (.int (x ^^^ y) :: st)) : WW E M R Z kc ks T I J P pc ls (.int y :: .int x :: st) := fun p e s m args below meth c H locs la C hz hH hS hl => lv_ixor C.1 C.2.1 hd (k p e s m args below meth c H locs la C hz hH hS hl)
theorem r_ishl {x y : Int32} (hd : decode M.2.1 pc = .ok (.ishl, 1)) (k : WW E M R Z kc ks T I J P (pc + 1) ls (.int (x <<< (y &&& 31)) :: st)) : WW E M R Z kc ks T I J P pc ls (.int y :: .int x :: st) := fun p e s m args below meth c H locs la C hz hH hS hl => lv_ishl C.1 C.2.1 hd (k p e s m args below meth c H locs la C hz hH hS hl)
theorem r_ishr {x y : Int32} (hd : decode M.2.1 pc = .ok (.ishr, 1)) (k : WW E M R Z kc ks T I J P (pc + 1) ls (.int (x >>> (y &&& 31)) :: st)) : WW E M R Z kc ks T I J P pc ls (.int y :: .int x :: st) := fun p e s m args below meth c H locs la C hz hH hS hl => lv_ishr C.1 C.2.1 hd (k p e s m args below meth c H locs la C hz hH hS hl)
theorem r_idiv {x y : Int32} (hd : decode M.2.1 pc = .ok (.idiv, 1)) (hne : ¬ y = 0) (k : WW E M R Z kc ks T I J P (pc + 1) ls (.int (x / y) :: st)) : WW E M R Z kc ks T I J P pc ls (.int y :: .int x :: st) := fun p e s m args below meth c H locs la C hz hH hS hl => lv_idiv C.1 C.2.1 hd hne (k p e s m args below meth c H locs la C hz hH hS hl)
theorem r_irem {x y : Int32} (hd : decode M.2.1 pc = .ok (.irem, 1)) (hne : ¬ y = 0) (k : WW E M R Z kc ks T I J P (pc + 1) ls (.int (x - x / y * y) :: st)) : WW E M R Z kc ks T I J P pc ls (.int y :: .int x :: st) := fun p e s m args below meth c H locs la C hz hH hS hl => lv_irem C.1 C.2.1 hd hne (k p e s m args below meth c H locs la C hz hH hS hl)
theorem r_ineg {x : Int32} (hd : decode M.2.1 pc = .ok (.ineg, 1)) (k : WW E M R Z kc ks T I J P (pc + 1) ls (.int (-x) :: st)) : WW E M R Z kc ks T I J P pc ls (.int x :: st) := fun p e s m args below meth c H locs la C hz hH hS hl => lv_ineg C.1 C.2.1 hd (k p e s m args below meth c H locs la C hz hH hS hl)
theorem r_iushr {x y : Int32} (hd : decode M.2.1 pc = .ok (.iushr, 1)) (k : WW E M R Z kc ks T I J P (pc + 1) ls (.int ((x.toUInt32 >>> (y.toUInt32 &&& Int32.toUInt32 31)).toInt32) :: st)) : WW E M R Z kc ks T I J P pc ls (.int y :: .int x :: st) := fun p e s m args below meth c H locs la C hz hH hS hl => lv_iushr C.1 C.2.1 hd rfl (k p e s m args below meth c H locs la C hz hH hS hl)
theorem r_ladd {x y : Int64} (hd : decode M.2.1 pc = .ok (.ladd, 1)) (k : WW E M R Z kc ks T I J P (pc + 1) ls (.long (x + y) :: st)) : WW E M R Z kc ks T I J P pc ls (.long y :: .long x :: st) := fun p e s m args below meth c H locs la C hz hH hS hl => lv_ladd C.1 C.2.1 hd (k p e s m args below meth c H locs la C hz hH hS hl)
theorem r_lsub {x y : Int64} (hd : decode M.2.1 pc = .ok (.lsub, 1)) (k : WW E M R Z kc ks T I J P (pc + 1) ls (.long (x - y) :: st)) : WW E M R Z kc ks T I J P pc ls (.long y :: .long x :: st) := fun p e s m args below meth c H locs la C hz hH hS hl => lv_lsub C.1 C.2.1 hd (k p e s m args below meth c H locs la C hz hH hS hl)
theorem r_lmul {x y : Int64} (hd : decode M.2.1 pc = .ok (.lmul, 1)) (k : WW E M R Z kc ks T I J P (pc + 1) ls (.long (x * y) :: st)) : WW E M R Z kc ks T I J P pc ls (.long y :: .long x :: st) := fun p e s m args below meth c H locs la C hz hH hS hl => lv_lmul C.1 C.2.1 hd (k p e s m args below meth c H locs la C hz hH hS hl)
theorem r_land {x y : Int64} (hd : decode M.2.1 pc = .ok (.land, 1)) (k : WW E M R Z kc ks T I J P (pc + 1) ls (.long (x &&& y) :: st)) : WW E M R Z kc ks T I J P pc ls (.long y :: .long x :: st) := fun p e s m args below meth c H locs la C hz hH hS hl => lv_land C.1 C.2.1 hd (k p e s m args below meth c H locs la C hz hH hS hl)
theorem r_lor {x y : Int64} (hd : decode M.2.1 pc = .ok (.lor, 1)) (k : WW E M R Z kc ks T I J P (pc + 1) ls (.long (x ||| y) :: st)) : WW E M R Z kc ks T I J P pc ls (.long y :: .long x :: st) := fun p e s m args below meth c H locs la C hz hH hS hl => lv_lor C.1 C.2.1 hd (k p e s m args below meth c H locs la C hz hH hS hl)
theorem r_lneg {x : Int64} (hd : decode M.2.1 pc = .ok (.lneg, 1)) (k : WW E M R Z kc ks T I J P (pc + 1) ls (.long (-x) :: st)) : WW E M R Z kc ks T I J P pc ls (.long x :: st) := fun p e s m args below meth c H locs la C hz hH hS hl => lv_lneg C.1 C.2.1 hd (k p e s m args below meth c H locs la C hz hH hS hl)
theorem r_lshl {x : Int64} {y : Int32} (hd : decode M.2.1 pc = .ok (.lshl, 1)) (k : WW E M R Z kc ks T I J P (pc + 1) ls (.long (x <<< (y.toInt64 &&& 63)) :: st)) : WW E M R Z kc ks T I J P pc ls (.int y :: .long x :: st) := fun p e s m args below meth c H locs la C hz hH hS hl => lv_lshl C.1 C.2.1 hd rfl (k p e s m args below meth c H locs la C hz hH hS hl)
theorem r_lshr {x : Int64} {y : Int32} (hd : decode M.2.1 pc = .ok (.lshr, 1)) (k : WW E M R Z kc ks T I J P (pc + 1) ls (.long (x >>> (y.toInt64 &&& 63)) :: st)) : WW E M R Z kc ks T I J P pc ls (.int y :: .long x :: st) := fun p e s m args below meth c H locs la C hz hH hS hl => lv_lshr C.1 C.2.1 hd rfl (k p e s m args below meth c H locs la C hz hH hS hl)
theorem r_lcmp {x y : Int64} (hd : decode M.2.1 pc = .ok (.lcmp, 1)) (k : WW E M R Z kc ks T I J P (pc + 1) ls (.int (lg_cmp x y) :: st)) : WW E M R Z kc ks T I J P pc ls (.long y :: .long x :: st) := fun p e s m args below meth c H locs la C hz hH hS hl => W.lcmp C.1 C.2.1 hd (k p e s m args below meth c H locs la C hz hH hS hl)
theorem r_i2l {x : Int32} (hd : decode M.2.1 pc = .ok (.i2l, 1)) (k : WW E M R Z kc ks T I J P (pc + 1) ls (.long x.toInt64 :: st)) : WW E M R Z kc ks T I J P pc ls (.int x :: st) := fun p e s m args below meth c H locs la C hz hH hS hl => lv_i2l C.1 C.2.1 hd rfl (k p e s m args below meth c H locs la C hz hH hS hl)
theorem r_l2i {x : Int64} (hd : decode M.2.1 pc = .ok (.l2i, 1)) (k : WW E M R Z kc ks T I J P (pc + 1) ls (.int x.toInt32 :: st)) : WW E M R Z kc ks T I J P pc ls (.long x :: st) := fun p e s m args below meth c H locs la C hz hH hS hl => lv_l2i C.1 C.2.1 hd rfl (k p e s m args below meth c H locs la C hz hH hS hl)
theorem r_i2b {x : Int32} (hd : decode M.2.1 pc = .ok (.i2b, 1)) (k : WW E M R Z kc ks T I J P (pc + 1) ls (.int x.toInt8.toInt32 :: st)) : WW E M R Z kc ks T I J P pc ls (.int x :: st) := fun p e s m args below meth c H locs la C hz hH hS hl => lv_i2b C.1 C.2.1 hd rfl (k p e s m args below meth c H locs la C hz hH hS hl)
theorem r_i2s {x : Int32} (hd : decode M.2.1 pc = .ok (.i2s, 1)) (k : WW E M R Z kc ks T I J P (pc + 1) ls (.int x.toInt16.toInt32 :: st)) : WW E M R Z kc ks T I J P pc ls (.int x :: st) := fun p e s m args below meth c H locs la C hz hH hS hl => lv_i2s C.1 C.2.1 hd rfl (k p e s m args below meth c H locs la C hz hH hS hl)
theorem r_i2c {x : Int32} (hd : decode M.2.1 pc = .ok (.i2c, 1)) (k : WW E M R Z kc ks T I J P (pc + 1) ls (.int (x.toUInt32 % 65536).toInt32 :: st)) : WW E M R Z kc ks T I J P pc ls (.int x :: st) := fun p e s m args below meth c H locs la C hz hH hS hl => lv_i2c C.1 C.2.1 hd rfl (k p e s m args below meth c H locs la C hz hH hS hl)
theorem r_dup {v : Value} (hd : decode M.2.1 pc = .ok (.dup, 1)) (hc : v.category = 1) (k : WW E M R Z kc ks T I J P (pc + 1) ls (v :: v :: st)) : WW E M R Z kc ks T I J P pc ls (v :: st) := fun p e s m args below meth c H locs la C hz hH hS hl => lv_dup C.1 C.2.1 hd (by rw [cv_cat]; exact hc) (k p e s m args below meth c H locs la C hz hH hS hl)
theorem r_pop {v : Value} (hd : decode M.2.1 pc = .ok (.pop, 1)) (hc : v.category = 1) (k : WW E M R Z kc ks T I J P (pc + 1) ls st) : WW E M R Z kc ks T I J P pc ls (v :: st) := fun p e s m args below meth c H locs la C hz hH hS hl => lv_pop C.1 C.2.1 hd (by rw [cv_cat]; exact hc) (k p e s m args below meth c H locs la C hz hH hS hl)
theorem r_if_eq {x : Int32} {off : Int} {tgt : Nat} (hd : decode M.2.1 pc = .ok (.ifCond .eq off, 3)) (ht : (pc : Int) + off = (tgt : Int)) (kt : x = 0 → WW E M R Z kc ks T I J P tgt ls st) (kf : ¬ x = 0 → WW E M R Z kc ks T I J P (pc + 3) ls st) : WW E M R Z kc ks T I J P pc ls (.int x :: st) := fun p e s m args below meth c H locs la C hz hH hS hl => lv_if_eq C.1 C.2.1 hd ht (fun h => kt h p e s m args below meth c H locs la C hz hH hS hl) (fun h => kf h p e s m args below meth c H locs la C hz hH hS hl)
theorem r_if_ne {x : Int32} {off : Int} {tgt : Nat} (hd : decode M.2.1 pc = .ok (.ifCond .ne off, 3)) (ht : (pc : Int) + off = (tgt : Int)) (kt : ¬ x = 0 → WW E M R Z kc ks T I J P tgt ls st) (kf : x = 0 → WW E M R Z kc ks T I J P (pc + 3) ls st) : WW E M R Z kc ks T I J P pc ls (.int x :: st) := fun p e s m args below meth c H locs la C hz hH hS hl => lv_if_ne C.1 C.2.1 hd ht (fun h => kt h p e s m args below meth c H locs la C hz hH hS hl) (fun h => kf h p e s m args below meth c H locs la C hz hH hS hl)
theorem r_if_lt {x : Int32} {off : Int} {tgt : Nat} (hd : decode M.2.1 pc = .ok (.ifCond .lt off, 3)) (ht : (pc : Int) + off = (tgt : Int)) (kt : x < 0 → WW E M R Z kc ks T I J P tgt ls st) (kf : ¬ x < 0 → WW E M R Z kc ks T I J P (pc + 3) ls st) : WW E M R Z kc ks T I J P pc ls (.int x :: st) := fun p e s m args below meth c H locs la C hz hH hS hl => lv_if_lt C.1 C.2.1 hd ht (fun h => kt h p e s m args below meth c H locs la C hz hH hS hl) (fun h => kf h p e s m args below meth c H locs la C hz hH hS hl)
theorem r_if_ge {x : Int32} {off : Int} {tgt : Nat} (hd : decode M.2.1 pc = .ok (.ifCond .ge off, 3)) (ht : (pc : Int) + off = (tgt : Int)) (kt : 0 ≤ x → WW E M R Z kc ks T I J P tgt ls st) (kf : ¬ 0 ≤ x → WW E M R Z kc ks T I J P (pc + 3) ls st) : WW E M R Z kc ks T I J P pc ls (.int x :: st) := fun p e s m args below meth c H locs la C hz hH hS hl => lv_if_ge C.1 C.2.1 hd ht (fun h => kt h p e s m args below meth c H locs la C hz hH hS hl) (fun h => kf h p e s m args below meth c H locs la C hz hH hS hl)
theorem r_if_gt {x : Int32} {off : Int} {tgt : Nat} (hd : decode M.2.1 pc = .ok (.ifCond .gt off, 3)) (ht : (pc : Int) + off = (tgt : Int)) (kt : 0 < x → WW E M R Z kc ks T I J P tgt ls st) (kf : ¬ 0 < x → WW E M R Z kc ks T I J P (pc + 3) ls st) : WW E M R Z kc ks T I J P pc ls (.int x :: st) := fun p e s m args below meth c H locs la C hz hH hS hl => lv_if_gt C.1 C.2.1 hd ht (fun h => kt h p e s m args below meth c H locs la C hz hH hS hl) (fun h => kf h p e s m args below meth c H locs la C hz hH hS hl)
theorem r_if_le {x : Int32} {off : Int} {tgt : Nat} (hd : decode M.2.1 pc = .ok (.ifCond .le off, 3)) (ht : (pc : Int) + off = (tgt : Int)) (kt : x ≤ 0 → WW E M R Z kc ks T I J P tgt ls st) (kf : ¬ x ≤ 0 → WW E M R Z kc ks T I J P (pc + 3) ls st) : WW E M R Z kc ks T I J P pc ls (.int x :: st) := fun p e s m args below meth c H locs la C hz hH hS hl => lv_if_le C.1 C.2.1 hd ht (fun h => kt h p e s m args below meth c H locs la C hz hH hS hl) (fun h => kf h p e s m args below meth c H locs la C hz hH hS hl)
theorem r_icmp_eq {x y : Int32} {off : Int} {tgt : Nat} (hd : decode M.2.1 pc = .ok (.if_icmp .eq off, 3)) (ht : (pc : Int) + off = (tgt : Int)) (kt : x = y → WW E M R Z kc ks T I J P tgt ls st) (kf : ¬ x = y → WW E M R Z kc ks T I J P (pc + 3) ls st) : WW E M R Z kc ks T I J P pc ls (.int y :: .int x :: st) := fun p e s m args below meth c H locs la C hz hH hS hl => lv_icmp_eq C.1 C.2.1 hd ht (fun h => kt h p e s m args below meth c H locs la C hz hH hS hl) (fun h => kf h p e s m args below meth c H locs la C hz hH hS hl)
theorem r_icmp_ne {x y : Int32} {off : Int} {tgt : Nat} (hd : decode M.2.1 pc = .ok (.if_icmp .ne off, 3)) (ht : (pc : Int) + off = (tgt : Int)) (kt : ¬ x = y → WW E M R Z kc ks T I J P tgt ls st) (kf : x = y → WW E M R Z kc ks T I J P (pc + 3) ls st) : WW E M R Z kc ks T I J P pc ls (.int y :: .int x :: st) := fun p e s m args below meth c H locs la C hz hH hS hl => lv_icmp_ne C.1 C.2.1 hd ht (fun h => kt h p e s m args below meth c H locs la C hz hH hS hl) (fun h => kf h p e s m args below meth c H locs la C hz hH hS hl)
theorem r_icmp_lt {x y : Int32} {off : Int} {tgt : Nat} (hd : decode M.2.1 pc = .ok (.if_icmp .lt off, 3)) (ht : (pc : Int) + off = (tgt : Int)) (kt : x < y → WW E M R Z kc ks T I J P tgt ls st) (kf : ¬ x < y → WW E M R Z kc ks T I J P (pc + 3) ls st) : WW E M R Z kc ks T I J P pc ls (.int y :: .int x :: st) := fun p e s m args below meth c H locs la C hz hH hS hl => lv_icmp_lt C.1 C.2.1 hd ht (fun h => kt h p e s m args below meth c H locs la C hz hH hS hl) (fun h => kf h p e s m args below meth c H locs la C hz hH hS hl)
theorem r_icmp_ge {x y : Int32} {off : Int} {tgt : Nat} (hd : decode M.2.1 pc = .ok (.if_icmp .ge off, 3)) (ht : (pc : Int) + off = (tgt : Int)) (kt : y ≤ x → WW E M R Z kc ks T I J P tgt ls st) (kf : ¬ y ≤ x → WW E M R Z kc ks T I J P (pc + 3) ls st) : WW E M R Z kc ks T I J P pc ls (.int y :: .int x :: st) := fun p e s m args below meth c H locs la C hz hH hS hl => lv_icmp_ge C.1 C.2.1 hd ht (fun h => kt h p e s m args below meth c H locs la C hz hH hS hl) (fun h => kf h p e s m args below meth c H locs la C hz hH hS hl)
theorem r_icmp_gt {x y : Int32} {off : Int} {tgt : Nat} (hd : decode M.2.1 pc = .ok (.if_icmp .gt off, 3)) (ht : (pc : Int) + off = (tgt : Int)) (kt : y < x → WW E M R Z kc ks T I J P tgt ls st) (kf : ¬ y < x → WW E M R Z kc ks T I J P (pc + 3) ls st) : WW E M R Z kc ks T I J P pc ls (.int y :: .int x :: st) := fun p e s m args below meth c H locs la C hz hH hS hl => lv_icmp_gt C.1 C.2.1 hd ht (fun h => kt h p e s m args below meth c H locs la C hz hH hS hl) (fun h => kf h p e s m args below meth c H locs la C hz hH hS hl)
theorem r_icmp_le {x y : Int32} {off : Int} {tgt : Nat} (hd : decode M.2.1 pc = .ok (.if_icmp .le off, 3)) (ht : (pc : Int) + off = (tgt : Int)) (kt : x ≤ y → WW E M R Z kc ks T I J P tgt ls st) (kf : ¬ x ≤ y → WW E M R Z kc ks T I J P (pc + 3) ls st) : WW E M R Z kc ks T I J P pc ls (.int y :: .int x :: st) := fun p e s m args below meth c H locs la C hz hH hS hl => lv_icmp_le C.1 C.2.1 hd ht (fun h => kt h p e s m args below meth c H locs la C hz hH hS hl) (fun h => kf h p e s m args below meth c H locs la C hz hH hS hl)
theorem r_goto {off : Int} {tgt : Nat} (hd : decode M.2.1 pc = .ok (.goto off, 3)) (ht : (pc : Int) + off = (tgt : Int)) (k : WW E M R Z kc ks T I J P tgt ls st) : WW E M R Z kc ks T I J P pc ls st := fun p e s m args below meth c H locs la C hz hH hS hl => lv_goto C.1 C.2.1 hd ht (k p e s m args below meth c H locs la C hz hH hS hl)
theorem r_tableIn {dflt lo hi : Int} {offs : Array Int} {len : Nat} {x : Int32} {off : Int} {tgt : Nat} (hd : decode M.2.1 pc = .ok (.tableswitch dflt lo hi offs, len)) (h1 : ¬ x.toInt < lo) (h2 : ¬ hi < x.toInt) (ho : offs[(x.toInt - lo).toNat]? = some off) (ht : (pc : Int) + off = (tgt : Int)) (k : WW E M R Z kc ks T I J P tgt ls st) : WW E M R Z kc ks T I J P pc ls (.int x :: st) := fun p e s m args below meth c H locs la C hz hH hS hl => lv_tableIn C.1 C.2.1 hd h1 h2 ho ht (k p e s m args below meth c H locs la C hz hH hS hl)
theorem r_tableOut {dflt lo hi : Int} {offs : Array Int} {len : Nat} {x : Int32} {tgt : Nat} (hd : decode M.2.1 pc = .ok (.tableswitch dflt lo hi offs, len)) (h1 : x.toInt < lo ∨ hi < x.toInt) (ht : (pc : Int) + dflt = (tgt : Int)) (k : WW E M R Z kc ks T I J P tgt ls st) : WW E M R Z kc ks T I J P pc ls (.int x :: st) := fun p e s m args below meth c H locs la C hz hH hS hl => lv_tableOut C.1 C.2.1 hd h1 ht (k p e s m args below meth c H locs la C hz hH hS hl)
theorem r_lookup {dflt : Int} {ps : Array (Int × Int)} {len : Nat} {x : Int32} {off : Int} {tgt : Nat} (hd : decode M.2.1 pc = .ok (.lookupswitch dflt ps, len)) (hp : (ps.toList.zip (ps.toList.drop 1)).all (fun (a, next) => a.1 < next.1) = true) (ho : Op.lookupswitch.offset ps.toList dflt x.toInt = off) (ht : (pc : Int) + off = (tgt : Int)) (k : WW E M R Z kc ks T I J P tgt ls st) : WW E M R Z kc ks T I J P pc ls (.int x :: st) := fun p e s m args below meth c H locs la C hz hH hS hl => lv_lookup C.1 C.2.1 hd hp ho ht (k p e s m args below meth c H locs la C hz hH hS hl)
theorem r_ifnull {x : Nat} {off : Int} (hd : decode M.2.1 pc = .ok (.ifnull off, 3)) (k : WW E M R Z kc ks T I J P (pc + 3) ls st) : WW E M R Z kc ks T I J P pc ls (.ref x :: st) := fun p e s m args below meth c H locs la C hz hH hS hl => lv_ifnull C.1 C.2.1 hd (k p e s m args below meth c H locs la C hz hH hS hl)
theorem r_ifnullN {off : Int} {tgt : Nat} (hd : decode M.2.1 pc = .ok (.ifnull off, 3)) (ht : (pc : Int) + off = (tgt : Int)) (k : WW E M R Z kc ks T I J P tgt ls st) : WW E M R Z kc ks T I J P pc ls (.null :: st) := fun p e s m args below meth c H locs la C hz hH hS hl => lv_ifnullN C.1 C.2.1 hd ht (k p e s m args below meth c H locs la C hz hH hS hl)
theorem r_ifnonnull {x : Nat} {off : Int} {tgt : Nat} (hd : decode M.2.1 pc = .ok (.ifnonnull off, 3)) (ht : (pc : Int) + off = (tgt : Int)) (k : WW E M R Z kc ks T I J P tgt ls st) : WW E M R Z kc ks T I J P pc ls (.ref x :: st) := fun p e s m args below meth c H locs la C hz hH hS hl => lv_ifnonnull C.1 C.2.1 hd ht (k p e s m args below meth c H locs la C hz hH hS hl)
theorem r_ifnonnullN {off : Int} (hd : decode M.2.1 pc = .ok (.ifnonnull off, 3)) (k : WW E M R Z kc ks T I J P (pc + 3) ls st) : WW E M R Z kc ks T I J P pc ls (.null :: st) := fun p e s m args below meth c H locs la C hz hH hS hl => lv_ifnonnullN C.1 C.2.1 hd (k p e s m args below meth c H locs la C hz hH hS hl)
theorem r_null (hd : decode M.2.1 pc = .ok (.aconst_null, 1)) (k : WW E M R Z kc ks T I J P (pc + 1) ls (.null :: st)) : WW E M R Z kc ks T I J P pc ls st := fun p e s m args below meth c H locs la C hz hH hS hl => lv_null C.1 C.2.1 hd (k p e s m args below meth c H locs la C hz hH hS hl)
theorem r_ldc {idx : Nat} {v : Int32} (hd : decode M.2.1 pc = .ok (.ldc idx, 2)) (hw : Cond.constant M.1.cls idx v ∈ tbg) (k : WW E M R Z kc ks T I J P (pc + 2) ls (.int v :: st)) : WW E M R Z kc ks T I J P pc ls st := fun p e s m args below meth c H locs la C hz hH hS hl => lv_ldc C.1 C.2.1 C.2.2.2.2.2.2.1 (C.2.2.2.2.2.2.2.1 _ hw) hd (k p e s m args below meth c H locs la C hz hH hS hl)
theorem r_ldcw {idx : Nat} {v : Int32} (hd : decode M.2.1 pc = .ok (.ldc_w idx, 3)) (hw : Cond.constant M.1.cls idx v ∈ tbg) (k : WW E M R Z kc ks T I J P (pc + 3) ls (.int v :: st)) : WW E M R Z kc ks T I J P pc ls st := fun p e s m args below meth c H locs la C hz hH hS hl => lv_ldcw C.1 C.2.1 C.2.2.2.2.2.2.1 (C.2.2.2.2.2.2.2.1 _ hw) hd (k p e s m args below meth c H locs la C hz hH hS hl)
theorem r_ldc2 {idx : Nat} {v : Int64} (hd : decode M.2.1 pc = .ok (.ldc2_w idx, 3)) (hw : Cond.constantLong M.1.cls idx v ∈ tbg) (k : WW E M R Z kc ks T I J P (pc + 3) ls (.long v :: st)) : WW E M R Z kc ks T I J P pc ls st := fun p e s m args below meth c H locs la C hz hH hS hl => lv_ldc2 C.1 C.2.1 C.2.2.2.2.2.2.1 (C.2.2.2.2.2.2.2.1 _ hw) hd (k p e s m args below meth c H locs la C hz hH hS hl)
theorem r_sub {ls' : List (Nat × Value)} (is : List Nat) (h : lv_pick ls is = ls') (k : WW E M R Z kc ks T I J P pc ls' st) : WW E M R Z kc ks T I J P pc ls st := by
  subst h
  intro p e s m args below meth c H locs la C hz hH hS hl
  refine k p e s m args below meth c H locs la C hz hH hS (lv_sub hl is ?_)
  unfold lv_pick
  rw [List.map_filterMap]
  simp only [List.getElem?_map]
theorem r_topi {x : Int32} (k : ∀ y : Int32, y = x → WW E M R Z kc ks T I J P pc ls (.int y :: st)) : WW E M R Z kc ks T I J P pc ls (.int x :: st) := k x rfl
theorem r_topl {x : Int64} (k : ∀ y : Int64, y = x → WW E M R Z kc ks T I J P pc ls (.long y :: st)) : WW E M R Z kc ks T I J P pc ls (.long x :: st) := k x rfl
end RULES
end
section
/-! RETURNS, FIELDS, ROWS -/
section HEAP
variable {E : GE} {M : MD} {R : Room} {Z : State → Array Value → List Frame → State → Prop} {kc ks bc bs : Nat} {T T' : TM} {I I' : IM} {J J' : JM} {P P' : PM} {pc : Nat} {ls : List (Nat × Value)} {st : List Value}
theorem r_ireturn {x : Int32} {ty : FieldType} (hr : M.2.2.2 = some ty) (hn : narrow ty (.int x) = .int x) (hd : decode M.2.1 pc = .ok (.ireturn, 1)) (hc : kc ≤ bc) (hs : ks ≤ bs) : WW E M R (ZM E bc bs (some (.int x)) T I J P) kc ks T I J P pc ls [.int x] := by
  intro p e s m args below meth c H locs la C hz hH hS hl
  refine W.widen (k := bc) (n := bs) hc hs ?_
  have hlocks : meth.locks = false := C.2.2.2.2.1
  exact W.zret (v := x) C.1 C.2.1 (C.2.2.2.1.trans hr) hn (fun t ht _ => ⟨rfl, by rw [ht]; exact hH, hS.F ht⟩) hS.2.2 hd
theorem r_lreturn {x : Int64} (hr : M.2.2.2 = some .long) (hd : decode M.2.1 pc = .ok (.lreturn, 1)) (hc : kc ≤ bc) (hs : ks ≤ bs) : WW E M R (ZM E bc bs (some (.long x)) T I J P) kc ks T I J P pc ls [.long x] := by
  intro p e s m args below meth c H locs la C hz hH hS hl
  refine W.widen (k := bc) (n := bs) hc hs ?_
  have hlocks : meth.locks = false := C.2.2.2.2.1
  exact W.lret (v := x) C.1 C.2.1 (C.2.2.2.1.trans hr) (fun t ht _ => ⟨rfl, by rw [ht]; exact hH, hS.F ht⟩) hS.2.2 hd
theorem r_return (hr : M.2.2.2 = none) (hd : decode M.2.1 pc = .ok (.return_, 1)) (hc : kc ≤ bc) (hs : ks ≤ bs) : WW E M R (ZM E bc bs none T I J P) kc ks T I J P pc ls [] := by
  intro p e s m args below meth c H locs la C hz hH hS hl
  refine W.widen (k := bc) (n := bs) hc hs ?_
  have hlocks : meth.locks = false := C.2.2.2.2.1
  exact W.vret C.1 C.2.1 (C.2.2.2.1.trans hr) (fun t ht _ => ⟨rfl, by rw [ht]; exact hH, hS.F ht⟩) hS.2.2 hd
theorem r_areturn {x : Nat} {C0 : String} (hr : M.2.2.2 = some (.object C0)) (hd : decode M.2.1 pc = .ok (.areturn, 1)) (hc : kc ≤ bc) (hs : ks ≤ bs) : WW E M R (ZM E bc bs (some (.ref x)) T I J P) kc ks T I J P pc ls [.ref x] := by
  intro p e s m args below meth c H locs la C hz hH hS hl
  refine W.widen (k := bc) (n := bs) hc hs ?_
  have hlocks : meth.locks = false := C.2.2.2.2.1
  exact W.aret C.1 C.2.1 (C.2.2.2.1.trans hr) (Or.inl ⟨_, rfl⟩) (Or.inr ⟨_, rfl⟩) (fun t ht _ => ⟨rfl, by rw [ht]; exact hH, hS.F ht⟩) hS.2.2 hd
theorem r_areturnN {C0 : String} (hr : M.2.2.2 = some (.object C0)) (hd : decode M.2.1 pc = .ok (.areturn, 1)) (hc : kc ≤ bc) (hs : ks ≤ bs) : WW E M R (ZM E bc bs (some .null) T I J P) kc ks T I J P pc ls [.null] := by
  intro p e s m args below meth c H locs la C hz hH hS hl
  refine W.widen (k := bc) (n := bs) hc hs ?_
  have hlocks : meth.locks = false := C.2.2.2.2.1
  exact W.aret C.1 C.2.1 (C.2.2.2.1.trans hr) (Or.inl ⟨_, rfl⟩) (Or.inl rfl) (fun t ht _ => ⟨rfl, by rw [ht]; exact hH, hS.F ht⟩) hS.2.2 hd
/-- a field by its place in a class file: own class, entry, kind, field, 0 int 1 long 2 reference, its type; 'w': it isn't final -/
def LK (own : String) (idx ci k t : Nat) (ty : FieldType) (w : Bool) : Prop :=
  ci < 13 ∧ (lay ci)[k]? = some t ∧ ∃ (r : vw_C) (ref : String) (ty0 : Nat → FieldType), vwCl[ci]? = some r ∧ (∀ w ∈ u_ws r.1 r.2.1 r.2.2, w ∈ tbg) ∧ k < r.2.2 ∧ Cond.fieldLink own idx ref (r.2.1 k).2.1 (r.2.1 k).2.2.1 ∈ tbg ∧ (ref = (r.2.1 k).1 ∨ Cond.sameField ref (r.2.1 k).1 (r.2.1 k).2.1 (r.2.1 k).2.2.1 ∈ tbg) ∧ (∀ j, j < r.2.2 → parseFieldDescriptor (r.2.1 j).2.2.1 = some (ty0 j)) ∧ (∀ a, a < r.2.2 → ∀ b, b < r.2.2 → a ≠ b → (r.2.1 a).2.1 ≠ (r.2.1 b).2.1) ∧ parseFieldDescriptor (r.2.1 k).2.2.1 = some ty ∧ (r.2.1 k).2.2.2 = !w ∧ (w = false → (r.2.1 k).1 = own)
theorem r_get {idx ci k t a : Nat} {ty : FieldType} {w : Bool} (L : LK M.1.cls idx ci k t ty w) (hI : IS T a ci) (hd : decode M.2.1 pc = .ok (.getfield idx, 3))
    (kk : ∀ (p : Program) (e : Env) (s : State) (m : MethodId) (args : Array Value) (below : List Frame) (meth : Method) (c : Code) (H : Heap) (locs : List Loc) (la : Array Slot), CT E M p s m args meth c → s.heap.size + kc = E.2.1 + T.1 → HP E T I J P H → va_S (AA E) s.heap H locs → lv_has la M.2.2.1 (ls.map (cv2 E)) → W p E.1 e R s m args below meth c H locs kc ks (Z s args below) (F0 m (pc + 3) la (fv E I J P a k t :: st.map (cv E)))) : WW E M R Z kc ks T I J P pc ls (.ref a :: st) := by
  intro p e s m args below meth c H locs la C hz hH hS hl
  obtain ⟨hc, hlay, ⟨rC, rT, rN⟩, ref, ty0, h1, h2, h3, h4, h5, h6, h7, h8, h9, h10⟩ := L
  have hts := C.2.2.2.2.2.2.2.1
  have hK := C.2.2.2.2.2.2.2.2.2.1
  refine va_get (ci := ci) (C := rC) (T := rT) (N := rN) (v := fv E I J P a k t) C.1 C.2.1 hts h2 C.2.2.2.2.2.2.1 hK hH (a - 64) ((wl_at hI).trans (by rw [cell_obj hI.2.2 hc])) h1 k h3 (hts _ h4) ?_ (flds_get hlay) hd (kk p e s m args below meth c H locs la C hz hH hS hl)
  rcases h5 with h5 | h5
  · subst h5
    exact fun x hx => hx
  · exact fun x hx => u_same (hts _ h5) x hx
theorem r_getI {idx ci k a : Nat} {ty : FieldType} {w : Bool} (L : LK M.1.cls idx ci k 0 ty w) (hI : IS T a ci) (hd : decode M.2.1 pc = .ok (.getfield idx, 3)) (kk : WW E M R Z kc ks T I J P (pc + 3) ls (.int (I a k) :: st)) : WW E M R Z kc ks T I J P pc ls (.ref a :: st) := r_get L hI hd kk
theorem r_getJ {idx ci k a : Nat} {ty : FieldType} {w : Bool} (L : LK M.1.cls idx ci k 1 ty w) (hI : IS T a ci) (hd : decode M.2.1 pc = .ok (.getfield idx, 3)) (kk : WW E M R Z kc ks T I J P (pc + 3) ls (.long (J a k) :: st)) : WW E M R Z kc ks T I J P pc ls (.ref a :: st) := r_get L hI hd kk
theorem r_getP {idx ci k a b : Nat} {ty : FieldType} {w : Bool} (L : LK M.1.cls idx ci k 2 ty w) (hI : IS T a ci) (hP : P a k = some b) (hd : decode M.2.1 pc = .ok (.getfield idx, 3)) (kk : WW E M R Z kc ks T I J P (pc + 3) ls (.ref b :: st)) : WW E M R Z kc ks T I J P pc ls (.ref a :: st) :=
  r_get L hI hd (fun p e s m args below meth c H locs la C hz hH hS hl => by
    have h := kk p e s m args below meth c H locs la C hz hH hS hl
    have e1 : fv E I J P a k 2 = .ref (q_ E b) := by simp [fv, hP, va_rf]
    rw [e1]
    exact h)
theorem r_getN {idx ci k a : Nat} {ty : FieldType} {w : Bool} (L : LK M.1.cls idx ci k 2 ty w) (hI : IS T a ci) (hP : P a k = none) (hd : decode M.2.1 pc = .ok (.getfield idx, 3)) (kk : WW E M R Z kc ks T I J P (pc + 3) ls (.null :: st)) : WW E M R Z kc ks T I J P pc ls (.ref a :: st) :=
  r_get L hI hd (fun p e s m args below meth c H locs la C hz hH hS hl => by
    have h := kk p e s m args below meth c H locs la C hz hH hS hl
    have e1 : fv E I J P a k 2 = .null := by simp [fv, hP, va_rf]
    rw [e1]
    exact h)
theorem r_put {idx ci k t a : Nat} {ty : FieldType} {w : Bool} {v : Value} (L : LK M.1.cls idx ci k t ty w) (hw : w = true ∨ M.1.name = "<init>") (hI : IS T a ci) (hv : fv E I' J' P' a k t = v) (hn : narrow ty v = v) (hf : fits ty v = true) (ho : ∀ j, j ≠ k → ∀ t, fv E I' J' P' a j t = fv E I J P a j t) (hoI : ∀ b, b ≠ a → I' b = I b) (hoJ : ∀ b, b ≠ a → J' b = J b) (hoP : ∀ b, b ≠ a → P' b = P b) (hd : decode M.2.1 pc = .ok (.putfield idx, 3))
    (kk : WW E M R Z kc ks T I' J' P' (pc + 3) ls st) {p : Program} {e : Env} {s : State} {m : MethodId} {args : Array Value} {below : List Frame} {meth : Method} {c : Code} {H : Heap} {locs : List Loc} {la : Array Slot} (C : CT E M p s m args meth c) (hz : s.heap.size + kc = E.2.1 + T.1) (hH : HP E T I J P H) (hS : va_S (AA E) s.heap H locs) (hl : lv_has la M.2.2.1 (ls.map (cv2 E))) :
    W p E.1 e R s m args below meth c H locs kc ks (Z s args below) (F0 m pc la (v :: .ref (q_ E a) :: st.map (cv E))) := by
  obtain ⟨hc, hlay, ⟨rC, rT, rN⟩, ref, ty0, h1, h2, h3, h4, h5, h6, h7, h8, h9, h10⟩ := L
  have hts := C.2.2.2.2.2.2.2.1
  have hK := C.2.2.2.2.2.2.2.2.2.1
  have hsame : ∀ x, s.fieldFound? (rT k).1 (rT k).2.1 (rT k).2.2.1 = some x → s.fieldFound? ref (rT k).2.1 (rT k).2.2.1 = some x := by
    rcases h5 with h5 | h5
    · subst h5
      exact fun x hx => hx
    · exact fun x hx => u_same (hts _ h5) x hx
  have hkk : ∀ (H1 : Heap) (locs1 : List Loc), va_P E.2.2.2.1 vwCl ((wl E T I J P).set (a - 64) (q_ E a, .inr (ci, (flds E I J P a ci).set k v))) H1 → va_D (AA E) ((wl E T I J P).set (a - 64) (q_ E a, .inr (ci, (flds E I J P a ci).set k v))) → va_S (AA E) s.heap H1 locs1 → W p E.1 e R s m args below meth c H1 locs1 kc ks (Z s args below) (F0 m (pc + 3) la (st.map (cv E))) := by
    intro H1 locs1 hP1 _ hS1
    refine kk p e s m args below meth c H1 locs1 la C hz ?_ hS1 hl
    unfold HP
    rw [← wl_set (I' := I') (J' := J') (P' := P') hI ?_ (fun b hb => cell_cong (hoI b hb) (hoJ b hb) (hoP b hb))]
    · exact hP1
    · rw [cell_obj hI.2.2 hc, ← flds_set hlay ho, hv]
  have he := (wl_at (E := E) (I := I) (J := J) (P := P) hI).trans (by rw [cell_obj hI.2.2 hc])
  have hlen : k < (flds E I J P a ci).length := by rw [flds_len]; exact (List.getElem?_eq_some_iff.mp hlay).1
  cases w with
  | true => exact va_put (ci := ci) (C := rC) (T := rT) (N := rN) C.1 C.2.1 hts h2 ty0 h6 h7 C.2.2.2.2.2.2.1 hK hH wl_D hS (a - 64) he h1 k h3 (hts _ h4) hsame h9 h8 hn hf hlen hd hkk
  | false => exact va_putF (ci := ci) (C := rC) (T := rT) (N := rN) C.1 C.2.1 hts h2 ty0 h6 h7 C.2.2.2.2.2.2.1 hK hH wl_D hS (a - 64) he h1 k h3 (hts _ h4) hsame h9 (C.2.2.2.2.2.1.trans (hw.resolve_left (by decide))) (h10 rfl) h8 hn hf hlen hd hkk
theorem r_putI {idx ci k a : Nat} {ty : FieldType} {w : Bool} {x : Int32} (L : LK M.1.cls idx ci k 0 ty w) (hw : w = true ∨ M.1.name = "<init>") (hI : IS T a ci) (hn : narrow ty (.int x) = .int x) (hf : fits ty (.int x) = true) (hd : decode M.2.1 pc = .ok (.putfield idx, 3)) (kk : WW E M R Z kc ks T (up2 I a k x) J P (pc + 3) ls st) : WW E M R Z kc ks T I J P pc ls (.int x :: .ref a :: st) :=
  fun p e s m args below meth c H locs la C hz hH hS hl => r_put (v := .int x) (I' := up2 I a k x) (J' := J) (P' := P) L hw hI (by simp [fv, up2]) hn hf (fun j hj t => by
    match t with
    | 0 => simp [fv, up2, hj]
    | 1 => rfl
    | n + 2 => rfl) (fun b hb => up2_oth I k x hb) (fun _ _ => rfl) (fun _ _ => rfl) hd kk C hz hH hS hl
theorem r_putJ {idx ci k a : Nat} {w : Bool} {x : Int64} (L : LK M.1.cls idx ci k 1 .long w) (hw : w = true ∨ M.1.name = "<init>") (hI : IS T a ci) (hd : decode M.2.1 pc = .ok (.putfield idx, 3)) (kk : WW E M R Z kc ks T I (up2 J a k x) P (pc + 3) ls st) : WW E M R Z kc ks T I J P pc ls (.long x :: .ref a :: st) :=
  fun p e s m args below meth c H locs la C hz hH hS hl => r_put (v := .long x) (I' := I) (J' := up2 J a k x) (P' := P) L hw hI (by simp [fv, up2]) rfl rfl (fun j hj t => by
    match t with
    | 0 => rfl
    | 1 => simp [fv, up2, hj]
    | n + 2 => rfl) (fun _ _ => rfl) (fun b hb => up2_oth J k x hb) (fun _ _ => rfl) hd kk C hz hH hS hl
theorem r_putP {idx ci k a b : Nat} {ty : FieldType} {w : Bool} (L : LK M.1.cls idx ci k 2 ty w) (hw : w = true ∨ M.1.name = "<init>") (hI : IS T a ci) (hn : ∀ n, narrow ty (.ref n) = .ref n) (hf : ∀ n, fits ty (.ref n) = true) (hd : decode M.2.1 pc = .ok (.putfield idx, 3)) (kk : WW E M R Z kc ks T I J (up2 P a k (some b)) (pc + 3) ls st) : WW E M R Z kc ks T I J P pc ls (.ref b :: .ref a :: st) :=
  fun p e s m args below meth c H locs la C hz hH hS hl => r_put (v := .ref (q_ E b)) (I' := I) (J' := J) (P' := up2 P a k (some b)) L hw hI (by simp [fv, up2, va_rf]) (hn _) (hf _) (fun j hj t => by
    match t with
    | 0 => rfl
    | 1 => rfl
    | n + 2 => simp [fv, up2, hj]) (fun _ _ => rfl) (fun _ _ => rfl) (fun b hb => up2_oth P k _ hb) hd kk C hz hH hS hl
theorem r_putN {idx ci k a : Nat} {ty : FieldType} {w : Bool} (L : LK M.1.cls idx ci k 2 ty w) (hw : w = true ∨ M.1.name = "<init>") (hI : IS T a ci) (hn : narrow ty .null = .null) (hf : fits ty .null = true) (hd : decode M.2.1 pc = .ok (.putfield idx, 3)) (kk : WW E M R Z kc ks T I J (up2 P a k none) (pc + 3) ls st) : WW E M R Z kc ks T I J P pc ls (.null :: .ref a :: st) :=
  fun p e s m args below meth c H locs la C hz hH hS hl => r_put (v := .null) (I' := I) (J' := J) (P' := up2 P a k none) L hw hI (by simp [fv, up2, va_rf]) hn hf (fun j hj t => by
    match t with
    | 0 => rfl
    | 1 => rfl
    | n + 2 => simp [fv, up2, hj]) (fun _ _ => rfl) (fun _ _ => rfl) (fun b hb => up2_oth P k _ hb) hd kk C hz hH hS hl
/-- rows -/
theorem cell_I {a : Nat} (h : T.2.1 a = 13) : cell E T I J P a = .inl (E.2.2.2.2.1 13, T.2.2 a, .inl (I a)) := by simp [cell, h]
theorem cell_J {a : Nat} (h : T.2.1 a = 14) : cell E T I J P a = .inl (E.2.2.2.2.1 14, T.2.2 a, .inr (.inl (J a))) := by simp [cell, h]
theorem cell_B {a : Nat} (h : T.2.1 a = 15) : cell E T I J P a = .inl (E.2.2.2.2.1 15, T.2.2 a, .inl (I a)) := by simp [cell, h]
theorem cell_F {a : Nat} (h : T.2.1 a = 16) : cell E T I J P a = .inl (E.2.2.2.2.1 16, T.2.2 a, .inr (.inr (.inr (.inr (fun j => (P a j).map (q_ E)))))) := by simp [cell, h]
theorem cell_S {a : Nat} (h : T.2.1 a = 17) : cell E T I J P a = .inl (E.2.2.2.2.1 17, T.2.2 a, .inr (.inr (.inr (.inr (fun j => (P a j).map (q_ E)))))) := by simp [cell, h]
def inb (i : Int32) (n : Nat) : Bool := decide (0 ≤ i.toInt) && decide (i.toInt < n)
theorem inb_in {i : Int32} {n : Nat} (h : inb i n = true) : vp_in i n := by
  simp only [inb, Bool.and_eq_true, decide_eq_true_eq] at h
  exact vp_in_iff.mpr h
theorem r_iald {a : Nat} {i : Int32} (hI : IS T a 13) (hi : inb i (T.2.2 a) = true) (hd : decode M.2.1 pc = .ok (.iaload, 1)) (kk : WW E M R Z kc ks T I J P (pc + 1) ls (.int (I a i.toNatClampNeg) :: st)) : WW E M R Z kc ks T I J P pc ls (.int i :: .ref a :: st) :=
  fun p e s m args below meth c H locs la C hz hH hS hl => va_iald C.1 C.2.1 C.2.2.2.2.2.2.2.2.2.1 hH (a - 64) 0 ((wl_at hI).trans (by rw [cell_I hI.2.2])) rfl (inb_in hi) hd (kk p e s m args below meth c H locs la C hz hH hS hl)
theorem r_bald {a : Nat} {i : Int32} (hI : IS T a 15) (hi : inb i (T.2.2 a) = true) (hd : decode M.2.1 pc = .ok (.baload, 1)) (kk : WW E M R Z kc ks T I J P (pc + 1) ls (.int (I a i.toNatClampNeg) :: st)) : WW E M R Z kc ks T I J P pc ls (.int i :: .ref a :: st) :=
  fun p e s m args below meth c H locs la C hz hH hS hl => va_bald C.1 C.2.1 C.2.2.2.2.2.2.2.2.2.1 hH (a - 64) 2 ((wl_at hI).trans (by rw [cell_B hI.2.2])) rfl (inb_in hi) hd (kk p e s m args below meth c H locs la C hz hH hS hl)
theorem r_lald {a : Nat} {i : Int32} (hI : IS T a 14) (hi : inb i (T.2.2 a) = true) (hd : decode M.2.1 pc = .ok (.laload, 1)) (kk : WW E M R Z kc ks T I J P (pc + 1) ls (.long (J a i.toNatClampNeg) :: st)) : WW E M R Z kc ks T I J P pc ls (.int i :: .ref a :: st) :=
  fun p e s m args below meth c H locs la C hz hH hS hl => va_lald C.1 C.2.1 C.2.2.2.2.2.2.2.2.2.1 hH (a - 64) 1 ((wl_at hI).trans (by rw [cell_J hI.2.2])) rfl (inb_in hi) hd (kk p e s m args below meth c H locs la C hz hH hS hl)
theorem r_iast {a : Nat} {i x : Int32} (hI : IS T a 13) (hi : inb i (T.2.2 a) = true) (hd : decode M.2.1 pc = .ok (.iastore, 1)) (kk : WW E M R Z kc ks T (up2 I a i.toNatClampNeg x) J P (pc + 1) ls st) : WW E M R Z kc ks T I J P pc ls (.int x :: .int i :: .ref a :: st) :=
  fun p e s m args below meth c H locs la C hz hH hS hl => va_iast C.1 C.2.1 C.2.2.2.2.2.2.2.2.2.1 hH wl_D hS (a - 64) 0 ((wl_at hI).trans (by rw [cell_I hI.2.2])) rfl (inb_in hi) hd (fun H1 locs1 hP1 _ hS1 => kk p e s m args below meth c H1 locs1 la C hz (by
    unfold HP
    rw [← wl_set hI (cell_I hI.2.2) (fun b hb => cell_cong (up2_oth I _ _ hb) rfl rfl), up2_row]
    exact hP1) hS1 hl)
theorem r_bast {a : Nat} {i x : Int32} (hI : IS T a 15) (hi : inb i (T.2.2 a) = true) (hd : decode M.2.1 pc = .ok (.bastore, 1)) (kk : WW E M R Z kc ks T (up2 I a i.toNatClampNeg (vp_nar .byte x)) J P (pc + 1) ls st) : WW E M R Z kc ks T I J P pc ls (.int x :: .int i :: .ref a :: st) :=
  fun p e s m args below meth c H locs la C hz hH hS hl => va_bast C.1 C.2.1 C.2.2.2.2.2.2.2.2.2.1 hH wl_D hS (a - 64) 2 ((wl_at hI).trans (by rw [cell_B hI.2.2])) rfl (inb_in hi) hd (fun H1 locs1 hP1 _ hS1 => kk p e s m args below meth c H1 locs1 la C hz (by
    unfold HP
    rw [← wl_set hI (cell_B hI.2.2) (fun b hb => cell_cong (up2_oth I _ _ hb) rfl rfl), up2_row]
    exact hP1) hS1 hl)
theorem r_last {a : Nat} {i : Int32} {x : Int64} (hI : IS T a 14) (hi : inb i (T.2.2 a) = true) (hd : decode M.2.1 pc = .ok (.lastore, 1)) (kk : WW E M R Z kc ks T I (up2 J a i.toNatClampNeg x) P (pc + 1) ls st) : WW E M R Z kc ks T I J P pc ls (.long x :: .int i :: .ref a :: st) :=
  fun p e s m args below meth c H locs la C hz hH hS hl => va_last C.1 C.2.1 C.2.2.2.2.2.2.2.2.2.1 hH wl_D hS (a - 64) 1 ((wl_at hI).trans (by rw [cell_J hI.2.2])) rfl (inb_in hi) hd (fun H1 locs1 hP1 _ hS1 => kk p e s m args below meth c H1 locs1 la C hz (by
    unfold HP
    rw [← wl_set hI (cell_J hI.2.2) (fun b hb => cell_cong rfl (up2_oth J _ _ hb) rfl), up2_row]
    exact hP1) hS1 hl)
theorem r_alen {a k : Nat} {v : Int32} (hI : IS T a k) (hk : k = 13 ∨ k = 14 ∨ k = 15 ∨ k = 17) (hv : Int32.ofNat (T.2.2 a) = v) (hd : decode M.2.1 pc = .ok (.arraylength, 1)) (kk : WW E M R Z kc ks T I J P (pc + 1) ls (.int v :: st)) : WW E M R Z kc ks T I J P pc ls (.ref a :: st) := by
  intro p e s m args below meth c H locs la C hz hH hS hl
  have K := kk p e s m args below meth c H locs la C hz hH hS hl
  rcases hk with rfl | rfl | rfl | rfl
  · exact va_alen C.1 C.2.1 C.2.2.2.2.2.2.2.2.2.1 hH (a - 64) 0 ((wl_at hI).trans (by rw [cell_I hI.2.2])) rfl hv hd K
  · exact va_alen C.1 C.2.1 C.2.2.2.2.2.2.2.2.2.1 hH (a - 64) 1 ((wl_at hI).trans (by rw [cell_J hI.2.2])) rfl hv hd K
  · exact va_alen C.1 C.2.1 C.2.2.2.2.2.2.2.2.2.1 hH (a - 64) 2 ((wl_at hI).trans (by rw [cell_B hI.2.2])) rfl hv hd K
  · exact va_alen C.1 C.2.1 C.2.2.2.2.2.2.2.2.2.1 hH (a - 64) 4 ((wl_at hI).trans (by rw [cell_S hI.2.2])) rfl hv hd K
theorem r_aald {a k : Nat} {i : Int32} (hI : IS T a k) (hk : k = 16 ∨ k = 17) (hi : inb i (T.2.2 a) = true) (hd : decode M.2.1 pc = .ok (.aaload, 1)) {b : Nat} (hb : P a i.toNatClampNeg = some b) (kk : WW E M R Z kc ks T I J P (pc + 1) ls (.ref b :: st)) : WW E M R Z kc ks T I J P pc ls (.int i :: .ref a :: st) := by
  intro p e s m args below meth c H locs la C hz hH hS hl
  have K := kk p e s m args below meth c H locs la C hz hH hS hl
  have e1 : va_rf ((P a i.toNatClampNeg).map (q_ E)) = .ref (q_ E b) := by simp [hb, va_rf]
  rcases hk with rfl | rfl
  · refine va_aldq C.1 C.2.1 C.2.2.2.2.2.2.2.2.2.1 hH (a - 64) 3 ((wl_at hI).trans (by rw [cell_F hI.2.2])) rfl (inb_in hi) hd ?_
    rw [e1]; exact K
  · refine va_aldq C.1 C.2.1 C.2.2.2.2.2.2.2.2.2.1 hH (a - 64) 4 ((wl_at hI).trans (by rw [cell_S hI.2.2])) rfl (inb_in hi) hd ?_
    rw [e1]; exact K
theorem r_aaldN {a k : Nat} {i : Int32} (hI : IS T a k) (hk : k = 16 ∨ k = 17) (hi : inb i (T.2.2 a) = true) (hd : decode M.2.1 pc = .ok (.aaload, 1)) (hb : P a i.toNatClampNeg = none) (kk : WW E M R Z kc ks T I J P (pc + 1) ls (.null :: st)) : WW E M R Z kc ks T I J P pc ls (.int i :: .ref a :: st) := by
  intro p e s m args below meth c H locs la C hz hH hS hl
  have K := kk p e s m args below meth c H locs la C hz hH hS hl
  have e1 : va_rf ((P a i.toNatClampNeg).map (q_ E)) = .null := by simp [hb, va_rf]
  rcases hk with rfl | rfl
  · refine va_aldq C.1 C.2.1 C.2.2.2.2.2.2.2.2.2.1 hH (a - 64) 3 ((wl_at hI).trans (by rw [cell_F hI.2.2])) rfl (inb_in hi) hd ?_
    rw [e1]; exact K
  · refine va_aldq C.1 C.2.1 C.2.2.2.2.2.2.2.2.2.1 hH (a - 64) 4 ((wl_at hI).trans (by rw [cell_S hI.2.2])) rfl (inb_in hi) hd ?_
    rw [e1]; exact K
end HEAP
end
section
/-! CALLS -/
theorem tbl_goodIn {w : Cond} (h : w ∈ tbg) : w ∈ tbg ∧ ((w.onTables && w.keeps) = true ∨ ∃ ty, w = .arrayClass ty) := ⟨h, good_of_word (List.mem_filter.mp h).2⟩
/-- what is known of a method that is called -/
def MI (M : MD) (n : Nat) : Prop := Cond.code M.1 M.2.1 M.2.2.1 M.2.2.2 ∈ tbg ∧ Cond.initialized M.1.cls ∈ tbg ∧ M.1.cls ≠ "java/lang/invoke/MethodHandle" ∧ M.1.cls ≠ "java/lang/invoke/VarHandle" ∧ (parseMethodDescriptor M.1.desc).map (fun d => d.parameters.length) = some n
theorem MI.good {M : MD} {n : Nat} (h : MI M n) : GoodIn tbg (wsM M) := fun w hw => by
  rcases List.mem_cons.mp hw with e | e
  · rw [e]; exact tbl_goodIn h.1
  · exact tbl_goodIn e
section CALLS
variable {E : GE} {M : MD} {R : Room} {Z : State → Array Value → List Frame → State → Prop} {kc ks : Nat} {T T' : TM} {I I' : IM} {J J' : JM} {P P' : PM} {pc : Nat} {ls : List (Nat × Value)} {st : List Value}
variable {p : Program} {e : Env} {s : State} {m : MethodId} {args : Array Value} {below : List Frame} {meth : Method} {c : Code} {H : Heap} {locs : List Loc} {la : Array Slot}
theorem callW {bc bs : Nat} {v : Option Value} {st0 : List Value} {a : Array Value} (hr : va_Run p E.1 e R s m args below meth c H locs kc ks bc bs (F0 m pc la st0) (st.map (cv E)) (QM E v T' I' J' P' a) (AA E)) (C : CT E M p s m args meth c) (hz : s.heap.size + kc = E.2.1 + T.1) (hT : T'.1 = T.1 + bc) (hS : va_S (AA E) s.heap H locs) (hl : lv_has la M.2.2.1 (ls.map (cv2 E)))
    (kk : WW E M R Z (kc + bc) (ks + bs) T' I' J' P' (pc + 3) ls (v.toList ++ st)) : W p E.1 e R s m args below meth c H locs kc ks (Z s args below) (F0 m pc la st0) := by
  intro U hU X
  obtain ⟨v', st₀, t, U', L, h0, X', hL, e1, e2, ⟨hv, hH', hz', hk'⟩, stp⟩ := hr U hU X
  cases hv
  rw [h0] at hz' hk'
  have hS' : va_S (AA E) s.heap U'.heap (locs ++ L) := ⟨Nat.le_trans hS.1 (by rw [e1]; exact hz'), fun q h1 h2 => by rw [e1, hk' q (Nat.lt_of_lt_of_le h1 hS.1) h2]; exact hS.2.1 q h1 h2, fun q hq => by
    rcases List.mem_append.mp hq with h | h
    · exact hS.2.2 q h
    · exact hL q h⟩
  obtain ⟨t2, a1, b1⟩ := kk p e s m args below meth c U'.heap (locs ++ L) la C (by omega) (by rw [e1]; exact hH') hS' hl U' rfl X'
  refine ⟨t2, stp t2 ?_, b1⟩
  cases v with
  | none => exact a1
  | some v => exact a1
theorem pre_blind {as : List Value} : FrameBlind (va_Pc (as.map (cv E)) (fun U => U.heap.size = E.2.1 + T.1 ∧ ST E U U.heap ∧ HP E T I J P U.heap)) := fun a U g mk q => by
  obtain ⟨q0, q1, q2, q3⟩ := q
  exact ⟨q0, q1, ST.same (u := U) (U := U.calling g mk a) rfl q2, q3⟩
theorem pre_at {as : List Value} (C : CT E M p s m args meth c) (hsz : H.size = E.2.1 + T.1) (hH : HP E T I J P H) (hS : va_S (AA E) s.heap H locs) : ∀ U : State, U.heap = H → s.WarmedH U.vm → va_Pc (as.map (cv E)) (fun U => U.heap.size = E.2.1 + T.1 ∧ ST E U U.heap ∧ HP E T I J P U.heap) (as.map (cv E)).toArray U := fun U hU hW =>
  ⟨rfl, by rw [hU]; exact hsz, by rw [hU]; exact ST.to hW hS C.2.2.2.2.2.2.2.2.1 C.2.2.2.2.2.2.2.2.2, by rw [hU]; exact hH⟩
theorem cat_cv (E : GE) (st : List Value) : ((st.map (cv E)).map fun v => v.category) = st.map fun v => v.category := by
  rw [List.map_map]
  apply List.map_congr_left
  intro v _
  exact cv_cat E v
theorem stk_cv {As st : List Value} : (As.reverse ++ st).map (cv E) = (As.map (cv E)).reverse ++ st.map (cv E) := by simp
theorem stk_cv1 {As st : List Value} {b : Nat} : (As.reverse ++ .ref b :: st).map (cv E) = (As.map (cv E)).reverse ++ .ref (q_ E b) :: st.map (cv E) := by simp [cv]
end CALLS
section CALLR
variable {E : GE} {M : MD} {R : Room} {Z : State → Array Value → List Frame → State → Prop} {kc ks : Nat} {T T' : TM} {I I' : IM} {J J' : JM} {P P' : PM} {pc : Nat} {ls : List (Nat × Value)} {st stk As : List Value} {v : Option Value} {M' : MD} {n idx d' bc' bs' b ci : Nat}
theorem r_static (hm : MI M' n) (hst : Cond.static M'.1 ∈ tbg) (hln : Cond.methodLink M.1.cls idx M'.1 ∈ tbg) (hc : Ctr E M' d' bc' bs' As T I J P v T' I' J' P') (hn : As.length = n) (hstk : stk = As.reverse ++ st) (hcat : (st.map fun v => v.category).sum ≤ 8) (hR : d' + 1 ≤ R.frames ∧ 8 + (M'.2.2.1 + 11) + 37 * d' ≤ R.locals) (hf : kc + bc' ≤ R.cells ∧ ks + bs' ≤ R.slots) (hd : decode M.2.1 pc = .ok (.invokestatic idx, 3))
    (kk : WW E M R Z (kc + bc') (ks + bs') T' I' J' P' (pc + 3) ls (v.toList ++ st)) : WW E M R Z kc ks T I J P pc ls stk := by
  intro p e s m args below meth c H locs la C hz hH hS hl U hU X
  have hsz := size_of C hU X hz hH hS
  have hts := C.2.2.2.2.2.2.2.1
  subst hstk
  refine callW (st := st) (va_runS (As := As.map (cv E)) ⟨C.1, C.2.1, C.2.2.1, C.2.2.2.2.2.2.1, hts⟩ hc.2 ⟨callB_of (ws' := tbg) (bytes := M'.2.1) (maxL := M'.2.2.1) (ret := M'.2.2.2) n hts hm.good rfl rfl rfl (hts _ hm.2.1) (hts _ hln) hm.2.2 hR, hts _ hst⟩ ⟨pre_blind, pre_at C hsz hH hS⟩ rfl (by rw [List.length_map]; exact hn) hl.1 stk_cv (lv_room (by rw [cat_cv]; exact hcat)) hd hf) C hz hc.1 hS hl kk U hU X
theorem r_virt {r : vw_C} (hm : MI M' n) (hin : Cond.instanceMethod M'.1 ∈ tbg) (hse : Cond.selects r.1 M'.1 M'.1 ∈ tbg) (hln : Cond.methodLink M.1.cls idx M'.1 ∈ tbg) (hr : vwCl[ci]? = some r) (hci : ci < 13) (hI : IS T b ci) (hc : Ctr E M' d' bc' bs' (.ref b :: As) T I J P v T' I' J' P') (hn : As.length = n) (hstk : stk = As.reverse ++ .ref b :: st) (hcat : (st.map fun v => v.category).sum ≤ 8) (hR : d' + 1 ≤ R.frames ∧ 8 + (M'.2.2.1 + 11) + 37 * d' ≤ R.locals) (hf : kc + bc' ≤ R.cells ∧ ks + bs' ≤ R.slots) (hd : decode M.2.1 pc = .ok (.invokevirtual idx, 3))
    (kk : WW E M R Z (kc + bc') (ks + bs') T' I' J' P' (pc + 3) ls (v.toList ++ st)) : WW E M R Z kc ks T I J P pc ls stk := by
  intro p e s m args below meth c H locs la C hz hH hS hl U hU X
  have hsz := size_of C hU X hz hH hS
  have hts := C.2.2.2.2.2.2.2.1
  subst hstk
  refine callW (st := st) (va_runV (C := r.1) (b := q_ E b) (As := As.map (cv E)) ⟨C.1, C.2.1, C.2.2.1, C.2.2.2.2.2.2.1, hts⟩ hc.2 ⟨callB_of (ws' := tbg) (bytes := M'.2.1) (maxL := M'.2.2.1) (ret := M'.2.2.2) n hts hm.good rfl rfl rfl (hts _ hm.2.1) (hts _ hln) hm.2.2 hR, hts _ hin, hts _ hse⟩ ⟨pre_blind, va_recv C.2.2.2.2.2.2.2.2.2.1 hH hr ((wl_at hI).trans (by rw [cell_obj hI.2.2 hci])), pre_at (as := .ref b :: As) C hsz hH hS⟩ rfl (by rw [List.length_map]; exact hn) hl.1 stk_cv1 (lv_room (by rw [cat_cv]; exact hcat)) hd hf) C hz hc.1 hS hl kk U hU X
theorem r_init (hm : MI M' n) (hnm : M'.1.name = "<init>") (hret : M'.2.2.2 = none) (hin : Cond.instanceMethod M'.1 ∈ tbg) (hln : Cond.methodLink M.1.cls idx M'.1 ∈ tbg) (hc : Ctr E M' d' bc' bs' (.ref b :: As) T I J P v T' I' J' P') (hn : As.length = n) (hstk : stk = As.reverse ++ .ref b :: st) (hcat : (st.map fun v => v.category).sum ≤ 8) (hR : d' + 1 ≤ R.frames ∧ 8 + (M'.2.2.1 + 11) + 37 * d' ≤ R.locals) (hf : kc + bc' ≤ R.cells ∧ ks + bs' ≤ R.slots) (hd : decode M.2.1 pc = .ok (.invokespecial idx, 3))
    (kk : WW E M R Z (kc + bc') (ks + bs') T' I' J' P' (pc + 3) ls (v.toList ++ st)) : WW E M R Z kc ks T I J P pc ls stk := by
  intro p e s m args below meth c H locs la C hz hH hS hl U hU X
  have hsz := size_of C hU X hz hH hS
  have hts := C.2.2.2.2.2.2.2.1
  subst hstk
  refine callW (st := st) (va_runI (b := q_ E b) (As := As.map (cv E)) ⟨C.1, C.2.1, C.2.2.1, C.2.2.2.2.2.2.1, hts⟩ hc.2 ⟨callB_of (ws' := tbg) (bytes := M'.2.1) (maxL := M'.2.2.1) (ret := none) n hts hm.good (by rw [← hret]; rfl) rfl rfl (hts _ hm.2.1) (hts _ hln) hm.2.2 hR, hnm, hts _ hin⟩ ⟨pre_blind, pre_at (as := .ref b :: As) C hsz hH hS⟩ rfl (by rw [List.length_map]; exact hn) hl.1 stk_cv1 (lv_room (by rw [cat_cv]; exact hcat)) hd hf) C hz hc.1 hS hl kk U hU X
theorem r_objInit (hln : Cond.methodLink M.1.cls idx Lib.objectInit ∈ tbg) (hR : 1 ≤ R.frames ∧ (st.map fun v => v.category).sum + 12 ≤ R.locals) (hin : Cond.instanceMethod Lib.objectInit ∈ tbg) (hco : Cond.code Lib.objectInit ⟨#[0xb1]⟩ 1 none ∈ tbg) (hd : decode M.2.1 pc = .ok (.invokespecial idx, 3)) (kk : WW E M R Z kc ks T I J P (pc + 3) ls st) : WW E M R Z kc ks T I J P pc ls (.ref b :: st) := by
  intro p e s m args below meth c H locs la C hz hH hS hl
  have hts := C.2.2.2.2.2.2.2.1
  exact W.objInit C.1 C.2.1 C.2.2.2.2.2.2.1 (hts _ hln) (hts _ hin) (hts _ hco) rfl (by rw [C.2.2.1]; exact hl.1) (a := q_ E b) (rest := st.map (cv E)) rfl hd hR.1 (by rw [cat_cv]; show 2 * 0 + _ + 12 ≤ _; omega) (kk p e s m args below meth c H locs la C hz hH hS hl)
end CALLR
end
section
/-! MAKING, AND THE OTHER INSTRUCTIONS -/
theorem ctr_introF {E : GE} {M : MD} {d bc bs : Nat} {as : List Value} {T : TM} {I : IM} {J : JM} {P : PM} {v : Option Value} {T' : TM} {I' : IM} {J' : JM} {P' : PM} (hT : T'.1 = T.1 + bc) (hy : plainFor M.1 = true) (hl : (lg_sl as).length ≤ M.2.2.1)
    (h : WW E M (RM d bc bs) (ZM E bc bs v T' I' J' P') 0 0 T I J P 0 (lv_args 0 as) []) : Ctr E M d bc bs as T I J P v T' I' J' P' := by
  refine ⟨hT, va_MetF (cc := M.2.1) (maxL := M.2.2.1) (ret := M.2.2.2) hy rfl ?_⟩
  intro p e s m args below meth c s₁ B hml hv
  obtain ⟨rfl, hz, hST, hP⟩ := hv
  have hb : E.2.1 ≤ s.heap.size := by omega
  have hts := atoms_spec (ws := wsM M) B.pre
  rw [lg_entry_eq]
  exact h p e s m _ below meth c s.heap [] _ ⟨B.exec, B.bytes, hml, B.returns, B.notSynchronized, (name_of_methodNamed B.named B.method).1, findClass_of_methodNamed B.named, fun w hw => hts w (List.mem_cons_of_mem _ hw), hb, hST⟩ hz hP va_S.rf (by rw [← lv_args_cv]; exact lv_entry _ (by rw [lg_sl_cv]; exact hl))
/-- a cell more, of a kind, all its numbers 0 -/
def nT (T : TM) (k n : Nat) : TM := (T.1 + 1, va_up T.2.1 (64 + T.1) k, va_up T.2.2 (64 + T.1) n)
def nI0 (T : TM) (I : IM) : IM := va_up I (64 + T.1) (fun _ => 0)
def nJ0 (T : TM) (J : JM) : JM := va_up J (64 + T.1) (fun _ => 0)
def nP0 (T : TM) (P : PM) : PM := va_up P (64 + T.1) (fun _ => none)
theorem cell_old {E : GE} {T : TM} {I : IM} {J : JM} {P : PM} {k n b : Nat} (h : b ≠ 64 + T.1) : cell E (nT T k n) (nI0 T I) (nJ0 T J) (nP0 T P) b = cell E T I J P b := by
  have h1 : (nT T k n).2.1 b = T.2.1 b := va_up_ne _ _ h
  have h2 : (nT T k n).2.2 b = T.2.2 b := va_up_ne _ _ h
  rw [← cell_cong (E := E) (T := T) (I := I) (I' := nI0 T I) (J := J) (J' := nJ0 T J) (P := P) (P' := nP0 T P) (va_up_ne _ _ h) (va_up_ne _ _ h) (va_up_ne _ _ h)]
  simp only [cell, h1, h2]
theorem wl_push {E : GE} {T : TM} {I : IM} {J : JM} {P : PM} {k n : Nat} {e : va_E} (he : cell E (nT T k n) (nI0 T I) (nJ0 T J) (nP0 T P) (64 + T.1) = e) : wl E T I J P ++ [(E.2.1 + T.1, e)] = wl E (nT T k n) (nI0 T I) (nJ0 T J) (nP0 T P) := by
  unfold wl
  rw [show (nT T k n).1 = T.1 + 1 from rfl, List.range_succ, List.map_append, List.map_cons, List.map_nil, he]
  congr 1
  apply List.map_congr_left
  intro i hi
  rw [cell_old (by have := List.mem_range.mp hi; omega)]
/-- where the new cell lies -/
theorem new_at {E : GE} {M : MD} {p : Program} {l : Launch} {e : Env} {R : Room} {s : State} {m : MethodId} {args : Array Value} {below : List Frame} {meth : Method} {c : Code} {U : State} {H1 : Heap} {locs : List Loc} {kc ks q : Nat} {x : va_E} {T : TM} {I : IM} {J : JM} {P : PM} (hU : U.heap = H1) (X : Stand p l e R s m args below meth c U locs (kc + 1) ks) (hz : s.heap.size + kc = E.2.1 + T.1) (hP : va_P E.2.2.2.1 vwCl (wl E T I J P ++ [(q, x)]) H1) (hD : va_D (AA E) (wl E T I J P ++ [(q, x)])) : q = E.2.1 + T.1 := by
  have hlen : (wl E T I J P).length = T.1 := by simp [wl]
  have hlast : (wl E T I J P ++ [(q, x)])[T.1]? = some (q, x) := by
    rw [List.getElem?_append_right (by omega), hlen, Nat.sub_self]
    rfl
  have h1 : H1.size ≤ s.heap.size + (kc + 1) := by rw [← hU]; exact X.heapSize
  have h2 : q < H1.size := (hP T.1 _ hlast).lt
  have h3 : E.2.1 ≤ q := hD.2 T.1 _ hlast
  by_cases h4 : q < E.2.1 + T.1
  · have h5 : (wl E T I J P ++ [(q, x)])[q - E.2.1]? = some (E.2.1 + (q - E.2.1), cell E T I J P (64 + (q - E.2.1))) := by
      rw [List.getElem?_append_left (by omega), wl_get (by omega)]
    have h6 := hD.1 _ _ _ _ h5 hlast (show E.2.1 + (q - E.2.1) = q by omega)
    omega
  · omega
def CI (ci : Nat) : Prop := ci < 13 ∧ ∃ (r : vw_C) (ty0 : Nat → FieldType), vwCl[ci]? = some r ∧ (∀ w ∈ u_ws r.1 r.2.1 r.2.2, w ∈ tbg) ∧ (∀ k, k < r.2.2 → parseFieldDescriptor (r.2.1 k).2.2.1 = some (ty0 k)) ∧ Cond.instantiable r.1 r.2.2 ∈ tbg ∧ Cond.initialized r.1 ∈ tbg ∧ r.2.2 = (lay ci).length ∧ ∀ j, j < r.2.2 → defaultValue (ty0 j) = (if (lay ci).getD j 0 = 0 then .int 0 else if (lay ci).getD j 0 = 1 then .long 0 else .null)
section MAKE
variable {E : GE} {M : MD} {R : Room} {Z : State → Array Value → List Frame → State → Prop} {kc ks : Nat} {T T' : TM} {I I' : IM} {J J' : JM} {P P' : PM} {pc : Nat} {ls : List (Nat × Value)} {st : List Value}
theorem r_new {idx ci : Nat} {nm : String} (hci : CI ci) (hnm : (vwCl[ci]?).map (fun r => r.1) = some nm) (hcl : Cond.classLink M.1.cls idx nm ∈ tbg) (hf : kc + 1 ≤ R.cells ∧ ks + (lay ci).length ≤ R.slots) (hd : decode M.2.1 pc = .ok (.new idx, 3)) (kk : WW E M R Z (kc + 1) (ks + (lay ci).length) (nT T ci 0) (nI0 T I) (nJ0 T J) (nP0 T P) (pc + 3) ls (.ref (64 + T.1) :: st)) : WW E M R Z kc ks T I J P pc ls st := by
  intro p e s m args below meth c H locs la C hz hH hS hl
  obtain ⟨hc, ⟨rC, rT, rN⟩, ty0, h1, h2, h3, h4, h5, h6, h7⟩ := hci
  have hts := C.2.2.2.2.2.2.2.1
  have hK := C.2.2.2.2.2.2.2.2.2.1
  rw [h1] at hnm
  cases hnm
  have h6 : rN = (lay ci).length := h6
  subst h6
  have hcell : cell E (nT T ci 0) (nI0 T I) (nJ0 T J) (nP0 T P) (64 + T.1) = .inr (ci, flds E (nI0 T I) (nJ0 T J) (nP0 T P) (64 + T.1) ci) := cell_obj (va_up_self _ _ _) hc
  refine va_new (ci := ci) (C := rC) (T := rT) (N := (lay ci).length) (fs := flds E (nI0 T I) (nJ0 T J) (nP0 T P) (64 + T.1) ci) C.1 C.2.1 hts h2 ty0 h3 C.2.2.2.2.2.2.1 (hts _ hcl) (hts _ h4) (hts _ h5) hK hH wl_D hS (fun q hq => Nat.le_trans C.2.2.2.2.2.2.2.2.1 hq) h1 (fun j hj => ?_) hf.1 hf.2 hd (fun q H1 hP1 hD1 hS1 U hU X => ?_)
  · rw [h7 j hj]
    have h8 : (lay ci)[j]? = some ((lay ci).getD j 0) := by rw [List.getD_eq_getElem?_getD, List.getElem?_eq_getElem hj]; rfl
    have h9 : (flds E (nI0 T I) (nJ0 T J) (nP0 T P) (64 + T.1) ci).getD j .null = fv E (nI0 T I) (nJ0 T J) (nP0 T P) (64 + T.1) j ((lay ci).getD j 0) := by
      rw [List.getD_eq_getElem?_getD, flds_get h8]
      rfl
    show _ = (flds E (nI0 T I) (nJ0 T J) (nP0 T P) (64 + T.1) ci).getD j .null
    rw [h9]
    generalize (lay ci).getD j 0 = t
    match t with
    | 0 => simp [fv, nI0, va_up]
    | 1 => simp [fv, nJ0, va_up]
    | n + 2 => simp [fv, nP0, va_up, va_rf]
  · have hq := new_at (M := M) hU X hz hP1 hD1
    subst hq
    rw [wl_push hcell] at hP1
    have h := kk p e s m args below meth c H1 locs la C (show _ + (kc + 1) = _ + (T.1 + 1) by omega) hP1 hS1 hl
    have e1 : q_ E (64 + T.1) = E.2.1 + T.1 := by rw [q_hi (by omega)]; congr 1; omega
    rw [List.map_cons, show cv E (.ref (64 + T.1)) = .ref (q_ E (64 + T.1)) from rfl, e1] at h
    exact h U hU X
theorem r_newa {at_ : ArrayType} {ty : FieldType} {k n t0 : Nat} {x : Int32} (hty : newarray.typeOf at_ = ty) (hk : (ty = .int ∧ k = 13) ∨ (ty = .long ∧ k = 14) ∨ (ty = .byte ∧ k = 15)) (hw : Cond.arrayClass ty ∈ tbg) (hx : ¬ x < 0) (hn : x.toNatClampNeg = n) (hbt : n * componentBytes ty ≤ 536870912) (hf : kc + 1 ≤ R.cells ∧ ks + n ≤ R.slots) (hd : decode M.2.1 pc = .ok (.newarray at_, 2)) (kk : WW E M R Z (kc + 1) (ks + n) (nT T k n) (nI0 T I) (nJ0 T J) (nP0 T P) (pc + 2) ls (.ref (64 + T.1) :: st)) : WW E M R Z kc ks T I J P pc ls (.int x :: st) := by
  intro p e s m args below meth c H locs la C hz hH hS hl
  have hts := C.2.2.2.2.2.2.2.1
  have hK := C.2.2.2.2.2.2.2.2.2.1
  have key : ∀ (a0 : vp_A) (cA0 : ClassId) (t0 : Nat), (∀ cA : ClassId, vp_cell cA a0 = arrV cA n (fun _ => defaultValue ty)) → (KT E)[t0]? = some (cA0, ty) → (∀ cA, va_RA s cA ty → cA = cA0) → cell E (nT T k n) (nI0 T I) (nJ0 T J) (nP0 T P) (64 + T.1) = .inl (cA0, a0) → W p E.1 e R s m args below meth c H locs kc ks (Z s args below) (F0 m pc la (.int x :: st.map (cv E))) := by
    intro a0 cA0 t0 ha ht hu hcell
    refine va_newa (atype := at_) (ty := ty) C.1 C.2.1 (by rw [hty]; exact hts _ hw) hty hK hH wl_D hS (fun q hq => Nat.le_trans C.2.2.2.2.2.2.2.2.1 hq) (a0 := a0) ha hx hn hbt hf.1 hf.2 hd (fun q cA H1 hK1 hP1 hD1 hS1 U hU X => ?_)
    have hq := new_at (M := M) hU X hz hP1 hD1
    subst hq
    have hl2 : (KT E ++ [(cA, ty)])[5]? = some (cA, ty) := rfl
    have hcA := hu cA (hK1.2 5 _ hl2).2
    subst hcA
    rw [wl_push hcell] at hP1
    have h := kk p e s m args below meth c H1 locs la C (show _ + (kc + 1) = _ + (T.1 + 1) by omega) hP1 hS1 hl
    have e1 : q_ E (64 + T.1) = E.2.1 + T.1 := by rw [q_hi (by omega)]; congr 1; omega
    rw [List.map_cons, show cv E (.ref (64 + T.1)) = .ref (q_ E (64 + T.1)) from rfl, e1] at h
    exact h U hU X
  have hN : (nT T k n).2.2 (64 + T.1) = n := va_up_self _ _ _
  rcases hk with ⟨rfl, rfl⟩ | ⟨rfl, rfl⟩ | ⟨rfl, rfl⟩
  · refine key (n, .inl (fun _ => 0)) (E.2.2.2.2.1 13) 0 (fun cA => rfl) rfl (fun cA h => Option.some.inj (h.symm.trans (hK.2 0 _ rfl).2)) ?_
    rw [cell_I (va_up_self _ _ _), hN]
    simp [nI0, va_up]
  · refine key (n, .inr (.inl (fun _ => 0))) (E.2.2.2.2.1 14) 1 (fun cA => rfl) rfl (fun cA h => Option.some.inj (h.symm.trans (hK.2 1 _ rfl).2)) ?_
    rw [cell_J (va_up_self _ _ _), hN]
    simp [nJ0, va_up]
  · refine key (n, .inl (fun _ => 0)) (E.2.2.2.2.1 15) 2 (fun cA => rfl) rfl (fun cA h => Option.some.inj (h.symm.trans (hK.2 2 _ rfl).2)) ?_
    rw [cell_B (va_up_self _ _ _), hN]
    simp [nI0, va_up]
theorem r_newq {k n idx : Nat} {nm : String} {x : Int32} (hk : (k = 16 ∧ nm = RX0) ∨ (k = 17 ∧ nm = RX3)) (hcl : Cond.classLink M.1.cls idx nm ∈ tbg) (hx : ¬ x < 0) (hn : x.toNatClampNeg = n) (hbt : n * 4 ≤ 536870912) (hf : kc + 1 ≤ R.cells ∧ ks + n ≤ R.slots) (hd : decode M.2.1 pc = .ok (.anewarray idx, 3)) (kk : WW E M R Z (kc + 1) (ks + n) (nT T k n) (nI0 T I) (nJ0 T J) (nP0 T P) (pc + 3) ls (.ref (64 + T.1) :: st)) : WW E M R Z kc ks T I J P pc ls (.int x :: st) := by
  intro p e s m args below meth c H locs la C hz hH hS hl
  have hts := C.2.2.2.2.2.2.2.1
  have hST := C.2.2.2.2.2.2.2.2.2
  have hK := hST.1
  have key : ∀ (cA0 : ClassId), va_AO nm s → (∀ cA, va_RA s cA (.object nm) → cA = cA0) → cell E (nT T k n) (nI0 T I) (nJ0 T J) (nP0 T P) (64 + T.1) = .inl (cA0, n, .inr (.inr (.inr (.inr (fun _ => none))))) → W p E.1 e R s m args below meth c H locs kc ks (Z s args below) (F0 m pc la (.int x :: st.map (cv E))) := by
    intro cA0 hao hu hcell
    refine va_newq (C := nm) C.1 C.2.1 C.2.2.2.2.2.2.1 (hts _ hcl) hao hK hH wl_D hS (fun q hq => Nat.le_trans C.2.2.2.2.2.2.2.2.1 hq) hx hn hbt hf.1 hf.2 hd (fun q cA H1 hK1 hP1 hD1 hS1 U hU X => ?_)
    have hq := new_at (M := M) hU X hz hP1 hD1
    subst hq
    have hl2 : (KT E ++ [(cA, FieldType.object nm)])[5]? = some (cA, .object nm) := rfl
    have hcA := hu cA (hK1.2 5 _ hl2).2
    subst hcA
    rw [wl_push hcell] at hP1
    have h := kk p e s m args below meth c H1 locs la C (show _ + (kc + 1) = _ + (T.1 + 1) by omega) hP1 hS1 hl
    have e1 : q_ E (64 + T.1) = E.2.1 + T.1 := by rw [q_hi (by omega)]; congr 1; omega
    rw [List.map_cons, show cv E (.ref (64 + T.1)) = .ref (q_ E (64 + T.1)) from rfl, e1] at h
    exact h U hU X
  have hN : (nT T k n).2.2 (64 + T.1) = n := va_up_self _ _ _
  have huq : ∀ (i : Nat) (cA0 : ClassId), (KT E)[i]? = some (cA0, .object nm) → ∀ cA, va_RA s cA (.object nm) → cA = cA0 := by
    intro i cA0 hi cA h
    obtain ⟨_, _, _, _, _, h4⟩ := h
    obtain ⟨_, _, _, _, _, h5⟩ := (hK.2 i _ hi).2
    exact Option.some.inj (h4.symm.trans h5)
  rcases hk with ⟨rfl, rfl⟩ | ⟨rfl, rfl⟩
  · refine key (E.2.2.2.2.1 16) hST.2.2.2.2.2.2.2.2.2.1 (huq 3 _ rfl) ?_
    rw [cell_F (va_up_self _ _ _), hN]
    simp [nP0, va_up]
  · refine key (E.2.2.2.2.1 17) hST.2.2.2.2.2.2.2.2.2.2.1 (huq 4 _ rfl) ?_
    rw [cell_S (va_up_self _ _ _), hN]
    simp [nP0, va_up]
end MAKE
end
section
/-! THE REST: rows of references, statics, texts, the script, the library, calls by kind -/
def fks : List Nat := [0, 2, 4, 5, 8, 9]
def isF (T : TM) (a : Nat) : Bool := decide (64 ≤ a) && (decide (a < 64 + T.1) && fks.contains (T.2.1 a))
theorem isF_of {T : TM} {a : Nat} (h : isF T a = true) : ∃ ci, ci ∈ fks ∧ IS T a ci := by
  simp only [isF, Bool.and_eq_true, decide_eq_true_eq, List.contains_iff_mem] at h
  exact ⟨T.2.1 a, h.2.2, h.1, h.2.1, rfl⟩
theorem isF_mk {T : TM} {a ci : Nat} (h : IS T a ci) (hc : ci ∈ fks) : isF T a = true := by
  obtain ⟨h1, h2, rfl⟩ := h
  simp [isF, h1, h2, hc]
section REST
variable {E : GE} {M : MD} {R : Room} {Z : State → Array Value → List Frame → State → Prop} {kc ks : Nat} {T T' : TM} {I I' : IM} {J J' : JM} {P P' : PM} {pc : Nat} {ls : List (Nat × Value)} {st stk As : List Value} {v : Option Value} {M' : MD} {n idx d' bc' bs' b ci : Nat}
theorem r_getF {k a : Nat} (L : ∀ ci ∈ fks, LK M.1.cls idx ci k 0 .int false ) (hI : isF T a = true) (hd : decode M.2.1 pc = .ok (.getfield idx, 3)) (kk : WW E M R Z kc ks T I J P (pc + 3) ls (.int (I a k) :: st)) : WW E M R Z kc ks T I J P pc ls (.ref a :: st) := by
  obtain ⟨ci, hc, h⟩ := isF_of hI
  exact r_getI (L ci hc) h hd kk
/-- a card or a sheet is put into a row -/
theorem any_F {p : Program} {s : State} {m : MethodId} {args : Array Value} {meth : Method} {c : Code} {H : Heap} (C : CT E M p s m args meth c) (hH : HP E T I J P H) (hF : isF T b = true) : va_Any RX0 s H (q_ E b) := by
  obtain ⟨ci, hc, h⟩ := isF_of hF
  have hK := C.2.2.2.2.2.2.2.2.2.1
  have hST := C.2.2.2.2.2.2.2.2.2
  have key : ∀ (r : vw_C), vwCl[ci]? = some r → ci < 13 → (r.1 = RX0 ∨ (r.1, RX0) ∈ cas) → va_Any RX0 s H (q_ E b) := by
    intro r hr hci ho
    refine va_rAny hK hH ((wl_at h).trans (by rw [cell_obj h.2.2 hci])) hr (fun comp c0 h1 h2 => ?_)
    rcases ho with ho | ho
    · rw [ho] at h2
      cases h1.symm.trans h2
      have hat := (hK.1 ci r hr).2
      rw [ho] at hat
      cases h1.symm.trans hat.1
      exact va_assign hat
    · obtain ⟨c1, t1, f1, f2, f3⟩ := Cond.castable_spec (va_Nw.use (A := args) rfl (hST.2.2.2.2.2.2.2.2.2.2.2.1 _ ho))
      cases f1.symm.trans h2
      cases f2.symm.trans h1
      exact f3
  rcases List.mem_cons.mp hc with rfl | hc
  · exact key _ rfl (by decide) (Or.inl rfl)
  · refine key (vwCl.getD ci (RX0, TX0, 4)) ?_ ?_ (Or.inr ?_)
    all_goals
      simp only [List.mem_cons, List.not_mem_nil, or_false] at hc
      rcases hc with rfl | rfl | rfl | rfl | rfl <;> first | rfl | decide +kernel
theorem r_aastF {a : Nat} {i : Int32} (hI : IS T a 16) (hi : inb i (T.2.2 a) = true) (hF : isF T b = true) (hd : decode M.2.1 pc = .ok (.aastore, 1)) (kk : WW E M R Z kc ks T I J (up2 P a i.toNatClampNeg (some b)) (pc + 1) ls st) : WW E M R Z kc ks T I J P pc ls (.ref b :: .int i :: .ref a :: st) :=
  fun p e s m args below meth c H locs la C hz hH hS hl => va_astqM C.1 C.2.1 C.2.2.2.2.2.2.2.2.2.1 hH wl_D hS (a - 64) 3 ((wl_at hI).trans (by rw [cell_F hI.2.2])) rfl (any_F C hH hF) (inb_in hi) hd (fun H1 locs1 hP1 _ hS1 => kk p e s m args below meth c H1 locs1 la C hz (by
    unfold HP
    rw [← wl_set hI (cell_F hI.2.2) (fun b hb => cell_cong rfl rfl (up2_oth P _ _ hb)), up2_row]
    have e1 : (fun j => (if j = i.toNatClampNeg then some b else P a j).map (q_ E)) = va_up (fun j => (P a j).map (q_ E)) i.toNatClampNeg (some (q_ E b)) := by
      funext j
      by_cases hj : j = i.toNatClampNeg <;> simp [va_up, hj]
    rw [e1]
    exact hP1) hS1 hl)
theorem r_aastS {a : Nat} {i : Int32} (hI : IS T a 17) (hi : inb i (T.2.2 a) = true) (hF : IS T b 3) (hd : decode M.2.1 pc = .ok (.aastore, 1)) (kk : WW E M R Z kc ks T I J (up2 P a i.toNatClampNeg (some b)) (pc + 1) ls st) : WW E M R Z kc ks T I J P pc ls (.ref b :: .int i :: .ref a :: st) :=
  fun p e s m args below meth c H locs la C hz hH hS hl => va_astq C.1 C.2.1 C.2.2.2.2.2.2.2.2.2.1 hH wl_D hS (a - 64) 4 (b - 64) 3 ((wl_at hI).trans (by rw [cell_S hI.2.2])) rfl ((wl_at hF).trans (by rw [cell_obj hF.2.2 (by decide)])) rfl (inb_in hi) hd (fun H1 locs1 hP1 _ hS1 => kk p e s m args below meth c H1 locs1 la C hz (by
    unfold HP
    rw [← wl_set hI (cell_S hI.2.2) (fun b hb => cell_cong rfl rfl (up2_oth P _ _ hb)), up2_row]
    have e1 : (fun j => (if j = i.toNatClampNeg then some b else P a j).map (q_ E)) = va_up (fun j => (P a j).map (q_ E)) i.toNatClampNeg (some (q_ E b)) := by
      funext j
      by_cases hj : j = i.toNatClampNeg <;> simp [va_up, hj]
    rw [e1]
    exact hP1) hS1 hl)
/-- System.arraycopy, from the first place on -/
theorem r_copyI {a a0 : Nat} {x : Int32} (hI0 : IS T a0 13) (hI : IS T a 13) (hx : ¬ x < 0) (h4 : x.toNatClampNeg ≤ T.2.2 a0) (h5 : x.toNatClampNeg ≤ T.2.2 a) (hR : 1 ≤ R.frames ∧ (st.map fun v => v.category).sum + (nativeFrameWords "java/lang/System" "arraycopy" 5 + 11) ≤ R.locals) (hln : Cond.methodLink M.1.cls idx arraycopyName ∈ tbg) (hnat : Cond.native arraycopyName ∈ tbg) (hstat : Cond.static arraycopyName ∈ tbg) (hini : Cond.initialized "java/lang/System" ∈ tbg) (hd : decode M.2.1 pc = .ok (.invokestatic idx, 3))
    (kk : WW E M R Z kc ks T (va_up I a (va_cpy (I a0) (I a) 0 0 x.toNatClampNeg)) J P (pc + 3) ls st) : WW E M R Z kc ks T I J P pc ls (.int x :: .int 0 :: .ref a :: .int 0 :: .ref a0 :: st) := by
  intro p e s m args below meth c H locs la C hz hH hS hl
  have hts := C.2.2.2.2.2.2.2.1
  exact va_copyi (ty := .int) C.1 C.2.1 (by rw [C.2.2.1]; exact hl.1.symm) C.2.2.2.2.2.2.1 (hts _ hln) (hts _ hnat) (hts _ hstat) (hts _ hini) C.2.2.2.2.2.2.2.2.2.1 hH wl_D hS (a0 - 64) (a - 64) 0 0 ((wl_at hI0).trans (by rw [cell_I hI0.2.2])) ((wl_at hI).trans (by rw [cell_I hI.2.2])) rfl rfl rfl (sp := 0) (dp := 0) (by decide) (by decide) hx (by show 0 + _ ≤ _; omega) (by show 0 + _ ≤ _; omega) (fun i hi => rfl) hR.1 (by rw [cat_cv]; exact hR.2) hd (fun H1 locs1 hP1 _ hS1 => kk p e s m args below meth c H1 locs1 la C hz (by
    unfold HP
    rw [← wl_set hI (cell_I hI.2.2) (fun b hb => cell_cong (va_up_ne _ _ hb) rfl rfl), va_up_self]
    exact hP1) hS1 hl)
theorem r_copyF {a a0 : Nat} {x : Int32} (hI0 : IS T a0 16) (hI : IS T a 16) (hel : ∀ i c, P a0 i = some c → isF T c = true) (hx : ¬ x < 0) (h4 : x.toNatClampNeg ≤ T.2.2 a0) (h5 : x.toNatClampNeg ≤ T.2.2 a) (hR : 1 ≤ R.frames ∧ (st.map fun v => v.category).sum + (nativeFrameWords "java/lang/System" "arraycopy" 5 + 11) ≤ R.locals) (hln : Cond.methodLink M.1.cls idx arraycopyName ∈ tbg) (hnat : Cond.native arraycopyName ∈ tbg) (hstat : Cond.static arraycopyName ∈ tbg) (hini : Cond.initialized "java/lang/System" ∈ tbg) (hd : decode M.2.1 pc = .ok (.invokestatic idx, 3))
    (kk : WW E M R Z kc ks T I J (va_up P a (va_cpy (P a0) (P a) 0 0 x.toNatClampNeg)) (pc + 3) ls st) : WW E M R Z kc ks T I J P pc ls (.int x :: .int 0 :: .ref a :: .int 0 :: .ref a0 :: st) := by
  intro p e s m args below meth c H locs la C hz hH hS hl
  have hts := C.2.2.2.2.2.2.2.1
  refine va_copyM (E0 := RX0) (E1 := RX0) C.1 C.2.1 (by rw [C.2.2.1]; exact hl.1.symm) C.2.2.2.2.2.2.1 (hts _ hln) (hts _ hnat) (hts _ hstat) (hts _ hini) C.2.2.2.2.2.2.2.2.2.1 hH wl_D hS (a0 - 64) (a - 64) 3 3 ((wl_at hI0).trans (by rw [cell_F hI0.2.2])) ((wl_at hI).trans (by rw [cell_F hI.2.2])) rfl rfl (sp := 0) (dp := 0) (by decide) (by decide) hx (by show 0 + _ ≤ _; omega) (by show 0 + _ ≤ _; omega) (fun i hi y hy => ?_) hR.1 (by rw [cat_cv]; exact hR.2) hd (fun H1 locs1 hP1 _ hS1 => kk p e s m args below meth c H1 locs1 la C hz ?_ hS1 hl)
  · obtain ⟨c0, hc0, rfl⟩ := Option.map_eq_some_iff.mp hy
    exact any_F C hH (hel _ _ hc0)
  · unfold HP
    rw [← wl_set hI (cell_F hI.2.2) (fun b hb => cell_cong rfl rfl (va_up_ne _ _ hb)), va_up_self]
    have e1 : (fun j => (va_cpy (P a0) (P a) 0 0 x.toNatClampNeg j).map (q_ E)) = va_cpy (fun j => (P a0 j).map (q_ E)) (fun j => (P a j).map (q_ E)) 0 0 x.toNatClampNeg := by
      funext j
      unfold va_cpy
      split <;> rfl
    rw [e1]
    exact hP1
/-- the table of sines -/
theorem r_sines {ref : String} (hln : Cond.fieldLink M.1.cls idx "FallCards" "SINES" "[I" ∈ tbg) (hd : decode M.2.1 pc = .ok (.getstatic idx, 3)) (kk : WW E M R Z kc ks T I J P (pc + 3) ls (.ref 20 :: st)) : WW E M R Z kc ks T I J P pc ls st :=
  fun p e s m args below meth c H locs la C hz hH hS hl => va_gets C.1 C.2.1 C.2.2.2.2.2.2.2.2.2.2.1 hS C.2.2.2.2.2.2.1 (C.2.2.2.2.2.2.2.1 _ hln) (fun _ h => h) hd (kk p e s m args below meth c H locs la C hz hH hS hl)
theorem r_sinld {i : Int32} (hi : inb i 10 = true) (hd : decode M.2.1 pc = .ok (.iaload, 1)) (kk : WW E M R Z kc ks T I J P (pc + 1) ls (.int (sinV.getD i.toNatClampNeg 0) :: st)) : WW E M R Z kc ks T I J P pc ls (.int i :: .ref 20 :: st) :=
  fun p e s m args below meth c H locs la C hz hH hS hl => va_ti C.1 C.2.1 C.2.2.2.2.2.2.2.2.2.2.2.1 hS (inb_in hi) rfl hd (kk p e s m args below meth c H locs la C hz hH hS hl)
/-- the script -/
theorem r_slen (hd : decode M.2.1 pc = .ok (.arraylength, 1)) (kk : WW E M R Z kc ks T I J P (pc + 1) ls (.int (Int32.ofNat E.2.2.2.2.2.1) :: st)) : WW E M R Z kc ks T I J P pc ls (.ref 21 :: st) :=
  fun p e s m args below meth c H locs la C hz hH hS hl => va_slen C.1 C.2.1 C.2.2.2.2.2.2.2.2.2.2.2.2.2.2.2.2.1 (Nat.lt_of_lt_of_le C.2.2.2.2.2.2.2.2.2.2.2.2.2.2.2.2.2.1 C.2.2.2.2.2.2.2.2.1) (fun z => absurd C.2.2.2.2.2.2.2.2.2.2.2.2.2.2.2.2.2.1 (Nat.not_lt.mpr z)) hS hd (kk p e s m args below meth c H locs la C hz hH hS hl)
theorem r_sld {i : Int32} (hi : inb i E.2.2.2.2.2.1 = true) (hd : decode M.2.1 pc = .ok (.iaload, 1)) (kk : WW E M R Z kc ks T I J P (pc + 1) ls (.int (E.2.2.2.2.2.2 i.toNatClampNeg) :: st)) : WW E M R Z kc ks T I J P pc ls (.int i :: .ref 21 :: st) :=
  fun p e s m args below meth c H locs la C hz hH hS hl => va_sld C.1 C.2.1 C.2.2.2.2.2.2.2.2.2.2.2.2.2.2.2.2.1 (Nat.lt_of_lt_of_le C.2.2.2.2.2.2.2.2.2.2.2.2.2.2.2.2.2.1 C.2.2.2.2.2.2.2.2.1) (fun z => absurd C.2.2.2.2.2.2.2.2.2.2.2.2.2.2.2.2.2.1 (Nat.not_lt.mpr z)) hS (inb_in hi) hd (kk p e s m args below meth c H locs la C hz hH hS hl)
/-- max, min, abs -/
theorem r_max {x y : Int32} (hln : Cond.methodLink M.1.cls idx Lib.Math.max.name ∈ tbg) (hst : Cond.static Lib.Math.max.name ∈ tbg) (hini : Cond.initialized "java/lang/Math" ∈ tbg) (hco : Cond.code Lib.Math.max.name Lib.Math.max.code 2 (some .int) ∈ tbg) (hR : 1 ≤ R.frames ∧ (st.map fun v => v.category).sum + 13 ≤ R.locals ∧ kc ≤ R.cells ∧ ks ≤ R.slots) (hd : decode M.2.1 pc = .ok (.invokestatic idx, 3)) (kk : WW E M R Z kc ks T I J P (pc + 3) ls (.int (if x < y then y else x) :: st)) : WW E M R Z kc ks T I J P pc ls (.int y :: .int x :: st) :=
  fun p e s m args below meth c H locs la C hz hH hS hl => va_mmax C.1 C.2.1 (by rw [C.2.2.1]; exact hl.1.symm) C.2.2.2.2.2.2.1 (C.2.2.2.2.2.2.2.1 _ hln) (C.2.2.2.2.2.2.2.1 _ hst) (C.2.2.2.2.2.2.2.1 _ hini) (C.2.2.2.2.2.2.2.1 _ hco) hR.1 (by rw [cat_cv]; exact hR.2.1) hR.2.2.1 hR.2.2.2 hd (kk p e s m args below meth c H locs la C hz hH hS hl)
theorem r_min {x y : Int32} (hln : Cond.methodLink M.1.cls idx Lib.Math.min.name ∈ tbg) (hst : Cond.static Lib.Math.min.name ∈ tbg) (hini : Cond.initialized "java/lang/Math" ∈ tbg) (hco : Cond.code Lib.Math.min.name Lib.Math.min.code 2 (some .int) ∈ tbg) (hR : 1 ≤ R.frames ∧ (st.map fun v => v.category).sum + 13 ≤ R.locals ∧ kc ≤ R.cells ∧ ks ≤ R.slots) (hd : decode M.2.1 pc = .ok (.invokestatic idx, 3)) (kk : WW E M R Z kc ks T I J P (pc + 3) ls (.int (if y < x then y else x) :: st)) : WW E M R Z kc ks T I J P pc ls (.int y :: .int x :: st) :=
  fun p e s m args below meth c H locs la C hz hH hS hl => va_mmin C.1 C.2.1 (by rw [C.2.2.1]; exact hl.1.symm) C.2.2.2.2.2.2.1 (C.2.2.2.2.2.2.2.1 _ hln) (C.2.2.2.2.2.2.2.1 _ hst) (C.2.2.2.2.2.2.2.1 _ hini) (C.2.2.2.2.2.2.2.1 _ hco) hR.1 (by rw [cat_cv]; exact hR.2.1) hR.2.2.1 hR.2.2.2 hd (kk p e s m args below meth c H locs la C hz hH hS hl)
theorem r_abs {x : Int32} (hln : Cond.methodLink M.1.cls idx Lib.Math.abs.name ∈ tbg) (hst : Cond.static Lib.Math.abs.name ∈ tbg) (hini : Cond.initialized "java/lang/Math" ∈ tbg) (hco : Cond.code Lib.Math.abs.name Lib.Math.abs.code 1 (some .int) ∈ tbg) (hR : 1 ≤ R.frames ∧ (st.map fun v => v.category).sum + 13 ≤ R.locals ∧ kc ≤ R.cells ∧ ks ≤ R.slots) (hd : decode M.2.1 pc = .ok (.invokestatic idx, 3)) (kk : WW E M R Z kc ks T I J P (pc + 3) ls (.int (if 0 ≤ x then x else 0 - x) :: st)) : WW E M R Z kc ks T I J P pc ls (.int x :: st) :=
  fun p e s m args below meth c H locs la C hz hH hS hl => va_mabs C.1 C.2.1 (by rw [C.2.2.1]; exact hl.1.symm) C.2.2.2.2.2.2.1 (C.2.2.2.2.2.2.2.1 _ hln) (C.2.2.2.2.2.2.2.1 _ hst) (C.2.2.2.2.2.2.2.1 _ hini) (C.2.2.2.2.2.2.2.1 _ hco) hR.1 (by rw [cat_cv]; exact hR.2.1) hR.2.2.1 hR.2.2.2 hd (kk p e s m args below meth c H locs la C hz hH hS hl)
theorem r_minL {x y : Int64} (hln : Cond.methodLink M.1.cls idx Lib.MathLoose.min_long.x ∈ tbg) (hst : Cond.static Lib.MathLoose.min_long.x ∈ tbg) (hini : Cond.initialized "java/lang/Math" ∈ tbg) (hco : Cond.code Lib.MathLoose.min_long.x Lib.MathLoose.min_long.code 4 (some .long) ∈ tbg) (hR : 1 ≤ R.frames ∧ (st.map fun v => v.category).sum + 15 ≤ R.locals ∧ kc ≤ R.cells ∧ ks ≤ R.slots) (hd : decode M.2.1 pc = .ok (.invokestatic idx, 3)) (kk : WW E M R Z kc ks T I J P (pc + 3) ls (.long (if y < x then y else x) :: st)) : WW E M R Z kc ks T I J P pc ls (.long y :: .long x :: st) :=
  fun p e s m args below meth c H locs la C hz hH hS hl => va_mmin_long C.1 C.2.1 (by rw [C.2.2.1]; exact hl.1.symm) C.2.2.2.2.2.2.1 (C.2.2.2.2.2.2.2.1 _ hln) (C.2.2.2.2.2.2.2.1 _ hst) (C.2.2.2.2.2.2.2.1 _ hini) (C.2.2.2.2.2.2.2.1 _ hco) hR.1 (by rw [cat_cv]; exact hR.2.1) hR.2.2.1 hR.2.2.2 hd (kk p e s m args below meth c H locs la C hz hH hS hl)
theorem r_absL {x : Int64} (hln : Cond.methodLink M.1.cls idx Lib.MathLoose.abs_long.x ∈ tbg) (hst : Cond.static Lib.MathLoose.abs_long.x ∈ tbg) (hini : Cond.initialized "java/lang/Math" ∈ tbg) (hco : Cond.code Lib.MathLoose.abs_long.x Lib.MathLoose.abs_long.code 2 (some .long) ∈ tbg) (hR : 1 ≤ R.frames ∧ (st.map fun v => v.category).sum + 13 ≤ R.locals ∧ kc ≤ R.cells ∧ ks ≤ R.slots) (hd : decode M.2.1 pc = .ok (.invokestatic idx, 3)) (kk : WW E M R Z kc ks T I J P (pc + 3) ls (.long (if 0 < x then x else -x) :: st)) : WW E M R Z kc ks T I J P pc ls (.long x :: st) :=
  fun p e s m args below meth c H locs la C hz hH hS hl => va_mabs_long C.1 C.2.1 (by rw [C.2.2.1]; exact hl.1.symm) C.2.2.2.2.2.2.1 (C.2.2.2.2.2.2.2.1 _ hln) (C.2.2.2.2.2.2.2.1 _ hst) (C.2.2.2.2.2.2.2.1 _ hini) (C.2.2.2.2.2.2.2.1 _ hco) hR.1 (by rw [cat_cv]; exact hR.2.1) hR.2.2.1 hR.2.2.2 hd (kk p e s m args below meth c H locs la C hz hH hS hl)
/-- a nest mate's private static method -/
theorem r_staticN (hm : MI M' n) (hst : Cond.static M'.1 ∈ tbg) (hown : M.1.cls = RX1) (hln : (idx, M'.1) ∈ nests) (hc : Ctr E M' d' bc' bs' As T I J P v T' I' J' P') (hn : As.length = n) (hstk : stk = As.reverse ++ st) (hcat : (st.map fun v => v.category).sum ≤ 8) (hR : d' + 1 ≤ R.frames ∧ 8 + (M'.2.2.1 + 11) + 37 * d' ≤ R.locals) (hf : kc + bc' ≤ R.cells ∧ ks + bs' ≤ R.slots) (hd : decode M.2.1 pc = .ok (.invokestatic idx, 3))
    (kk : WW E M R Z (kc + bc') (ks + bs') T' I' J' P' (pc + 3) ls (v.toList ++ st)) : WW E M R Z kc ks T I J P pc ls stk := by
  intro p e s m args below meth c H locs la C hz hH hS hl U hU X
  have hsz := size_of C hU X hz hH hS
  have hts := C.2.2.2.2.2.2.2.1
  have hnw := C.2.2.2.2.2.2.2.2.2.2.2.2.2.2.2.2.2.2.2.2.2 _ hln
  subst hstk
  refine callW (st := st) (va_runSN (own := M.1.cls) (host := RX11) (As := As.map (cv E)) ⟨C.1, C.2.1, C.2.2.1, C.2.2.2.2.2.2.1, hts⟩ hc.2 ⟨va_cnB (ws' := tbg) (bytes := M'.2.1) (maxL := M'.2.2.1) (ret := M'.2.2.2) n hts hm.good rfl rfl rfl (by rw [hown]; exact hnw) (hts _ hm.2.1) hm.2.2 hR, hts _ hst, trivial⟩ ⟨pre_blind, pre_at C hsz hH hS⟩ rfl (by rw [List.length_map]; exact hn) hl.1 stk_cv (lv_room (by rw [cat_cv]; exact hcat)) hd hf) C hz hc.1 hS hl kk U hU X
/-- a method that a kind may override: x is named, 'owner' declares it, M' is what a thing of kind ci does -/
theorem r_virtU {r : vw_C} {x : MethodName} {owner : String} {b0 : ByteArray} {m0 : Nat} {r0 : Option FieldType} (hm : MI M' n) (hx : Cond.methodLink M.1.cls idx x ∈ tbg) (hsm : Cond.sameMethod x.cls owner x.name x.desc ∈ tbg) (hio : Cond.instanceMethod ⟨owner, x.name, x.desc⟩ ∈ tbg) (hse : Cond.selects r.1 x M'.1 ∈ tbg) (hin : Cond.instanceMethod M'.1 ∈ tbg) (h0 : Cond.code ⟨owner, x.name, x.desc⟩ b0 m0 r0 ∈ tbg) (hod : owner ≠ "java/lang/invoke/MethodHandle" ∧ owner ≠ "java/lang/invoke/VarHandle" ∧ (parseMethodDescriptor x.desc).map (fun d => d.parameters.length) = some n) (hr : vwCl[ci]? = some r) (hci : ci < 13) (hI : IS T b ci) (hc : Ctr E M' d' bc' bs' (.ref b :: As) T I J P v T' I' J' P') (hn : As.length = n) (hstk : stk = As.reverse ++ .ref b :: st) (hcat : (st.map fun v => v.category).sum ≤ 8) (hR : d' + 1 ≤ R.frames ∧ 8 + (M'.2.2.1 + 11) + 37 * d' ≤ R.locals) (hf : kc + bc' ≤ R.cells ∧ ks + bs' ≤ R.slots) (hd : decode M.2.1 pc = .ok (.invokevirtual idx, 3))
    (kk : WW E M R Z (kc + bc') (ks + bs') T' I' J' P' (pc + 3) ls (v.toList ++ st)) : WW E M R Z kc ks T I J P pc ls stk := by
  intro p e s m args below meth c H locs la C hz hH hS hl U hU X
  have hsz := size_of C hU X hz hH hS
  have hts := C.2.2.2.2.2.2.2.1
  subst hstk
  have hG : GoodIn tbg (va_wsO M.1.cls idx r.1 owner x M'.1 (wsM M')) := by
    intro w hw
    unfold va_wsO at hw
    rcases List.mem_append.mp hw with h | h
    · simp only [List.mem_cons, List.not_mem_nil, or_false] at h
      rcases h with rfl | rfl | rfl | rfl | rfl | rfl
      · exact tbl_goodIn hx
      · exact tbl_goodIn hsm
      · exact tbl_goodIn hio
      · exact tbl_goodIn hse
      · exact tbl_goodIn hin
      · exact tbl_goodIn hm.2.1
    · exact hm.good w h
  refine callW (st := st) (va_runU (C := r.1) (owner := owner) (x := x) (b := q_ E b) (As := As.map (cv E)) ⟨C.1, C.2.1, C.2.2.1, C.2.2.2.2.2.2.1, hts⟩ hc.2 (va_cwO (ws' := tbg) (bytes := M'.2.1) (maxL := M'.2.2.1) (ret := M'.2.2.2) n hts hG rfl rfl rfl h0 hod hR) ⟨pre_blind, va_recv C.2.2.2.2.2.2.2.2.2.1 hH hr ((wl_at hI).trans (by rw [cell_obj hI.2.2 hci])), pre_at (as := .ref b :: As) C hsz hH hS⟩ rfl (by rw [List.length_map]; exact hn) hl.1 stk_cv1 (lv_room (by rw [cat_cv]; exact hcat)) hd hf) C hz hc.1 hS hl kk U hU X
end REST
end
section
/-! instanceof, super.m(..), the texts -/
def isInst (k nm : Nat) : Int32 := if k = nm then 1 else if (k = 2 ∧ nm = 4) ∨ (k = 9 ∧ nm = 8) then 1 else 0
theorem va_callSUp {p : Program} {l : Launch} {e : Env} {R : Room} {s : State} {m : MethodId} {args : Array Value} {below : List Frame} {meth : Method} {c : Code} {T : State} {locs : List Loc} {cells slots : Nat} (X : Stand p l e R s m args below meth c T locs cells slots) (hexec : p.tables.exec = Jvm.exec) {own owner : String} {index : Nat} {x : MethodName} {bytes : ByteArray} {maxL : Nat} {ret : Option FieldType}
    (hown : s.vm.findClass own = some m.cls) (hlink : (Cond.methodLink own index x).before args s = true) (hsame : (Cond.sameMethod x.cls owner x.name x.desc).before args s = true) (hsup : (Cond.superclass own x.cls).before args s = true) (hup : x.cls = owner ∨ (Cond.superclass x.cls owner).before args s = true)
    (hinst : (Cond.instanceMethod ⟨owner, x.name, x.desc⟩).before args s = true) (hcode : (Cond.code ⟨owner, x.name, x.desc⟩ bytes maxL ret).before args s = true) (hno : x.name ≠ "<init>")
    {W : Nat} {Pre : Pt → Array Value → Prop} {Post : Pt → Array Value → Option Value → Pt → Prop} (hK : Back l R p e below s args ⟨owner, x.name, x.desc⟩ 3 W Pre Post)
    {b : Addr} {cellB : Cell} {kB : Class} (hcell : T.heap[b]? = some cellB) (hobj : cellB.vm.isStatics = false) (hkB : s.vm.classes[cellB.cls]? = some kB)
    {g : JFrame} (hg : g.method = m) (hsize : g.locals.size = c.maxLocals) {argsL rest : List Value} (hlen : ∀ sig, parseMethodDescriptor x.desc = some sig → argsL.length = sig.parameters.length)
    (hstack : g.stack = argsL.reverse ++ .ref b :: rest) (hW : 2 * g.monitorRoom + (rest.map fun v => v.category).sum ≤ W) (hdg : decode c.code g.pc = .ok (.invokespecial index, 3))
    (hpre : ∀ vm₁, s.WarmedH vm₁ → Pre ⟨T.setVm vm₁, locs, cells, slots⟩ (Value.ref b :: argsL).toArray) :
    ∃ (v : Option Value) (vm₁ : Vm) (B : Pt), s.WarmedH vm₁ ∧ Stand p l e R s m args below meth c B.U B.locs B.cells B.slots ∧ Post ⟨T.setVm vm₁, locs, cells, slots⟩ (Value.ref b :: argsL).toArray v B ∧
      ∀ target, Steps p.tables e below (B.U.setTop { g with pc := g.pc + 3, stack := v.toList ++ rest }) target → Steps p.tables e below (T.setTop g) target := by
  obtain ⟨mk, methM, hnamed, hmethM, hstM, habM⟩ := Cond.instanceMethod_spec hinst
  obtain ⟨methM', cM, hmethM', -, -, -, -, -, -, hsigM⟩ := Cond.code_spec hnamed hcode
  cases hmethM.symm.trans hmethM'
  obtain ⟨ps, dk, kp, hps, hdk, hkp, hsuper, -, -, hnid⟩ := Cond.superclass_spec hown hsup
  have hmk : s.vm.findClass owner = some mk.cls := findClass_of_methodNamed hnamed
  have hsub : s.vm.isSubclass ps mk.cls = true := by
    rcases hup with hup | hup
    · rw [hup] at hps
      cases hps.symm.trans hmk
      simp [Vm.isSubclass, Vm.isSubclassAux]
    · obtain ⟨ps2, dk2, kp2, hps2, hdk2, hkp2, hsuper2, -, -, -⟩ := Cond.superclass_spec hps hup
      cases hps2.symm.trans hmk
      have hpos : 0 < s.vm.classes.size := Nat.lt_of_le_of_lt (Nat.zero_le _) (Array.getElem?_eq_some_iff.mp hkp2).1
      simp [Vm.isSubclass, Vm.isSubclassAux, hdk2, hsuper2]
      right
      obtain ⟨n, hn⟩ := Nat.exists_eq_succ_of_ne_zero (Nat.ne_of_gt hpos)
      rw [hn]
      simp [Vm.isSubclassAux]
  obtain ⟨vm₁, X₁, hstep₁⟩ := X.invokespecialUp hexec hown hlink hsame hnamed hmethM hstM habM hno hdk hnid hps hsuper hsub (a := b) (cell := cellB) hcell
    (fun z h => by rw [h] at hobj; cases hobj) hkB (g := g) hg (argsL := argsL) (rest := rest) (hlen _ hsigM) hstack hdg
  obtain ⟨v, B, X', hpost, hsteps⟩ := hK m meth c ⟨T.setVm vm₁, locs, cells, slots⟩ { g with stack := rest } (.invokespecial index) mk (Value.ref b :: argsL).toArray X₁ hg hsize hdg hW (X₁.named hnamed) (hpre vm₁ X₁.warmed)
  exact ⟨v, vm₁, B, X₁.warmed, X', hpost, fun target h => hstep₁ _ (by rw [doInvoke_state]; exact hsteps.trans h)⟩
section REST8
variable {E : GE} {M : MD} {R : Room} {Z : State → Array Value → List Frame → State → Prop} {kc ks : Nat} {T T' : TM} {I I' : IM} {J J' : JM} {P P' : PM} {pc : Nat} {ls : List (Nat × Value)} {st stk As : List Value} {v : Option Value} {M' : MD} {n idx d' bc' bs' b ci : Nat}
theorem r_inst {ni : Nat} {r : vw_C} (hni : ni = 2 ∨ ni = 4 ∨ ni = 5 ∨ ni = 8 ∨ ni = 9) (hr : vwCl[ni]? = some r) (hln : Cond.classLink M.1.cls idx r.1 ∈ tbg) (hF : isF T b = true) (hd : decode M.2.1 pc = .ok (.instanceof idx, 3)) (kk : WW E M R Z kc ks T I J P (pc + 3) ls (.int (isInst (T.2.1 b) ni) :: st)) : WW E M R Z kc ks T I J P pc ls (.ref b :: st) := by
  intro p e s m args below meth c H locs la C hz hH hS hl
  have K := kk p e s m args below meth c H locs la C hz hH hS hl
  have hts := C.2.2.2.2.2.2.2.1
  have hST := C.2.2.2.2.2.2.2.2.2
  obtain ⟨ci, hc, h⟩ := isF_of hF
  rw [h.2.2] at K
  have hcas := hST.2.2.2.2.2.2.2.2.2.2.2.1
  have hncs := hST.2.2.2.2.2.2.1
  have rcv : ∀ q : vw_C, vwCl[ci]? = some q → ci < 13 → ∃ cell : Cell, H[q_ E b]? = some cell ∧ cell.vm.isStatics = false ∧ s.vm.findClass q.1 = some cell.cls := fun q hq hci => va_recv hST.1 hH hq ((wl_at h).trans (by rw [cell_obj h.2.2 hci]))
  have yes : ∀ q : vw_C, vwCl[ci]? = some q → ci < 13 → (q.1, r.1) ∈ cas → isInst ci ni = 1 → W p E.1 e R s m args below meth c H locs kc ks (Z s args below) (F0 m pc la (.ref (q_ E b) :: st.map (cv E))) := fun q hq hci hm h1 => va_instY C.1 C.2.1 C.2.2.2.2.2.2.1 (hts _ hln) (hcas _ hm) (rcv q hq hci) hd (by rw [h1] at K; exact K)
  have no : ∀ q : vw_C, vwCl[ci]? = some q → ci < 13 → (q.1, r.1) ∈ ncs → isInst ci ni = 0 → W p E.1 e R s m args below meth c H locs kc ks (Z s args below) (F0 m pc la (.ref (q_ E b) :: st.map (cv E))) := fun q hq hci hm h1 => va_instNo C.1 C.2.1 C.2.2.2.2.2.2.1 (hts _ hln) (hncs _ hm) (rcv q hq hci) hd (by rw [h1] at K; exact K)
  have same : ci = ni → W p E.1 e R s m args below meth c H locs kc ks (Z s args below) (F0 m pc la (.ref (q_ E b) :: st.map (cv E))) := fun e1 => by
    subst e1
    have h1 : isInst ci ci = 1 := by simp [isInst]
    exact va_instS C.1 C.2.1 C.2.2.2.2.2.2.1 (hts _ hln) (hST.1.1 ci r hr).2 (rcv r hr (by rcases hni with rfl | rfl | rfl | rfl | rfl <;> decide)) hd (by rw [h1] at K; exact K)
  simp only [fks, List.mem_cons, List.not_mem_nil, or_false] at hc
  rcases hni with rfl | rfl | rfl | rfl | rfl <;> cases hr <;> rcases hc with rfl | rfl | rfl | rfl | rfl | rfl
  all_goals first
    | exact same rfl
    | exact no _ rfl (by decide) (by simp [ncs]) (by decide)
    | exact yes _ rfl (by decide) (by simp [cas]) (by decide)
/-- super.m(..) -/
theorem r_super {r : vw_C} {x : MethodName} {owner : String} (hm : MI M' n) (hM' : M'.1 = ⟨owner, x.name, x.desc⟩) (hln : Cond.methodLink M.1.cls idx x ∈ tbg) (hsm : Cond.sameMethod x.cls owner x.name x.desc ∈ tbg) (hsp : Cond.superclass M.1.cls x.cls ∈ tbg) (hup : x.cls = owner ∨ Cond.superclass x.cls owner ∈ tbg) (hin : Cond.instanceMethod M'.1 ∈ tbg) (hno : x.name ≠ "<init>") (hr : vwCl[ci]? = some r) (hci : ci < 13) (hI : IS T b ci) (hc : Ctr E M' d' bc' bs' (.ref b :: As) T I J P v T' I' J' P') (hn : As.length = n) (hstk : stk = As.reverse ++ .ref b :: st) (hcat : (st.map fun v => v.category).sum ≤ 8) (hR : d' + 1 ≤ R.frames ∧ 8 + (M'.2.2.1 + 11) + 37 * d' ≤ R.locals) (hf : kc + bc' ≤ R.cells ∧ ks + bs' ≤ R.slots) (hd : decode M.2.1 pc = .ok (.invokespecial idx, 3))
    (kk : WW E M R Z (kc + bc') (ks + bs') T' I' J' P' (pc + 3) ls (v.toList ++ st)) : WW E M R Z kc ks T I J P pc ls stk := by
  intro p e s m args below meth c H locs la C hz hH hS hl U hU X
  have hsz := size_of C hU X hz hH hS
  have hts := C.2.2.2.2.2.2.2.1
  subst hstk
  obtain ⟨cellB, g1, g2, g3⟩ := va_recv C.2.2.2.2.2.2.2.2.2.1 hH hr ((wl_at hI).trans (by rw [cell_obj hI.2.2 hci]))
  obtain ⟨kB, hkB, -⟩ := Vm.findClass_spec g3
  have hcw : CallB R s args M.1.cls idx M'.1 M'.2.1 M'.2.2.1 M'.2.2.2 (wsM M') (RM d' bc' bs') bc' bs' n ∨ True := Or.inr trivial
  have hcode : (Cond.code M'.1 M'.2.1 M'.2.2.1 M'.2.2.2).before args s = true := hts _ hm.1
  have hBk : Back E.1 R p e below s args M'.1 3 8 (PreOf R bc' bs' (va_Pc ((Value.ref b :: As).map (cv E)) (fun U => U.heap.size = E.2.1 + T.1 ∧ ST E U U.heap ∧ HP E T I J P U.heap))) (PostOf (QM E v T' I' J' P') bc' bs' (AA E)) :=
    back_of (bytes := M'.2.1) (maxL := M'.2.2.1) (ret := M'.2.2.2) hc.2 pre_blind rfl rfl hR.1 hR.2 (pay_in hts hm.good) (List.mem_cons_self) (fun a' U hW => word_at hW (Or.inl (by first | rfl | simp [Cond.onTables, Cond.keeps, Cond.steady])) (hts _ hm.2.1))
  rw [hM'] at hBk hcode
  have hrun : va_Run p E.1 e R s m args below meth c H locs kc ks bc' bs' (F0 m pc la ((As.reverse ++ .ref b :: st).map (cv E))) (st.map (cv E)) (QM E v T' I' J' P' ((Value.ref b :: As).map (cv E)).toArray) (AA E) := by
    intro U hU X
    have hl0 : (As.map (cv E)).length = n := by rw [List.length_map]; exact hn
    obtain ⟨v', vm₁, ⟨U', l2, c2, s2⟩, hW₁, X', ⟨g', mk, t, L, e1, e2, hq, h1, hL, h2, h3⟩, stp⟩ := va_callSUp X C.1 (bytes := M'.2.1) (maxL := M'.2.2.1) (ret := M'.2.2.2) C.2.2.2.2.2.2.1 (hts _ hln) (hts _ hsm) (hts _ hsp) (hup.imp_right (fun h => hts _ h)) (by rw [← hM']; exact hts _ hin) hcode hno hBk (b := q_ E b) (by rw [hU]; exact g1) g2 hkB (g := F0 m pc la ((As.reverse ++ .ref b :: st).map (cv E))) rfl (by rw [C.2.2.1]; exact hl.1) (argsL := As.map (cv E)) (rest := st.map (cv E)) (fun sig h => by
        have h4 := hm.2.2.2.2
        rw [hM'] at h4
        rw [h] at h4
        exact hl0.trans (Option.some.inj h4).symm) stk_cv1 (lv_room (by rw [cat_cv]; exact hcat)) (by rw [C.2.1]; exact hd)
      (fun vm₁ hW₁ => ⟨hf.1, hf.2, pre_at (as := .ref b :: As) C hsz hH hS (U.setVm vm₁) hU hW₁⟩)
    dsimp only [Pt.U, Pt.locs, Pt.cells, Pt.slots] at X' e1 e2 h1 h2 h3 stp
    subst h1; subst h2; subst h3
    exact ⟨v', (U.setVm vm₁).calling g' mk ((Value.ref b :: As).map (cv E)).toArray, t, U', L, hU, X', hL, e1, e2, hq, stp⟩
  exact callW (st := st) hrun C hz hc.1 hS hl kk U hU X
end REST8
end
