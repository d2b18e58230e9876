/-! THE FIXED CELLS: what the two constructors make -/
def layL : List (Nat × Nat × Nat) := [(64, 11, 0), (65, 10, 0), (66, 16, 6), (67, 13, 6), (68, 13, 5), (69, 1, 0), (70, 10, 0), (71, 16, 6), (72, 13, 6), (73, 13, 5), (74, 1, 0), (75, 10, 0), (76, 16, 6), (77, 13, 6), (78, 13, 5), (79, 1, 0), (80, 6, 0), (81, 15, 200), (82, 7, 0), (83, 13, 30), (84, 17, 4), (85, 13, 4), (86, 13, 4), (87, 13, 4), (88, 13, 60), (89, 1, 0), (90, 1, 0), (91, 13, 6), (92, 13, 36), (93, 3, 0), (94, 14, 40), (95, 3, 0), (96, 14, 40), (97, 3, 0), (98, 14, 40), (99, 3, 0), (100, 14, 40), (101, 12, 0), (102, 13, 24), (103, 13, 6), (104, 13, 5), (105, 13, 10), (106, 13, 8), (107, 13, 200), (108, 13, 24), (109, 13, 6), (110, 13, 5), (111, 13, 400), (112, 13, 400), (113, 13, 60), (114, 13, 60), (115, 13, 4), (116, 13, 4), (117, 14, 160), (118, 13, 4), (119, 13, 4), (120, 13, 4), (121, 13, 30), (122, 13, 60), (123, 13, 2)]
def layP : List (Nat × Nat × Nat) := [(64, 0, 65), (64, 1, 70), (64, 3, 75), (64, 4, 80), (64, 5, 82), (64, 6, 84), (64, 7, 85), (64, 8, 86), (64, 9, 87), (64, 10, 88), (64, 12, 89), (64, 13, 90), (64, 14, 91), (64, 15, 92), (65, 0, 66), (65, 2, 67), (65, 3, 68), (65, 4, 69), (70, 0, 71), (70, 2, 72), (70, 3, 73), (70, 4, 74), (75, 0, 76), (75, 2, 77), (75, 3, 78), (75, 4, 79), (80, 0, 81), (82, 0, 83), (84, 0, 93), (84, 1, 95), (84, 2, 97), (84, 3, 99), (93, 2, 94), (95, 2, 96), (97, 2, 98), (99, 2, 100), (101, 1, 102), (101, 2, 103), (101, 3, 104), (101, 4, 105), (101, 6, 106), (101, 7, 107), (101, 16, 108), (101, 17, 109), (101, 18, 110), (101, 32, 111), (101, 33, 112), (101, 34, 113), (101, 35, 114), (101, 38, 115), (101, 39, 116), (101, 40, 117), (101, 41, 118), (101, 42, 119), (101, 43, 120), (101, 47, 121), (101, 51, 122), (101, 53, 123)]
def LOK (T : TM) (P : PM) : Prop := (∀ q ∈ layL, IS T q.1 q.2.1 ∧ T.2.2 q.1 = q.2.2) ∧ ∀ q ∈ layP, P q.1 q.2.1 = some q.2.2
theorem ln_64 {T : TM} {P : PM} (h : LOK T P) : IS T 64 11 := (h.1 _ (List.mem_of_getElem? (i := 0) rfl)).1
theorem ln_65 {T : TM} {P : PM} (h : LOK T P) : IS T 65 10 := (h.1 _ (List.mem_of_getElem? (i := 1) rfl)).1
theorem ln_66 {T : TM} {P : PM} (h : LOK T P) : IS T 66 16 := (h.1 _ (List.mem_of_getElem? (i := 2) rfl)).1
theorem nl_66 {T : TM} {P : PM} (h : LOK T P) : T.2.2 66 = 6 := (h.1 _ (List.mem_of_getElem? (i := 2) rfl)).2
theorem ln_67 {T : TM} {P : PM} (h : LOK T P) : IS T 67 13 := (h.1 _ (List.mem_of_getElem? (i := 3) rfl)).1
theorem nl_67 {T : TM} {P : PM} (h : LOK T P) : T.2.2 67 = 6 := (h.1 _ (List.mem_of_getElem? (i := 3) rfl)).2
theorem ln_68 {T : TM} {P : PM} (h : LOK T P) : IS T 68 13 := (h.1 _ (List.mem_of_getElem? (i := 4) rfl)).1
theorem nl_68 {T : TM} {P : PM} (h : LOK T P) : T.2.2 68 = 5 := (h.1 _ (List.mem_of_getElem? (i := 4) rfl)).2
theorem ln_69 {T : TM} {P : PM} (h : LOK T P) : IS T 69 1 := (h.1 _ (List.mem_of_getElem? (i := 5) rfl)).1
theorem ln_70 {T : TM} {P : PM} (h : LOK T P) : IS T 70 10 := (h.1 _ (List.mem_of_getElem? (i := 6) rfl)).1
theorem ln_71 {T : TM} {P : PM} (h : LOK T P) : IS T 71 16 := (h.1 _ (List.mem_of_getElem? (i := 7) rfl)).1
theorem nl_71 {T : TM} {P : PM} (h : LOK T P) : T.2.2 71 = 6 := (h.1 _ (List.mem_of_getElem? (i := 7) rfl)).2
theorem ln_72 {T : TM} {P : PM} (h : LOK T P) : IS T 72 13 := (h.1 _ (List.mem_of_getElem? (i := 8) rfl)).1
theorem nl_72 {T : TM} {P : PM} (h : LOK T P) : T.2.2 72 = 6 := (h.1 _ (List.mem_of_getElem? (i := 8) rfl)).2
theorem ln_73 {T : TM} {P : PM} (h : LOK T P) : IS T 73 13 := (h.1 _ (List.mem_of_getElem? (i := 9) rfl)).1
theorem nl_73 {T : TM} {P : PM} (h : LOK T P) : T.2.2 73 = 5 := (h.1 _ (List.mem_of_getElem? (i := 9) rfl)).2
theorem ln_74 {T : TM} {P : PM} (h : LOK T P) : IS T 74 1 := (h.1 _ (List.mem_of_getElem? (i := 10) rfl)).1
theorem ln_75 {T : TM} {P : PM} (h : LOK T P) : IS T 75 10 := (h.1 _ (List.mem_of_getElem? (i := 11) rfl)).1
theorem ln_76 {T : TM} {P : PM} (h : LOK T P) : IS T 76 16 := (h.1 _ (List.mem_of_getElem? (i := 12) rfl)).1
theorem nl_76 {T : TM} {P : PM} (h : LOK T P) : T.2.2 76 = 6 := (h.1 _ (List.mem_of_getElem? (i := 12) rfl)).2
theorem ln_77 {T : TM} {P : PM} (h : LOK T P) : IS T 77 13 := (h.1 _ (List.mem_of_getElem? (i := 13) rfl)).1
theorem nl_77 {T : TM} {P : PM} (h : LOK T P) : T.2.2 77 = 6 := (h.1 _ (List.mem_of_getElem? (i := 13) rfl)).2
theorem ln_78 {T : TM} {P : PM} (h : LOK T P) : IS T 78 13 := (h.1 _ (List.mem_of_getElem? (i := 14) rfl)).1
theorem nl_78 {T : TM} {P : PM} (h : LOK T P) : T.2.2 78 = 5 := (h.1 _ (List.mem_of_getElem? (i := 14) rfl)).2
theorem ln_79 {T : TM} {P : PM} (h : LOK T P) : IS T 79 1 := (h.1 _ (List.mem_of_getElem? (i := 15) rfl)).1
theorem ln_80 {T : TM} {P : PM} (h : LOK T P) : IS T 80 6 := (h.1 _ (List.mem_of_getElem? (i := 16) rfl)).1
theorem ln_81 {T : TM} {P : PM} (h : LOK T P) : IS T 81 15 := (h.1 _ (List.mem_of_getElem? (i := 17) rfl)).1
theorem nl_81 {T : TM} {P : PM} (h : LOK T P) : T.2.2 81 = 200 := (h.1 _ (List.mem_of_getElem? (i := 17) rfl)).2
theorem ln_82 {T : TM} {P : PM} (h : LOK T P) : IS T 82 7 := (h.1 _ (List.mem_of_getElem? (i := 18) rfl)).1
theorem ln_83 {T : TM} {P : PM} (h : LOK T P) : IS T 83 13 := (h.1 _ (List.mem_of_getElem? (i := 19) rfl)).1
theorem nl_83 {T : TM} {P : PM} (h : LOK T P) : T.2.2 83 = 30 := (h.1 _ (List.mem_of_getElem? (i := 19) rfl)).2
theorem ln_84 {T : TM} {P : PM} (h : LOK T P) : IS T 84 17 := (h.1 _ (List.mem_of_getElem? (i := 20) rfl)).1
theorem nl_84 {T : TM} {P : PM} (h : LOK T P) : T.2.2 84 = 4 := (h.1 _ (List.mem_of_getElem? (i := 20) rfl)).2
theorem ln_85 {T : TM} {P : PM} (h : LOK T P) : IS T 85 13 := (h.1 _ (List.mem_of_getElem? (i := 21) rfl)).1
theorem nl_85 {T : TM} {P : PM} (h : LOK T P) : T.2.2 85 = 4 := (h.1 _ (List.mem_of_getElem? (i := 21) rfl)).2
theorem ln_86 {T : TM} {P : PM} (h : LOK T P) : IS T 86 13 := (h.1 _ (List.mem_of_getElem? (i := 22) rfl)).1
theorem nl_86 {T : TM} {P : PM} (h : LOK T P) : T.2.2 86 = 4 := (h.1 _ (List.mem_of_getElem? (i := 22) rfl)).2
theorem ln_87 {T : TM} {P : PM} (h : LOK T P) : IS T 87 13 := (h.1 _ (List.mem_of_getElem? (i := 23) rfl)).1
theorem nl_87 {T : TM} {P : PM} (h : LOK T P) : T.2.2 87 = 4 := (h.1 _ (List.mem_of_getElem? (i := 23) rfl)).2
theorem ln_88 {T : TM} {P : PM} (h : LOK T P) : IS T 88 13 := (h.1 _ (List.mem_of_getElem? (i := 24) rfl)).1
theorem nl_88 {T : TM} {P : PM} (h : LOK T P) : T.2.2 88 = 60 := (h.1 _ (List.mem_of_getElem? (i := 24) rfl)).2
theorem ln_89 {T : TM} {P : PM} (h : LOK T P) : IS T 89 1 := (h.1 _ (List.mem_of_getElem? (i := 25) rfl)).1
theorem ln_90 {T : TM} {P : PM} (h : LOK T P) : IS T 90 1 := (h.1 _ (List.mem_of_getElem? (i := 26) rfl)).1
theorem ln_91 {T : TM} {P : PM} (h : LOK T P) : IS T 91 13 := (h.1 _ (List.mem_of_getElem? (i := 27) rfl)).1
theorem nl_91 {T : TM} {P : PM} (h : LOK T P) : T.2.2 91 = 6 := (h.1 _ (List.mem_of_getElem? (i := 27) rfl)).2
theorem ln_92 {T : TM} {P : PM} (h : LOK T P) : IS T 92 13 := (h.1 _ (List.mem_of_getElem? (i := 28) rfl)).1
theorem nl_92 {T : TM} {P : PM} (h : LOK T P) : T.2.2 92 = 36 := (h.1 _ (List.mem_of_getElem? (i := 28) rfl)).2
theorem ln_93 {T : TM} {P : PM} (h : LOK T P) : IS T 93 3 := (h.1 _ (List.mem_of_getElem? (i := 29) rfl)).1
theorem ln_94 {T : TM} {P : PM} (h : LOK T P) : IS T 94 14 := (h.1 _ (List.mem_of_getElem? (i := 30) rfl)).1
theorem nl_94 {T : TM} {P : PM} (h : LOK T P) : T.2.2 94 = 40 := (h.1 _ (List.mem_of_getElem? (i := 30) rfl)).2
theorem ln_95 {T : TM} {P : PM} (h : LOK T P) : IS T 95 3 := (h.1 _ (List.mem_of_getElem? (i := 31) rfl)).1
theorem ln_96 {T : TM} {P : PM} (h : LOK T P) : IS T 96 14 := (h.1 _ (List.mem_of_getElem? (i := 32) rfl)).1
theorem nl_96 {T : TM} {P : PM} (h : LOK T P) : T.2.2 96 = 40 := (h.1 _ (List.mem_of_getElem? (i := 32) rfl)).2
theorem ln_97 {T : TM} {P : PM} (h : LOK T P) : IS T 97 3 := (h.1 _ (List.mem_of_getElem? (i := 33) rfl)).1
theorem ln_98 {T : TM} {P : PM} (h : LOK T P) : IS T 98 14 := (h.1 _ (List.mem_of_getElem? (i := 34) rfl)).1
theorem nl_98 {T : TM} {P : PM} (h : LOK T P) : T.2.2 98 = 40 := (h.1 _ (List.mem_of_getElem? (i := 34) rfl)).2
theorem ln_99 {T : TM} {P : PM} (h : LOK T P) : IS T 99 3 := (h.1 _ (List.mem_of_getElem? (i := 35) rfl)).1
theorem ln_100 {T : TM} {P : PM} (h : LOK T P) : IS T 100 14 := (h.1 _ (List.mem_of_getElem? (i := 36) rfl)).1
theorem nl_100 {T : TM} {P : PM} (h : LOK T P) : T.2.2 100 = 40 := (h.1 _ (List.mem_of_getElem? (i := 36) rfl)).2
theorem ln_101 {T : TM} {P : PM} (h : LOK T P) : IS T 101 12 := (h.1 _ (List.mem_of_getElem? (i := 37) rfl)).1
theorem ln_102 {T : TM} {P : PM} (h : LOK T P) : IS T 102 13 := (h.1 _ (List.mem_of_getElem? (i := 38) rfl)).1
theorem nl_102 {T : TM} {P : PM} (h : LOK T P) : T.2.2 102 = 24 := (h.1 _ (List.mem_of_getElem? (i := 38) rfl)).2
theorem ln_103 {T : TM} {P : PM} (h : LOK T P) : IS T 103 13 := (h.1 _ (List.mem_of_getElem? (i := 39) rfl)).1
theorem nl_103 {T : TM} {P : PM} (h : LOK T P) : T.2.2 103 = 6 := (h.1 _ (List.mem_of_getElem? (i := 39) rfl)).2
theorem ln_104 {T : TM} {P : PM} (h : LOK T P) : IS T 104 13 := (h.1 _ (List.mem_of_getElem? (i := 40) rfl)).1
theorem nl_104 {T : TM} {P : PM} (h : LOK T P) : T.2.2 104 = 5 := (h.1 _ (List.mem_of_getElem? (i := 40) rfl)).2
theorem ln_105 {T : TM} {P : PM} (h : LOK T P) : IS T 105 13 := (h.1 _ (List.mem_of_getElem? (i := 41) rfl)).1
theorem nl_105 {T : TM} {P : PM} (h : LOK T P) : T.2.2 105 = 10 := (h.1 _ (List.mem_of_getElem? (i := 41) rfl)).2
theorem ln_106 {T : TM} {P : PM} (h : LOK T P) : IS T 106 13 := (h.1 _ (List.mem_of_getElem? (i := 42) rfl)).1
theorem nl_106 {T : TM} {P : PM} (h : LOK T P) : T.2.2 106 = 8 := (h.1 _ (List.mem_of_getElem? (i := 42) rfl)).2
theorem ln_107 {T : TM} {P : PM} (h : LOK T P) : IS T 107 13 := (h.1 _ (List.mem_of_getElem? (i := 43) rfl)).1
theorem nl_107 {T : TM} {P : PM} (h : LOK T P) : T.2.2 107 = 200 := (h.1 _ (List.mem_of_getElem? (i := 43) rfl)).2
theorem ln_108 {T : TM} {P : PM} (h : LOK T P) : IS T 108 13 := (h.1 _ (List.mem_of_getElem? (i := 44) rfl)).1
theorem nl_108 {T : TM} {P : PM} (h : LOK T P) : T.2.2 108 = 24 := (h.1 _ (List.mem_of_getElem? (i := 44) rfl)).2
theorem ln_109 {T : TM} {P : PM} (h : LOK T P) : IS T 109 13 := (h.1 _ (List.mem_of_getElem? (i := 45) rfl)).1
theorem nl_109 {T : TM} {P : PM} (h : LOK T P) : T.2.2 109 = 6 := (h.1 _ (List.mem_of_getElem? (i := 45) rfl)).2
theorem ln_110 {T : TM} {P : PM} (h : LOK T P) : IS T 110 13 := (h.1 _ (List.mem_of_getElem? (i := 46) rfl)).1
theorem nl_110 {T : TM} {P : PM} (h : LOK T P) : T.2.2 110 = 5 := (h.1 _ (List.mem_of_getElem? (i := 46) rfl)).2
theorem ln_111 {T : TM} {P : PM} (h : LOK T P) : IS T 111 13 := (h.1 _ (List.mem_of_getElem? (i := 47) rfl)).1
theorem nl_111 {T : TM} {P : PM} (h : LOK T P) : T.2.2 111 = 400 := (h.1 _ (List.mem_of_getElem? (i := 47) rfl)).2
theorem ln_112 {T : TM} {P : PM} (h : LOK T P) : IS T 112 13 := (h.1 _ (List.mem_of_getElem? (i := 48) rfl)).1
theorem nl_112 {T : TM} {P : PM} (h : LOK T P) : T.2.2 112 = 400 := (h.1 _ (List.mem_of_getElem? (i := 48) rfl)).2
theorem ln_113 {T : TM} {P : PM} (h : LOK T P) : IS T 113 13 := (h.1 _ (List.mem_of_getElem? (i := 49) rfl)).1
theorem nl_113 {T : TM} {P : PM} (h : LOK T P) : T.2.2 113 = 60 := (h.1 _ (List.mem_of_getElem? (i := 49) rfl)).2
theorem ln_114 {T : TM} {P : PM} (h : LOK T P) : IS T 114 13 := (h.1 _ (List.mem_of_getElem? (i := 50) rfl)).1
theorem nl_114 {T : TM} {P : PM} (h : LOK T P) : T.2.2 114 = 60 := (h.1 _ (List.mem_of_getElem? (i := 50) rfl)).2
theorem ln_115 {T : TM} {P : PM} (h : LOK T P) : IS T 115 13 := (h.1 _ (List.mem_of_getElem? (i := 51) rfl)).1
theorem nl_115 {T : TM} {P : PM} (h : LOK T P) : T.2.2 115 = 4 := (h.1 _ (List.mem_of_getElem? (i := 51) rfl)).2
theorem ln_116 {T : TM} {P : PM} (h : LOK T P) : IS T 116 13 := (h.1 _ (List.mem_of_getElem? (i := 52) rfl)).1
theorem nl_116 {T : TM} {P : PM} (h : LOK T P) : T.2.2 116 = 4 := (h.1 _ (List.mem_of_getElem? (i := 52) rfl)).2
theorem ln_117 {T : TM} {P : PM} (h : LOK T P) : IS T 117 14 := (h.1 _ (List.mem_of_getElem? (i := 53) rfl)).1
theorem nl_117 {T : TM} {P : PM} (h : LOK T P) : T.2.2 117 = 160 := (h.1 _ (List.mem_of_getElem? (i := 53) rfl)).2
theorem ln_118 {T : TM} {P : PM} (h : LOK T P) : IS T 118 13 := (h.1 _ (List.mem_of_getElem? (i := 54) rfl)).1
theorem nl_118 {T : TM} {P : PM} (h : LOK T P) : T.2.2 118 = 4 := (h.1 _ (List.mem_of_getElem? (i := 54) rfl)).2
theorem ln_119 {T : TM} {P : PM} (h : LOK T P) : IS T 119 13 := (h.1 _ (List.mem_of_getElem? (i := 55) rfl)).1
theorem nl_119 {T : TM} {P : PM} (h : LOK T P) : T.2.2 119 = 4 := (h.1 _ (List.mem_of_getElem? (i := 55) rfl)).2
theorem ln_120 {T : TM} {P : PM} (h : LOK T P) : IS T 120 13 := (h.1 _ (List.mem_of_getElem? (i := 56) rfl)).1
theorem nl_120 {T : TM} {P : PM} (h : LOK T P) : T.2.2 120 = 4 := (h.1 _ (List.mem_of_getElem? (i := 56) rfl)).2
theorem ln_121 {T : TM} {P : PM} (h : LOK T P) : IS T 121 13 := (h.1 _ (List.mem_of_getElem? (i := 57) rfl)).1
theorem nl_121 {T : TM} {P : PM} (h : LOK T P) : T.2.2 121 = 30 := (h.1 _ (List.mem_of_getElem? (i := 57) rfl)).2
theorem ln_122 {T : TM} {P : PM} (h : LOK T P) : IS T 122 13 := (h.1 _ (List.mem_of_getElem? (i := 58) rfl)).1
theorem nl_122 {T : TM} {P : PM} (h : LOK T P) : T.2.2 122 = 60 := (h.1 _ (List.mem_of_getElem? (i := 58) rfl)).2
theorem ln_123 {T : TM} {P : PM} (h : LOK T P) : IS T 123 13 := (h.1 _ (List.mem_of_getElem? (i := 59) rfl)).1
theorem nl_123 {T : TM} {P : PM} (h : LOK T P) : T.2.2 123 = 2 := (h.1 _ (List.mem_of_getElem? (i := 59) rfl)).2
theorem pp_64_0 {T : TM} {P : PM} (h : LOK T P) : P 64 0 = some 65 := h.2 _ (List.mem_of_getElem? (i := 0) rfl)
theorem pp_64_1 {T : TM} {P : PM} (h : LOK T P) : P 64 1 = some 70 := h.2 _ (List.mem_of_getElem? (i := 1) rfl)
theorem pp_64_3 {T : TM} {P : PM} (h : LOK T P) : P 64 3 = some 75 := h.2 _ (List.mem_of_getElem? (i := 2) rfl)
theorem pp_64_4 {T : TM} {P : PM} (h : LOK T P) : P 64 4 = some 80 := h.2 _ (List.mem_of_getElem? (i := 3) rfl)
theorem pp_64_5 {T : TM} {P : PM} (h : LOK T P) : P 64 5 = some 82 := h.2 _ (List.mem_of_getElem? (i := 4) rfl)
theorem pp_64_6 {T : TM} {P : PM} (h : LOK T P) : P 64 6 = some 84 := h.2 _ (List.mem_of_getElem? (i := 5) rfl)
theorem pp_64_7 {T : TM} {P : PM} (h : LOK T P) : P 64 7 = some 85 := h.2 _ (List.mem_of_getElem? (i := 6) rfl)
theorem pp_64_8 {T : TM} {P : PM} (h : LOK T P) : P 64 8 = some 86 := h.2 _ (List.mem_of_getElem? (i := 7) rfl)
theorem pp_64_9 {T : TM} {P : PM} (h : LOK T P) : P 64 9 = some 87 := h.2 _ (List.mem_of_getElem? (i := 8) rfl)
theorem pp_64_10 {T : TM} {P : PM} (h : LOK T P) : P 64 10 = some 88 := h.2 _ (List.mem_of_getElem? (i := 9) rfl)
theorem pp_64_12 {T : TM} {P : PM} (h : LOK T P) : P 64 12 = some 89 := h.2 _ (List.mem_of_getElem? (i := 10) rfl)
theorem pp_64_13 {T : TM} {P : PM} (h : LOK T P) : P 64 13 = some 90 := h.2 _ (List.mem_of_getElem? (i := 11) rfl)
theorem pp_64_14 {T : TM} {P : PM} (h : LOK T P) : P 64 14 = some 91 := h.2 _ (List.mem_of_getElem? (i := 12) rfl)
theorem pp_64_15 {T : TM} {P : PM} (h : LOK T P) : P 64 15 = some 92 := h.2 _ (List.mem_of_getElem? (i := 13) rfl)
theorem pp_65_0 {T : TM} {P : PM} (h : LOK T P) : P 65 0 = some 66 := h.2 _ (List.mem_of_getElem? (i := 14) rfl)
theorem pp_65_2 {T : TM} {P : PM} (h : LOK T P) : P 65 2 = some 67 := h.2 _ (List.mem_of_getElem? (i := 15) rfl)
theorem pp_65_3 {T : TM} {P : PM} (h : LOK T P) : P 65 3 = some 68 := h.2 _ (List.mem_of_getElem? (i := 16) rfl)
theorem pp_65_4 {T : TM} {P : PM} (h : LOK T P) : P 65 4 = some 69 := h.2 _ (List.mem_of_getElem? (i := 17) rfl)
theorem pp_70_0 {T : TM} {P : PM} (h : LOK T P) : P 70 0 = some 71 := h.2 _ (List.mem_of_getElem? (i := 18) rfl)
theorem pp_70_2 {T : TM} {P : PM} (h : LOK T P) : P 70 2 = some 72 := h.2 _ (List.mem_of_getElem? (i := 19) rfl)
theorem pp_70_3 {T : TM} {P : PM} (h : LOK T P) : P 70 3 = some 73 := h.2 _ (List.mem_of_getElem? (i := 20) rfl)
theorem pp_70_4 {T : TM} {P : PM} (h : LOK T P) : P 70 4 = some 74 := h.2 _ (List.mem_of_getElem? (i := 21) rfl)
theorem pp_75_0 {T : TM} {P : PM} (h : LOK T P) : P 75 0 = some 76 := h.2 _ (List.mem_of_getElem? (i := 22) rfl)
theorem pp_75_2 {T : TM} {P : PM} (h : LOK T P) : P 75 2 = some 77 := h.2 _ (List.mem_of_getElem? (i := 23) rfl)
theorem pp_75_3 {T : TM} {P : PM} (h : LOK T P) : P 75 3 = some 78 := h.2 _ (List.mem_of_getElem? (i := 24) rfl)
theorem pp_75_4 {T : TM} {P : PM} (h : LOK T P) : P 75 4 = some 79 := h.2 _ (List.mem_of_getElem? (i := 25) rfl)
theorem pp_80_0 {T : TM} {P : PM} (h : LOK T P) : P 80 0 = some 81 := h.2 _ (List.mem_of_getElem? (i := 26) rfl)
theorem pp_82_0 {T : TM} {P : PM} (h : LOK T P) : P 82 0 = some 83 := h.2 _ (List.mem_of_getElem? (i := 27) rfl)
theorem pp_84_0 {T : TM} {P : PM} (h : LOK T P) : P 84 0 = some 93 := h.2 _ (List.mem_of_getElem? (i := 28) rfl)
theorem pp_84_1 {T : TM} {P : PM} (h : LOK T P) : P 84 1 = some 95 := h.2 _ (List.mem_of_getElem? (i := 29) rfl)
theorem pp_84_2 {T : TM} {P : PM} (h : LOK T P) : P 84 2 = some 97 := h.2 _ (List.mem_of_getElem? (i := 30) rfl)
theorem pp_84_3 {T : TM} {P : PM} (h : LOK T P) : P 84 3 = some 99 := h.2 _ (List.mem_of_getElem? (i := 31) rfl)
theorem pp_93_2 {T : TM} {P : PM} (h : LOK T P) : P 93 2 = some 94 := h.2 _ (List.mem_of_getElem? (i := 32) rfl)
theorem pp_95_2 {T : TM} {P : PM} (h : LOK T P) : P 95 2 = some 96 := h.2 _ (List.mem_of_getElem? (i := 33) rfl)
theorem pp_97_2 {T : TM} {P : PM} (h : LOK T P) : P 97 2 = some 98 := h.2 _ (List.mem_of_getElem? (i := 34) rfl)
theorem pp_99_2 {T : TM} {P : PM} (h : LOK T P) : P 99 2 = some 100 := h.2 _ (List.mem_of_getElem? (i := 35) rfl)
theorem pp_101_1 {T : TM} {P : PM} (h : LOK T P) : P 101 1 = some 102 := h.2 _ (List.mem_of_getElem? (i := 36) rfl)
theorem pp_101_2 {T : TM} {P : PM} (h : LOK T P) : P 101 2 = some 103 := h.2 _ (List.mem_of_getElem? (i := 37) rfl)
theorem pp_101_3 {T : TM} {P : PM} (h : LOK T P) : P 101 3 = some 104 := h.2 _ (List.mem_of_getElem? (i := 38) rfl)
theorem pp_101_4 {T : TM} {P : PM} (h : LOK T P) : P 101 4 = some 105 := h.2 _ (List.mem_of_getElem? (i := 39) rfl)
theorem pp_101_6 {T : TM} {P : PM} (h : LOK T P) : P 101 6 = some 106 := h.2 _ (List.mem_of_getElem? (i := 40) rfl)
theorem pp_101_7 {T : TM} {P : PM} (h : LOK T P) : P 101 7 = some 107 := h.2 _ (List.mem_of_getElem? (i := 41) rfl)
theorem pp_101_16 {T : TM} {P : PM} (h : LOK T P) : P 101 16 = some 108 := h.2 _ (List.mem_of_getElem? (i := 42) rfl)
theorem pp_101_17 {T : TM} {P : PM} (h : LOK T P) : P 101 17 = some 109 := h.2 _ (List.mem_of_getElem? (i := 43) rfl)
theorem pp_101_18 {T : TM} {P : PM} (h : LOK T P) : P 101 18 = some 110 := h.2 _ (List.mem_of_getElem? (i := 44) rfl)
theorem pp_101_32 {T : TM} {P : PM} (h : LOK T P) : P 101 32 = some 111 := h.2 _ (List.mem_of_getElem? (i := 45) rfl)
theorem pp_101_33 {T : TM} {P : PM} (h : LOK T P) : P 101 33 = some 112 := h.2 _ (List.mem_of_getElem? (i := 46) rfl)
theorem pp_101_34 {T : TM} {P : PM} (h : LOK T P) : P 101 34 = some 113 := h.2 _ (List.mem_of_getElem? (i := 47) rfl)
theorem pp_101_35 {T : TM} {P : PM} (h : LOK T P) : P 101 35 = some 114 := h.2 _ (List.mem_of_getElem? (i := 48) rfl)
theorem pp_101_38 {T : TM} {P : PM} (h : LOK T P) : P 101 38 = some 115 := h.2 _ (List.mem_of_getElem? (i := 49) rfl)
theorem pp_101_39 {T : TM} {P : PM} (h : LOK T P) : P 101 39 = some 116 := h.2 _ (List.mem_of_getElem? (i := 50) rfl)
theorem pp_101_40 {T : TM} {P : PM} (h : LOK T P) : P 101 40 = some 117 := h.2 _ (List.mem_of_getElem? (i := 51) rfl)
theorem pp_101_41 {T : TM} {P : PM} (h : LOK T P) : P 101 41 = some 118 := h.2 _ (List.mem_of_getElem? (i := 52) rfl)
theorem pp_101_42 {T : TM} {P : PM} (h : LOK T P) : P 101 42 = some 119 := h.2 _ (List.mem_of_getElem? (i := 53) rfl)
theorem pp_101_43 {T : TM} {P : PM} (h : LOK T P) : P 101 43 = some 120 := h.2 _ (List.mem_of_getElem? (i := 54) rfl)
theorem pp_101_47 {T : TM} {P : PM} (h : LOK T P) : P 101 47 = some 121 := h.2 _ (List.mem_of_getElem? (i := 55) rfl)
theorem pp_101_51 {T : TM} {P : PM} (h : LOK T P) : P 101 51 = some 122 := h.2 _ (List.mem_of_getElem? (i := 56) rfl)
theorem pp_101_53 {T : TM} {P : PM} (h : LOK T P) : P 101 53 = some 123 := h.2 _ (List.mem_of_getElem? (i := 57) rfl)
def isW (w : Nat) : Prop := w = 65 ∨ w = 70 ∨ w = 75
def isS (s : Nat) : Prop := s = 93 ∨ s = 95 ∨ s = 97 ∨ s = 99

theorem wn_0 {T : TM} {P : PM} {w : Nat} (h : LOK T P) (hw : isW w) : IS T w 10 := by
  rcases hw with rfl | rfl | rfl
  · exact ln_65 h
  · exact ln_70 h
  · exact ln_75 h
theorem wn_1 {T : TM} {P : PM} {w : Nat} (h : LOK T P) (hw : isW w) : IS T (w + 1) 16 := by
  rcases hw with rfl | rfl | rfl
  · exact ln_66 h
  · exact ln_71 h
  · exact ln_76 h
theorem wl_1 {T : TM} {P : PM} {w : Nat} (h : LOK T P) (hw : isW w) : T.2.2 (w + 1) = 6 := by
  rcases hw with rfl | rfl | rfl
  · exact nl_66 h
  · exact nl_71 h
  · exact nl_76 h
theorem wn_2 {T : TM} {P : PM} {w : Nat} (h : LOK T P) (hw : isW w) : IS T (w + 2) 13 := by
  rcases hw with rfl | rfl | rfl
  · exact ln_67 h
  · exact ln_72 h
  · exact ln_77 h
theorem wl_2 {T : TM} {P : PM} {w : Nat} (h : LOK T P) (hw : isW w) : T.2.2 (w + 2) = 6 := by
  rcases hw with rfl | rfl | rfl
  · exact nl_67 h
  · exact nl_72 h
  · exact nl_77 h
theorem wn_3 {T : TM} {P : PM} {w : Nat} (h : LOK T P) (hw : isW w) : IS T (w + 3) 13 := by
  rcases hw with rfl | rfl | rfl
  · exact ln_68 h
  · exact ln_73 h
  · exact ln_78 h
theorem wl_3 {T : TM} {P : PM} {w : Nat} (h : LOK T P) (hw : isW w) : T.2.2 (w + 3) = 5 := by
  rcases hw with rfl | rfl | rfl
  · exact nl_68 h
  · exact nl_73 h
  · exact nl_78 h
theorem wn_4 {T : TM} {P : PM} {w : Nat} (h : LOK T P) (hw : isW w) : IS T (w + 4) 1 := by
  rcases hw with rfl | rfl | rfl
  · exact ln_69 h
  · exact ln_74 h
  · exact ln_79 h
theorem wp_0 {T : TM} {P : PM} {w : Nat} (h : LOK T P) (hw : isW w) : P w 0 = some (w + 1) := by
  rcases hw with rfl | rfl | rfl
  · exact pp_65_0 h
  · exact pp_70_0 h
  · exact pp_75_0 h
theorem wp_2 {T : TM} {P : PM} {w : Nat} (h : LOK T P) (hw : isW w) : P w 2 = some (w + 2) := by
  rcases hw with rfl | rfl | rfl
  · exact pp_65_2 h
  · exact pp_70_2 h
  · exact pp_75_2 h
theorem wp_3 {T : TM} {P : PM} {w : Nat} (h : LOK T P) (hw : isW w) : P w 3 = some (w + 3) := by
  rcases hw with rfl | rfl | rfl
  · exact pp_65_3 h
  · exact pp_70_3 h
  · exact pp_75_3 h
theorem wp_4 {T : TM} {P : PM} {w : Nat} (h : LOK T P) (hw : isW w) : P w 4 = some (w + 4) := by
  rcases hw with rfl | rfl | rfl
  · exact pp_65_4 h
  · exact pp_70_4 h
  · exact pp_75_4 h
theorem sn_0 {T : TM} {P : PM} {s : Nat} (h : LOK T P) (hs : isS s) : IS T s 3 := by
  rcases hs with rfl | rfl | rfl | rfl
  · exact ln_93 h
  · exact ln_95 h
  · exact ln_97 h
  · exact ln_99 h
theorem sn_1 {T : TM} {P : PM} {s : Nat} (h : LOK T P) (hs : isS s) : IS T (s + 1) 14 := by
  rcases hs with rfl | rfl | rfl | rfl
  · exact ln_94 h
  · exact ln_96 h
  · exact ln_98 h
  · exact ln_100 h
theorem sl_1 {T : TM} {P : PM} {s : Nat} (h : LOK T P) (hs : isS s) : T.2.2 (s + 1) = 40 := by
  rcases hs with rfl | rfl | rfl | rfl
  · exact nl_94 h
  · exact nl_96 h
  · exact nl_98 h
  · exact nl_100 h
theorem sp_2 {T : TM} {P : PM} {s : Nat} (h : LOK T P) (hs : isS s) : P s 2 = some (s + 1) := by
  rcases hs with rfl | rfl | rfl | rfl
  · exact pp_93_2 h
  · exact pp_95_2 h
  · exact pp_97_2 h
  · exact pp_99_2 h
theorem inb_lt {i : Int32} {n : Nat} (h : inb i n = true) : i.toNatClampNeg < n := Nat.not_le.mp fun q => (inb_in h) (Or.inr q)
theorem sh_of {T : TM} {P : PM} {i : Int32} {s : Nat} (h : LOK T P) (hi : inb i 4 = true) (hs : P 84 i.toNatClampNeg = some s) : isS s := by
  have h4 := inb_lt hi
  generalize i.toNatClampNeg = j at hs h4
  have : j = 0 ∨ j = 1 ∨ j = 2 ∨ j = 3 := by omega
  rcases this with rfl | rfl | rfl | rfl
  · rw [pp_84_0 h] at hs; cases hs; exact Or.inl rfl
  · rw [pp_84_1 h] at hs; cases hs; exact Or.inr (Or.inl rfl)
  · rw [pp_84_2 h] at hs; cases hs; exact Or.inr (Or.inr (Or.inl rfl))
  · rw [pp_84_3 h] at hs; cases hs; exact Or.inr (Or.inr (Or.inr rfl))
theorem lay_kinds : ∀ q ∈ layP, ∃ k, (q.1, k, (layL.filterMap (fun r => if r.1 = q.1 then some r.2.2 else none)).headD 0) ∈ layL ∧ k ≠ 1 ∧ k ≠ 16 := by
  have h : ∀ q ∈ layP, (layL.any (fun r => r.1 == q.1 && (r.2.1 != 1 && (r.2.1 != 16 && r.2.2 == (layL.filterMap (fun r => if r.1 = q.1 then some r.2.2 else none)).headD 0)))) = true := by decide +kernel
  intro q hq
  obtain ⟨r, hr, hb⟩ := List.any_eq_true.mp (h q hq)
  simp only [Bool.and_eq_true, beq_iff_eq, bne_iff_ne, ne_eq] at hb
  obtain ⟨r1, r2, r3⟩ := r
  obtain ⟨h1, h2, h3, h4⟩ := hb
  exact ⟨r2, by rw [← h1, ← h4] at *; simpa [h1, h4] using hr, h2, h3⟩
theorem LOK.ne {T : TM} {P : PM} {a k : Nat} (h : LOK T P) (ha : IS T a k) (hk : k = 1 ∨ k = 16) : ∀ q ∈ layP, q.1 ≠ a := by
  intro q hq e
  obtain ⟨k2, hm, h1, h16⟩ := lay_kinds q hq
  have h2 := (h.1 _ hm).1.2.2
  simp only at h2
  rw [e, ha.2.2] at h2
  rcases hk with rfl | rfl
  · exact h1 h2.symm
  · exact h16 h2.symm
theorem LOK.up {T : TM} {P : PM} {a k j : Nat} {v : Option Nat} (h : LOK T P) (ha : IS T a k) (hk : k = 1 ∨ k = 16) : LOK T (up2 P a j v) := ⟨h.1, fun q hq => by
  rw [up2_oth P j v (h.ne ha hk q hq)]
  exact h.2 q hq⟩
theorem LOK.row {T : TM} {P : PM} {a k : Nat} {v : Nat → Option Nat} (h : LOK T P) (ha : IS T a k) (hk : k = 1 ∨ k = 16) : LOK T (va_up P a v) := ⟨h.1, fun q hq => by
  rw [va_up_ne _ _ (h.ne ha hk q hq)]
  exact h.2 q hq⟩
theorem IS.new {T : TM} {a k k2 n : Nat} (h : IS T a k) : IS (nT T k2 n) a k := ⟨h.1, by have := h.2.1; show a < 64 + (T.1 + 1); omega, by rw [show (nT T k2 n).2.1 = va_up T.2.1 (64 + T.1) k2 from rfl, va_up_ne _ _ (by have := h.2.1; omega)]; exact h.2.2⟩
theorem IS.fresh {T : TM} {k n : Nat} : IS (nT T k n) (64 + T.1) k := ⟨by omega, by show 64 + T.1 < 64 + (T.1 + 1); omega, va_up_self _ _ _⟩
theorem LOK.new {T : TM} {P : PM} {k n : Nat} (h : LOK T P) : LOK (nT T k n) (nP0 T P) := by
  refine ⟨fun q hq => ⟨(h.1 q hq).1.new, ?_⟩, fun q hq => ?_⟩
  · rw [show (nT T k n).2.2 = va_up T.2.2 (64 + T.1) n from rfl, va_up_ne _ _ (by have := (h.1 q hq).1.2.1; omega)]
    exact (h.1 q hq).2
  · obtain ⟨k2, hm, -, -⟩ := lay_kinds q hq
    have := (h.1 _ hm).1.2.1
    simp only at this
    rw [show nP0 T P = va_up P (64 + T.1) (fun _ => none) from rfl, va_up_ne _ _ (by omega)]
    exact h.2 q hq
/-! words of the decompiled text -/
def letb {α β : Type} (x : α) (f : α → β) : β := f x
def osel {α : Type} (o : Option Nat) (a : α) (f : Nat → α) : α := match o with
  | none => a
  | some c => f c
theorem osel_n {α : Type} {o : Option Nat} {a : α} {f : Nat → α} (h : o = none) : osel o a f = a := by subst h; rfl
theorem osel_s {α : Type} {o : Option Nat} {a : α} {f : Nat → α} {c : Nat} (h : o = some c) : osel o a f = f c := by subst h; rfl
theorem gd {α : Type} {c : Prop} [Decidable c] {a : Option α} {r : α} (h : (if c then a else none) = some r) : c ∧ a = some r := by
  by_cases hc : c
  · rw [if_pos hc] at h; exact ⟨hc, h⟩
  · rw [if_neg hc] at h; cases h
theorem bnd {α β : Type} {o : Option α} {f : α → Option β} {r : β} (h : o.bind f = some r) : ∃ x, o = some x ∧ f x = some r := Option.bind_eq_some_iff.mp h
theorem tw {α : Type} {c : Prop} [Decidable c] {a b r : α} (h : (if c then a else b) = r) (hc : c) : a = r := (if_pos hc).symm.trans h
theorem fw {α : Type} {c : Prop} [Decidable c] {a b r : α} (h : (if c then a else b) = r) (hc : ¬ c) : b = r := (if_neg hc).symm.trans h
theorem nN {c : Prop} (h : c) : ¬ ¬ c := fun z => z h
theorem nei {x c : Int32} (k : Int) (hk : c.toInt = k) (h : ¬ x = c) : x.toInt ≠ k := fun e => h (Int32.toInt_inj.mp (e.trans hk.symm))
section LETS
variable {E : GE} {M : MD} {R : Room} {Z : State → Array Value → List Frame → State → Prop} {kc ks : Nat} {T : TM} {I : IM} {J : JM} {P : PM} {pc : Nat} {ls : List (Nat × Value)} {st : List Value} {β : Type} {r : β}
theorem r_letI {f : IM → β} (h : letb I f = r) (k : ∀ I2 : IM, f I2 = r → WW E M R Z kc ks T I2 J P pc ls st) : WW E M R Z kc ks T I J P pc ls st := k I h
theorem r_letJ {f : JM → β} (h : letb J f = r) (k : ∀ J2 : JM, f J2 = r → WW E M R Z kc ks T I J2 P pc ls st) : WW E M R Z kc ks T I J P pc ls st := k J h
theorem r_letP {f : PM → β} (h : letb P f = r) (k : ∀ P2 : PM, P2 = P → f P2 = r → WW E M R Z kc ks T I J P2 pc ls st) : WW E M R Z kc ks T I J P pc ls st := k P rfl h
theorem r_letV {x : Int32} {f : Int32 → β} (h : letb x f = r) (k : ∀ y : Int32, f y = r → WW E M R Z kc ks T I J P pc ls (.int y :: st)) : WW E M R Z kc ks T I J P pc ls (.int x :: st) := k x h
theorem r_letL {x : Int64} {f : Int64 → β} (h : letb x f = r) (k : ∀ y : Int64, f y = r → WW E M R Z kc ks T I J P pc ls (.long y :: st)) : WW E M R Z kc ks T I J P pc ls (.long x :: st) := k x h
theorem r_pc {pc2 : Nat} (h : pc = pc2) (k : WW E M R Z kc ks T I J P pc2 ls st) : WW E M R Z kc ks T I J P pc ls st := h ▸ k
end LETS

