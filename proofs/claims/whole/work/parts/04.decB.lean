theorem dX11_init_0 : decode cX11_init 0 = .ok (.aload_n 0, 1) := by decide +kernel
theorem dX11_init_1 : decode cX11_init 1 = .ok (.invokespecial 1, 3) := by decide +kernel
theorem dX11_init_4 : decode cX11_init 4 = .ok (.aload_n 0, 1) := by decide +kernel
theorem dX11_init_5 : decode cX11_init 5 = .ok (.new 7, 3) := by decide +kernel
theorem dX11_init_8 : decode cX11_init 8 = .ok (.dup, 1) := by decide +kernel
theorem dX11_init_9 : decode cX11_init 9 = .ok (.invokespecial 9, 3) := by decide +kernel
theorem dX11_init_12 : decode cX11_init 12 = .ok (.putfield 10, 3) := by decide +kernel
theorem dX11_init_15 : decode cX11_init 15 = .ok (.aload_n 0, 1) := by decide +kernel
theorem dX11_init_16 : decode cX11_init 16 = .ok (.new 7, 3) := by decide +kernel
theorem dX11_init_19 : decode cX11_init 19 = .ok (.dup, 1) := by decide +kernel
theorem dX11_init_20 : decode cX11_init 20 = .ok (.invokespecial 9, 3) := by decide +kernel
theorem dX11_init_23 : decode cX11_init 23 = .ok (.putfield 16, 3) := by decide +kernel
theorem dX11_init_26 : decode cX11_init 26 = .ok (.aload_n 0, 1) := by decide +kernel
theorem dX11_init_27 : decode cX11_init 27 = .ok (.new 7, 3) := by decide +kernel
theorem dX11_init_30 : decode cX11_init 30 = .ok (.dup, 1) := by decide +kernel
theorem dX11_init_31 : decode cX11_init 31 = .ok (.invokespecial 9, 3) := by decide +kernel
theorem dX11_init_34 : decode cX11_init 34 = .ok (.putfield 19, 3) := by decide +kernel
theorem dX11_init_37 : decode cX11_init 37 = .ok (.aload_n 0, 1) := by decide +kernel
theorem dX11_init_38 : decode cX11_init 38 = .ok (.new 22, 3) := by decide +kernel
theorem dX11_init_41 : decode cX11_init 41 = .ok (.dup, 1) := by decide +kernel
theorem dX11_init_42 : decode cX11_init 42 = .ok (.invokespecial 24, 3) := by decide +kernel
theorem dX11_init_45 : decode cX11_init 45 = .ok (.putfield 25, 3) := by decide +kernel
theorem dX11_init_48 : decode cX11_init 48 = .ok (.aload_n 0, 1) := by decide +kernel
theorem dX11_init_49 : decode cX11_init 49 = .ok (.new 29, 3) := by decide +kernel
theorem dX11_init_52 : decode cX11_init 52 = .ok (.dup, 1) := by decide +kernel
theorem dX11_init_53 : decode cX11_init 53 = .ok (.invokespecial 31, 3) := by decide +kernel
theorem dX11_init_56 : decode cX11_init 56 = .ok (.putfield 32, 3) := by decide +kernel
theorem dX11_init_59 : decode cX11_init 59 = .ok (.aload_n 0, 1) := by decide +kernel
theorem dX11_init_60 : decode cX11_init 60 = .ok (.iconst 4, 1) := by decide +kernel
theorem dX11_init_61 : decode cX11_init 61 = .ok (.anewarray 36, 3) := by decide +kernel
theorem dX11_init_64 : decode cX11_init 64 = .ok (.putfield 38, 3) := by decide +kernel
theorem dX11_init_67 : decode cX11_init 67 = .ok (.aload_n 0, 1) := by decide +kernel
theorem dX11_init_68 : decode cX11_init 68 = .ok (.iconst 4, 1) := by decide +kernel
theorem dX11_init_69 : decode cX11_init 69 = .ok (.newarray .int, 2) := by decide +kernel
theorem dX11_init_71 : decode cX11_init 71 = .ok (.putfield 42, 3) := by decide +kernel
theorem dX11_init_74 : decode cX11_init 74 = .ok (.aload_n 0, 1) := by decide +kernel
theorem dX11_init_75 : decode cX11_init 75 = .ok (.iconst 4, 1) := by decide +kernel
theorem dX11_init_76 : decode cX11_init 76 = .ok (.newarray .int, 2) := by decide +kernel
theorem dX11_init_78 : decode cX11_init 78 = .ok (.putfield 46, 3) := by decide +kernel
theorem dX11_init_81 : decode cX11_init 81 = .ok (.aload_n 0, 1) := by decide +kernel
theorem dX11_init_82 : decode cX11_init 82 = .ok (.iconst 4, 1) := by decide +kernel
theorem dX11_init_83 : decode cX11_init 83 = .ok (.newarray .int, 2) := by decide +kernel
theorem dX11_init_85 : decode cX11_init 85 = .ok (.putfield 49, 3) := by decide +kernel
theorem dX11_init_88 : decode cX11_init 88 = .ok (.aload_n 0, 1) := by decide +kernel
theorem dX11_init_89 : decode cX11_init 89 = .ok (.bipush 60, 2) := by decide +kernel
theorem dX11_init_91 : decode cX11_init 91 = .ok (.newarray .int, 2) := by decide +kernel
theorem dX11_init_93 : decode cX11_init 93 = .ok (.putfield 52, 3) := by decide +kernel
theorem dX11_init_96 : decode cX11_init 96 = .ok (.aload_n 0, 1) := by decide +kernel
theorem dX11_init_97 : decode cX11_init 97 = .ok (.new 55, 3) := by decide +kernel
theorem dX11_init_100 : decode cX11_init 100 = .ok (.dup, 1) := by decide +kernel
theorem dX11_init_101 : decode cX11_init 101 = .ok (.invokespecial 57, 3) := by decide +kernel
theorem dX11_init_104 : decode cX11_init 104 = .ok (.putfield 58, 3) := by decide +kernel
theorem dX11_init_107 : decode cX11_init 107 = .ok (.aload_n 0, 1) := by decide +kernel
theorem dX11_init_108 : decode cX11_init 108 = .ok (.new 55, 3) := by decide +kernel
theorem dX11_init_111 : decode cX11_init 111 = .ok (.dup, 1) := by decide +kernel
theorem dX11_init_112 : decode cX11_init 112 = .ok (.invokespecial 57, 3) := by decide +kernel
theorem dX11_init_115 : decode cX11_init 115 = .ok (.putfield 62, 3) := by decide +kernel
theorem dX11_init_118 : decode cX11_init 118 = .ok (.aload_n 0, 1) := by decide +kernel
theorem dX11_init_119 : decode cX11_init 119 = .ok (.bipush 6, 2) := by decide +kernel
theorem dX11_init_121 : decode cX11_init 121 = .ok (.newarray .int, 2) := by decide +kernel
theorem dX11_init_123 : decode cX11_init 123 = .ok (.putfield 65, 3) := by decide +kernel
theorem dX11_init_126 : decode cX11_init 126 = .ok (.aload_n 0, 1) := by decide +kernel
theorem dX11_init_127 : decode cX11_init 127 = .ok (.bipush 36, 2) := by decide +kernel
theorem dX11_init_129 : decode cX11_init 129 = .ok (.newarray .int, 2) := by decide +kernel
theorem dX11_init_131 : decode cX11_init 131 = .ok (.putfield 68, 3) := by decide +kernel
theorem dX11_init_134 : decode cX11_init 134 = .ok (.iconst 0, 1) := by decide +kernel
theorem dX11_init_135 : decode cX11_init 135 = .ok (.istore_n 1, 1) := by decide +kernel
theorem dX11_init_136 : decode cX11_init 136 = .ok (.iload_n 1, 1) := by decide +kernel
theorem dX11_init_137 : decode cX11_init 137 = .ok (.aload_n 0, 1) := by decide +kernel
theorem dX11_init_138 : decode cX11_init 138 = .ok (.getfield 38, 3) := by decide +kernel
theorem dX11_init_141 : decode cX11_init 141 = .ok (.arraylength, 1) := by decide +kernel
theorem dX11_init_142 : decode cX11_init 142 = .ok (.if_icmp .ge 22, 3) := by decide +kernel
theorem dX11_init_145 : decode cX11_init 145 = .ok (.aload_n 0, 1) := by decide +kernel
theorem dX11_init_146 : decode cX11_init 146 = .ok (.getfield 38, 3) := by decide +kernel
theorem dX11_init_149 : decode cX11_init 149 = .ok (.iload_n 1, 1) := by decide +kernel
theorem dX11_init_150 : decode cX11_init 150 = .ok (.new 36, 3) := by decide +kernel
theorem dX11_init_153 : decode cX11_init 153 = .ok (.dup, 1) := by decide +kernel
theorem dX11_init_154 : decode cX11_init 154 = .ok (.invokespecial 71, 3) := by decide +kernel
theorem dX11_init_157 : decode cX11_init 157 = .ok (.aastore, 1) := by decide +kernel
theorem dX11_init_158 : decode cX11_init 158 = .ok (.iinc 1 1, 3) := by decide +kernel
theorem dX11_init_161 : decode cX11_init 161 = .ok (.goto (-25), 3) := by decide +kernel
theorem dX11_init_164 : decode cX11_init 164 = .ok (.return_, 1) := by decide +kernel
theorem dX11_feed_0 : decode cX11_feed 0 = .ok (.iload_n 3, 1) := by decide +kernel
theorem dX11_feed_1 : decode cX11_feed 1 = .ok (.iconst 1, 1) := by decide +kernel
theorem dX11_feed_2 : decode cX11_feed 2 = .ok (.if_icmp .lt 9, 3) := by decide +kernel
theorem dX11_feed_5 : decode cX11_feed 5 = .ok (.iload_n 3, 1) := by decide +kernel
theorem dX11_feed_6 : decode cX11_feed 6 = .ok (.bipush 8, 2) := by decide +kernel
theorem dX11_feed_8 : decode cX11_feed 8 = .ok (.if_icmp .le 5, 3) := by decide +kernel
theorem dX11_feed_11 : decode cX11_feed 11 = .ok (.iconst (-1), 1) := by decide +kernel
theorem dX11_feed_12 : decode cX11_feed 12 = .ok (.ireturn, 1) := by decide +kernel
theorem dX11_feed_13 : decode cX11_feed 13 = .ok (.aload_n 0, 1) := by decide +kernel
theorem dX11_feed_14 : decode cX11_feed 14 = .ok (.getfield 25, 3) := by decide +kernel
theorem dX11_feed_17 : decode cX11_feed 17 = .ok (.lload_n 1, 1) := by decide +kernel
theorem dX11_feed_18 : decode cX11_feed 18 = .ok (.iload_n 3, 1) := by decide +kernel
theorem dX11_feed_19 : decode cX11_feed 19 = .ok (.invokevirtual 72, 3) := by decide +kernel
theorem dX11_feed_22 : decode cX11_feed 22 = .ok (.ifCond .eq 13, 3) := by decide +kernel
theorem dX11_feed_25 : decode cX11_feed 25 = .ok (.aload_n 0, 1) := by decide +kernel
theorem dX11_feed_26 : decode cX11_feed 26 = .ok (.getfield 25, 3) := by decide +kernel
theorem dX11_feed_29 : decode cX11_feed 29 = .ok (.getfield 76, 3) := by decide +kernel
theorem dX11_feed_32 : decode cX11_feed 32 = .ok (.goto 5, 3) := by decide +kernel
theorem dX11_feed_35 : decode cX11_feed 35 = .ok (.bipush (-2), 2) := by decide +kernel
theorem dX11_feed_37 : decode cX11_feed 37 = .ok (.ireturn, 1) := by decide +kernel
theorem dX11_cards_0 : decode cX11_cards 0 = .ok (.aload_n 0, 1) := by decide +kernel
theorem dX11_cards_1 : decode cX11_cards 1 = .ok (.getfield 19, 3) := by decide +kernel
theorem dX11_cards_4 : decode cX11_cards 4 = .ok (.aload_n 0, 1) := by decide +kernel
theorem dX11_cards_5 : decode cX11_cards 5 = .ok (.getfield 10, 3) := by decide +kernel
theorem dX11_cards_8 : decode cX11_cards 8 = .ok (.invokevirtual 80, 3) := by decide +kernel
theorem dX11_cards_11 : decode cX11_cards 11 = .ok (.aload_n 0, 1) := by decide +kernel
theorem dX11_cards_12 : decode cX11_cards 12 = .ok (.getfield 19, 3) := by decide +kernel
theorem dX11_cards_15 : decode cX11_cards 15 = .ok (.invokevirtual 84, 3) := by decide +kernel
theorem dX11_cards_18 : decode cX11_cards 18 = .ok (.aload_n 0, 1) := by decide +kernel
theorem dX11_cards_19 : decode cX11_cards 19 = .ok (.getfield 25, 3) := by decide +kernel
theorem dX11_cards_22 : decode cX11_cards 22 = .ok (.aload_n 0, 1) := by decide +kernel
theorem dX11_cards_23 : decode cX11_cards 23 = .ok (.getfield 19, 3) := by decide +kernel
theorem dX11_cards_26 : decode cX11_cards 26 = .ok (.invokevirtual 87, 3) := by decide +kernel
theorem dX11_cards_29 : decode cX11_cards 29 = .ok (.istore_n 1, 1) := by decide +kernel
theorem dX11_cards_30 : decode cX11_cards 30 = .ok (.aload_n 0, 1) := by decide +kernel
theorem dX11_cards_31 : decode cX11_cards 31 = .ok (.getfield 25, 3) := by decide +kernel
theorem dX11_cards_34 : decode cX11_cards 34 = .ok (.iconst 0, 1) := by decide +kernel
theorem dX11_cards_35 : decode cX11_cards 35 = .ok (.putfield 76, 3) := by decide +kernel
theorem dX11_cards_38 : decode cX11_cards 38 = .ok (.iload_n 1, 1) := by decide +kernel
theorem dX11_cards_39 : decode cX11_cards 39 = .ok (.iconst (-1), 1) := by decide +kernel
theorem dX11_cards_40 : decode cX11_cards 40 = .ok (.if_icmp .eq 8, 3) := by decide +kernel
theorem dX11_cards_43 : decode cX11_cards 43 = .ok (.bipush (-100), 2) := by decide +kernel
theorem dX11_cards_45 : decode cX11_cards 45 = .ok (.iload_n 1, 1) := by decide +kernel
theorem dX11_cards_46 : decode cX11_cards 46 = .ok (.isub, 1) := by decide +kernel
theorem dX11_cards_47 : decode cX11_cards 47 = .ok (.ireturn, 1) := by decide +kernel
theorem dX11_cards_48 : decode cX11_cards 48 = .ok (.aload_n 0, 1) := by decide +kernel
theorem dX11_cards_49 : decode cX11_cards 49 = .ok (.getfield 10, 3) := by decide +kernel
theorem dX11_cards_52 : decode cX11_cards 52 = .ok (.aload_n 0, 1) := by decide +kernel
theorem dX11_cards_53 : decode cX11_cards 53 = .ok (.getfield 19, 3) := by decide +kernel
theorem dX11_cards_56 : decode cX11_cards 56 = .ok (.invokevirtual 80, 3) := by decide +kernel
theorem dX11_cards_59 : decode cX11_cards 59 = .ok (.aload_n 0, 1) := by decide +kernel
theorem dX11_cards_60 : decode cX11_cards 60 = .ok (.iconst 0, 1) := by decide +kernel
theorem dX11_cards_61 : decode cX11_cards 61 = .ok (.putfield 91, 3) := by decide +kernel
theorem dX11_cards_64 : decode cX11_cards 64 = .ok (.aload_n 0, 1) := by decide +kernel
theorem dX11_cards_65 : decode cX11_cards 65 = .ok (.getfield 10, 3) := by decide +kernel
theorem dX11_cards_68 : decode cX11_cards 68 = .ok (.getfield 94, 3) := by decide +kernel
theorem dX11_cards_71 : decode cX11_cards 71 = .ok (.ireturn, 1) := by decide +kernel
theorem dX11_card_0 : decode cX11_card 0 = .ok (.iload_n 1, 1) := by decide +kernel
theorem dX11_card_1 : decode cX11_card 1 = .ok (.ifCond .lt 19, 3) := by decide +kernel
theorem dX11_card_4 : decode cX11_card 4 = .ok (.iload_n 1, 1) := by decide +kernel
theorem dX11_card_5 : decode cX11_card 5 = .ok (.iconst 5, 1) := by decide +kernel
theorem dX11_card_6 : decode cX11_card 6 = .ok (.if_icmp .gt 14, 3) := by decide +kernel
theorem dX11_card_9 : decode cX11_card 9 = .ok (.iload_n 2, 1) := by decide +kernel
theorem dX11_card_10 : decode cX11_card 10 = .ok (.iconst 1, 1) := by decide +kernel
theorem dX11_card_11 : decode cX11_card 11 = .ok (.if_icmp .lt 9, 3) := by decide +kernel
theorem dX11_card_14 : decode cX11_card 14 = .ok (.iload_n 2, 1) := by decide +kernel
theorem dX11_card_15 : decode cX11_card 15 = .ok (.bipush 99, 2) := by decide +kernel
theorem dX11_card_17 : decode cX11_card 17 = .ok (.if_icmp .le 5, 3) := by decide +kernel
theorem dX11_card_20 : decode cX11_card 20 = .ok (.iconst (-1), 1) := by decide +kernel
theorem dX11_card_21 : decode cX11_card 21 = .ok (.ireturn, 1) := by decide +kernel
theorem dX11_card_22 : decode cX11_card 22 = .ok (.iload_n 3, 1) := by decide +kernel
theorem dX11_card_23 : decode cX11_card 23 = .ok (.iconst 1, 1) := by decide +kernel
theorem dX11_card_24 : decode cX11_card 24 = .ok (.if_icmp .lt 22, 3) := by decide +kernel
theorem dX11_card_27 : decode cX11_card 27 = .ok (.iload_n 3, 1) := by decide +kernel
theorem dX11_card_28 : decode cX11_card 28 = .ok (.bipush 9, 2) := by decide +kernel
theorem dX11_card_30 : decode cX11_card 30 = .ok (.if_icmp .gt 16, 3) := by decide +kernel
theorem dX11_card_33 : decode cX11_card 33 = .ok (.iload 4, 2) := by decide +kernel
theorem dX11_card_35 : decode cX11_card 35 = .ok (.bipush (-4), 2) := by decide +kernel
theorem dX11_card_37 : decode cX11_card 37 = .ok (.if_icmp .lt 9, 3) := by decide +kernel
theorem dX11_card_40 : decode cX11_card 40 = .ok (.iload 4, 2) := by decide +kernel
theorem dX11_card_42 : decode cX11_card 42 = .ok (.iconst 4, 1) := by decide +kernel
theorem dX11_card_43 : decode cX11_card 43 = .ok (.if_icmp .le 5, 3) := by decide +kernel
theorem dX11_card_46 : decode cX11_card 46 = .ok (.iconst (-1), 1) := by decide +kernel
theorem dX11_card_47 : decode cX11_card 47 = .ok (.ireturn, 1) := by decide +kernel
theorem dX11_card_48 : decode cX11_card 48 = .ok (.aload_n 0, 1) := by decide +kernel
theorem dX11_card_49 : decode cX11_card 49 = .ok (.getfield 10, 3) := by decide +kernel
theorem dX11_card_52 : decode cX11_card 52 = .ok (.iload_n 1, 1) := by decide +kernel
theorem dX11_card_53 : decode cX11_card 53 = .ok (.iload_n 2, 1) := by decide +kernel
theorem dX11_card_54 : decode cX11_card 54 = .ok (.iload_n 3, 1) := by decide +kernel
theorem dX11_card_55 : decode cX11_card 55 = .ok (.iload 4, 2) := by decide +kernel
theorem dX11_card_57 : decode cX11_card 57 = .ok (.invokevirtual 97, 3) := by decide +kernel
theorem dX11_card_60 : decode cX11_card 60 = .ok (.ifCond .eq 15, 3) := by decide +kernel
theorem dX11_card_63 : decode cX11_card 63 = .ok (.aload_n 0, 1) := by decide +kernel
theorem dX11_card_64 : decode cX11_card 64 = .ok (.getfield 10, 3) := by decide +kernel
theorem dX11_card_67 : decode cX11_card 67 = .ok (.getfield 94, 3) := by decide +kernel
theorem dX11_card_70 : decode cX11_card 70 = .ok (.iconst 1, 1) := by decide +kernel
theorem dX11_card_71 : decode cX11_card 71 = .ok (.isub, 1) := by decide +kernel
theorem dX11_card_72 : decode cX11_card 72 = .ok (.goto 5, 3) := by decide +kernel
theorem dX11_card_75 : decode cX11_card 75 = .ok (.bipush (-2), 2) := by decide +kernel
theorem dX11_card_77 : decode cX11_card 77 = .ok (.ireturn, 1) := by decide +kernel
theorem dX11_cardOf_0 : decode cX11_cardOf 0 = .ok (.aload_n 0, 1) := by decide +kernel
theorem dX11_cardOf_1 : decode cX11_cardOf 1 = .ok (.getfield 10, 3) := by decide +kernel
theorem dX11_cardOf_4 : decode cX11_cardOf 4 = .ok (.iload_n 1, 1) := by decide +kernel
theorem dX11_cardOf_5 : decode cX11_cardOf 5 = .ok (.invokevirtual 101, 3) := by decide +kernel
theorem dX11_cardOf_8 : decode cX11_cardOf 8 = .ok (.astore_n 3, 1) := by decide +kernel
theorem dX11_cardOf_9 : decode cX11_cardOf 9 = .ok (.aload_n 3, 1) := by decide +kernel
theorem dX11_cardOf_10 : decode cX11_cardOf 10 = .ok (.ifnonnull 5, 3) := by decide +kernel
theorem dX11_cardOf_13 : decode cX11_cardOf 13 = .ok (.iconst (-1), 1) := by decide +kernel
theorem dX11_cardOf_14 : decode cX11_cardOf 14 = .ok (.ireturn, 1) := by decide +kernel
theorem dX11_cardOf_15 : decode cX11_cardOf 15 = .ok (.iload_n 2, 1) := by decide +kernel
theorem dX11_cardOf_16 : decode cX11_cardOf 16 = .ok (.tableswitch 55 0 3 #[32, 37, 42, 47], 32) := by decide +kernel
theorem dX11_cardOf_48 : decode cX11_cardOf 48 = .ok (.aload_n 3, 1) := by decide +kernel
theorem dX11_cardOf_49 : decode cX11_cardOf 49 = .ok (.invokevirtual 105, 3) := by decide +kernel
theorem dX11_cardOf_52 : decode cX11_cardOf 52 = .ok (.ireturn, 1) := by decide +kernel
theorem dX11_cardOf_53 : decode cX11_cardOf 53 = .ok (.aload_n 3, 1) := by decide +kernel
theorem dX11_cardOf_54 : decode cX11_cardOf 54 = .ok (.getfield 111, 3) := by decide +kernel
theorem dX11_cardOf_57 : decode cX11_cardOf 57 = .ok (.ireturn, 1) := by decide +kernel
theorem dX11_cardOf_58 : decode cX11_cardOf 58 = .ok (.aload_n 3, 1) := by decide +kernel
theorem dX11_cardOf_59 : decode cX11_cardOf 59 = .ok (.getfield 114, 3) := by decide +kernel
theorem dX11_cardOf_62 : decode cX11_cardOf 62 = .ok (.ireturn, 1) := by decide +kernel
theorem dX11_cardOf_63 : decode cX11_cardOf 63 = .ok (.aload_n 3, 1) := by decide +kernel
theorem dX11_cardOf_64 : decode cX11_cardOf 64 = .ok (.getfield 117, 3) := by decide +kernel
theorem dX11_cardOf_67 : decode cX11_cardOf 67 = .ok (.bipush 10, 2) := by decide +kernel
theorem dX11_cardOf_69 : decode cX11_cardOf 69 = .ok (.iadd, 1) := by decide +kernel
theorem dX11_cardOf_70 : decode cX11_cardOf 70 = .ok (.ireturn, 1) := by decide +kernel
theorem dX11_cardOf_71 : decode cX11_cardOf 71 = .ok (.iconst (-1), 1) := by decide +kernel
theorem dX11_cardOf_72 : decode cX11_cardOf 72 = .ok (.ireturn, 1) := by decide +kernel
theorem dX11_set_0 : decode cX11_set 0 = .ok (.iload_n 1, 1) := by decide +kernel
theorem dX11_set_1 : decode cX11_set 1 = .ok (.ifCond .lt 19, 3) := by decide +kernel
theorem dX11_set_4 : decode cX11_set 4 = .ok (.iload_n 1, 1) := by decide +kernel
theorem dX11_set_5 : decode cX11_set 5 = .ok (.bipush 6, 2) := by decide +kernel
theorem dX11_set_7 : decode cX11_set 7 = .ok (.if_icmp .ge 13, 3) := by decide +kernel
theorem dX11_set_10 : decode cX11_set 10 = .ok (.iload_n 2, 1) := by decide +kernel
theorem dX11_set_11 : decode cX11_set 11 = .ok (.ifCond .lt 9, 3) := by decide +kernel
theorem dX11_set_14 : decode cX11_set 14 = .ok (.iload_n 2, 1) := by decide +kernel
theorem dX11_set_15 : decode cX11_set 15 = .ok (.bipush 63, 2) := by decide +kernel
theorem dX11_set_17 : decode cX11_set 17 = .ok (.if_icmp .le 5, 3) := by decide +kernel
theorem dX11_set_20 : decode cX11_set 20 = .ok (.iconst (-1), 1) := by decide +kernel
theorem dX11_set_21 : decode cX11_set 21 = .ok (.ireturn, 1) := by decide +kernel
theorem dX11_set_22 : decode cX11_set 22 = .ok (.aload_n 0, 1) := by decide +kernel
theorem dX11_set_23 : decode cX11_set 23 = .ok (.getfield 10, 3) := by decide +kernel
theorem dX11_set_26 : decode cX11_set 26 = .ok (.getfield 120, 3) := by decide +kernel
theorem dX11_set_29 : decode cX11_set 29 = .ok (.iload_n 1, 1) := by decide +kernel
theorem dX11_set_30 : decode cX11_set 30 = .ok (.iaload, 1) := by decide +kernel
theorem dX11_set_31 : decode cX11_set 31 = .ok (.istore_n 3, 1) := by decide +kernel
theorem dX11_set_32 : decode cX11_set 32 = .ok (.aload_n 0, 1) := by decide +kernel
theorem dX11_set_33 : decode cX11_set 33 = .ok (.getfield 10, 3) := by decide +kernel
theorem dX11_set_36 : decode cX11_set 36 = .ok (.getfield 120, 3) := by decide +kernel
theorem dX11_set_39 : decode cX11_set 39 = .ok (.iload_n 1, 1) := by decide +kernel
theorem dX11_set_40 : decode cX11_set 40 = .ok (.iload_n 2, 1) := by decide +kernel
theorem dX11_set_41 : decode cX11_set 41 = .ok (.iastore, 1) := by decide +kernel
theorem dX11_set_42 : decode cX11_set 42 = .ok (.iload_n 3, 1) := by decide +kernel
theorem dX11_set_43 : decode cX11_set 43 = .ok (.ireturn, 1) := by decide +kernel
theorem dX11_hand_0 : decode cX11_hand 0 = .ok (.iload_n 1, 1) := by decide +kernel
theorem dX11_hand_1 : decode cX11_hand 1 = .ok (.ifCond .lt 18, 3) := by decide +kernel
theorem dX11_hand_4 : decode cX11_hand 4 = .ok (.iload_n 1, 1) := by decide +kernel
theorem dX11_hand_5 : decode cX11_hand 5 = .ok (.iconst 5, 1) := by decide +kernel
theorem dX11_hand_6 : decode cX11_hand 6 = .ok (.if_icmp .ge 13, 3) := by decide +kernel
theorem dX11_hand_9 : decode cX11_hand 9 = .ok (.iload_n 2, 1) := by decide +kernel
theorem dX11_hand_10 : decode cX11_hand 10 = .ok (.ifCond .lt 9, 3) := by decide +kernel
theorem dX11_hand_13 : decode cX11_hand 13 = .ok (.iload_n 2, 1) := by decide +kernel
theorem dX11_hand_14 : decode cX11_hand 14 = .ok (.bipush 9, 2) := by decide +kernel
theorem dX11_hand_16 : decode cX11_hand 16 = .ok (.if_icmp .le 5, 3) := by decide +kernel
theorem dX11_hand_19 : decode cX11_hand 19 = .ok (.iconst (-1), 1) := by decide +kernel
theorem dX11_hand_20 : decode cX11_hand 20 = .ok (.ireturn, 1) := by decide +kernel
theorem dX11_hand_21 : decode cX11_hand 21 = .ok (.aload_n 0, 1) := by decide +kernel
theorem dX11_hand_22 : decode cX11_hand 22 = .ok (.getfield 10, 3) := by decide +kernel
theorem dX11_hand_25 : decode cX11_hand 25 = .ok (.getfield 123, 3) := by decide +kernel
theorem dX11_hand_28 : decode cX11_hand 28 = .ok (.iload_n 1, 1) := by decide +kernel
theorem dX11_hand_29 : decode cX11_hand 29 = .ok (.iaload, 1) := by decide +kernel
theorem dX11_hand_30 : decode cX11_hand 30 = .ok (.istore_n 3, 1) := by decide +kernel
theorem dX11_hand_31 : decode cX11_hand 31 = .ok (.aload_n 0, 1) := by decide +kernel
theorem dX11_hand_32 : decode cX11_hand 32 = .ok (.getfield 10, 3) := by decide +kernel
theorem dX11_hand_35 : decode cX11_hand 35 = .ok (.invokevirtual 126, 3) := by decide +kernel
theorem dX11_hand_38 : decode cX11_hand 38 = .ok (.iload_n 3, 1) := by decide +kernel
theorem dX11_hand_39 : decode cX11_hand 39 = .ok (.isub, 1) := by decide +kernel
theorem dX11_hand_40 : decode cX11_hand 40 = .ok (.iload_n 2, 1) := by decide +kernel
theorem dX11_hand_41 : decode cX11_hand 41 = .ok (.iadd, 1) := by decide +kernel
theorem dX11_hand_42 : decode cX11_hand 42 = .ok (.ifCond .ne 6, 3) := by decide +kernel
theorem dX11_hand_45 : decode cX11_hand 45 = .ok (.bipush (-4), 2) := by decide +kernel
theorem dX11_hand_47 : decode cX11_hand 47 = .ok (.ireturn, 1) := by decide +kernel
theorem dX11_hand_48 : decode cX11_hand 48 = .ok (.aload_n 0, 1) := by decide +kernel
theorem dX11_hand_49 : decode cX11_hand 49 = .ok (.getfield 10, 3) := by decide +kernel
theorem dX11_hand_52 : decode cX11_hand 52 = .ok (.getfield 123, 3) := by decide +kernel
theorem dX11_hand_55 : decode cX11_hand 55 = .ok (.iload_n 1, 1) := by decide +kernel
theorem dX11_hand_56 : decode cX11_hand 56 = .ok (.iload_n 2, 1) := by decide +kernel
theorem dX11_hand_57 : decode cX11_hand 57 = .ok (.iastore, 1) := by decide +kernel
theorem dX11_hand_58 : decode cX11_hand 58 = .ok (.iload_n 3, 1) := by decide +kernel
theorem dX11_hand_59 : decode cX11_hand 59 = .ok (.ireturn, 1) := by decide +kernel
theorem dX11_sine_0 : decode cX11_sine 0 = .ok (.iload_n 1, 1) := by decide +kernel
theorem dX11_sine_1 : decode cX11_sine 1 = .ok (.ifCond .lt 9, 3) := by decide +kernel
theorem dX11_sine_4 : decode cX11_sine 4 = .ok (.iload_n 1, 1) := by decide +kernel
theorem dX11_sine_5 : decode cX11_sine 5 = .ok (.bipush 36, 2) := by decide +kernel
theorem dX11_sine_7 : decode cX11_sine 7 = .ok (.if_icmp .lt 7, 3) := by decide +kernel
theorem dX11_sine_10 : decode cX11_sine 10 = .ok (.iconst (-1), 1) := by decide +kernel
theorem dX11_sine_11 : decode cX11_sine 11 = .ok (.goto 11, 3) := by decide +kernel
theorem dX11_sine_14 : decode cX11_sine 14 = .ok (.iload_n 1, 1) := by decide +kernel
theorem dX11_sine_15 : decode cX11_sine 15 = .ok (.invokestatic 129, 3) := by decide +kernel
theorem dX11_sine_18 : decode cX11_sine 18 = .ok (.sipush 1000, 3) := by decide +kernel
theorem dX11_sine_21 : decode cX11_sine 21 = .ok (.iadd, 1) := by decide +kernel
theorem dX11_sine_22 : decode cX11_sine 22 = .ok (.ireturn, 1) := by decide +kernel
theorem dX11_letGo_0 : decode cX11_letGo 0 = .ok (.aload_n 0, 1) := by decide +kernel
theorem dX11_letGo_1 : decode cX11_letGo 1 = .ok (.getfield 10, 3) := by decide +kernel
theorem dX11_letGo_4 : decode cX11_letGo 4 = .ok (.getfield 133, 3) := by decide +kernel
theorem dX11_letGo_7 : decode cX11_letGo 7 = .ok (.getfield 136, 3) := by decide +kernel
theorem dX11_letGo_10 : decode cX11_letGo 10 = .ok (.ifnonnull 8, 3) := by decide +kernel
theorem dX11_letGo_13 : decode cX11_letGo 13 = .ok (.bipush (-9), 2) := by decide +kernel
theorem dX11_letGo_15 : decode cX11_letGo 15 = .ok (.goto 16, 3) := by decide +kernel
theorem dX11_letGo_18 : decode cX11_letGo 18 = .ok (.aload_n 0, 1) := by decide +kernel
theorem dX11_letGo_19 : decode cX11_letGo 19 = .ok (.getfield 10, 3) := by decide +kernel
theorem dX11_letGo_22 : decode cX11_letGo 22 = .ok (.getfield 133, 3) := by decide +kernel
theorem dX11_letGo_25 : decode cX11_letGo 25 = .ok (.getfield 136, 3) := by decide +kernel
theorem dX11_letGo_28 : decode cX11_letGo 28 = .ok (.getfield 140, 3) := by decide +kernel
theorem dX11_letGo_31 : decode cX11_letGo 31 = .ok (.istore 5, 2) := by decide +kernel
theorem dX11_letGo_33 : decode cX11_letGo 33 = .ok (.aload_n 0, 1) := by decide +kernel
theorem dX11_letGo_34 : decode cX11_letGo 34 = .ok (.aload_n 0, 1) := by decide +kernel
theorem dX11_letGo_35 : decode cX11_letGo 35 = .ok (.getfield 10, 3) := by decide +kernel
theorem dX11_letGo_38 : decode cX11_letGo 38 = .ok (.getfield 133, 3) := by decide +kernel
theorem dX11_letGo_41 : decode cX11_letGo 41 = .ok (.iload_n 1, 1) := by decide +kernel
theorem dX11_letGo_42 : decode cX11_letGo 42 = .ok (.iload_n 2, 1) := by decide +kernel
theorem dX11_letGo_43 : decode cX11_letGo 43 = .ok (.iload_n 3, 1) := by decide +kernel
theorem dX11_letGo_44 : decode cX11_letGo 44 = .ok (.iload 4, 2) := by decide +kernel
theorem dX11_letGo_46 : decode cX11_letGo 46 = .ok (.invokevirtual 143, 3) := by decide +kernel
theorem dX11_letGo_49 : decode cX11_letGo 49 = .ok (.ifCond .eq 8, 3) := by decide +kernel
theorem dX11_letGo_52 : decode cX11_letGo 52 = .ok (.iload 5, 2) := by decide +kernel
theorem dX11_letGo_54 : decode cX11_letGo 54 = .ok (.goto 4, 3) := by decide +kernel
theorem dX11_letGo_57 : decode cX11_letGo 57 = .ok (.iconst (-1), 1) := by decide +kernel
theorem dX11_letGo_58 : decode cX11_letGo 58 = .ok (.ireturn, 1) := by decide +kernel
theorem dX11_tick_0 : decode cX11_tick 0 = .ok (.iload_n 1, 1) := by decide +kernel
theorem dX11_tick_1 : decode cX11_tick 1 = .ok (.ifCond .lt 10, 3) := by decide +kernel
theorem dX11_tick_4 : decode cX11_tick 4 = .ok (.iload_n 1, 1) := by decide +kernel
theorem dX11_tick_5 : decode cX11_tick 5 = .ok (.sipush 400, 3) := by decide +kernel
theorem dX11_tick_8 : decode cX11_tick 8 = .ok (.if_icmp .le 5, 3) := by decide +kernel
theorem dX11_tick_11 : decode cX11_tick 11 = .ok (.iconst (-1), 1) := by decide +kernel
theorem dX11_tick_12 : decode cX11_tick 12 = .ok (.ireturn, 1) := by decide +kernel
theorem dX11_tick_13 : decode cX11_tick 13 = .ok (.aload_n 0, 1) := by decide +kernel
theorem dX11_tick_14 : decode cX11_tick 14 = .ok (.getfield 10, 3) := by decide +kernel
theorem dX11_tick_17 : decode cX11_tick 17 = .ok (.getfield 133, 3) := by decide +kernel
theorem dX11_tick_20 : decode cX11_tick 20 = .ok (.getfield 136, 3) := by decide +kernel
theorem dX11_tick_23 : decode cX11_tick 23 = .ok (.ifnonnull 6, 3) := by decide +kernel
theorem dX11_tick_26 : decode cX11_tick 26 = .ok (.bipush (-4), 2) := by decide +kernel
theorem dX11_tick_28 : decode cX11_tick 28 = .ok (.ireturn, 1) := by decide +kernel
theorem dX11_tick_29 : decode cX11_tick 29 = .ok (.iconst 0, 1) := by decide +kernel
theorem dX11_tick_30 : decode cX11_tick 30 = .ok (.istore_n 2, 1) := by decide +kernel
theorem dX11_tick_31 : decode cX11_tick 31 = .ok (.iload_n 2, 1) := by decide +kernel
theorem dX11_tick_32 : decode cX11_tick 32 = .ok (.iload_n 1, 1) := by decide +kernel
theorem dX11_tick_33 : decode cX11_tick 33 = .ok (.if_icmp .ge 39, 3) := by decide +kernel
theorem dX11_tick_36 : decode cX11_tick 36 = .ok (.aload_n 0, 1) := by decide +kernel
theorem dX11_tick_37 : decode cX11_tick 37 = .ok (.getfield 10, 3) := by decide +kernel
theorem dX11_tick_40 : decode cX11_tick 40 = .ok (.getfield 133, 3) := by decide +kernel
theorem dX11_tick_43 : decode cX11_tick 43 = .ok (.invokevirtual 147, 3) := by decide +kernel
theorem dX11_tick_46 : decode cX11_tick 46 = .ok (.ifCond .ne 26, 3) := by decide +kernel
theorem dX11_tick_49 : decode cX11_tick 49 = .ok (.aload_n 0, 1) := by decide +kernel
theorem dX11_tick_50 : decode cX11_tick 50 = .ok (.getfield 10, 3) := by decide +kernel
theorem dX11_tick_53 : decode cX11_tick 53 = .ok (.getfield 133, 3) := by decide +kernel
theorem dX11_tick_56 : decode cX11_tick 56 = .ok (.aload_n 0, 1) := by decide +kernel
theorem dX11_tick_57 : decode cX11_tick 57 = .ok (.getfield 10, 3) := by decide +kernel
theorem dX11_tick_60 : decode cX11_tick 60 = .ok (.getfield 120, 3) := by decide +kernel
theorem dX11_tick_63 : decode cX11_tick 63 = .ok (.invokevirtual 151, 3) := by decide +kernel
theorem dX11_tick_66 : decode cX11_tick 66 = .ok (.iinc 2 1, 3) := by decide +kernel
theorem dX11_tick_69 : decode cX11_tick 69 = .ok (.goto (-38), 3) := by decide +kernel
theorem dX11_tick_72 : decode cX11_tick 72 = .ok (.iload_n 2, 1) := by decide +kernel
theorem dX11_tick_73 : decode cX11_tick 73 = .ok (.ireturn, 1) := by decide +kernel
theorem dX11_air_0 : decode cX11_air 0 = .ok (.aload_n 0, 1) := by decide +kernel
theorem dX11_air_1 : decode cX11_air 1 = .ok (.getfield 10, 3) := by decide +kernel
theorem dX11_air_4 : decode cX11_air 4 = .ok (.getfield 133, 3) := by decide +kernel
theorem dX11_air_7 : decode cX11_air 7 = .ok (.astore_n 2, 1) := by decide +kernel
theorem dX11_air_8 : decode cX11_air 8 = .ok (.aload_n 2, 1) := by decide +kernel
theorem dX11_air_9 : decode cX11_air 9 = .ok (.getfield 136, 3) := by decide +kernel
theorem dX11_air_12 : decode cX11_air 12 = .ok (.ifnonnull 6, 3) := by decide +kernel
theorem dX11_air_15 : decode cX11_air 15 = .ok (.ldc 155, 2) := by decide +kernel
theorem dX11_air_17 : decode cX11_air 17 = .ok (.ireturn, 1) := by decide +kernel
theorem dX11_air_18 : decode cX11_air 18 = .ok (.iload_n 1, 1) := by decide +kernel
theorem dX11_air_19 : decode cX11_air 19 = .ok (.tableswitch 105 0 8 #[49, 57, 62, 67, 72, 77, 82, 87, 92], 49) := by decide +kernel
theorem dX11_air_68 : decode cX11_air 68 = .ok (.aload_n 2, 1) := by decide +kernel
theorem dX11_air_69 : decode cX11_air 69 = .ok (.getfield 136, 3) := by decide +kernel
theorem dX11_air_72 : decode cX11_air 72 = .ok (.getfield 140, 3) := by decide +kernel
theorem dX11_air_75 : decode cX11_air 75 = .ok (.ireturn, 1) := by decide +kernel
theorem dX11_air_76 : decode cX11_air 76 = .ok (.aload_n 2, 1) := by decide +kernel
theorem dX11_air_77 : decode cX11_air 77 = .ok (.getfield 156, 3) := by decide +kernel
theorem dX11_air_80 : decode cX11_air 80 = .ok (.ireturn, 1) := by decide +kernel
theorem dX11_air_81 : decode cX11_air 81 = .ok (.aload_n 2, 1) := by decide +kernel
theorem dX11_air_82 : decode cX11_air 82 = .ok (.getfield 159, 3) := by decide +kernel
theorem dX11_air_85 : decode cX11_air 85 = .ok (.ireturn, 1) := by decide +kernel
theorem dX11_air_86 : decode cX11_air 86 = .ok (.aload_n 2, 1) := by decide +kernel
theorem dX11_air_87 : decode cX11_air 87 = .ok (.getfield 162, 3) := by decide +kernel
theorem dX11_air_90 : decode cX11_air 90 = .ok (.ireturn, 1) := by decide +kernel
theorem dX11_air_91 : decode cX11_air 91 = .ok (.aload_n 2, 1) := by decide +kernel
theorem dX11_air_92 : decode cX11_air 92 = .ok (.getfield 165, 3) := by decide +kernel
theorem dX11_air_95 : decode cX11_air 95 = .ok (.ireturn, 1) := by decide +kernel
theorem dX11_air_96 : decode cX11_air 96 = .ok (.aload_n 2, 1) := by decide +kernel
theorem dX11_air_97 : decode cX11_air 97 = .ok (.getfield 168, 3) := by decide +kernel
theorem dX11_air_100 : decode cX11_air 100 = .ok (.ireturn, 1) := by decide +kernel
theorem dX11_air_101 : decode cX11_air 101 = .ok (.aload_n 2, 1) := by decide +kernel
theorem dX11_air_102 : decode cX11_air 102 = .ok (.getfield 171, 3) := by decide +kernel
theorem dX11_air_105 : decode cX11_air 105 = .ok (.ireturn, 1) := by decide +kernel
theorem dX11_air_106 : decode cX11_air 106 = .ok (.aload_n 2, 1) := by decide +kernel
theorem dX11_air_107 : decode cX11_air 107 = .ok (.getfield 174, 3) := by decide +kernel
theorem dX11_air_110 : decode cX11_air 110 = .ok (.ireturn, 1) := by decide +kernel
theorem dX11_air_111 : decode cX11_air 111 = .ok (.aload_n 2, 1) := by decide +kernel
theorem dX11_air_112 : decode cX11_air 112 = .ok (.invokevirtual 147, 3) := by decide +kernel
theorem dX11_air_115 : decode cX11_air 115 = .ok (.ifCond .eq 7, 3) := by decide +kernel
theorem dX11_air_118 : decode cX11_air 118 = .ok (.iconst 1, 1) := by decide +kernel
theorem dX11_air_119 : decode cX11_air 119 = .ok (.goto 4, 3) := by decide +kernel
theorem dX11_air_122 : decode cX11_air 122 = .ok (.iconst 0, 1) := by decide +kernel
theorem dX11_air_123 : decode cX11_air 123 = .ok (.ireturn, 1) := by decide +kernel
theorem dX11_air_124 : decode cX11_air 124 = .ok (.ldc 155, 2) := by decide +kernel
theorem dX11_air_126 : decode cX11_air 126 = .ok (.ireturn, 1) := by decide +kernel
theorem dX11_gust_0 : decode cX11_gust 0 = .ok (.iload_n 1, 1) := by decide +kernel
theorem dX11_gust_1 : decode cX11_gust 1 = .ok (.sipush (-999), 3) := by decide +kernel
theorem dX11_gust_4 : decode cX11_gust 4 = .ok (.if_icmp .lt 24, 3) := by decide +kernel
theorem dX11_gust_7 : decode cX11_gust 7 = .ok (.iload_n 1, 1) := by decide +kernel
theorem dX11_gust_8 : decode cX11_gust 8 = .ok (.sipush 999, 3) := by decide +kernel
theorem dX11_gust_11 : decode cX11_gust 11 = .ok (.if_icmp .gt 17, 3) := by decide +kernel
theorem dX11_gust_14 : decode cX11_gust 14 = .ok (.iload_n 2, 1) := by decide +kernel
theorem dX11_gust_15 : decode cX11_gust 15 = .ok (.sipush (-999), 3) := by decide +kernel
theorem dX11_gust_18 : decode cX11_gust 18 = .ok (.if_icmp .lt 10, 3) := by decide +kernel
theorem dX11_gust_21 : decode cX11_gust 21 = .ok (.iload_n 2, 1) := by decide +kernel
theorem dX11_gust_22 : decode cX11_gust 22 = .ok (.sipush 999, 3) := by decide +kernel
theorem dX11_gust_25 : decode cX11_gust 25 = .ok (.if_icmp .le 5, 3) := by decide +kernel
theorem dX11_gust_28 : decode cX11_gust 28 = .ok (.iconst (-1), 1) := by decide +kernel
theorem dX11_gust_29 : decode cX11_gust 29 = .ok (.ireturn, 1) := by decide +kernel
theorem dX11_gust_30 : decode cX11_gust 30 = .ok (.aload_n 0, 1) := by decide +kernel
theorem dX11_gust_31 : decode cX11_gust 31 = .ok (.getfield 10, 3) := by decide +kernel
theorem dX11_gust_34 : decode cX11_gust 34 = .ok (.getfield 133, 3) := by decide +kernel
theorem dX11_gust_37 : decode cX11_gust 37 = .ok (.getfield 136, 3) := by decide +kernel
theorem dX11_gust_40 : decode cX11_gust 40 = .ok (.ifnull 16, 3) := by decide +kernel
theorem dX11_gust_43 : decode cX11_gust 43 = .ok (.aload_n 0, 1) := by decide +kernel
theorem dX11_gust_44 : decode cX11_gust 44 = .ok (.getfield 10, 3) := by decide +kernel
theorem dX11_gust_47 : decode cX11_gust 47 = .ok (.getfield 133, 3) := by decide +kernel
theorem dX11_gust_50 : decode cX11_gust 50 = .ok (.invokevirtual 147, 3) := by decide +kernel
theorem dX11_gust_53 : decode cX11_gust 53 = .ok (.ifCond .eq 6, 3) := by decide +kernel
theorem dX11_gust_56 : decode cX11_gust 56 = .ok (.bipush (-4), 2) := by decide +kernel
theorem dX11_gust_58 : decode cX11_gust 58 = .ok (.ireturn, 1) := by decide +kernel
theorem dX11_gust_59 : decode cX11_gust 59 = .ok (.aload_n 0, 1) := by decide +kernel
theorem dX11_gust_60 : decode cX11_gust 60 = .ok (.getfield 10, 3) := by decide +kernel
theorem dX11_gust_63 : decode cX11_gust 63 = .ok (.getfield 133, 3) := by decide +kernel
theorem dX11_gust_66 : decode cX11_gust 66 = .ok (.aload_n 0, 1) := by decide +kernel
theorem dX11_gust_67 : decode cX11_gust 67 = .ok (.getfield 10, 3) := by decide +kernel
theorem dX11_gust_70 : decode cX11_gust 70 = .ok (.getfield 133, 3) := by decide +kernel
theorem dX11_gust_73 : decode cX11_gust 73 = .ok (.getfield 171, 3) := by decide +kernel
theorem dX11_gust_76 : decode cX11_gust 76 = .ok (.iload_n 1, 1) := by decide +kernel
theorem dX11_gust_77 : decode cX11_gust 77 = .ok (.iadd, 1) := by decide +kernel
theorem dX11_gust_78 : decode cX11_gust 78 = .ok (.sipush 9999, 3) := by decide +kernel
theorem dX11_gust_81 : decode cX11_gust 81 = .ok (.invokestatic 177, 3) := by decide +kernel
theorem dX11_gust_84 : decode cX11_gust 84 = .ok (.putfield 171, 3) := by decide +kernel
theorem dX11_gust_87 : decode cX11_gust 87 = .ok (.aload_n 0, 1) := by decide +kernel
theorem dX11_gust_88 : decode cX11_gust 88 = .ok (.getfield 10, 3) := by decide +kernel
theorem dX11_gust_91 : decode cX11_gust 91 = .ok (.getfield 133, 3) := by decide +kernel
theorem dX11_gust_94 : decode cX11_gust 94 = .ok (.aload_n 0, 1) := by decide +kernel
theorem dX11_gust_95 : decode cX11_gust 95 = .ok (.getfield 10, 3) := by decide +kernel
theorem dX11_gust_98 : decode cX11_gust 98 = .ok (.getfield 133, 3) := by decide +kernel
theorem dX11_gust_101 : decode cX11_gust 101 = .ok (.getfield 174, 3) := by decide +kernel
theorem dX11_gust_104 : decode cX11_gust 104 = .ok (.iload_n 2, 1) := by decide +kernel
theorem dX11_gust_105 : decode cX11_gust 105 = .ok (.iadd, 1) := by decide +kernel
theorem dX11_gust_106 : decode cX11_gust 106 = .ok (.sipush 9999, 3) := by decide +kernel
theorem dX11_gust_109 : decode cX11_gust 109 = .ok (.invokestatic 177, 3) := by decide +kernel
theorem dX11_gust_112 : decode cX11_gust 112 = .ok (.putfield 174, 3) := by decide +kernel
theorem dX11_gust_115 : decode cX11_gust 115 = .ok (.iconst 1, 1) := by decide +kernel
theorem dX11_gust_116 : decode cX11_gust 116 = .ok (.ireturn, 1) := by decide +kernel
theorem dX11_fall_0 : decode cX11_fall 0 = .ok (.aload_n 0, 1) := by decide +kernel
theorem dX11_fall_1 : decode cX11_fall 1 = .ok (.aload_n 0, 1) := by decide +kernel
theorem dX11_fall_2 : decode cX11_fall 2 = .ok (.getfield 58, 3) := by decide +kernel
theorem dX11_fall_5 : decode cX11_fall 5 = .ok (.iload_n 1, 1) := by decide +kernel
theorem dX11_fall_6 : decode cX11_fall 6 = .ok (.iload_n 2, 1) := by decide +kernel
theorem dX11_fall_7 : decode cX11_fall 7 = .ok (.iload_n 3, 1) := by decide +kernel
theorem dX11_fall_8 : decode cX11_fall 8 = .ok (.iload 4, 2) := by decide +kernel
theorem dX11_fall_10 : decode cX11_fall 10 = .ok (.invokevirtual 143, 3) := by decide +kernel
theorem dX11_fall_13 : decode cX11_fall 13 = .ok (.ifCond .eq 20, 3) := by decide +kernel
theorem dX11_fall_16 : decode cX11_fall 16 = .ok (.aload_n 0, 1) := by decide +kernel
theorem dX11_fall_17 : decode cX11_fall 17 = .ok (.getfield 58, 3) := by decide +kernel
theorem dX11_fall_20 : decode cX11_fall 20 = .ok (.aload_n 0, 1) := by decide +kernel
theorem dX11_fall_21 : decode cX11_fall 21 = .ok (.getfield 10, 3) := by decide +kernel
theorem dX11_fall_24 : decode cX11_fall 24 = .ok (.getfield 120, 3) := by decide +kernel
theorem dX11_fall_27 : decode cX11_fall 27 = .ok (.invokevirtual 181, 3) := by decide +kernel
theorem dX11_fall_30 : decode cX11_fall 30 = .ok (.ifCond .ne 6, 3) := by decide +kernel
theorem dX11_fall_33 : decode cX11_fall 33 = .ok (.ldc 155, 2) := by decide +kernel
theorem dX11_fall_35 : decode cX11_fall 35 = .ok (.ireturn, 1) := by decide +kernel
theorem dX11_fall_36 : decode cX11_fall 36 = .ok (.iload 5, 2) := by decide +kernel
theorem dX11_fall_38 : decode cX11_fall 38 = .ok (.tableswitch 86 0 5 #[38, 46, 54, 62, 70, 78], 38) := by decide +kernel
theorem dX11_fall_76 : decode cX11_fall 76 = .ok (.aload_n 0, 1) := by decide +kernel
theorem dX11_fall_77 : decode cX11_fall 77 = .ok (.getfield 58, 3) := by decide +kernel
theorem dX11_fall_80 : decode cX11_fall 80 = .ok (.getfield 156, 3) := by decide +kernel
theorem dX11_fall_83 : decode cX11_fall 83 = .ok (.ireturn, 1) := by decide +kernel
theorem dX11_fall_84 : decode cX11_fall 84 = .ok (.aload_n 0, 1) := by decide +kernel
theorem dX11_fall_85 : decode cX11_fall 85 = .ok (.getfield 58, 3) := by decide +kernel
theorem dX11_fall_88 : decode cX11_fall 88 = .ok (.getfield 159, 3) := by decide +kernel
theorem dX11_fall_91 : decode cX11_fall 91 = .ok (.ireturn, 1) := by decide +kernel
theorem dX11_fall_92 : decode cX11_fall 92 = .ok (.aload_n 0, 1) := by decide +kernel
theorem dX11_fall_93 : decode cX11_fall 93 = .ok (.getfield 58, 3) := by decide +kernel
theorem dX11_fall_96 : decode cX11_fall 96 = .ok (.getfield 185, 3) := by decide +kernel
theorem dX11_fall_99 : decode cX11_fall 99 = .ok (.ireturn, 1) := by decide +kernel
theorem dX11_fall_100 : decode cX11_fall 100 = .ok (.aload_n 0, 1) := by decide +kernel
theorem dX11_fall_101 : decode cX11_fall 101 = .ok (.getfield 58, 3) := by decide +kernel
theorem dX11_fall_104 : decode cX11_fall 104 = .ok (.getfield 188, 3) := by decide +kernel
theorem dX11_fall_107 : decode cX11_fall 107 = .ok (.ireturn, 1) := by decide +kernel
theorem dX11_fall_108 : decode cX11_fall 108 = .ok (.aload_n 0, 1) := by decide +kernel
theorem dX11_fall_109 : decode cX11_fall 109 = .ok (.getfield 58, 3) := by decide +kernel
theorem dX11_fall_112 : decode cX11_fall 112 = .ok (.invokevirtual 191, 3) := by decide +kernel
theorem dX11_fall_115 : decode cX11_fall 115 = .ok (.ireturn, 1) := by decide +kernel
theorem dX11_fall_116 : decode cX11_fall 116 = .ok (.aload_n 0, 1) := by decide +kernel
theorem dX11_fall_117 : decode cX11_fall 117 = .ok (.getfield 58, 3) := by decide +kernel
theorem dX11_fall_120 : decode cX11_fall 120 = .ok (.invokevirtual 194, 3) := by decide +kernel
theorem dX11_fall_123 : decode cX11_fall 123 = .ok (.ireturn, 1) := by decide +kernel
theorem dX11_fall_124 : decode cX11_fall 124 = .ok (.ldc 155, 2) := by decide +kernel
theorem dX11_fall_126 : decode cX11_fall 126 = .ok (.ireturn, 1) := by decide +kernel
theorem dX11_line_0 : decode cX11_line 0 = .ok (.iload 5, 2) := by decide +kernel
theorem dX11_line_2 : decode cX11_line 2 = .ok (.ifCond .lt 25, 3) := by decide +kernel
theorem dX11_line_5 : decode cX11_line 5 = .ok (.iload 5, 2) := by decide +kernel
theorem dX11_line_7 : decode cX11_line 7 = .ok (.iconst 3, 1) := by decide +kernel
theorem dX11_line_8 : decode cX11_line 8 = .ok (.if_icmp .gt 19, 3) := by decide +kernel
theorem dX11_line_11 : decode cX11_line 11 = .ok (.aload_n 0, 1) := by decide +kernel
theorem dX11_line_12 : decode cX11_line 12 = .ok (.aload_n 0, 1) := by decide +kernel
theorem dX11_line_13 : decode cX11_line 13 = .ok (.getfield 58, 3) := by decide +kernel
theorem dX11_line_16 : decode cX11_line 16 = .ok (.iload_n 1, 1) := by decide +kernel
theorem dX11_line_17 : decode cX11_line 17 = .ok (.iload_n 2, 1) := by decide +kernel
theorem dX11_line_18 : decode cX11_line 18 = .ok (.iload_n 3, 1) := by decide +kernel
theorem dX11_line_19 : decode cX11_line 19 = .ok (.iload 4, 2) := by decide +kernel
theorem dX11_line_21 : decode cX11_line 21 = .ok (.invokevirtual 143, 3) := by decide +kernel
theorem dX11_line_24 : decode cX11_line 24 = .ok (.ifCond .ne 5, 3) := by decide +kernel
theorem dX11_line_27 : decode cX11_line 27 = .ok (.iconst (-1), 1) := by decide +kernel
theorem dX11_line_28 : decode cX11_line 28 = .ok (.ireturn, 1) := by decide +kernel
theorem dX11_line_29 : decode cX11_line 29 = .ok (.iconst 1, 1) := by decide +kernel
theorem dX11_line_30 : decode cX11_line 30 = .ok (.istore 6, 2) := by decide +kernel
theorem dX11_line_32 : decode cX11_line 32 = .ok (.iload 6, 2) := by decide +kernel
theorem dX11_line_34 : decode cX11_line 34 = .ok (.bipush 99, 2) := by decide +kernel
theorem dX11_line_36 : decode cX11_line 36 = .ok (.if_icmp .gt 64, 3) := by decide +kernel
theorem dX11_line_39 : decode cX11_line 39 = .ok (.aload_n 0, 1) := by decide +kernel
theorem dX11_line_40 : decode cX11_line 40 = .ok (.aload_n 0, 1) := by decide +kernel
theorem dX11_line_41 : decode cX11_line 41 = .ok (.getfield 58, 3) := by decide +kernel
theorem dX11_line_44 : decode cX11_line 44 = .ok (.iload_n 1, 1) := by decide +kernel
theorem dX11_line_45 : decode cX11_line 45 = .ok (.iload_n 2, 1) := by decide +kernel
theorem dX11_line_46 : decode cX11_line 46 = .ok (.iload_n 3, 1) := by decide +kernel
theorem dX11_line_47 : decode cX11_line 47 = .ok (.iload 4, 2) := by decide +kernel
theorem dX11_line_49 : decode cX11_line 49 = .ok (.invokevirtual 143, 3) := by decide +kernel
theorem dX11_line_52 : decode cX11_line 52 = .ok (.pop, 1) := by decide +kernel
theorem dX11_line_53 : decode cX11_line 53 = .ok (.aload_n 0, 1) := by decide +kernel
theorem dX11_line_54 : decode cX11_line 54 = .ok (.getfield 58, 3) := by decide +kernel
theorem dX11_line_57 : decode cX11_line 57 = .ok (.iload 6, 2) := by decide +kernel
theorem dX11_line_59 : decode cX11_line 59 = .ok (.putfield 197, 3) := by decide +kernel
theorem dX11_line_62 : decode cX11_line 62 = .ok (.aload_n 0, 1) := by decide +kernel
theorem dX11_line_63 : decode cX11_line 63 = .ok (.getfield 58, 3) := by decide +kernel
theorem dX11_line_66 : decode cX11_line 66 = .ok (.aload_n 0, 1) := by decide +kernel
theorem dX11_line_67 : decode cX11_line 67 = .ok (.getfield 10, 3) := by decide +kernel
theorem dX11_line_70 : decode cX11_line 70 = .ok (.getfield 120, 3) := by decide +kernel
theorem dX11_line_73 : decode cX11_line 73 = .ok (.invokevirtual 181, 3) := by decide +kernel
theorem dX11_line_76 : decode cX11_line 76 = .ok (.ifCond .eq 18, 3) := by decide +kernel
theorem dX11_line_79 : decode cX11_line 79 = .ok (.aload_n 0, 1) := by decide +kernel
theorem dX11_line_80 : decode cX11_line 80 = .ok (.getfield 58, 3) := by decide +kernel
theorem dX11_line_83 : decode cX11_line 83 = .ok (.invokevirtual 191, 3) := by decide +kernel
theorem dX11_line_86 : decode cX11_line 86 = .ok (.iload 5, 2) := by decide +kernel
theorem dX11_line_88 : decode cX11_line 88 = .ok (.if_icmp .ne 6, 3) := by decide +kernel
theorem dX11_line_91 : decode cX11_line 91 = .ok (.iload 6, 2) := by decide +kernel
theorem dX11_line_93 : decode cX11_line 93 = .ok (.ireturn, 1) := by decide +kernel
theorem dX11_line_94 : decode cX11_line 94 = .ok (.iinc 6 1, 3) := by decide +kernel
theorem dX11_line_97 : decode cX11_line 97 = .ok (.goto (-65), 3) := by decide +kernel
theorem dX11_line_100 : decode cX11_line 100 = .ok (.bipush (-3), 2) := by decide +kernel
theorem dX11_line_102 : decode cX11_line 102 = .ok (.ireturn, 1) := by decide +kernel
theorem dX11_parted_0 : decode cX11_parted 0 = .ok (.iload 5, 2) := by decide +kernel
theorem dX11_parted_2 : decode cX11_parted 2 = .ok (.ifCond .lt 27, 3) := by decide +kernel
theorem dX11_parted_5 : decode cX11_parted 5 = .ok (.iload 5, 2) := by decide +kernel
theorem dX11_parted_7 : decode cX11_parted 7 = .ok (.sipush 9999, 3) := by decide +kernel
theorem dX11_parted_10 : decode cX11_parted 10 = .ok (.if_icmp .gt 19, 3) := by decide +kernel
theorem dX11_parted_13 : decode cX11_parted 13 = .ok (.aload_n 0, 1) := by decide +kernel
theorem dX11_parted_14 : decode cX11_parted 14 = .ok (.aload_n 0, 1) := by decide +kernel
theorem dX11_parted_15 : decode cX11_parted 15 = .ok (.getfield 58, 3) := by decide +kernel
theorem dX11_parted_18 : decode cX11_parted 18 = .ok (.iload_n 1, 1) := by decide +kernel
theorem dX11_parted_19 : decode cX11_parted 19 = .ok (.iload_n 2, 1) := by decide +kernel
theorem dX11_parted_20 : decode cX11_parted 20 = .ok (.iload_n 3, 1) := by decide +kernel
theorem dX11_parted_21 : decode cX11_parted 21 = .ok (.iload 4, 2) := by decide +kernel
theorem dX11_parted_23 : decode cX11_parted 23 = .ok (.invokevirtual 143, 3) := by decide +kernel
theorem dX11_parted_26 : decode cX11_parted 26 = .ok (.ifCond .ne 5, 3) := by decide +kernel
theorem dX11_parted_29 : decode cX11_parted 29 = .ok (.iconst (-1), 1) := by decide +kernel
theorem dX11_parted_30 : decode cX11_parted 30 = .ok (.ireturn, 1) := by decide +kernel
theorem dX11_parted_31 : decode cX11_parted 31 = .ok (.aload_n 0, 1) := by decide +kernel
theorem dX11_parted_32 : decode cX11_parted 32 = .ok (.aload_n 0, 1) := by decide +kernel
theorem dX11_parted_33 : decode cX11_parted 33 = .ok (.getfield 62, 3) := by decide +kernel
theorem dX11_parted_36 : decode cX11_parted 36 = .ok (.iload_n 1, 1) := by decide +kernel
theorem dX11_parted_37 : decode cX11_parted 37 = .ok (.iload_n 2, 1) := by decide +kernel
theorem dX11_parted_38 : decode cX11_parted 38 = .ok (.iload_n 3, 1) := by decide +kernel
theorem dX11_parted_39 : decode cX11_parted 39 = .ok (.iconst 1, 1) := by decide +kernel
theorem dX11_parted_40 : decode cX11_parted 40 = .ok (.iadd, 1) := by decide +kernel
theorem dX11_parted_41 : decode cX11_parted 41 = .ok (.bipush 36, 2) := by decide +kernel
theorem dX11_parted_43 : decode cX11_parted 43 = .ok (.irem, 1) := by decide +kernel
theorem dX11_parted_44 : decode cX11_parted 44 = .ok (.iload 4, 2) := by decide +kernel
theorem dX11_parted_46 : decode cX11_parted 46 = .ok (.invokevirtual 143, 3) := by decide +kernel
theorem dX11_parted_49 : decode cX11_parted 49 = .ok (.pop, 1) := by decide +kernel
theorem dX11_parted_50 : decode cX11_parted 50 = .ok (.iconst 0, 1) := by decide +kernel
theorem dX11_parted_51 : decode cX11_parted 51 = .ok (.istore 6, 2) := by decide +kernel
theorem dX11_parted_53 : decode cX11_parted 53 = .ok (.iload 6, 2) := by decide +kernel
theorem dX11_parted_55 : decode cX11_parted 55 = .ok (.sipush 400, 3) := by decide +kernel
theorem dX11_parted_58 : decode cX11_parted 58 = .ok (.if_icmp .ge 88, 3) := by decide +kernel
theorem dX11_parted_61 : decode cX11_parted 61 = .ok (.aload_n 0, 1) := by decide +kernel
theorem dX11_parted_62 : decode cX11_parted 62 = .ok (.getfield 58, 3) := by decide +kernel
theorem dX11_parted_65 : decode cX11_parted 65 = .ok (.invokevirtual 147, 3) := by decide +kernel
theorem dX11_parted_68 : decode cX11_parted 68 = .ok (.ifCond .ne 78, 3) := by decide +kernel
theorem dX11_parted_71 : decode cX11_parted 71 = .ok (.aload_n 0, 1) := by decide +kernel
theorem dX11_parted_72 : decode cX11_parted 72 = .ok (.getfield 62, 3) := by decide +kernel
theorem dX11_parted_75 : decode cX11_parted 75 = .ok (.invokevirtual 147, 3) := by decide +kernel
theorem dX11_parted_78 : decode cX11_parted 78 = .ok (.ifCond .ne 68, 3) := by decide +kernel
theorem dX11_parted_81 : decode cX11_parted 81 = .ok (.aload_n 0, 1) := by decide +kernel
theorem dX11_parted_82 : decode cX11_parted 82 = .ok (.getfield 58, 3) := by decide +kernel
theorem dX11_parted_85 : decode cX11_parted 85 = .ok (.aload_n 0, 1) := by decide +kernel
theorem dX11_parted_86 : decode cX11_parted 86 = .ok (.getfield 10, 3) := by decide +kernel
theorem dX11_parted_89 : decode cX11_parted 89 = .ok (.getfield 120, 3) := by decide +kernel
theorem dX11_parted_92 : decode cX11_parted 92 = .ok (.invokevirtual 151, 3) := by decide +kernel
theorem dX11_parted_95 : decode cX11_parted 95 = .ok (.aload_n 0, 1) := by decide +kernel
theorem dX11_parted_96 : decode cX11_parted 96 = .ok (.getfield 62, 3) := by decide +kernel
theorem dX11_parted_99 : decode cX11_parted 99 = .ok (.aload_n 0, 1) := by decide +kernel
theorem dX11_parted_100 : decode cX11_parted 100 = .ok (.getfield 10, 3) := by decide +kernel
theorem dX11_parted_103 : decode cX11_parted 103 = .ok (.getfield 120, 3) := by decide +kernel
theorem dX11_parted_106 : decode cX11_parted 106 = .ok (.invokevirtual 151, 3) := by decide +kernel
theorem dX11_parted_109 : decode cX11_parted 109 = .ok (.aload_n 0, 1) := by decide +kernel
theorem dX11_parted_110 : decode cX11_parted 110 = .ok (.getfield 58, 3) := by decide +kernel
theorem dX11_parted_113 : decode cX11_parted 113 = .ok (.getfield 159, 3) := by decide +kernel
theorem dX11_parted_116 : decode cX11_parted 116 = .ok (.aload_n 0, 1) := by decide +kernel
theorem dX11_parted_117 : decode cX11_parted 117 = .ok (.getfield 62, 3) := by decide +kernel
theorem dX11_parted_120 : decode cX11_parted 120 = .ok (.getfield 159, 3) := by decide +kernel
theorem dX11_parted_123 : decode cX11_parted 123 = .ok (.isub, 1) := by decide +kernel
theorem dX11_parted_124 : decode cX11_parted 124 = .ok (.invokestatic 198, 3) := by decide +kernel
theorem dX11_parted_127 : decode cX11_parted 127 = .ok (.iload 5, 2) := by decide +kernel
theorem dX11_parted_129 : decode cX11_parted 129 = .ok (.if_icmp .le 11, 3) := by decide +kernel
theorem dX11_parted_132 : decode cX11_parted 132 = .ok (.aload_n 0, 1) := by decide +kernel
theorem dX11_parted_133 : decode cX11_parted 133 = .ok (.getfield 58, 3) := by decide +kernel
theorem dX11_parted_136 : decode cX11_parted 136 = .ok (.getfield 156, 3) := by decide +kernel
theorem dX11_parted_139 : decode cX11_parted 139 = .ok (.ireturn, 1) := by decide +kernel
theorem dX11_parted_140 : decode cX11_parted 140 = .ok (.iinc 6 1, 3) := by decide +kernel
theorem dX11_parted_143 : decode cX11_parted 143 = .ok (.goto (-90), 3) := by decide +kernel
theorem dX11_parted_146 : decode cX11_parted 146 = .ok (.bipush (-3), 2) := by decide +kernel
theorem dX11_parted_148 : decode cX11_parted 148 = .ok (.ireturn, 1) := by decide +kernel
theorem dX11_odds_0 : decode cX11_odds 0 = .ok (.iload 5, 2) := by decide +kernel
theorem dX11_odds_2 : decode cX11_odds 2 = .ok (.invokestatic 203, 3) := by decide +kernel
theorem dX11_odds_5 : decode cX11_odds 5 = .ok (.ifCond .eq 30, 3) := by decide +kernel
theorem dX11_odds_8 : decode cX11_odds 8 = .ok (.iload 6, 2) := by decide +kernel
theorem dX11_odds_10 : decode cX11_odds 10 = .ok (.ifCond .lt 25, 3) := by decide +kernel
theorem dX11_odds_13 : decode cX11_odds 13 = .ok (.iload 6, 2) := by decide +kernel
theorem dX11_odds_15 : decode cX11_odds 15 = .ok (.iconst 1, 1) := by decide +kernel
theorem dX11_odds_16 : decode cX11_odds 16 = .ok (.if_icmp .gt 19, 3) := by decide +kernel
theorem dX11_odds_19 : decode cX11_odds 19 = .ok (.aload_n 0, 1) := by decide +kernel
theorem dX11_odds_20 : decode cX11_odds 20 = .ok (.aload_n 0, 1) := by decide +kernel
theorem dX11_odds_21 : decode cX11_odds 21 = .ok (.getfield 58, 3) := by decide +kernel
theorem dX11_odds_24 : decode cX11_odds 24 = .ok (.iload_n 1, 1) := by decide +kernel
theorem dX11_odds_25 : decode cX11_odds 25 = .ok (.iload_n 2, 1) := by decide +kernel
theorem dX11_odds_26 : decode cX11_odds 26 = .ok (.iload_n 3, 1) := by decide +kernel
theorem dX11_odds_27 : decode cX11_odds 27 = .ok (.iload 4, 2) := by decide +kernel
theorem dX11_odds_29 : decode cX11_odds 29 = .ok (.invokevirtual 143, 3) := by decide +kernel
theorem dX11_odds_32 : decode cX11_odds 32 = .ok (.ifCond .ne 5, 3) := by decide +kernel
theorem dX11_odds_35 : decode cX11_odds 35 = .ok (.iconst (-1), 1) := by decide +kernel
theorem dX11_odds_36 : decode cX11_odds 36 = .ok (.ireturn, 1) := by decide +kernel
theorem dX11_odds_37 : decode cX11_odds 37 = .ok (.iconst 0, 1) := by decide +kernel
theorem dX11_odds_38 : decode cX11_odds 38 = .ok (.istore 7, 2) := by decide +kernel
theorem dX11_odds_40 : decode cX11_odds 40 = .ok (.iconst 0, 1) := by decide +kernel
theorem dX11_odds_41 : decode cX11_odds 41 = .ok (.istore 8, 2) := by decide +kernel
theorem dX11_odds_43 : decode cX11_odds 43 = .ok (.iload 8, 2) := by decide +kernel
theorem dX11_odds_45 : decode cX11_odds 45 = .ok (.iconst 5, 1) := by decide +kernel
theorem dX11_odds_46 : decode cX11_odds 46 = .ok (.if_icmp .ge 56, 3) := by decide +kernel
theorem dX11_odds_49 : decode cX11_odds 49 = .ok (.aload_n 0, 1) := by decide +kernel
theorem dX11_odds_50 : decode cX11_odds 50 = .ok (.getfield 10, 3) := by decide +kernel
theorem dX11_odds_53 : decode cX11_odds 53 = .ok (.getfield 123, 3) := by decide +kernel
theorem dX11_odds_56 : decode cX11_odds 56 = .ok (.iload 8, 2) := by decide +kernel
theorem dX11_odds_58 : decode cX11_odds 58 = .ok (.iaload, 1) := by decide +kernel
theorem dX11_odds_59 : decode cX11_odds 59 = .ok (.ifCond .le 37, 3) := by decide +kernel
theorem dX11_odds_62 : decode cX11_odds 62 = .ok (.aload_n 0, 1) := by decide +kernel
theorem dX11_odds_63 : decode cX11_odds 63 = .ok (.iload_n 1, 1) := by decide +kernel
theorem dX11_odds_64 : decode cX11_odds 64 = .ok (.iload_n 2, 1) := by decide +kernel
theorem dX11_odds_65 : decode cX11_odds 65 = .ok (.iload_n 3, 1) := by decide +kernel
theorem dX11_odds_66 : decode cX11_odds 66 = .ok (.iload 8, 2) := by decide +kernel
theorem dX11_odds_68 : decode cX11_odds 68 = .ok (.invokestatic 207, 3) := by decide +kernel
theorem dX11_odds_71 : decode cX11_odds 71 = .ok (.iload 4, 2) := by decide +kernel
theorem dX11_odds_73 : decode cX11_odds 73 = .ok (.invokevirtual 210, 3) := by decide +kernel
theorem dX11_odds_76 : decode cX11_odds 76 = .ok (.iload 5, 2) := by decide +kernel
theorem dX11_odds_78 : decode cX11_odds 78 = .ok (.if_icmp .ne 18, 3) := by decide +kernel
theorem dX11_odds_81 : decode cX11_odds 81 = .ok (.iload 7, 2) := by decide +kernel
theorem dX11_odds_83 : decode cX11_odds 83 = .ok (.aload_n 0, 1) := by decide +kernel
theorem dX11_odds_84 : decode cX11_odds 84 = .ok (.getfield 10, 3) := by decide +kernel
theorem dX11_odds_87 : decode cX11_odds 87 = .ok (.getfield 123, 3) := by decide +kernel
theorem dX11_odds_90 : decode cX11_odds 90 = .ok (.iload 8, 2) := by decide +kernel
theorem dX11_odds_92 : decode cX11_odds 92 = .ok (.iaload, 1) := by decide +kernel
theorem dX11_odds_93 : decode cX11_odds 93 = .ok (.iadd, 1) := by decide +kernel
theorem dX11_odds_94 : decode cX11_odds 94 = .ok (.istore 7, 2) := by decide +kernel
theorem dX11_odds_96 : decode cX11_odds 96 = .ok (.iinc 8 1, 3) := by decide +kernel
theorem dX11_odds_99 : decode cX11_odds 99 = .ok (.goto (-56), 3) := by decide +kernel
theorem dX11_odds_102 : decode cX11_odds 102 = .ok (.aload_n 0, 1) := by decide +kernel
theorem dX11_odds_103 : decode cX11_odds 103 = .ok (.getfield 10, 3) := by decide +kernel
theorem dX11_odds_106 : decode cX11_odds 106 = .ok (.invokevirtual 126, 3) := by decide +kernel
theorem dX11_odds_109 : decode cX11_odds 109 = .ok (.istore 8, 2) := by decide +kernel
theorem dX11_odds_111 : decode cX11_odds 111 = .ok (.iload 7, 2) := by decide +kernel
theorem dX11_odds_113 : decode cX11_odds 113 = .ok (.iload 8, 2) := by decide +kernel
theorem dX11_odds_115 : decode cX11_odds 115 = .ok (.invokestatic 214, 3) := by decide +kernel
theorem dX11_odds_118 : decode cX11_odds 118 = .ok (.istore 9, 2) := by decide +kernel
theorem dX11_odds_120 : decode cX11_odds 120 = .ok (.iload 9, 2) := by decide +kernel
theorem dX11_odds_122 : decode cX11_odds 122 = .ok (.iconst 1, 1) := by decide +kernel
theorem dX11_odds_123 : decode cX11_odds 123 = .ok (.if_icmp .ge 5, 3) := by decide +kernel
theorem dX11_odds_126 : decode cX11_odds 126 = .ok (.iconst (-1), 1) := by decide +kernel
theorem dX11_odds_127 : decode cX11_odds 127 = .ok (.ireturn, 1) := by decide +kernel
theorem dX11_odds_128 : decode cX11_odds 128 = .ok (.iload 6, 2) := by decide +kernel
theorem dX11_odds_130 : decode cX11_odds 130 = .ok (.ifCond .ne 11, 3) := by decide +kernel
theorem dX11_odds_133 : decode cX11_odds 133 = .ok (.iload 7, 2) := by decide +kernel
theorem dX11_odds_135 : decode cX11_odds 135 = .ok (.iload 9, 2) := by decide +kernel
theorem dX11_odds_137 : decode cX11_odds 137 = .ok (.idiv, 1) := by decide +kernel
theorem dX11_odds_138 : decode cX11_odds 138 = .ok (.goto 8, 3) := by decide +kernel
theorem dX11_odds_141 : decode cX11_odds 141 = .ok (.iload 8, 2) := by decide +kernel
theorem dX11_odds_143 : decode cX11_odds 143 = .ok (.iload 9, 2) := by decide +kernel
theorem dX11_odds_145 : decode cX11_odds 145 = .ok (.idiv, 1) := by decide +kernel
theorem dX11_odds_146 : decode cX11_odds 146 = .ok (.ireturn, 1) := by decide +kernel
theorem dX11_aim_0 : decode cX11_aim 0 = .ok (.iload 4, 2) := by decide +kernel
theorem dX11_aim_2 : decode cX11_aim 2 = .ok (.invokestatic 203, 3) := by decide +kernel
theorem dX11_aim_5 : decode cX11_aim 5 = .ok (.ifCond .eq 18, 3) := by decide +kernel
theorem dX11_aim_8 : decode cX11_aim 8 = .ok (.aload_n 0, 1) := by decide +kernel
theorem dX11_aim_9 : decode cX11_aim 9 = .ok (.aload_n 0, 1) := by decide +kernel
theorem dX11_aim_10 : decode cX11_aim 10 = .ok (.getfield 58, 3) := by decide +kernel
theorem dX11_aim_13 : decode cX11_aim 13 = .ok (.iload_n 1, 1) := by decide +kernel
theorem dX11_aim_14 : decode cX11_aim 14 = .ok (.iload_n 2, 1) := by decide +kernel
theorem dX11_aim_15 : decode cX11_aim 15 = .ok (.iconst 0, 1) := by decide +kernel
theorem dX11_aim_16 : decode cX11_aim 16 = .ok (.iload_n 3, 1) := by decide +kernel
theorem dX11_aim_17 : decode cX11_aim 17 = .ok (.invokevirtual 143, 3) := by decide +kernel
theorem dX11_aim_20 : decode cX11_aim 20 = .ok (.ifCond .ne 5, 3) := by decide +kernel
theorem dX11_aim_23 : decode cX11_aim 23 = .ok (.iconst (-1), 1) := by decide +kernel
theorem dX11_aim_24 : decode cX11_aim 24 = .ok (.ireturn, 1) := by decide +kernel
theorem dX11_aim_25 : decode cX11_aim 25 = .ok (.iconst 0, 1) := by decide +kernel
theorem dX11_aim_26 : decode cX11_aim 26 = .ok (.istore 5, 2) := by decide +kernel
theorem dX11_aim_28 : decode cX11_aim 28 = .ok (.iload 5, 2) := by decide +kernel
theorem dX11_aim_30 : decode cX11_aim 30 = .ok (.bipush 36, 2) := by decide +kernel
theorem dX11_aim_32 : decode cX11_aim 32 = .ok (.if_icmp .ge 25, 3) := by decide +kernel
theorem dX11_aim_35 : decode cX11_aim 35 = .ok (.aload_n 0, 1) := by decide +kernel
theorem dX11_aim_36 : decode cX11_aim 36 = .ok (.getfield 68, 3) := by decide +kernel
theorem dX11_aim_39 : decode cX11_aim 39 = .ok (.iload 5, 2) := by decide +kernel
theorem dX11_aim_41 : decode cX11_aim 41 = .ok (.aload_n 0, 1) := by decide +kernel
theorem dX11_aim_42 : decode cX11_aim 42 = .ok (.iload_n 1, 1) := by decide +kernel
theorem dX11_aim_43 : decode cX11_aim 43 = .ok (.iload_n 2, 1) := by decide +kernel
theorem dX11_aim_44 : decode cX11_aim 44 = .ok (.iload 5, 2) := by decide +kernel
theorem dX11_aim_46 : decode cX11_aim 46 = .ok (.iload_n 3, 1) := by decide +kernel
theorem dX11_aim_47 : decode cX11_aim 47 = .ok (.invokevirtual 210, 3) := by decide +kernel
theorem dX11_aim_50 : decode cX11_aim 50 = .ok (.iastore, 1) := by decide +kernel
theorem dX11_aim_51 : decode cX11_aim 51 = .ok (.iinc 5 1, 3) := by decide +kernel
theorem dX11_aim_54 : decode cX11_aim 54 = .ok (.goto (-26), 3) := by decide +kernel
theorem dX11_aim_57 : decode cX11_aim 57 = .ok (.bipush (-3), 2) := by decide +kernel
theorem dX11_aim_59 : decode cX11_aim 59 = .ok (.istore 5, 2) := by decide +kernel
theorem dX11_aim_61 : decode cX11_aim 61 = .ok (.iconst 0, 1) := by decide +kernel
theorem dX11_aim_62 : decode cX11_aim 62 = .ok (.istore 6, 2) := by decide +kernel
theorem dX11_aim_64 : decode cX11_aim 64 = .ok (.iconst 0, 1) := by decide +kernel
theorem dX11_aim_65 : decode cX11_aim 65 = .ok (.istore 7, 2) := by decide +kernel
theorem dX11_aim_67 : decode cX11_aim 67 = .ok (.iload 7, 2) := by decide +kernel
theorem dX11_aim_69 : decode cX11_aim 69 = .ok (.bipush 36, 2) := by decide +kernel
theorem dX11_aim_71 : decode cX11_aim 71 = .ok (.if_icmp .ge 34, 3) := by decide +kernel
theorem dX11_aim_74 : decode cX11_aim 74 = .ok (.aload_n 0, 1) := by decide +kernel
theorem dX11_aim_75 : decode cX11_aim 75 = .ok (.iload 7, 2) := by decide +kernel
theorem dX11_aim_77 : decode cX11_aim 77 = .ok (.iload 4, 2) := by decide +kernel
theorem dX11_aim_79 : decode cX11_aim 79 = .ok (.invokevirtual 217, 3) := by decide +kernel
theorem dX11_aim_82 : decode cX11_aim 82 = .ok (.istore 8, 2) := by decide +kernel
theorem dX11_aim_84 : decode cX11_aim 84 = .ok (.iload 8, 2) := by decide +kernel
theorem dX11_aim_86 : decode cX11_aim 86 = .ok (.iload 6, 2) := by decide +kernel
theorem dX11_aim_88 : decode cX11_aim 88 = .ok (.if_icmp .le 11, 3) := by decide +kernel
theorem dX11_aim_91 : decode cX11_aim 91 = .ok (.iload 8, 2) := by decide +kernel
theorem dX11_aim_93 : decode cX11_aim 93 = .ok (.istore 6, 2) := by decide +kernel
theorem dX11_aim_95 : decode cX11_aim 95 = .ok (.iload 7, 2) := by decide +kernel
theorem dX11_aim_97 : decode cX11_aim 97 = .ok (.istore 5, 2) := by decide +kernel
theorem dX11_aim_99 : decode cX11_aim 99 = .ok (.iinc 7 1, 3) := by decide +kernel
theorem dX11_aim_102 : decode cX11_aim 102 = .ok (.goto (-35), 3) := by decide +kernel
theorem dX11_aim_105 : decode cX11_aim 105 = .ok (.iload 5, 2) := by decide +kernel
theorem dX11_aim_107 : decode cX11_aim 107 = .ok (.ireturn, 1) := by decide +kernel
theorem dX11_longest_0 : decode cX11_longest 0 = .ok (.iload_n 1, 1) := by decide +kernel
theorem dX11_longest_1 : decode cX11_longest 1 = .ok (.iload_n 2, 1) := by decide +kernel
theorem dX11_longest_2 : decode cX11_longest 2 = .ok (.iload_n 3, 1) := by decide +kernel
theorem dX11_longest_3 : decode cX11_longest 3 = .ok (.invokestatic 220, 3) := by decide +kernel
theorem dX11_longest_6 : decode cX11_longest 6 = .ok (.ifCond .ne 5, 3) := by decide +kernel
theorem dX11_longest_9 : decode cX11_longest 9 = .ok (.iconst (-1), 1) := by decide +kernel
theorem dX11_longest_10 : decode cX11_longest 10 = .ok (.ireturn, 1) := by decide +kernel
theorem dX11_longest_11 : decode cX11_longest 11 = .ok (.bipush (-3), 2) := by decide +kernel
theorem dX11_longest_13 : decode cX11_longest 13 = .ok (.istore 4, 2) := by decide +kernel
theorem dX11_longest_15 : decode cX11_longest 15 = .ok (.iconst 0, 1) := by decide +kernel
theorem dX11_longest_16 : decode cX11_longest 16 = .ok (.istore 5, 2) := by decide +kernel
theorem dX11_longest_18 : decode cX11_longest 18 = .ok (.iconst 0, 1) := by decide +kernel
theorem dX11_longest_19 : decode cX11_longest 19 = .ok (.istore 6, 2) := by decide +kernel
theorem dX11_longest_21 : decode cX11_longest 21 = .ok (.iload 6, 2) := by decide +kernel
theorem dX11_longest_23 : decode cX11_longest 23 = .ok (.aload_n 0, 1) := by decide +kernel
theorem dX11_longest_24 : decode cX11_longest 24 = .ok (.getfield 10, 3) := by decide +kernel
theorem dX11_longest_27 : decode cX11_longest 27 = .ok (.getfield 94, 3) := by decide +kernel
theorem dX11_longest_30 : decode cX11_longest 30 = .ok (.if_icmp .ge 63, 3) := by decide +kernel
theorem dX11_longest_33 : decode cX11_longest 33 = .ok (.aload_n 0, 1) := by decide +kernel
theorem dX11_longest_34 : decode cX11_longest 34 = .ok (.aload_n 0, 1) := by decide +kernel
theorem dX11_longest_35 : decode cX11_longest 35 = .ok (.getfield 58, 3) := by decide +kernel
theorem dX11_longest_38 : decode cX11_longest 38 = .ok (.iload 6, 2) := by decide +kernel
theorem dX11_longest_40 : decode cX11_longest 40 = .ok (.iload_n 1, 1) := by decide +kernel
theorem dX11_longest_41 : decode cX11_longest 41 = .ok (.iload_n 2, 1) := by decide +kernel
theorem dX11_longest_42 : decode cX11_longest 42 = .ok (.iload_n 3, 1) := by decide +kernel
theorem dX11_longest_43 : decode cX11_longest 43 = .ok (.invokevirtual 143, 3) := by decide +kernel
theorem dX11_longest_46 : decode cX11_longest 46 = .ok (.pop, 1) := by decide +kernel
theorem dX11_longest_47 : decode cX11_longest 47 = .ok (.aload_n 0, 1) := by decide +kernel
theorem dX11_longest_48 : decode cX11_longest 48 = .ok (.getfield 58, 3) := by decide +kernel
theorem dX11_longest_51 : decode cX11_longest 51 = .ok (.aload_n 0, 1) := by decide +kernel
theorem dX11_longest_52 : decode cX11_longest 52 = .ok (.getfield 10, 3) := by decide +kernel
theorem dX11_longest_55 : decode cX11_longest 55 = .ok (.getfield 120, 3) := by decide +kernel
theorem dX11_longest_58 : decode cX11_longest 58 = .ok (.invokevirtual 181, 3) := by decide +kernel
theorem dX11_longest_61 : decode cX11_longest 61 = .ok (.pop, 1) := by decide +kernel
theorem dX11_longest_62 : decode cX11_longest 62 = .ok (.aload_n 0, 1) := by decide +kernel
theorem dX11_longest_63 : decode cX11_longest 63 = .ok (.getfield 58, 3) := by decide +kernel
theorem dX11_longest_66 : decode cX11_longest 66 = .ok (.getfield 156, 3) := by decide +kernel
theorem dX11_longest_69 : decode cX11_longest 69 = .ok (.iload 5, 2) := by decide +kernel
theorem dX11_longest_71 : decode cX11_longest 71 = .ok (.if_icmp .le 16, 3) := by decide +kernel
theorem dX11_longest_74 : decode cX11_longest 74 = .ok (.aload_n 0, 1) := by decide +kernel
theorem dX11_longest_75 : decode cX11_longest 75 = .ok (.getfield 58, 3) := by decide +kernel
theorem dX11_longest_78 : decode cX11_longest 78 = .ok (.getfield 156, 3) := by decide +kernel
theorem dX11_longest_81 : decode cX11_longest 81 = .ok (.istore 5, 2) := by decide +kernel
theorem dX11_longest_83 : decode cX11_longest 83 = .ok (.iload 6, 2) := by decide +kernel
theorem dX11_longest_85 : decode cX11_longest 85 = .ok (.istore 4, 2) := by decide +kernel
theorem dX11_longest_87 : decode cX11_longest 87 = .ok (.iinc 6 1, 3) := by decide +kernel
theorem dX11_longest_90 : decode cX11_longest 90 = .ok (.goto (-69), 3) := by decide +kernel
theorem dX11_longest_93 : decode cX11_longest 93 = .ok (.iload 4, 2) := by decide +kernel
theorem dX11_longest_95 : decode cX11_longest 95 = .ok (.ireturn, 1) := by decide +kernel
theorem dX11_fit_0 : decode cX11_fit 0 = .ok (.iload 6, 2) := by decide +kernel
theorem dX11_fit_2 : decode cX11_fit 2 = .ok (.ifCond .lt 26, 3) := by decide +kernel
theorem dX11_fit_5 : decode cX11_fit 5 = .ok (.iload 6, 2) := by decide +kernel
theorem dX11_fit_7 : decode cX11_fit 7 = .ok (.bipush 6, 2) := by decide +kernel
theorem dX11_fit_9 : decode cX11_fit 9 = .ok (.if_icmp .ge 19, 3) := by decide +kernel
theorem dX11_fit_12 : decode cX11_fit 12 = .ok (.aload_n 0, 1) := by decide +kernel
theorem dX11_fit_13 : decode cX11_fit 13 = .ok (.aload_n 0, 1) := by decide +kernel
theorem dX11_fit_14 : decode cX11_fit 14 = .ok (.getfield 58, 3) := by decide +kernel
theorem dX11_fit_17 : decode cX11_fit 17 = .ok (.iload_n 1, 1) := by decide +kernel
theorem dX11_fit_18 : decode cX11_fit 18 = .ok (.iload_n 2, 1) := by decide +kernel
theorem dX11_fit_19 : decode cX11_fit 19 = .ok (.iload_n 3, 1) := by decide +kernel
theorem dX11_fit_20 : decode cX11_fit 20 = .ok (.iload 4, 2) := by decide +kernel
theorem dX11_fit_22 : decode cX11_fit 22 = .ok (.invokevirtual 143, 3) := by decide +kernel
theorem dX11_fit_25 : decode cX11_fit 25 = .ok (.ifCond .ne 5, 3) := by decide +kernel
theorem dX11_fit_28 : decode cX11_fit 28 = .ok (.iconst (-1), 1) := by decide +kernel
theorem dX11_fit_29 : decode cX11_fit 29 = .ok (.ireturn, 1) := by decide +kernel
theorem dX11_fit_30 : decode cX11_fit 30 = .ok (.aload_n 0, 1) := by decide +kernel
theorem dX11_fit_31 : decode cX11_fit 31 = .ok (.iload 5, 2) := by decide +kernel
theorem dX11_fit_33 : decode cX11_fit 33 = .ok (.invokevirtual 224, 3) := by decide +kernel
theorem dX11_fit_36 : decode cX11_fit 36 = .ok (.astore 7, 2) := by decide +kernel
theorem dX11_fit_38 : decode cX11_fit 38 = .ok (.aload 7, 2) := by decide +kernel
theorem dX11_fit_40 : decode cX11_fit 40 = .ok (.invokestatic 228, 3) := by decide +kernel
theorem dX11_fit_43 : decode cX11_fit 43 = .ok (.istore 8, 2) := by decide +kernel
theorem dX11_fit_45 : decode cX11_fit 45 = .ok (.aload 7, 2) := by decide +kernel
theorem dX11_fit_47 : decode cX11_fit 47 = .ok (.ifnull 8, 3) := by decide +kernel
theorem dX11_fit_50 : decode cX11_fit 50 = .ok (.iload 8, 2) := by decide +kernel
theorem dX11_fit_52 : decode cX11_fit 52 = .ok (.ifCond .ge 6, 3) := by decide +kernel
theorem dX11_fit_55 : decode cX11_fit 55 = .ok (.iload 8, 2) := by decide +kernel
theorem dX11_fit_57 : decode cX11_fit 57 = .ok (.ireturn, 1) := by decide +kernel
theorem dX11_fit_58 : decode cX11_fit 58 = .ok (.aload_n 0, 1) := by decide +kernel
theorem dX11_fit_59 : decode cX11_fit 59 = .ok (.getfield 10, 3) := by decide +kernel
theorem dX11_fit_62 : decode cX11_fit 62 = .ok (.getfield 120, 3) := by decide +kernel
theorem dX11_fit_65 : decode cX11_fit 65 = .ok (.iconst 0, 1) := by decide +kernel
theorem dX11_fit_66 : decode cX11_fit 66 = .ok (.aload_n 0, 1) := by decide +kernel
theorem dX11_fit_67 : decode cX11_fit 67 = .ok (.getfield 65, 3) := by decide +kernel
theorem dX11_fit_70 : decode cX11_fit 70 = .ok (.iconst 0, 1) := by decide +kernel
theorem dX11_fit_71 : decode cX11_fit 71 = .ok (.bipush 6, 2) := by decide +kernel
theorem dX11_fit_73 : decode cX11_fit 73 = .ok (.invokestatic 232, 3) := by decide +kernel
theorem dX11_fit_76 : decode cX11_fit 76 = .ok (.iconst 0, 1) := by decide +kernel
theorem dX11_fit_77 : decode cX11_fit 77 = .ok (.istore 9, 2) := by decide +kernel
theorem dX11_fit_79 : decode cX11_fit 79 = .ok (.ldc 238, 2) := by decide +kernel
theorem dX11_fit_81 : decode cX11_fit 81 = .ok (.istore 10, 2) := by decide +kernel
theorem dX11_fit_83 : decode cX11_fit 83 = .ok (.iconst 0, 1) := by decide +kernel
theorem dX11_fit_84 : decode cX11_fit 84 = .ok (.istore 11, 2) := by decide +kernel
theorem dX11_fit_86 : decode cX11_fit 86 = .ok (.iload 11, 2) := by decide +kernel
theorem dX11_fit_88 : decode cX11_fit 88 = .ok (.bipush 63, 2) := by decide +kernel
theorem dX11_fit_90 : decode cX11_fit 90 = .ok (.if_icmp .gt 62, 3) := by decide +kernel
theorem dX11_fit_93 : decode cX11_fit 93 = .ok (.aload_n 0, 1) := by decide +kernel
theorem dX11_fit_94 : decode cX11_fit 94 = .ok (.getfield 65, 3) := by decide +kernel
theorem dX11_fit_97 : decode cX11_fit 97 = .ok (.iload 6, 2) := by decide +kernel
theorem dX11_fit_99 : decode cX11_fit 99 = .ok (.iload 11, 2) := by decide +kernel
theorem dX11_fit_101 : decode cX11_fit 101 = .ok (.iastore, 1) := by decide +kernel
theorem dX11_fit_102 : decode cX11_fit 102 = .ok (.aload_n 0, 1) := by decide +kernel
theorem dX11_fit_103 : decode cX11_fit 103 = .ok (.aload_n 0, 1) := by decide +kernel
theorem dX11_fit_104 : decode cX11_fit 104 = .ok (.getfield 58, 3) := by decide +kernel
theorem dX11_fit_107 : decode cX11_fit 107 = .ok (.iload_n 1, 1) := by decide +kernel
theorem dX11_fit_108 : decode cX11_fit 108 = .ok (.iload_n 2, 1) := by decide +kernel
theorem dX11_fit_109 : decode cX11_fit 109 = .ok (.iload_n 3, 1) := by decide +kernel
theorem dX11_fit_110 : decode cX11_fit 110 = .ok (.iload 4, 2) := by decide +kernel
theorem dX11_fit_112 : decode cX11_fit 112 = .ok (.invokevirtual 143, 3) := by decide +kernel
theorem dX11_fit_115 : decode cX11_fit 115 = .ok (.pop, 1) := by decide +kernel
theorem dX11_fit_116 : decode cX11_fit 116 = .ok (.aload_n 0, 1) := by decide +kernel
theorem dX11_fit_117 : decode cX11_fit 117 = .ok (.getfield 58, 3) := by decide +kernel
theorem dX11_fit_120 : decode cX11_fit 120 = .ok (.aload 7, 2) := by decide +kernel
theorem dX11_fit_122 : decode cX11_fit 122 = .ok (.aload_n 0, 1) := by decide +kernel
theorem dX11_fit_123 : decode cX11_fit 123 = .ok (.getfield 65, 3) := by decide +kernel
theorem dX11_fit_126 : decode cX11_fit 126 = .ok (.invokestatic 239, 3) := by decide +kernel
theorem dX11_fit_129 : decode cX11_fit 129 = .ok (.istore 12, 2) := by decide +kernel
theorem dX11_fit_131 : decode cX11_fit 131 = .ok (.iload 12, 2) := by decide +kernel
theorem dX11_fit_133 : decode cX11_fit 133 = .ok (.iload 10, 2) := by decide +kernel
theorem dX11_fit_135 : decode cX11_fit 135 = .ok (.if_icmp .ge 11, 3) := by decide +kernel
theorem dX11_fit_138 : decode cX11_fit 138 = .ok (.iload 12, 2) := by decide +kernel
theorem dX11_fit_140 : decode cX11_fit 140 = .ok (.istore 10, 2) := by decide +kernel
theorem dX11_fit_142 : decode cX11_fit 142 = .ok (.iload 11, 2) := by decide +kernel
theorem dX11_fit_144 : decode cX11_fit 144 = .ok (.istore 9, 2) := by decide +kernel
theorem dX11_fit_146 : decode cX11_fit 146 = .ok (.iinc 11 1, 3) := by decide +kernel
theorem dX11_fit_149 : decode cX11_fit 149 = .ok (.goto (-63), 3) := by decide +kernel
theorem dX11_fit_152 : decode cX11_fit 152 = .ok (.iload 9, 2) := by decide +kernel
theorem dX11_fit_154 : decode cX11_fit 154 = .ok (.ireturn, 1) := by decide +kernel
theorem dX11_miss_0 : decode cX11_miss 0 = .ok (.aload_n 0, 1) := by decide +kernel
theorem dX11_miss_1 : decode cX11_miss 1 = .ok (.aload_n 0, 1) := by decide +kernel
theorem dX11_miss_2 : decode cX11_miss 2 = .ok (.getfield 58, 3) := by decide +kernel
theorem dX11_miss_5 : decode cX11_miss 5 = .ok (.iload_n 1, 1) := by decide +kernel
theorem dX11_miss_6 : decode cX11_miss 6 = .ok (.iload_n 2, 1) := by decide +kernel
theorem dX11_miss_7 : decode cX11_miss 7 = .ok (.iload_n 3, 1) := by decide +kernel
theorem dX11_miss_8 : decode cX11_miss 8 = .ok (.iload 4, 2) := by decide +kernel
theorem dX11_miss_10 : decode cX11_miss 10 = .ok (.invokevirtual 143, 3) := by decide +kernel
theorem dX11_miss_13 : decode cX11_miss 13 = .ok (.ifCond .ne 5, 3) := by decide +kernel
theorem dX11_miss_16 : decode cX11_miss 16 = .ok (.iconst (-1), 1) := by decide +kernel
theorem dX11_miss_17 : decode cX11_miss 17 = .ok (.ireturn, 1) := by decide +kernel
theorem dX11_miss_18 : decode cX11_miss 18 = .ok (.aload_n 0, 1) := by decide +kernel
theorem dX11_miss_19 : decode cX11_miss 19 = .ok (.iload 5, 2) := by decide +kernel
theorem dX11_miss_21 : decode cX11_miss 21 = .ok (.invokevirtual 224, 3) := by decide +kernel
theorem dX11_miss_24 : decode cX11_miss 24 = .ok (.astore 6, 2) := by decide +kernel
theorem dX11_miss_26 : decode cX11_miss 26 = .ok (.aload 6, 2) := by decide +kernel
theorem dX11_miss_28 : decode cX11_miss 28 = .ok (.invokestatic 228, 3) := by decide +kernel
theorem dX11_miss_31 : decode cX11_miss 31 = .ok (.istore 7, 2) := by decide +kernel
theorem dX11_miss_33 : decode cX11_miss 33 = .ok (.aload 6, 2) := by decide +kernel
theorem dX11_miss_35 : decode cX11_miss 35 = .ok (.ifnull 8, 3) := by decide +kernel
theorem dX11_miss_38 : decode cX11_miss 38 = .ok (.iload 7, 2) := by decide +kernel
theorem dX11_miss_40 : decode cX11_miss 40 = .ok (.ifCond .ge 8, 3) := by decide +kernel
theorem dX11_miss_43 : decode cX11_miss 43 = .ok (.iload 7, 2) := by decide +kernel
theorem dX11_miss_45 : decode cX11_miss 45 = .ok (.goto 19, 3) := by decide +kernel
theorem dX11_miss_48 : decode cX11_miss 48 = .ok (.aload_n 0, 1) := by decide +kernel
theorem dX11_miss_49 : decode cX11_miss 49 = .ok (.getfield 58, 3) := by decide +kernel
theorem dX11_miss_52 : decode cX11_miss 52 = .ok (.aload 6, 2) := by decide +kernel
theorem dX11_miss_54 : decode cX11_miss 54 = .ok (.aload_n 0, 1) := by decide +kernel
theorem dX11_miss_55 : decode cX11_miss 55 = .ok (.getfield 10, 3) := by decide +kernel
theorem dX11_miss_58 : decode cX11_miss 58 = .ok (.getfield 120, 3) := by decide +kernel
theorem dX11_miss_61 : decode cX11_miss 61 = .ok (.invokestatic 239, 3) := by decide +kernel
theorem dX11_miss_64 : decode cX11_miss 64 = .ok (.ireturn, 1) := by decide +kernel
theorem dX11_toss_0 : decode cX11_toss 0 = .ok (.aload_n 0, 1) := by decide +kernel
theorem dX11_toss_1 : decode cX11_toss 1 = .ok (.getfield 10, 3) := by decide +kernel
theorem dX11_toss_4 : decode cX11_toss 4 = .ok (.invokevirtual 126, 3) := by decide +kernel
theorem dX11_toss_7 : decode cX11_toss 7 = .ok (.istore 5, 2) := by decide +kernel
theorem dX11_toss_9 : decode cX11_toss 9 = .ok (.iload 5, 2) := by decide +kernel
theorem dX11_toss_11 : decode cX11_toss 11 = .ok (.iconst 1, 1) := by decide +kernel
theorem dX11_toss_12 : decode cX11_toss 12 = .ok (.if_icmp .lt 19, 3) := by decide +kernel
theorem dX11_toss_15 : decode cX11_toss 15 = .ok (.aload_n 0, 1) := by decide +kernel
theorem dX11_toss_16 : decode cX11_toss 16 = .ok (.aload_n 0, 1) := by decide +kernel
theorem dX11_toss_17 : decode cX11_toss 17 = .ok (.getfield 58, 3) := by decide +kernel
theorem dX11_toss_20 : decode cX11_toss 20 = .ok (.iload_n 1, 1) := by decide +kernel
theorem dX11_toss_21 : decode cX11_toss 21 = .ok (.iload_n 2, 1) := by decide +kernel
theorem dX11_toss_22 : decode cX11_toss 22 = .ok (.iload_n 3, 1) := by decide +kernel
theorem dX11_toss_23 : decode cX11_toss 23 = .ok (.iload 4, 2) := by decide +kernel
theorem dX11_toss_25 : decode cX11_toss 25 = .ok (.invokevirtual 143, 3) := by decide +kernel
theorem dX11_toss_28 : decode cX11_toss 28 = .ok (.ifCond .ne 6, 3) := by decide +kernel
theorem dX11_toss_31 : decode cX11_toss 31 = .ok (.ldc 155, 2) := by decide +kernel
theorem dX11_toss_33 : decode cX11_toss 33 = .ok (.ireturn, 1) := by decide +kernel
theorem dX11_toss_34 : decode cX11_toss 34 = .ok (.aload_n 0, 1) := by decide +kernel
theorem dX11_toss_35 : decode cX11_toss 35 = .ok (.getfield 10, 3) := by decide +kernel
theorem dX11_toss_38 : decode cX11_toss 38 = .ok (.aload_n 0, 1) := by decide +kernel
theorem dX11_toss_39 : decode cX11_toss 39 = .ok (.getfield 10, 3) := by decide +kernel
theorem dX11_toss_42 : decode cX11_toss 42 = .ok (.getfield 243, 3) := by decide +kernel
theorem dX11_toss_45 : decode cX11_toss 45 = .ok (.ldc 246, 2) := by decide +kernel
theorem dX11_toss_47 : decode cX11_toss 47 = .ok (.imul, 1) := by decide +kernel
theorem dX11_toss_48 : decode cX11_toss 48 = .ok (.sipush 12345, 3) := by decide +kernel
theorem dX11_toss_51 : decode cX11_toss 51 = .ok (.iadd, 1) := by decide +kernel
theorem dX11_toss_52 : decode cX11_toss 52 = .ok (.putfield 243, 3) := by decide +kernel
theorem dX11_toss_55 : decode cX11_toss 55 = .ok (.aload_n 0, 1) := by decide +kernel
theorem dX11_toss_56 : decode cX11_toss 56 = .ok (.iload_n 1, 1) := by decide +kernel
theorem dX11_toss_57 : decode cX11_toss 57 = .ok (.iload_n 2, 1) := by decide +kernel
theorem dX11_toss_58 : decode cX11_toss 58 = .ok (.iload_n 3, 1) := by decide +kernel
theorem dX11_toss_59 : decode cX11_toss 59 = .ok (.aload_n 0, 1) := by decide +kernel
theorem dX11_toss_60 : decode cX11_toss 60 = .ok (.aload_n 0, 1) := by decide +kernel
theorem dX11_toss_61 : decode cX11_toss 61 = .ok (.getfield 10, 3) := by decide +kernel
theorem dX11_toss_64 : decode cX11_toss 64 = .ok (.getfield 243, 3) := by decide +kernel
theorem dX11_toss_67 : decode cX11_toss 67 = .ok (.bipush 16, 2) := by decide +kernel
theorem dX11_toss_69 : decode cX11_toss 69 = .ok (.iushr, 1) := by decide +kernel
theorem dX11_toss_70 : decode cX11_toss 70 = .ok (.iload 5, 2) := by decide +kernel
theorem dX11_toss_72 : decode cX11_toss 72 = .ok (.irem, 1) := by decide +kernel
theorem dX11_toss_73 : decode cX11_toss 73 = .ok (.invokevirtual 247, 3) := by decide +kernel
theorem dX11_toss_76 : decode cX11_toss 76 = .ok (.invokestatic 207, 3) := by decide +kernel
theorem dX11_toss_79 : decode cX11_toss 79 = .ok (.iload 4, 2) := by decide +kernel
theorem dX11_toss_81 : decode cX11_toss 81 = .ok (.invokevirtual 210, 3) := by decide +kernel
theorem dX11_toss_84 : decode cX11_toss 84 = .ok (.ireturn, 1) := by decide +kernel
theorem dX11_seed_0 : decode cX11_seed 0 = .ok (.aload_n 0, 1) := by decide +kernel
theorem dX11_seed_1 : decode cX11_seed 1 = .ok (.getfield 10, 3) := by decide +kernel
theorem dX11_seed_4 : decode cX11_seed 4 = .ok (.getfield 243, 3) := by decide +kernel
theorem dX11_seed_7 : decode cX11_seed 7 = .ok (.istore_n 2, 1) := by decide +kernel
theorem dX11_seed_8 : decode cX11_seed 8 = .ok (.aload_n 0, 1) := by decide +kernel
theorem dX11_seed_9 : decode cX11_seed 9 = .ok (.getfield 10, 3) := by decide +kernel
theorem dX11_seed_12 : decode cX11_seed 12 = .ok (.iload_n 1, 1) := by decide +kernel
theorem dX11_seed_13 : decode cX11_seed 13 = .ok (.putfield 243, 3) := by decide +kernel
theorem dX11_seed_16 : decode cX11_seed 16 = .ok (.iload_n 2, 1) := by decide +kernel
theorem dX11_seed_17 : decode cX11_seed 17 = .ok (.ireturn, 1) := by decide +kernel
theorem dX11_prove_0 : decode cX11_prove 0 = .ok (.iload_n 1, 1) := by decide +kernel
theorem dX11_prove_1 : decode cX11_prove 1 = .ok (.iconst 1, 1) := by decide +kernel
theorem dX11_prove_2 : decode cX11_prove 2 = .ok (.if_icmp .lt 9, 3) := by decide +kernel
theorem dX11_prove_5 : decode cX11_prove 5 = .ok (.iload_n 1, 1) := by decide +kernel
theorem dX11_prove_6 : decode cX11_prove 6 = .ok (.bipush 20, 2) := by decide +kernel
theorem dX11_prove_8 : decode cX11_prove 8 = .ok (.if_icmp .le 5, 3) := by decide +kernel
theorem dX11_prove_11 : decode cX11_prove 11 = .ok (.iconst (-1), 1) := by decide +kernel
theorem dX11_prove_12 : decode cX11_prove 12 = .ok (.ireturn, 1) := by decide +kernel
theorem dX11_prove_13 : decode cX11_prove 13 = .ok (.aload_n 0, 1) := by decide +kernel
theorem dX11_prove_14 : decode cX11_prove 14 = .ok (.getfield 10, 3) := by decide +kernel
theorem dX11_prove_17 : decode cX11_prove 17 = .ok (.getfield 133, 3) := by decide +kernel
theorem dX11_prove_20 : decode cX11_prove 20 = .ok (.getfield 136, 3) := by decide +kernel
theorem dX11_prove_23 : decode cX11_prove 23 = .ok (.ifnonnull 6, 3) := by decide +kernel
theorem dX11_prove_26 : decode cX11_prove 26 = .ok (.bipush (-4), 2) := by decide +kernel
theorem dX11_prove_28 : decode cX11_prove 28 = .ok (.ireturn, 1) := by decide +kernel
theorem dX11_prove_29 : decode cX11_prove 29 = .ok (.aload_n 0, 1) := by decide +kernel
theorem dX11_prove_30 : decode cX11_prove 30 = .ok (.getfield 58, 3) := by decide +kernel
theorem dX11_prove_33 : decode cX11_prove 33 = .ok (.aload_n 0, 1) := by decide +kernel
theorem dX11_prove_34 : decode cX11_prove 34 = .ok (.getfield 10, 3) := by decide +kernel
theorem dX11_prove_37 : decode cX11_prove 37 = .ok (.getfield 133, 3) := by decide +kernel
theorem dX11_prove_40 : decode cX11_prove 40 = .ok (.invokevirtual 250, 3) := by decide +kernel
theorem dX11_prove_43 : decode cX11_prove 43 = .ok (.aload_n 0, 1) := by decide +kernel
theorem dX11_prove_44 : decode cX11_prove 44 = .ok (.iconst 0, 1) := by decide +kernel
theorem dX11_prove_45 : decode cX11_prove 45 = .ok (.putfield 91, 3) := by decide +kernel
theorem dX11_prove_48 : decode cX11_prove 48 = .ok (.aload_n 0, 1) := by decide +kernel
theorem dX11_prove_49 : decode cX11_prove 49 = .ok (.getfield 91, 3) := by decide +kernel
theorem dX11_prove_52 : decode cX11_prove 52 = .ok (.iload_n 1, 1) := by decide +kernel
theorem dX11_prove_53 : decode cX11_prove 53 = .ok (.if_icmp .ge 90, 3) := by decide +kernel
theorem dX11_prove_56 : decode cX11_prove 56 = .ok (.aload_n 0, 1) := by decide +kernel
theorem dX11_prove_57 : decode cX11_prove 57 = .ok (.getfield 58, 3) := by decide +kernel
theorem dX11_prove_60 : decode cX11_prove 60 = .ok (.invokevirtual 147, 3) := by decide +kernel
theorem dX11_prove_63 : decode cX11_prove 63 = .ok (.ifCond .ne 80, 3) := by decide +kernel
theorem dX11_prove_66 : decode cX11_prove 66 = .ok (.aload_n 0, 1) := by decide +kernel
theorem dX11_prove_67 : decode cX11_prove 67 = .ok (.getfield 58, 3) := by decide +kernel
theorem dX11_prove_70 : decode cX11_prove 70 = .ok (.aload_n 0, 1) := by decide +kernel
theorem dX11_prove_71 : decode cX11_prove 71 = .ok (.getfield 10, 3) := by decide +kernel
theorem dX11_prove_74 : decode cX11_prove 74 = .ok (.getfield 120, 3) := by decide +kernel
theorem dX11_prove_77 : decode cX11_prove 77 = .ok (.invokevirtual 151, 3) := by decide +kernel
theorem dX11_prove_80 : decode cX11_prove 80 = .ok (.aload_n 0, 1) := by decide +kernel
theorem dX11_prove_81 : decode cX11_prove 81 = .ok (.getfield 91, 3) := by decide +kernel
theorem dX11_prove_84 : decode cX11_prove 84 = .ok (.iconst 3, 1) := by decide +kernel
theorem dX11_prove_85 : decode cX11_prove 85 = .ok (.imul, 1) := by decide +kernel
theorem dX11_prove_86 : decode cX11_prove 86 = .ok (.istore_n 2, 1) := by decide +kernel
theorem dX11_prove_87 : decode cX11_prove 87 = .ok (.aload_n 0, 1) := by decide +kernel
theorem dX11_prove_88 : decode cX11_prove 88 = .ok (.getfield 52, 3) := by decide +kernel
theorem dX11_prove_91 : decode cX11_prove 91 = .ok (.iload_n 2, 1) := by decide +kernel
theorem dX11_prove_92 : decode cX11_prove 92 = .ok (.aload_n 0, 1) := by decide +kernel
theorem dX11_prove_93 : decode cX11_prove 93 = .ok (.getfield 58, 3) := by decide +kernel
theorem dX11_prove_96 : decode cX11_prove 96 = .ok (.getfield 159, 3) := by decide +kernel
theorem dX11_prove_99 : decode cX11_prove 99 = .ok (.iastore, 1) := by decide +kernel
theorem dX11_prove_100 : decode cX11_prove 100 = .ok (.aload_n 0, 1) := by decide +kernel
theorem dX11_prove_101 : decode cX11_prove 101 = .ok (.getfield 52, 3) := by decide +kernel
theorem dX11_prove_104 : decode cX11_prove 104 = .ok (.iload_n 2, 1) := by decide +kernel
theorem dX11_prove_105 : decode cX11_prove 105 = .ok (.iconst 1, 1) := by decide +kernel
theorem dX11_prove_106 : decode cX11_prove 106 = .ok (.iadd, 1) := by decide +kernel
theorem dX11_prove_107 : decode cX11_prove 107 = .ok (.aload_n 0, 1) := by decide +kernel
theorem dX11_prove_108 : decode cX11_prove 108 = .ok (.getfield 58, 3) := by decide +kernel
theorem dX11_prove_111 : decode cX11_prove 111 = .ok (.getfield 162, 3) := by decide +kernel
theorem dX11_prove_114 : decode cX11_prove 114 = .ok (.iastore, 1) := by decide +kernel
theorem dX11_prove_115 : decode cX11_prove 115 = .ok (.aload_n 0, 1) := by decide +kernel
theorem dX11_prove_116 : decode cX11_prove 116 = .ok (.getfield 52, 3) := by decide +kernel
theorem dX11_prove_119 : decode cX11_prove 119 = .ok (.iload_n 2, 1) := by decide +kernel
theorem dX11_prove_120 : decode cX11_prove 120 = .ok (.iconst 2, 1) := by decide +kernel
theorem dX11_prove_121 : decode cX11_prove 121 = .ok (.iadd, 1) := by decide +kernel
theorem dX11_prove_122 : decode cX11_prove 122 = .ok (.aload_n 0, 1) := by decide +kernel
theorem dX11_prove_123 : decode cX11_prove 123 = .ok (.getfield 58, 3) := by decide +kernel
theorem dX11_prove_126 : decode cX11_prove 126 = .ok (.getfield 165, 3) := by decide +kernel
theorem dX11_prove_129 : decode cX11_prove 129 = .ok (.iastore, 1) := by decide +kernel
theorem dX11_prove_130 : decode cX11_prove 130 = .ok (.aload_n 0, 1) := by decide +kernel
theorem dX11_prove_131 : decode cX11_prove 131 = .ok (.dup, 1) := by decide +kernel
theorem dX11_prove_132 : decode cX11_prove 132 = .ok (.getfield 91, 3) := by decide +kernel
theorem dX11_prove_135 : decode cX11_prove 135 = .ok (.iconst 1, 1) := by decide +kernel
theorem dX11_prove_136 : decode cX11_prove 136 = .ok (.iadd, 1) := by decide +kernel
theorem dX11_prove_137 : decode cX11_prove 137 = .ok (.putfield 91, 3) := by decide +kernel
theorem dX11_prove_140 : decode cX11_prove 140 = .ok (.goto (-92), 3) := by decide +kernel
theorem dX11_prove_143 : decode cX11_prove 143 = .ok (.aload_n 0, 1) := by decide +kernel
theorem dX11_prove_144 : decode cX11_prove 144 = .ok (.getfield 91, 3) := by decide +kernel
theorem dX11_prove_147 : decode cX11_prove 147 = .ok (.ireturn, 1) := by decide +kernel
theorem dX11_row_0 : decode cX11_row 0 = .ok (.aload_n 0, 1) := by decide +kernel
theorem dX11_row_1 : decode cX11_row 1 = .ok (.iload_n 1, 1) := by decide +kernel
theorem dX11_row_2 : decode cX11_row 2 = .ok (.iload_n 2, 1) := by decide +kernel
theorem dX11_row_3 : decode cX11_row 3 = .ok (.invokevirtual 253, 3) := by decide +kernel
theorem dX11_row_6 : decode cX11_row 6 = .ok (.ifCond .eq 16, 3) := by decide +kernel
theorem dX11_row_9 : decode cX11_row 9 = .ok (.aload_n 0, 1) := by decide +kernel
theorem dX11_row_10 : decode cX11_row 10 = .ok (.getfield 52, 3) := by decide +kernel
theorem dX11_row_13 : decode cX11_row 13 = .ok (.iload_n 1, 1) := by decide +kernel
theorem dX11_row_14 : decode cX11_row 14 = .ok (.iconst 3, 1) := by decide +kernel
theorem dX11_row_15 : decode cX11_row 15 = .ok (.imul, 1) := by decide +kernel
theorem dX11_row_16 : decode cX11_row 16 = .ok (.iload_n 2, 1) := by decide +kernel
theorem dX11_row_17 : decode cX11_row 17 = .ok (.iadd, 1) := by decide +kernel
theorem dX11_row_18 : decode cX11_row 18 = .ok (.iaload, 1) := by decide +kernel
theorem dX11_row_19 : decode cX11_row 19 = .ok (.goto 5, 3) := by decide +kernel
theorem dX11_row_22 : decode cX11_row 22 = .ok (.ldc 155, 2) := by decide +kernel
theorem dX11_row_24 : decode cX11_row 24 = .ok (.ireturn, 1) := by decide +kernel
theorem dX11_alterRow_0 : decode cX11_alterRow 0 = .ok (.aload_n 0, 1) := by decide +kernel
theorem dX11_alterRow_1 : decode cX11_alterRow 1 = .ok (.iload_n 1, 1) := by decide +kernel
theorem dX11_alterRow_2 : decode cX11_alterRow 2 = .ok (.iload_n 2, 1) := by decide +kernel
theorem dX11_alterRow_3 : decode cX11_alterRow 3 = .ok (.invokevirtual 253, 3) := by decide +kernel
theorem dX11_alterRow_6 : decode cX11_alterRow 6 = .ok (.ifCond .ne 6, 3) := by decide +kernel
theorem dX11_alterRow_9 : decode cX11_alterRow 9 = .ok (.ldc 155, 2) := by decide +kernel
theorem dX11_alterRow_11 : decode cX11_alterRow 11 = .ok (.ireturn, 1) := by decide +kernel
theorem dX11_alterRow_12 : decode cX11_alterRow 12 = .ok (.aload_n 0, 1) := by decide +kernel
theorem dX11_alterRow_13 : decode cX11_alterRow 13 = .ok (.getfield 52, 3) := by decide +kernel
theorem dX11_alterRow_16 : decode cX11_alterRow 16 = .ok (.iload_n 1, 1) := by decide +kernel
theorem dX11_alterRow_17 : decode cX11_alterRow 17 = .ok (.iconst 3, 1) := by decide +kernel
theorem dX11_alterRow_18 : decode cX11_alterRow 18 = .ok (.imul, 1) := by decide +kernel
theorem dX11_alterRow_19 : decode cX11_alterRow 19 = .ok (.iload_n 2, 1) := by decide +kernel
theorem dX11_alterRow_20 : decode cX11_alterRow 20 = .ok (.iadd, 1) := by decide +kernel
theorem dX11_alterRow_21 : decode cX11_alterRow 21 = .ok (.iaload, 1) := by decide +kernel
theorem dX11_alterRow_22 : decode cX11_alterRow 22 = .ok (.istore 4, 2) := by decide +kernel
theorem dX11_alterRow_24 : decode cX11_alterRow 24 = .ok (.aload_n 0, 1) := by decide +kernel
theorem dX11_alterRow_25 : decode cX11_alterRow 25 = .ok (.getfield 52, 3) := by decide +kernel
theorem dX11_alterRow_28 : decode cX11_alterRow 28 = .ok (.iload_n 1, 1) := by decide +kernel
theorem dX11_alterRow_29 : decode cX11_alterRow 29 = .ok (.iconst 3, 1) := by decide +kernel
theorem dX11_alterRow_30 : decode cX11_alterRow 30 = .ok (.imul, 1) := by decide +kernel
theorem dX11_alterRow_31 : decode cX11_alterRow 31 = .ok (.iload_n 2, 1) := by decide +kernel
theorem dX11_alterRow_32 : decode cX11_alterRow 32 = .ok (.iadd, 1) := by decide +kernel
theorem dX11_alterRow_33 : decode cX11_alterRow 33 = .ok (.iload_n 3, 1) := by decide +kernel
theorem dX11_alterRow_34 : decode cX11_alterRow 34 = .ok (.iastore, 1) := by decide +kernel
theorem dX11_alterRow_35 : decode cX11_alterRow 35 = .ok (.iload 4, 2) := by decide +kernel
theorem dX11_alterRow_37 : decode cX11_alterRow 37 = .ok (.ireturn, 1) := by decide +kernel
theorem dX11_judge_0 : decode cX11_judge 0 = .ok (.aload_n 0, 1) := by decide +kernel
theorem dX11_judge_1 : decode cX11_judge 1 = .ok (.getfield 10, 3) := by decide +kernel
theorem dX11_judge_4 : decode cX11_judge 4 = .ok (.getfield 133, 3) := by decide +kernel
theorem dX11_judge_7 : decode cX11_judge 7 = .ok (.getfield 136, 3) := by decide +kernel
theorem dX11_judge_10 : decode cX11_judge 10 = .ok (.ifnonnull 6, 3) := by decide +kernel
theorem dX11_judge_13 : decode cX11_judge 13 = .ok (.bipush (-4), 2) := by decide +kernel
theorem dX11_judge_15 : decode cX11_judge 15 = .ok (.ireturn, 1) := by decide +kernel
theorem dX11_judge_16 : decode cX11_judge 16 = .ok (.aload_n 0, 1) := by decide +kernel
theorem dX11_judge_17 : decode cX11_judge 17 = .ok (.getfield 58, 3) := by decide +kernel
theorem dX11_judge_20 : decode cX11_judge 20 = .ok (.aload_n 0, 1) := by decide +kernel
theorem dX11_judge_21 : decode cX11_judge 21 = .ok (.getfield 10, 3) := by decide +kernel
theorem dX11_judge_24 : decode cX11_judge 24 = .ok (.getfield 133, 3) := by decide +kernel
theorem dX11_judge_27 : decode cX11_judge 27 = .ok (.invokevirtual 250, 3) := by decide +kernel
theorem dX11_judge_30 : decode cX11_judge 30 = .ok (.iconst 0, 1) := by decide +kernel
theorem dX11_judge_31 : decode cX11_judge 31 = .ok (.istore_n 1, 1) := by decide +kernel
theorem dX11_judge_32 : decode cX11_judge 32 = .ok (.iload_n 1, 1) := by decide +kernel
theorem dX11_judge_33 : decode cX11_judge 33 = .ok (.aload_n 0, 1) := by decide +kernel
theorem dX11_judge_34 : decode cX11_judge 34 = .ok (.getfield 91, 3) := by decide +kernel
theorem dX11_judge_37 : decode cX11_judge 37 = .ok (.if_icmp .ge 97, 3) := by decide +kernel
theorem dX11_judge_40 : decode cX11_judge 40 = .ok (.aload_n 0, 1) := by decide +kernel
theorem dX11_judge_41 : decode cX11_judge 41 = .ok (.getfield 58, 3) := by decide +kernel
theorem dX11_judge_44 : decode cX11_judge 44 = .ok (.invokevirtual 147, 3) := by decide +kernel
theorem dX11_judge_47 : decode cX11_judge 47 = .ok (.ifCond .eq 7, 3) := by decide +kernel
theorem dX11_judge_50 : decode cX11_judge 50 = .ok (.iload_n 1, 1) := by decide +kernel
theorem dX11_judge_51 : decode cX11_judge 51 = .ok (.iconst 1, 1) := by decide +kernel
theorem dX11_judge_52 : decode cX11_judge 52 = .ok (.iadd, 1) := by decide +kernel
theorem dX11_judge_53 : decode cX11_judge 53 = .ok (.ireturn, 1) := by decide +kernel
theorem dX11_judge_54 : decode cX11_judge 54 = .ok (.aload_n 0, 1) := by decide +kernel
theorem dX11_judge_55 : decode cX11_judge 55 = .ok (.getfield 58, 3) := by decide +kernel
theorem dX11_judge_58 : decode cX11_judge 58 = .ok (.aload_n 0, 1) := by decide +kernel
theorem dX11_judge_59 : decode cX11_judge 59 = .ok (.getfield 10, 3) := by decide +kernel
theorem dX11_judge_62 : decode cX11_judge 62 = .ok (.getfield 120, 3) := by decide +kernel
theorem dX11_judge_65 : decode cX11_judge 65 = .ok (.invokevirtual 151, 3) := by decide +kernel
theorem dX11_judge_68 : decode cX11_judge 68 = .ok (.iload_n 1, 1) := by decide +kernel
theorem dX11_judge_69 : decode cX11_judge 69 = .ok (.iconst 3, 1) := by decide +kernel
theorem dX11_judge_70 : decode cX11_judge 70 = .ok (.imul, 1) := by decide +kernel
theorem dX11_judge_71 : decode cX11_judge 71 = .ok (.istore_n 2, 1) := by decide +kernel
theorem dX11_judge_72 : decode cX11_judge 72 = .ok (.aload_n 0, 1) := by decide +kernel
theorem dX11_judge_73 : decode cX11_judge 73 = .ok (.getfield 52, 3) := by decide +kernel
theorem dX11_judge_76 : decode cX11_judge 76 = .ok (.iload_n 2, 1) := by decide +kernel
theorem dX11_judge_77 : decode cX11_judge 77 = .ok (.iaload, 1) := by decide +kernel
theorem dX11_judge_78 : decode cX11_judge 78 = .ok (.aload_n 0, 1) := by decide +kernel
theorem dX11_judge_79 : decode cX11_judge 79 = .ok (.getfield 58, 3) := by decide +kernel
theorem dX11_judge_82 : decode cX11_judge 82 = .ok (.getfield 159, 3) := by decide +kernel
theorem dX11_judge_85 : decode cX11_judge 85 = .ok (.if_icmp .ne 39, 3) := by decide +kernel
theorem dX11_judge_88 : decode cX11_judge 88 = .ok (.aload_n 0, 1) := by decide +kernel
theorem dX11_judge_89 : decode cX11_judge 89 = .ok (.getfield 52, 3) := by decide +kernel
theorem dX11_judge_92 : decode cX11_judge 92 = .ok (.iload_n 2, 1) := by decide +kernel
theorem dX11_judge_93 : decode cX11_judge 93 = .ok (.iconst 1, 1) := by decide +kernel
theorem dX11_judge_94 : decode cX11_judge 94 = .ok (.iadd, 1) := by decide +kernel
theorem dX11_judge_95 : decode cX11_judge 95 = .ok (.iaload, 1) := by decide +kernel
theorem dX11_judge_96 : decode cX11_judge 96 = .ok (.aload_n 0, 1) := by decide +kernel
theorem dX11_judge_97 : decode cX11_judge 97 = .ok (.getfield 58, 3) := by decide +kernel
theorem dX11_judge_100 : decode cX11_judge 100 = .ok (.getfield 162, 3) := by decide +kernel
theorem dX11_judge_103 : decode cX11_judge 103 = .ok (.if_icmp .ne 21, 3) := by decide +kernel
theorem dX11_judge_106 : decode cX11_judge 106 = .ok (.aload_n 0, 1) := by decide +kernel
theorem dX11_judge_107 : decode cX11_judge 107 = .ok (.getfield 52, 3) := by decide +kernel
theorem dX11_judge_110 : decode cX11_judge 110 = .ok (.iload_n 2, 1) := by decide +kernel
theorem dX11_judge_111 : decode cX11_judge 111 = .ok (.iconst 2, 1) := by decide +kernel
theorem dX11_judge_112 : decode cX11_judge 112 = .ok (.iadd, 1) := by decide +kernel
theorem dX11_judge_113 : decode cX11_judge 113 = .ok (.iaload, 1) := by decide +kernel
theorem dX11_judge_114 : decode cX11_judge 114 = .ok (.aload_n 0, 1) := by decide +kernel
theorem dX11_judge_115 : decode cX11_judge 115 = .ok (.getfield 58, 3) := by decide +kernel
theorem dX11_judge_118 : decode cX11_judge 118 = .ok (.getfield 165, 3) := by decide +kernel
theorem dX11_judge_121 : decode cX11_judge 121 = .ok (.if_icmp .eq 7, 3) := by decide +kernel
theorem dX11_judge_124 : decode cX11_judge 124 = .ok (.iload_n 1, 1) := by decide +kernel
theorem dX11_judge_125 : decode cX11_judge 125 = .ok (.iconst 1, 1) := by decide +kernel
theorem dX11_judge_126 : decode cX11_judge 126 = .ok (.iadd, 1) := by decide +kernel
theorem dX11_judge_127 : decode cX11_judge 127 = .ok (.ireturn, 1) := by decide +kernel
theorem dX11_judge_128 : decode cX11_judge 128 = .ok (.iinc 1 1, 3) := by decide +kernel
theorem dX11_judge_131 : decode cX11_judge 131 = .ok (.goto (-99), 3) := by decide +kernel
theorem dX11_judge_134 : decode cX11_judge 134 = .ok (.iconst 0, 1) := by decide +kernel
theorem dX11_judge_135 : decode cX11_judge 135 = .ok (.ireturn, 1) := by decide +kernel
theorem dX11_sheet_0 : decode cX11_sheet 0 = .ok (.aload_n 0, 1) := by decide +kernel
theorem dX11_sheet_1 : decode cX11_sheet 1 = .ok (.iload_n 1, 1) := by decide +kernel
theorem dX11_sheet_2 : decode cX11_sheet 2 = .ok (.invokevirtual 224, 3) := by decide +kernel
theorem dX11_sheet_5 : decode cX11_sheet 5 = .ok (.astore 4, 2) := by decide +kernel
theorem dX11_sheet_7 : decode cX11_sheet 7 = .ok (.aload 4, 2) := by decide +kernel
theorem dX11_sheet_9 : decode cX11_sheet 9 = .ok (.ifnull 13, 3) := by decide +kernel
theorem dX11_sheet_12 : decode cX11_sheet 12 = .ok (.iload_n 2, 1) := by decide +kernel
theorem dX11_sheet_13 : decode cX11_sheet 13 = .ok (.iconst (-1), 1) := by decide +kernel
theorem dX11_sheet_14 : decode cX11_sheet 14 = .ok (.if_icmp .lt 8, 3) := by decide +kernel
theorem dX11_sheet_17 : decode cX11_sheet 17 = .ok (.iload_n 2, 1) := by decide +kernel
theorem dX11_sheet_18 : decode cX11_sheet 18 = .ok (.iconst 4, 1) := by decide +kernel
theorem dX11_sheet_19 : decode cX11_sheet 19 = .ok (.if_icmp .lt 5, 3) := by decide +kernel
theorem dX11_sheet_22 : decode cX11_sheet 22 = .ok (.iconst (-1), 1) := by decide +kernel
theorem dX11_sheet_23 : decode cX11_sheet 23 = .ok (.ireturn, 1) := by decide +kernel
theorem dX11_sheet_24 : decode cX11_sheet 24 = .ok (.iload_n 2, 1) := by decide +kernel
theorem dX11_sheet_25 : decode cX11_sheet 25 = .ok (.iconst (-1), 1) := by decide +kernel
theorem dX11_sheet_26 : decode cX11_sheet 26 = .ok (.if_icmp .ne 12, 3) := by decide +kernel
theorem dX11_sheet_29 : decode cX11_sheet 29 = .ok (.aload 4, 2) := by decide +kernel
theorem dX11_sheet_31 : decode cX11_sheet 31 = .ok (.iconst (-1), 1) := by decide +kernel
theorem dX11_sheet_32 : decode cX11_sheet 32 = .ok (.iconst 0, 1) := by decide +kernel
theorem dX11_sheet_33 : decode cX11_sheet 33 = .ok (.invokevirtual 257, 3) := by decide +kernel
theorem dX11_sheet_36 : decode cX11_sheet 36 = .ok (.iconst 1, 1) := by decide +kernel
theorem dX11_sheet_37 : decode cX11_sheet 37 = .ok (.ireturn, 1) := by decide +kernel
theorem dX11_sheet_38 : decode cX11_sheet 38 = .ok (.iload_n 3, 1) := by decide +kernel
theorem dX11_sheet_39 : decode cX11_sheet 39 = .ok (.bipush 40, 2) := by decide +kernel
theorem dX11_sheet_41 : decode cX11_sheet 41 = .ok (.if_icmp .le 5, 3) := by decide +kernel
theorem dX11_sheet_44 : decode cX11_sheet 44 = .ok (.iconst (-1), 1) := by decide +kernel
theorem dX11_sheet_45 : decode cX11_sheet 45 = .ok (.ireturn, 1) := by decide +kernel
theorem dX11_sheet_46 : decode cX11_sheet 46 = .ok (.iload_n 3, 1) := by decide +kernel
theorem dX11_sheet_47 : decode cX11_sheet 47 = .ok (.ifCond .ge 6, 3) := by decide +kernel
theorem dX11_sheet_50 : decode cX11_sheet 50 = .ok (.bipush (-14), 2) := by decide +kernel
theorem dX11_sheet_52 : decode cX11_sheet 52 = .ok (.ireturn, 1) := by decide +kernel
theorem dX11_sheet_53 : decode cX11_sheet 53 = .ok (.aload 4, 2) := by decide +kernel
theorem dX11_sheet_55 : decode cX11_sheet 55 = .ok (.iload_n 2, 1) := by decide +kernel
theorem dX11_sheet_56 : decode cX11_sheet 56 = .ok (.iload_n 3, 1) := by decide +kernel
theorem dX11_sheet_57 : decode cX11_sheet 57 = .ok (.invokevirtual 257, 3) := by decide +kernel
theorem dX11_sheet_60 : decode cX11_sheet 60 = .ok (.iconst 1, 1) := by decide +kernel
theorem dX11_sheet_61 : decode cX11_sheet 61 = .ok (.ireturn, 1) := by decide +kernel
theorem dX11_put_0 : decode cX11_put 0 = .ok (.aload_n 0, 1) := by decide +kernel
theorem dX11_put_1 : decode cX11_put 1 = .ok (.iload_n 1, 1) := by decide +kernel
theorem dX11_put_2 : decode cX11_put 2 = .ok (.invokevirtual 224, 3) := by decide +kernel
theorem dX11_put_5 : decode cX11_put 5 = .ok (.astore 4, 2) := by decide +kernel
theorem dX11_put_7 : decode cX11_put 7 = .ok (.aload 4, 2) := by decide +kernel
theorem dX11_put_9 : decode cX11_put 9 = .ok (.ifnonnull 5, 3) := by decide +kernel
theorem dX11_put_12 : decode cX11_put 12 = .ok (.iconst (-1), 1) := by decide +kernel
theorem dX11_put_13 : decode cX11_put 13 = .ok (.ireturn, 1) := by decide +kernel
theorem dX11_put_14 : decode cX11_put 14 = .ok (.aload 4, 2) := by decide +kernel
theorem dX11_put_16 : decode cX11_put 16 = .ok (.getfield 261, 3) := by decide +kernel
theorem dX11_put_19 : decode cX11_put 19 = .ok (.iconst (-1), 1) := by decide +kernel
theorem dX11_put_20 : decode cX11_put 20 = .ok (.if_icmp .ne 6, 3) := by decide +kernel
theorem dX11_put_23 : decode cX11_put 23 = .ok (.bipush (-11), 2) := by decide +kernel
theorem dX11_put_25 : decode cX11_put 25 = .ok (.ireturn, 1) := by decide +kernel
theorem dX11_put_26 : decode cX11_put 26 = .ok (.iload_n 2, 1) := by decide +kernel
theorem dX11_put_27 : decode cX11_put 27 = .ok (.ifCond .lt 12, 3) := by decide +kernel
theorem dX11_put_30 : decode cX11_put 30 = .ok (.iload_n 2, 1) := by decide +kernel
theorem dX11_put_31 : decode cX11_put 31 = .ok (.aload 4, 2) := by decide +kernel
theorem dX11_put_33 : decode cX11_put 33 = .ok (.getfield 263, 3) := by decide +kernel
theorem dX11_put_36 : decode cX11_put 36 = .ok (.if_icmp .lt 6, 3) := by decide +kernel
theorem dX11_put_39 : decode cX11_put 39 = .ok (.bipush (-12), 2) := by decide +kernel
theorem dX11_put_41 : decode cX11_put 41 = .ok (.ireturn, 1) := by decide +kernel
theorem dX11_put_42 : decode cX11_put 42 = .ok (.aload 4, 2) := by decide +kernel
theorem dX11_put_44 : decode cX11_put 44 = .ok (.getfield 264, 3) := by decide +kernel
theorem dX11_put_47 : decode cX11_put 47 = .ok (.iload_n 2, 1) := by decide +kernel
theorem dX11_put_48 : decode cX11_put 48 = .ok (.aload 4, 2) := by decide +kernel
theorem dX11_put_50 : decode cX11_put 50 = .ok (.iload_n 3, 1) := by decide +kernel
theorem dX11_put_51 : decode cX11_put 51 = .ok (.invokevirtual 268, 3) := by decide +kernel
theorem dX11_put_54 : decode cX11_put 54 = .ok (.lastore, 1) := by decide +kernel
theorem dX11_put_55 : decode cX11_put 55 = .ok (.iconst 1, 1) := by decide +kernel
theorem dX11_put_56 : decode cX11_put 56 = .ok (.ireturn, 1) := by decide +kernel
theorem dX11_item_0 : decode cX11_item 0 = .ok (.aload_n 0, 1) := by decide +kernel
theorem dX11_item_1 : decode cX11_item 1 = .ok (.iload_n 1, 1) := by decide +kernel
theorem dX11_item_2 : decode cX11_item 2 = .ok (.invokevirtual 224, 3) := by decide +kernel
theorem dX11_item_5 : decode cX11_item 5 = .ok (.astore 4, 2) := by decide +kernel
theorem dX11_item_7 : decode cX11_item 7 = .ok (.aload 4, 2) := by decide +kernel
theorem dX11_item_9 : decode cX11_item 9 = .ok (.ifnull 12, 3) := by decide +kernel
theorem dX11_item_12 : decode cX11_item 12 = .ok (.iload_n 2, 1) := by decide +kernel
theorem dX11_item_13 : decode cX11_item 13 = .ok (.ifCond .lt 8, 3) := by decide +kernel
theorem dX11_item_16 : decode cX11_item 16 = .ok (.iload_n 2, 1) := by decide +kernel
theorem dX11_item_17 : decode cX11_item 17 = .ok (.iconst 4, 1) := by decide +kernel
theorem dX11_item_18 : decode cX11_item 18 = .ok (.if_icmp .lt 5, 3) := by decide +kernel
theorem dX11_item_21 : decode cX11_item 21 = .ok (.iconst (-1), 1) := by decide +kernel
theorem dX11_item_22 : decode cX11_item 22 = .ok (.ireturn, 1) := by decide +kernel
theorem dX11_item_23 : decode cX11_item 23 = .ok (.aload 4, 2) := by decide +kernel
theorem dX11_item_25 : decode cX11_item 25 = .ok (.getfield 261, 3) := by decide +kernel
theorem dX11_item_28 : decode cX11_item 28 = .ok (.iconst (-1), 1) := by decide +kernel
theorem dX11_item_29 : decode cX11_item 29 = .ok (.if_icmp .ne 6, 3) := by decide +kernel
theorem dX11_item_32 : decode cX11_item 32 = .ok (.bipush (-11), 2) := by decide +kernel
theorem dX11_item_34 : decode cX11_item 34 = .ok (.ireturn, 1) := by decide +kernel
theorem dX11_item_35 : decode cX11_item 35 = .ok (.aload 4, 2) := by decide +kernel
theorem dX11_item_37 : decode cX11_item 37 = .ok (.getfield 261, 3) := by decide +kernel
theorem dX11_item_40 : decode cX11_item 40 = .ok (.iload_n 2, 1) := by decide +kernel
theorem dX11_item_41 : decode cX11_item 41 = .ok (.if_icmp .eq 6, 3) := by decide +kernel
theorem dX11_item_44 : decode cX11_item 44 = .ok (.bipush (-13), 2) := by decide +kernel
theorem dX11_item_46 : decode cX11_item 46 = .ok (.ireturn, 1) := by decide +kernel
theorem dX11_item_47 : decode cX11_item 47 = .ok (.iload_n 3, 1) := by decide +kernel
theorem dX11_item_48 : decode cX11_item 48 = .ok (.ifCond .lt 12, 3) := by decide +kernel
theorem dX11_item_51 : decode cX11_item 51 = .ok (.iload_n 3, 1) := by decide +kernel
theorem dX11_item_52 : decode cX11_item 52 = .ok (.aload 4, 2) := by decide +kernel
theorem dX11_item_54 : decode cX11_item 54 = .ok (.getfield 263, 3) := by decide +kernel
theorem dX11_item_57 : decode cX11_item 57 = .ok (.if_icmp .lt 8, 3) := by decide +kernel
theorem dX11_item_60 : decode cX11_item 60 = .ok (.bipush (-12), 2) := by decide +kernel
theorem dX11_item_62 : decode cX11_item 62 = .ok (.goto 11, 3) := by decide +kernel
theorem dX11_item_65 : decode cX11_item 65 = .ok (.aload 4, 2) := by decide +kernel
theorem dX11_item_67 : decode cX11_item 67 = .ok (.getfield 264, 3) := by decide +kernel
theorem dX11_item_70 : decode cX11_item 70 = .ok (.iload_n 3, 1) := by decide +kernel
theorem dX11_item_71 : decode cX11_item 71 = .ok (.laload, 1) := by decide +kernel
theorem dX11_item_72 : decode cX11_item 72 = .ok (.l2i, 1) := by decide +kernel
theorem dX11_item_73 : decode cX11_item 73 = .ok (.ireturn, 1) := by decide +kernel
theorem dX11_shelf_0 : decode cX11_shelf 0 = .ok (.iload_n 1, 1) := by decide +kernel
theorem dX11_shelf_1 : decode cX11_shelf 1 = .ok (.invokestatic 272, 3) := by decide +kernel
theorem dX11_shelf_4 : decode cX11_shelf 4 = .ok (.ifCond .ne 5, 3) := by decide +kernel
theorem dX11_shelf_7 : decode cX11_shelf 7 = .ok (.iconst (-1), 1) := by decide +kernel
theorem dX11_shelf_8 : decode cX11_shelf 8 = .ok (.ireturn, 1) := by decide +kernel
theorem dX11_shelf_9 : decode cX11_shelf 9 = .ok (.iload_n 2, 1) := by decide +kernel
theorem dX11_shelf_10 : decode cX11_shelf 10 = .ok (.tableswitch 70 0 2 #[26, 50, 61], 26) := by decide +kernel
theorem dX11_shelf_36 : decode cX11_shelf 36 = .ok (.aload_n 0, 1) := by decide +kernel
theorem dX11_shelf_37 : decode cX11_shelf 37 = .ok (.getfield 10, 3) := by decide +kernel
theorem dX11_shelf_40 : decode cX11_shelf 40 = .ok (.iload_n 3, 1) := by decide +kernel
theorem dX11_shelf_41 : decode cX11_shelf 41 = .ok (.invokevirtual 101, 3) := by decide +kernel
theorem dX11_shelf_44 : decode cX11_shelf 44 = .ok (.ifnonnull 7, 3) := by decide +kernel
theorem dX11_shelf_47 : decode cX11_shelf 47 = .ok (.iconst (-1), 1) := by decide +kernel
theorem dX11_shelf_48 : decode cX11_shelf 48 = .ok (.goto 11, 3) := by decide +kernel
theorem dX11_shelf_51 : decode cX11_shelf 51 = .ok (.aload_n 0, 1) := by decide +kernel
theorem dX11_shelf_52 : decode cX11_shelf 52 = .ok (.iload_n 1, 1) := by decide +kernel
theorem dX11_shelf_53 : decode cX11_shelf 53 = .ok (.iconst 1, 1) := by decide +kernel
theorem dX11_shelf_54 : decode cX11_shelf 54 = .ok (.iload_n 3, 1) := by decide +kernel
theorem dX11_shelf_55 : decode cX11_shelf 55 = .ok (.iconst 0, 1) := by decide +kernel
theorem dX11_shelf_56 : decode cX11_shelf 56 = .ok (.invokevirtual 275, 3) := by decide +kernel
theorem dX11_shelf_59 : decode cX11_shelf 59 = .ok (.ireturn, 1) := by decide +kernel
theorem dX11_shelf_60 : decode cX11_shelf 60 = .ok (.aload_n 0, 1) := by decide +kernel
theorem dX11_shelf_61 : decode cX11_shelf 61 = .ok (.iload_n 1, 1) := by decide +kernel
theorem dX11_shelf_62 : decode cX11_shelf 62 = .ok (.aload_n 0, 1) := by decide +kernel
theorem dX11_shelf_63 : decode cX11_shelf 63 = .ok (.iload_n 3, 1) := by decide +kernel
theorem dX11_shelf_64 : decode cX11_shelf 64 = .ok (.invokevirtual 224, 3) := by decide +kernel
theorem dX11_shelf_67 : decode cX11_shelf 67 = .ok (.invokevirtual 278, 3) := by decide +kernel
theorem dX11_shelf_70 : decode cX11_shelf 70 = .ok (.ireturn, 1) := by decide +kernel
theorem dX11_shelf_71 : decode cX11_shelf 71 = .ok (.aload_n 0, 1) := by decide +kernel
theorem dX11_shelf_72 : decode cX11_shelf 72 = .ok (.iload_n 1, 1) := by decide +kernel
theorem dX11_shelf_73 : decode cX11_shelf 73 = .ok (.iconst 0, 1) := by decide +kernel
theorem dX11_shelf_74 : decode cX11_shelf 74 = .ok (.iconst 0, 1) := by decide +kernel
theorem dX11_shelf_75 : decode cX11_shelf 75 = .ok (.iconst 0, 1) := by decide +kernel
theorem dX11_shelf_76 : decode cX11_shelf 76 = .ok (.invokevirtual 275, 3) := by decide +kernel
theorem dX11_shelf_79 : decode cX11_shelf 79 = .ok (.ireturn, 1) := by decide +kernel
theorem dX11_shelf_80 : decode cX11_shelf 80 = .ok (.iconst (-1), 1) := by decide +kernel
theorem dX11_shelf_81 : decode cX11_shelf 81 = .ok (.ireturn, 1) := by decide +kernel
theorem dX11_taken_0 : decode cX11_taken 0 = .ok (.iload_n 2, 1) := by decide +kernel
theorem dX11_taken_1 : decode cX11_taken 1 = .ok (.ifCond .lt 12, 3) := by decide +kernel
theorem dX11_taken_4 : decode cX11_taken 4 = .ok (.iload_n 2, 1) := by decide +kernel
theorem dX11_taken_5 : decode cX11_taken 5 = .ok (.iconst 5, 1) := by decide +kernel
theorem dX11_taken_6 : decode cX11_taken 6 = .ok (.if_icmp .gt 7, 3) := by decide +kernel
theorem dX11_taken_9 : decode cX11_taken 9 = .ok (.iconst 1, 1) := by decide +kernel
theorem dX11_taken_10 : decode cX11_taken 10 = .ok (.goto 4, 3) := by decide +kernel
theorem dX11_taken_13 : decode cX11_taken 13 = .ok (.iconst 0, 1) := by decide +kernel
theorem dX11_taken_14 : decode cX11_taken 14 = .ok (.istore_n 3, 1) := by decide +kernel
theorem dX11_taken_15 : decode cX11_taken 15 = .ok (.iload_n 2, 1) := by decide +kernel
theorem dX11_taken_16 : decode cX11_taken 16 = .ok (.bipush 10, 2) := by decide +kernel
theorem dX11_taken_18 : decode cX11_taken 18 = .ok (.if_icmp .lt 13, 3) := by decide +kernel
theorem dX11_taken_21 : decode cX11_taken 21 = .ok (.iload_n 2, 1) := by decide +kernel
theorem dX11_taken_22 : decode cX11_taken 22 = .ok (.bipush 13, 2) := by decide +kernel
theorem dX11_taken_24 : decode cX11_taken 24 = .ok (.if_icmp .gt 7, 3) := by decide +kernel
theorem dX11_taken_27 : decode cX11_taken 27 = .ok (.iconst 1, 1) := by decide +kernel
theorem dX11_taken_28 : decode cX11_taken 28 = .ok (.goto 4, 3) := by decide +kernel
theorem dX11_taken_31 : decode cX11_taken 31 = .ok (.iconst 0, 1) := by decide +kernel
theorem dX11_taken_32 : decode cX11_taken 32 = .ok (.istore 4, 2) := by decide +kernel
theorem dX11_taken_34 : decode cX11_taken 34 = .ok (.iload_n 1, 1) := by decide +kernel
theorem dX11_taken_35 : decode cX11_taken 35 = .ok (.invokestatic 272, 3) := by decide +kernel
theorem dX11_taken_38 : decode cX11_taken 38 = .ok (.ifCond .eq 12, 3) := by decide +kernel
theorem dX11_taken_41 : decode cX11_taken 41 = .ok (.iload_n 3, 1) := by decide +kernel
theorem dX11_taken_42 : decode cX11_taken 42 = .ok (.ifCond .ne 10, 3) := by decide +kernel
theorem dX11_taken_45 : decode cX11_taken 45 = .ok (.iload 4, 2) := by decide +kernel
theorem dX11_taken_47 : decode cX11_taken 47 = .ok (.ifCond .ne 5, 3) := by decide +kernel
theorem dX11_taken_50 : decode cX11_taken 50 = .ok (.iconst (-1), 1) := by decide +kernel
theorem dX11_taken_51 : decode cX11_taken 51 = .ok (.ireturn, 1) := by decide +kernel
theorem dX11_taken_52 : decode cX11_taken 52 = .ok (.aload_n 0, 1) := by decide +kernel
theorem dX11_taken_53 : decode cX11_taken 53 = .ok (.getfield 42, 3) := by decide +kernel
theorem dX11_taken_56 : decode cX11_taken 56 = .ok (.iload_n 1, 1) := by decide +kernel
theorem dX11_taken_57 : decode cX11_taken 57 = .ok (.iaload, 1) := by decide +kernel
theorem dX11_taken_58 : decode cX11_taken 58 = .ok (.iconst 2, 1) := by decide +kernel
theorem dX11_taken_59 : decode cX11_taken 59 = .ok (.if_icmp .ne 28, 3) := by decide +kernel
theorem dX11_taken_62 : decode cX11_taken 62 = .ok (.aload_n 0, 1) := by decide +kernel
theorem dX11_taken_63 : decode cX11_taken 63 = .ok (.getfield 46, 3) := by decide +kernel
theorem dX11_taken_66 : decode cX11_taken 66 = .ok (.iload_n 1, 1) := by decide +kernel
theorem dX11_taken_67 : decode cX11_taken 67 = .ok (.iaload, 1) := by decide +kernel
theorem dX11_taken_68 : decode cX11_taken 68 = .ok (.iload_n 2, 1) := by decide +kernel
theorem dX11_taken_69 : decode cX11_taken 69 = .ok (.bipush 10, 2) := by decide +kernel
theorem dX11_taken_71 : decode cX11_taken 71 = .ok (.isub, 1) := by decide +kernel
theorem dX11_taken_72 : decode cX11_taken 72 = .ok (.if_icmp .ne 12, 3) := by decide +kernel
theorem dX11_taken_75 : decode cX11_taken 75 = .ok (.aload_n 0, 1) := by decide +kernel
theorem dX11_taken_76 : decode cX11_taken 76 = .ok (.getfield 49, 3) := by decide +kernel
theorem dX11_taken_79 : decode cX11_taken 79 = .ok (.iload_n 1, 1) := by decide +kernel
theorem dX11_taken_80 : decode cX11_taken 80 = .ok (.iaload, 1) := by decide +kernel
theorem dX11_taken_81 : decode cX11_taken 81 = .ok (.goto 5, 3) := by decide +kernel
theorem dX11_taken_84 : decode cX11_taken 84 = .ok (.bipush (-13), 2) := by decide +kernel
theorem dX11_taken_86 : decode cX11_taken 86 = .ok (.ireturn, 1) := by decide +kernel
theorem dX11_taken_87 : decode cX11_taken 87 = .ok (.aload_n 0, 1) := by decide +kernel
theorem dX11_taken_88 : decode cX11_taken 88 = .ok (.iload_n 1, 1) := by decide +kernel
theorem dX11_taken_89 : decode cX11_taken 89 = .ok (.invokevirtual 282, 3) := by decide +kernel
theorem dX11_taken_92 : decode cX11_taken 92 = .ok (.astore 5, 2) := by decide +kernel
theorem dX11_taken_94 : decode cX11_taken 94 = .ok (.aload 5, 2) := by decide +kernel
theorem dX11_taken_96 : decode cX11_taken 96 = .ok (.ifnonnull 6, 3) := by decide +kernel
theorem dX11_taken_99 : decode cX11_taken 99 = .ok (.bipush (-11), 2) := by decide +kernel
theorem dX11_taken_101 : decode cX11_taken 101 = .ok (.ireturn, 1) := by decide +kernel
theorem dX11_taken_102 : decode cX11_taken 102 = .ok (.iload_n 3, 1) := by decide +kernel
theorem dX11_taken_103 : decode cX11_taken 103 = .ok (.ifCond .eq 20, 3) := by decide +kernel
theorem dX11_taken_106 : decode cX11_taken 106 = .ok (.aload 5, 2) := by decide +kernel
theorem dX11_taken_108 : decode cX11_taken 108 = .ok (.iload_n 2, 1) := by decide +kernel
theorem dX11_taken_109 : decode cX11_taken 109 = .ok (.invokestatic 285, 3) := by decide +kernel
theorem dX11_taken_112 : decode cX11_taken 112 = .ok (.ifCond .eq 11, 3) := by decide +kernel
theorem dX11_taken_115 : decode cX11_taken 115 = .ok (.aload 5, 2) := by decide +kernel
theorem dX11_taken_117 : decode cX11_taken 117 = .ok (.getfield 140, 3) := by decide +kernel
theorem dX11_taken_120 : decode cX11_taken 120 = .ok (.goto 5, 3) := by decide +kernel
theorem dX11_taken_123 : decode cX11_taken 123 = .ok (.bipush (-13), 2) := by decide +kernel
theorem dX11_taken_125 : decode cX11_taken 125 = .ok (.ireturn, 1) := by decide +kernel
theorem dX11_act_0 : decode cX11_act 0 = .ok (.aload_n 0, 1) := by decide +kernel
theorem dX11_act_1 : decode cX11_act 1 = .ok (.getfield 32, 3) := by decide +kernel
theorem dX11_act_4 : decode cX11_act 4 = .ok (.invokevirtual 289, 3) := by decide +kernel
theorem dX11_act_7 : decode cX11_act 7 = .ok (.aload_n 0, 1) := by decide +kernel
theorem dX11_act_8 : decode cX11_act 8 = .ok (.iload_n 1, 1) := by decide +kernel
theorem dX11_act_9 : decode cX11_act 9 = .ok (.invokevirtual 282, 3) := by decide +kernel
theorem dX11_act_12 : decode cX11_act 12 = .ok (.astore 4, 2) := by decide +kernel
theorem dX11_act_14 : decode cX11_act 14 = .ok (.aload 4, 2) := by decide +kernel
theorem dX11_act_16 : decode cX11_act 16 = .ok (.ifnull 12, 3) := by decide +kernel
theorem dX11_act_19 : decode cX11_act 19 = .ok (.iload_n 2, 1) := by decide +kernel
theorem dX11_act_20 : decode cX11_act 20 = .ok (.ifCond .lt 8, 3) := by decide +kernel
theorem dX11_act_23 : decode cX11_act 23 = .ok (.iload_n 2, 1) := by decide +kernel
theorem dX11_act_24 : decode cX11_act 24 = .ok (.iconst 3, 1) := by decide +kernel
theorem dX11_act_25 : decode cX11_act 25 = .ok (.if_icmp .le 5, 3) := by decide +kernel
theorem dX11_act_28 : decode cX11_act 28 = .ok (.iconst 0, 1) := by decide +kernel
theorem dX11_act_29 : decode cX11_act 29 = .ok (.ireturn, 1) := by decide +kernel
theorem dX11_act_30 : decode cX11_act 30 = .ok (.iload_n 2, 1) := by decide +kernel
theorem dX11_act_31 : decode cX11_act 31 = .ok (.tableswitch 70 0 2 #[25, 40, 55], 25) := by decide +kernel
theorem dX11_act_56 : decode cX11_act 56 = .ok (.aload 4, 2) := by decide +kernel
theorem dX11_act_58 : decode cX11_act 58 = .ok (.iload_n 3, 1) := by decide +kernel
theorem dX11_act_59 : decode cX11_act 59 = .ok (.aload_n 0, 1) := by decide +kernel
theorem dX11_act_60 : decode cX11_act 60 = .ok (.getfield 32, 3) := by decide +kernel
theorem dX11_act_63 : decode cX11_act 63 = .ok (.invokevirtual 292, 3) := by decide +kernel
theorem dX11_act_66 : decode cX11_act 66 = .ok (.istore 5, 2) := by decide +kernel
theorem dX11_act_68 : decode cX11_act 68 = .ok (.goto 45, 3) := by decide +kernel
theorem dX11_act_71 : decode cX11_act 71 = .ok (.aload 4, 2) := by decide +kernel
theorem dX11_act_73 : decode cX11_act 73 = .ok (.iload_n 3, 1) := by decide +kernel
theorem dX11_act_74 : decode cX11_act 74 = .ok (.aload_n 0, 1) := by decide +kernel
theorem dX11_act_75 : decode cX11_act 75 = .ok (.getfield 32, 3) := by decide +kernel
theorem dX11_act_78 : decode cX11_act 78 = .ok (.invokevirtual 296, 3) := by decide +kernel
theorem dX11_act_81 : decode cX11_act 81 = .ok (.istore 5, 2) := by decide +kernel
theorem dX11_act_83 : decode cX11_act 83 = .ok (.goto 30, 3) := by decide +kernel
theorem dX11_act_86 : decode cX11_act 86 = .ok (.aload 4, 2) := by decide +kernel
theorem dX11_act_88 : decode cX11_act 88 = .ok (.iload_n 3, 1) := by decide +kernel
theorem dX11_act_89 : decode cX11_act 89 = .ok (.aload_n 0, 1) := by decide +kernel
theorem dX11_act_90 : decode cX11_act 90 = .ok (.getfield 32, 3) := by decide +kernel
theorem dX11_act_93 : decode cX11_act 93 = .ok (.invokevirtual 299, 3) := by decide +kernel
theorem dX11_act_96 : decode cX11_act 96 = .ok (.istore 5, 2) := by decide +kernel
theorem dX11_act_98 : decode cX11_act 98 = .ok (.goto 15, 3) := by decide +kernel
theorem dX11_act_101 : decode cX11_act 101 = .ok (.aload 4, 2) := by decide +kernel
theorem dX11_act_103 : decode cX11_act 103 = .ok (.iload_n 3, 1) := by decide +kernel
theorem dX11_act_104 : decode cX11_act 104 = .ok (.aload_n 0, 1) := by decide +kernel
theorem dX11_act_105 : decode cX11_act 105 = .ok (.getfield 32, 3) := by decide +kernel
theorem dX11_act_108 : decode cX11_act 108 = .ok (.invokevirtual 302, 3) := by decide +kernel
theorem dX11_act_111 : decode cX11_act 111 = .ok (.istore 5, 2) := by decide +kernel
theorem dX11_act_113 : decode cX11_act 113 = .ok (.aload_n 0, 1) := by decide +kernel
theorem dX11_act_114 : decode cX11_act 114 = .ok (.getfield 32, 3) := by decide +kernel
theorem dX11_act_117 : decode cX11_act 117 = .ok (.getfield 305, 3) := by decide +kernel
theorem dX11_act_120 : decode cX11_act 120 = .ok (.ifCond .eq 8, 3) := by decide +kernel
theorem dX11_act_123 : decode cX11_act 123 = .ok (.bipush (-15), 2) := by decide +kernel
theorem dX11_act_125 : decode cX11_act 125 = .ok (.goto 5, 3) := by decide +kernel
theorem dX11_act_128 : decode cX11_act 128 = .ok (.iload 5, 2) := by decide +kernel
theorem dX11_act_130 : decode cX11_act 130 = .ok (.ireturn, 1) := by decide +kernel
theorem dX11_trace_0 : decode cX11_trace 0 = .ok (.iload_n 1, 1) := by decide +kernel
theorem dX11_trace_1 : decode cX11_trace 1 = .ok (.ifCond .lt 14, 3) := by decide +kernel
theorem dX11_trace_4 : decode cX11_trace 4 = .ok (.iload_n 1, 1) := by decide +kernel
theorem dX11_trace_5 : decode cX11_trace 5 = .ok (.aload_n 0, 1) := by decide +kernel
theorem dX11_trace_6 : decode cX11_trace 6 = .ok (.getfield 32, 3) := by decide +kernel
theorem dX11_trace_9 : decode cX11_trace 9 = .ok (.getfield 309, 3) := by decide +kernel
theorem dX11_trace_12 : decode cX11_trace 12 = .ok (.if_icmp .lt 8, 3) := by decide +kernel
theorem dX11_trace_15 : decode cX11_trace 15 = .ok (.bipush (-3), 2) := by decide +kernel
theorem dX11_trace_17 : decode cX11_trace 17 = .ok (.goto 12, 3) := by decide +kernel
theorem dX11_trace_20 : decode cX11_trace 20 = .ok (.aload_n 0, 1) := by decide +kernel
theorem dX11_trace_21 : decode cX11_trace 21 = .ok (.getfield 32, 3) := by decide +kernel
theorem dX11_trace_24 : decode cX11_trace 24 = .ok (.getfield 310, 3) := by decide +kernel
theorem dX11_trace_27 : decode cX11_trace 27 = .ok (.iload_n 1, 1) := by decide +kernel
theorem dX11_trace_28 : decode cX11_trace 28 = .ok (.iaload, 1) := by decide +kernel
theorem dX11_trace_29 : decode cX11_trace 29 = .ok (.ireturn, 1) := by decide +kernel
theorem dX11_many_0 : decode cX11_many 0 = .ok (.iload_n 1, 1) := by decide +kernel
theorem dX11_many_1 : decode cX11_many 1 = .ok (.tableswitch 72 0 4 #[35, 43, 48, 56, 64], 35) := by decide +kernel
theorem dX11_many_36 : decode cX11_many 36 = .ok (.aload_n 0, 1) := by decide +kernel
theorem dX11_many_37 : decode cX11_many 37 = .ok (.getfield 10, 3) := by decide +kernel
theorem dX11_many_40 : decode cX11_many 40 = .ok (.getfield 94, 3) := by decide +kernel
theorem dX11_many_43 : decode cX11_many 43 = .ok (.ireturn, 1) := by decide +kernel
theorem dX11_many_44 : decode cX11_many 44 = .ok (.aload_n 0, 1) := by decide +kernel
theorem dX11_many_45 : decode cX11_many 45 = .ok (.getfield 91, 3) := by decide +kernel
theorem dX11_many_48 : decode cX11_many 48 = .ok (.ireturn, 1) := by decide +kernel
theorem dX11_many_49 : decode cX11_many 49 = .ok (.aload_n 0, 1) := by decide +kernel
theorem dX11_many_50 : decode cX11_many 50 = .ok (.getfield 25, 3) := by decide +kernel
theorem dX11_many_53 : decode cX11_many 53 = .ok (.getfield 76, 3) := by decide +kernel
theorem dX11_many_56 : decode cX11_many 56 = .ok (.ireturn, 1) := by decide +kernel
theorem dX11_many_57 : decode cX11_many 57 = .ok (.aload_n 0, 1) := by decide +kernel
theorem dX11_many_58 : decode cX11_many 58 = .ok (.getfield 32, 3) := by decide +kernel
theorem dX11_many_61 : decode cX11_many 61 = .ok (.getfield 309, 3) := by decide +kernel
theorem dX11_many_64 : decode cX11_many 64 = .ok (.ireturn, 1) := by decide +kernel
theorem dX11_many_65 : decode cX11_many 65 = .ok (.aload_n 0, 1) := by decide +kernel
theorem dX11_many_66 : decode cX11_many 66 = .ok (.getfield 10, 3) := by decide +kernel
theorem dX11_many_69 : decode cX11_many 69 = .ok (.invokevirtual 126, 3) := by decide +kernel
theorem dX11_many_72 : decode cX11_many 72 = .ok (.ireturn, 1) := by decide +kernel
theorem dX11_many_73 : decode cX11_many 73 = .ok (.iconst (-1), 1) := by decide +kernel
theorem dX11_many_74 : decode cX11_many 74 = .ok (.ireturn, 1) := by decide +kernel
theorem dX11_keep_0 : decode cX11_keep 0 = .ok (.aload_n 0, 1) := by decide +kernel
theorem dX11_keep_1 : decode cX11_keep 1 = .ok (.getfield 16, 3) := by decide +kernel
theorem dX11_keep_4 : decode cX11_keep 4 = .ok (.aload_n 0, 1) := by decide +kernel
theorem dX11_keep_5 : decode cX11_keep 5 = .ok (.getfield 10, 3) := by decide +kernel
theorem dX11_keep_8 : decode cX11_keep 8 = .ok (.invokevirtual 80, 3) := by decide +kernel
theorem dX11_keep_11 : decode cX11_keep 11 = .ok (.aload_n 0, 1) := by decide +kernel
theorem dX11_keep_12 : decode cX11_keep 12 = .ok (.iconst 1, 1) := by decide +kernel
theorem dX11_keep_13 : decode cX11_keep 13 = .ok (.putfield 313, 3) := by decide +kernel
theorem dX11_keep_16 : decode cX11_keep 16 = .ok (.iconst 1, 1) := by decide +kernel
theorem dX11_keep_17 : decode cX11_keep 17 = .ok (.ireturn, 1) := by decide +kernel
theorem dX11_again_0 : decode cX11_again 0 = .ok (.aload_n 0, 1) := by decide +kernel
theorem dX11_again_1 : decode cX11_again 1 = .ok (.getfield 313, 3) := by decide +kernel
theorem dX11_again_4 : decode cX11_again 4 = .ok (.ifCond .ne 6, 3) := by decide +kernel
theorem dX11_again_7 : decode cX11_again 7 = .ok (.bipush (-3), 2) := by decide +kernel
theorem dX11_again_9 : decode cX11_again 9 = .ok (.ireturn, 1) := by decide +kernel
theorem dX11_again_10 : decode cX11_again 10 = .ok (.aload_n 0, 1) := by decide +kernel
theorem dX11_again_11 : decode cX11_again 11 = .ok (.getfield 10, 3) := by decide +kernel
theorem dX11_again_14 : decode cX11_again 14 = .ok (.aload_n 0, 1) := by decide +kernel
theorem dX11_again_15 : decode cX11_again 15 = .ok (.getfield 16, 3) := by decide +kernel
theorem dX11_again_18 : decode cX11_again 18 = .ok (.invokevirtual 80, 3) := by decide +kernel
theorem dX11_again_21 : decode cX11_again 21 = .ok (.aload_n 0, 1) := by decide +kernel
theorem dX11_again_22 : decode cX11_again 22 = .ok (.getfield 10, 3) := by decide +kernel
theorem dX11_again_25 : decode cX11_again 25 = .ok (.getfield 94, 3) := by decide +kernel
theorem dX11_again_28 : decode cX11_again 28 = .ok (.ireturn, 1) := by decide +kernel
theorem dX11_sineOf_0 : decode cX11_sineOf 0 = .ok (.iload_n 0, 1) := by decide +kernel
theorem dX11_sineOf_1 : decode cX11_sineOf 1 = .ok (.ifCond .lt 9, 3) := by decide +kernel
theorem dX11_sineOf_4 : decode cX11_sineOf 4 = .ok (.iload_n 0, 1) := by decide +kernel
theorem dX11_sineOf_5 : decode cX11_sineOf 5 = .ok (.bipush 36, 2) := by decide +kernel
theorem dX11_sineOf_7 : decode cX11_sineOf 7 = .ok (.if_icmp .lt 5, 3) := by decide +kernel
theorem dX11_sineOf_10 : decode cX11_sineOf 10 = .ok (.iconst 0, 1) := by decide +kernel
theorem dX11_sineOf_11 : decode cX11_sineOf 11 = .ok (.ireturn, 1) := by decide +kernel
theorem dX11_sineOf_12 : decode cX11_sineOf 12 = .ok (.iload_n 0, 1) := by decide +kernel
theorem dX11_sineOf_13 : decode cX11_sineOf 13 = .ok (.bipush 18, 2) := by decide +kernel
theorem dX11_sineOf_15 : decode cX11_sineOf 15 = .ok (.if_icmp .ge 7, 3) := by decide +kernel
theorem dX11_sineOf_18 : decode cX11_sineOf 18 = .ok (.iload_n 0, 1) := by decide +kernel
theorem dX11_sineOf_19 : decode cX11_sineOf 19 = .ok (.goto 7, 3) := by decide +kernel
theorem dX11_sineOf_22 : decode cX11_sineOf 22 = .ok (.iload_n 0, 1) := by decide +kernel
theorem dX11_sineOf_23 : decode cX11_sineOf 23 = .ok (.bipush 18, 2) := by decide +kernel
theorem dX11_sineOf_25 : decode cX11_sineOf 25 = .ok (.isub, 1) := by decide +kernel
theorem dX11_sineOf_26 : decode cX11_sineOf 26 = .ok (.istore_n 1, 1) := by decide +kernel
theorem dX11_sineOf_27 : decode cX11_sineOf 27 = .ok (.getstatic 316, 3) := by decide +kernel
theorem dX11_sineOf_30 : decode cX11_sineOf 30 = .ok (.iload_n 1, 1) := by decide +kernel
theorem dX11_sineOf_31 : decode cX11_sineOf 31 = .ok (.bipush 10, 2) := by decide +kernel
theorem dX11_sineOf_33 : decode cX11_sineOf 33 = .ok (.if_icmp .ge 7, 3) := by decide +kernel
theorem dX11_sineOf_36 : decode cX11_sineOf 36 = .ok (.iload_n 1, 1) := by decide +kernel
theorem dX11_sineOf_37 : decode cX11_sineOf 37 = .ok (.goto 7, 3) := by decide +kernel
theorem dX11_sineOf_40 : decode cX11_sineOf 40 = .ok (.bipush 18, 2) := by decide +kernel
theorem dX11_sineOf_42 : decode cX11_sineOf 42 = .ok (.iload_n 1, 1) := by decide +kernel
theorem dX11_sineOf_43 : decode cX11_sineOf 43 = .ok (.isub, 1) := by decide +kernel
theorem dX11_sineOf_44 : decode cX11_sineOf 44 = .ok (.iaload, 1) := by decide +kernel
theorem dX11_sineOf_45 : decode cX11_sineOf 45 = .ok (.istore_n 2, 1) := by decide +kernel
theorem dX11_sineOf_46 : decode cX11_sineOf 46 = .ok (.iload_n 0, 1) := by decide +kernel
theorem dX11_sineOf_47 : decode cX11_sineOf 47 = .ok (.bipush 18, 2) := by decide +kernel
theorem dX11_sineOf_49 : decode cX11_sineOf 49 = .ok (.if_icmp .ge 7, 3) := by decide +kernel
theorem dX11_sineOf_52 : decode cX11_sineOf 52 = .ok (.iload_n 2, 1) := by decide +kernel
theorem dX11_sineOf_53 : decode cX11_sineOf 53 = .ok (.goto 5, 3) := by decide +kernel
theorem dX11_sineOf_56 : decode cX11_sineOf 56 = .ok (.iload_n 2, 1) := by decide +kernel
theorem dX11_sineOf_57 : decode cX11_sineOf 57 = .ok (.ineg, 1) := by decide +kernel
theorem dX11_sineOf_58 : decode cX11_sineOf 58 = .ok (.ireturn, 1) := by decide +kernel
theorem dX11_heldTo_0 : decode cX11_heldTo 0 = .ok (.iload_n 1, 1) := by decide +kernel
theorem dX11_heldTo_1 : decode cX11_heldTo 1 = .ok (.ineg, 1) := by decide +kernel
theorem dX11_heldTo_2 : decode cX11_heldTo 2 = .ok (.iload_n 1, 1) := by decide +kernel
theorem dX11_heldTo_3 : decode cX11_heldTo 3 = .ok (.iload_n 0, 1) := by decide +kernel
theorem dX11_heldTo_4 : decode cX11_heldTo 4 = .ok (.invokestatic 319, 3) := by decide +kernel
theorem dX11_heldTo_7 : decode cX11_heldTo 7 = .ok (.invokestatic 322, 3) := by decide +kernel
theorem dX11_heldTo_10 : decode cX11_heldTo 10 = .ok (.ireturn, 1) := by decide +kernel
theorem dX11_commonDivisor_0 : decode cX11_commonDivisor 0 = .ok (.iload_n 0, 1) := by decide +kernel
theorem dX11_commonDivisor_1 : decode cX11_commonDivisor 1 = .ok (.istore_n 2, 1) := by decide +kernel
theorem dX11_commonDivisor_2 : decode cX11_commonDivisor 2 = .ok (.iload_n 1, 1) := by decide +kernel
theorem dX11_commonDivisor_3 : decode cX11_commonDivisor 3 = .ok (.istore_n 3, 1) := by decide +kernel
theorem dX11_commonDivisor_4 : decode cX11_commonDivisor 4 = .ok (.iconst 0, 1) := by decide +kernel
theorem dX11_commonDivisor_5 : decode cX11_commonDivisor 5 = .ok (.istore 4, 2) := by decide +kernel
theorem dX11_commonDivisor_7 : decode cX11_commonDivisor 7 = .ok (.iload 4, 2) := by decide +kernel
theorem dX11_commonDivisor_9 : decode cX11_commonDivisor 9 = .ok (.bipush 64, 2) := by decide +kernel
theorem dX11_commonDivisor_11 : decode cX11_commonDivisor 11 = .ok (.if_icmp .ge 23, 3) := by decide +kernel
theorem dX11_commonDivisor_14 : decode cX11_commonDivisor 14 = .ok (.iload_n 3, 1) := by decide +kernel
theorem dX11_commonDivisor_15 : decode cX11_commonDivisor 15 = .ok (.ifCond .eq 19, 3) := by decide +kernel
theorem dX11_commonDivisor_18 : decode cX11_commonDivisor 18 = .ok (.iload_n 2, 1) := by decide +kernel
theorem dX11_commonDivisor_19 : decode cX11_commonDivisor 19 = .ok (.iload_n 3, 1) := by decide +kernel
theorem dX11_commonDivisor_20 : decode cX11_commonDivisor 20 = .ok (.irem, 1) := by decide +kernel
theorem dX11_commonDivisor_21 : decode cX11_commonDivisor 21 = .ok (.istore 5, 2) := by decide +kernel
theorem dX11_commonDivisor_23 : decode cX11_commonDivisor 23 = .ok (.iload_n 3, 1) := by decide +kernel
theorem dX11_commonDivisor_24 : decode cX11_commonDivisor 24 = .ok (.istore_n 2, 1) := by decide +kernel
theorem dX11_commonDivisor_25 : decode cX11_commonDivisor 25 = .ok (.iload 5, 2) := by decide +kernel
theorem dX11_commonDivisor_27 : decode cX11_commonDivisor 27 = .ok (.istore_n 3, 1) := by decide +kernel
theorem dX11_commonDivisor_28 : decode cX11_commonDivisor 28 = .ok (.iinc 4 1, 3) := by decide +kernel
theorem dX11_commonDivisor_31 : decode cX11_commonDivisor 31 = .ok (.goto (-24), 3) := by decide +kernel
theorem dX11_commonDivisor_34 : decode cX11_commonDivisor 34 = .ok (.iload_n 2, 1) := by decide +kernel
theorem dX11_commonDivisor_35 : decode cX11_commonDivisor 35 = .ok (.ireturn, 1) := by decide +kernel
theorem dX11_isLettingGo_0 : decode cX11_isLettingGo 0 = .ok (.iload_n 0, 1) := by decide +kernel
theorem dX11_isLettingGo_1 : decode cX11_isLettingGo 1 = .ok (.iconst 1, 1) := by decide +kernel
theorem dX11_isLettingGo_2 : decode cX11_isLettingGo 2 = .ok (.if_icmp .lt 36, 3) := by decide +kernel
theorem dX11_isLettingGo_5 : decode cX11_isLettingGo 5 = .ok (.iload_n 0, 1) := by decide +kernel
theorem dX11_isLettingGo_6 : decode cX11_isLettingGo 6 = .ok (.sipush 9999, 3) := by decide +kernel
theorem dX11_isLettingGo_9 : decode cX11_isLettingGo 9 = .ok (.if_icmp .gt 29, 3) := by decide +kernel
theorem dX11_isLettingGo_12 : decode cX11_isLettingGo 12 = .ok (.iload_n 1, 1) := by decide +kernel
theorem dX11_isLettingGo_13 : decode cX11_isLettingGo 13 = .ok (.ifCond .lt 25, 3) := by decide +kernel
theorem dX11_isLettingGo_16 : decode cX11_isLettingGo 16 = .ok (.iload_n 1, 1) := by decide +kernel
theorem dX11_isLettingGo_17 : decode cX11_isLettingGo 17 = .ok (.bipush 36, 2) := by decide +kernel
theorem dX11_isLettingGo_19 : decode cX11_isLettingGo 19 = .ok (.if_icmp .ge 19, 3) := by decide +kernel
theorem dX11_isLettingGo_22 : decode cX11_isLettingGo 22 = .ok (.iload_n 2, 1) := by decide +kernel
theorem dX11_isLettingGo_23 : decode cX11_isLettingGo 23 = .ok (.bipush (-9), 2) := by decide +kernel
theorem dX11_isLettingGo_25 : decode cX11_isLettingGo 25 = .ok (.if_icmp .lt 13, 3) := by decide +kernel
theorem dX11_isLettingGo_28 : decode cX11_isLettingGo 28 = .ok (.iload_n 2, 1) := by decide +kernel
theorem dX11_isLettingGo_29 : decode cX11_isLettingGo 29 = .ok (.bipush 9, 2) := by decide +kernel
theorem dX11_isLettingGo_31 : decode cX11_isLettingGo 31 = .ok (.if_icmp .gt 7, 3) := by decide +kernel
theorem dX11_isLettingGo_34 : decode cX11_isLettingGo 34 = .ok (.iconst 1, 1) := by decide +kernel
theorem dX11_isLettingGo_35 : decode cX11_isLettingGo 35 = .ok (.goto 4, 3) := by decide +kernel
theorem dX11_isLettingGo_38 : decode cX11_isLettingGo 38 = .ok (.iconst 0, 1) := by decide +kernel
theorem dX11_isLettingGo_39 : decode cX11_isLettingGo 39 = .ok (.ireturn, 1) := by decide +kernel
theorem dX11_isSquare_0 : decode cX11_isSquare 0 = .ok (.iload_n 0, 1) := by decide +kernel
theorem dX11_isSquare_1 : decode cX11_isSquare 1 = .ok (.sipush (-999), 3) := by decide +kernel
theorem dX11_isSquare_4 : decode cX11_isSquare 4 = .ok (.if_icmp .lt 14, 3) := by decide +kernel
theorem dX11_isSquare_7 : decode cX11_isSquare 7 = .ok (.iload_n 0, 1) := by decide +kernel
theorem dX11_isSquare_8 : decode cX11_isSquare 8 = .ok (.sipush 999, 3) := by decide +kernel
theorem dX11_isSquare_11 : decode cX11_isSquare 11 = .ok (.if_icmp .gt 7, 3) := by decide +kernel
theorem dX11_isSquare_14 : decode cX11_isSquare 14 = .ok (.iconst 1, 1) := by decide +kernel
theorem dX11_isSquare_15 : decode cX11_isSquare 15 = .ok (.goto 4, 3) := by decide +kernel
theorem dX11_isSquare_18 : decode cX11_isSquare 18 = .ok (.iconst 0, 1) := by decide +kernel
theorem dX11_isSquare_19 : decode cX11_isSquare 19 = .ok (.ireturn, 1) := by decide +kernel
theorem dX11_sheetAt_0 : decode cX11_sheetAt 0 = .ok (.iload_n 1, 1) := by decide +kernel
theorem dX11_sheetAt_1 : decode cX11_sheetAt 1 = .ok (.ifCond .lt 17, 3) := by decide +kernel
theorem dX11_sheetAt_4 : decode cX11_sheetAt 4 = .ok (.iload_n 1, 1) := by decide +kernel
theorem dX11_sheetAt_5 : decode cX11_sheetAt 5 = .ok (.iconst 4, 1) := by decide +kernel
theorem dX11_sheetAt_6 : decode cX11_sheetAt 6 = .ok (.if_icmp .ge 12, 3) := by decide +kernel
theorem dX11_sheetAt_9 : decode cX11_sheetAt 9 = .ok (.aload_n 0, 1) := by decide +kernel
theorem dX11_sheetAt_10 : decode cX11_sheetAt 10 = .ok (.getfield 38, 3) := by decide +kernel
theorem dX11_sheetAt_13 : decode cX11_sheetAt 13 = .ok (.iload_n 1, 1) := by decide +kernel
theorem dX11_sheetAt_14 : decode cX11_sheetAt 14 = .ok (.aaload, 1) := by decide +kernel
theorem dX11_sheetAt_15 : decode cX11_sheetAt 15 = .ok (.goto 4, 3) := by decide +kernel
theorem dX11_sheetAt_18 : decode cX11_sheetAt 18 = .ok (.aconst_null, 1) := by decide +kernel
theorem dX11_sheetAt_19 : decode cX11_sheetAt 19 = .ok (.areturn, 1) := by decide +kernel
theorem dX11_isShelf_0 : decode cX11_isShelf 0 = .ok (.iload_n 0, 1) := by decide +kernel
theorem dX11_isShelf_1 : decode cX11_isShelf 1 = .ok (.ifCond .lt 12, 3) := by decide +kernel
theorem dX11_isShelf_4 : decode cX11_isShelf 4 = .ok (.iload_n 0, 1) := by decide +kernel
theorem dX11_isShelf_5 : decode cX11_isShelf 5 = .ok (.iconst 4, 1) := by decide +kernel
theorem dX11_isShelf_6 : decode cX11_isShelf 6 = .ok (.if_icmp .ge 7, 3) := by decide +kernel
theorem dX11_isShelf_9 : decode cX11_isShelf 9 = .ok (.iconst 1, 1) := by decide +kernel
theorem dX11_isShelf_10 : decode cX11_isShelf 10 = .ok (.goto 4, 3) := by decide +kernel
theorem dX11_isShelf_13 : decode cX11_isShelf 13 = .ok (.iconst 0, 1) := by decide +kernel
theorem dX11_isShelf_14 : decode cX11_isShelf 14 = .ok (.ireturn, 1) := by decide +kernel
theorem dX11_isRowPart_0 : decode cX11_isRowPart 0 = .ok (.iload_n 1, 1) := by decide +kernel
theorem dX11_isRowPart_1 : decode cX11_isRowPart 1 = .ok (.ifCond .lt 24, 3) := by decide +kernel
theorem dX11_isRowPart_4 : decode cX11_isRowPart 4 = .ok (.iload_n 1, 1) := by decide +kernel
theorem dX11_isRowPart_5 : decode cX11_isRowPart 5 = .ok (.aload_n 0, 1) := by decide +kernel
theorem dX11_isRowPart_6 : decode cX11_isRowPart 6 = .ok (.getfield 91, 3) := by decide +kernel
theorem dX11_isRowPart_9 : decode cX11_isRowPart 9 = .ok (.if_icmp .ge 16, 3) := by decide +kernel
theorem dX11_isRowPart_12 : decode cX11_isRowPart 12 = .ok (.iload_n 2, 1) := by decide +kernel
theorem dX11_isRowPart_13 : decode cX11_isRowPart 13 = .ok (.ifCond .lt 12, 3) := by decide +kernel
theorem dX11_isRowPart_16 : decode cX11_isRowPart 16 = .ok (.iload_n 2, 1) := by decide +kernel
theorem dX11_isRowPart_17 : decode cX11_isRowPart 17 = .ok (.iconst 3, 1) := by decide +kernel
theorem dX11_isRowPart_18 : decode cX11_isRowPart 18 = .ok (.if_icmp .ge 7, 3) := by decide +kernel
theorem dX11_isRowPart_21 : decode cX11_isRowPart 21 = .ok (.iconst 1, 1) := by decide +kernel
theorem dX11_isRowPart_22 : decode cX11_isRowPart 22 = .ok (.goto 4, 3) := by decide +kernel
theorem dX11_isRowPart_25 : decode cX11_isRowPart 25 = .ok (.iconst 0, 1) := by decide +kernel
theorem dX11_isRowPart_26 : decode cX11_isRowPart 26 = .ok (.ireturn, 1) := by decide +kernel
theorem dX11_isOfKind_0 : decode cX11_isOfKind 0 = .ok (.iload_n 1, 1) := by decide +kernel
theorem dX11_isOfKind_1 : decode cX11_isOfKind 1 = .ok (.tableswitch 57 0 4 #[35, 37, 42, 47, 52], 35) := by decide +kernel
theorem dX11_isOfKind_36 : decode cX11_isOfKind 36 = .ok (.iconst 1, 1) := by decide +kernel
theorem dX11_isOfKind_37 : decode cX11_isOfKind 37 = .ok (.ireturn, 1) := by decide +kernel
theorem dX11_isOfKind_38 : decode cX11_isOfKind 38 = .ok (.aload_n 0, 1) := by decide +kernel
theorem dX11_isOfKind_39 : decode cX11_isOfKind 39 = .ok (.instanceof 325, 3) := by decide +kernel
theorem dX11_isOfKind_42 : decode cX11_isOfKind 42 = .ok (.ireturn, 1) := by decide +kernel
theorem dX11_isOfKind_43 : decode cX11_isOfKind 43 = .ok (.aload_n 0, 1) := by decide +kernel
theorem dX11_isOfKind_44 : decode cX11_isOfKind 44 = .ok (.instanceof 327, 3) := by decide +kernel
theorem dX11_isOfKind_47 : decode cX11_isOfKind 47 = .ok (.ireturn, 1) := by decide +kernel
theorem dX11_isOfKind_48 : decode cX11_isOfKind 48 = .ok (.aload_n 0, 1) := by decide +kernel
theorem dX11_isOfKind_49 : decode cX11_isOfKind 49 = .ok (.instanceof 329, 3) := by decide +kernel
theorem dX11_isOfKind_52 : decode cX11_isOfKind 52 = .ok (.ireturn, 1) := by decide +kernel
theorem dX11_isOfKind_53 : decode cX11_isOfKind 53 = .ok (.aload_n 0, 1) := by decide +kernel
theorem dX11_isOfKind_54 : decode cX11_isOfKind 54 = .ok (.instanceof 331, 3) := by decide +kernel
theorem dX11_isOfKind_57 : decode cX11_isOfKind 57 = .ok (.ireturn, 1) := by decide +kernel
theorem dX11_isOfKind_58 : decode cX11_isOfKind 58 = .ok (.aload_n 0, 1) := by decide +kernel
theorem dX11_isOfKind_59 : decode cX11_isOfKind 59 = .ok (.instanceof 333, 3) := by decide +kernel
theorem dX11_isOfKind_62 : decode cX11_isOfKind 62 = .ok (.ireturn, 1) := by decide +kernel
theorem dX11_begin_0 : decode cX11_begin 0 = .ok (.aload_n 0, 1) := by decide +kernel
theorem dX11_begin_1 : decode cX11_begin 1 = .ok (.getfield 10, 3) := by decide +kernel
theorem dX11_begin_4 : decode cX11_begin 4 = .ok (.iload_n 2, 1) := by decide +kernel
theorem dX11_begin_5 : decode cX11_begin 5 = .ok (.invokevirtual 101, 3) := by decide +kernel
theorem dX11_begin_8 : decode cX11_begin 8 = .ok (.astore 6, 2) := by decide +kernel
theorem dX11_begin_10 : decode cX11_begin 10 = .ok (.aload 6, 2) := by decide +kernel
theorem dX11_begin_12 : decode cX11_begin 12 = .ok (.ifnull 14, 3) := by decide +kernel
theorem dX11_begin_15 : decode cX11_begin 15 = .ok (.iload_n 3, 1) := by decide +kernel
theorem dX11_begin_16 : decode cX11_begin 16 = .ok (.iload 4, 2) := by decide +kernel
theorem dX11_begin_18 : decode cX11_begin 18 = .ok (.iload 5, 2) := by decide +kernel
theorem dX11_begin_20 : decode cX11_begin 20 = .ok (.invokestatic 220, 3) := by decide +kernel
theorem dX11_begin_23 : decode cX11_begin 23 = .ok (.ifCond .ne 5, 3) := by decide +kernel
theorem dX11_begin_26 : decode cX11_begin 26 = .ok (.iconst 0, 1) := by decide +kernel
theorem dX11_begin_27 : decode cX11_begin 27 = .ok (.ireturn, 1) := by decide +kernel
theorem dX11_begin_28 : decode cX11_begin 28 = .ok (.aload_n 1, 1) := by decide +kernel
theorem dX11_begin_29 : decode cX11_begin 29 = .ok (.aload 6, 2) := by decide +kernel
theorem dX11_begin_31 : decode cX11_begin 31 = .ok (.iload_n 3, 1) := by decide +kernel
theorem dX11_begin_32 : decode cX11_begin 32 = .ok (.iload 4, 2) := by decide +kernel
theorem dX11_begin_34 : decode cX11_begin 34 = .ok (.iload 5, 2) := by decide +kernel
theorem dX11_begin_36 : decode cX11_begin 36 = .ok (.invokevirtual 335, 3) := by decide +kernel
theorem dX11_begin_39 : decode cX11_begin 39 = .ok (.iconst 1, 1) := by decide +kernel
theorem dX11_begin_40 : decode cX11_begin 40 = .ok (.ireturn, 1) := by decide +kernel
theorem dX11_landsOn_0 : decode cX11_landsOn 0 = .ok (.aload_n 0, 1) := by decide +kernel
theorem dX11_landsOn_1 : decode cX11_landsOn 1 = .ok (.aload_n 0, 1) := by decide +kernel
theorem dX11_landsOn_2 : decode cX11_landsOn 2 = .ok (.getfield 58, 3) := by decide +kernel
theorem dX11_landsOn_5 : decode cX11_landsOn 5 = .ok (.iload_n 1, 1) := by decide +kernel
theorem dX11_landsOn_6 : decode cX11_landsOn 6 = .ok (.iload_n 2, 1) := by decide +kernel
theorem dX11_landsOn_7 : decode cX11_landsOn 7 = .ok (.iload_n 3, 1) := by decide +kernel
theorem dX11_landsOn_8 : decode cX11_landsOn 8 = .ok (.iload 4, 2) := by decide +kernel
theorem dX11_landsOn_10 : decode cX11_landsOn 10 = .ok (.invokevirtual 143, 3) := by decide +kernel
theorem dX11_landsOn_13 : decode cX11_landsOn 13 = .ok (.ifCond .eq 20, 3) := by decide +kernel
theorem dX11_landsOn_16 : decode cX11_landsOn 16 = .ok (.aload_n 0, 1) := by decide +kernel
theorem dX11_landsOn_17 : decode cX11_landsOn 17 = .ok (.getfield 58, 3) := by decide +kernel
theorem dX11_landsOn_20 : decode cX11_landsOn 20 = .ok (.aload_n 0, 1) := by decide +kernel
theorem dX11_landsOn_21 : decode cX11_landsOn 21 = .ok (.getfield 10, 3) := by decide +kernel
theorem dX11_landsOn_24 : decode cX11_landsOn 24 = .ok (.getfield 120, 3) := by decide +kernel
theorem dX11_landsOn_27 : decode cX11_landsOn 27 = .ok (.invokevirtual 181, 3) := by decide +kernel
theorem dX11_landsOn_30 : decode cX11_landsOn 30 = .ok (.ifCond .ne 6, 3) := by decide +kernel
theorem dX11_landsOn_33 : decode cX11_landsOn 33 = .ok (.ldc 155, 2) := by decide +kernel
theorem dX11_landsOn_35 : decode cX11_landsOn 35 = .ok (.ireturn, 1) := by decide +kernel
theorem dX11_landsOn_36 : decode cX11_landsOn 36 = .ok (.aload_n 0, 1) := by decide +kernel
theorem dX11_landsOn_37 : decode cX11_landsOn 37 = .ok (.getfield 58, 3) := by decide +kernel
theorem dX11_landsOn_40 : decode cX11_landsOn 40 = .ok (.invokevirtual 194, 3) := by decide +kernel
theorem dX11_landsOn_43 : decode cX11_landsOn 43 = .ok (.ireturn, 1) := by decide +kernel
theorem dX11_byHand_0 : decode cX11_byHand 0 = .ok (.iload_n 0, 1) := by decide +kernel
theorem dX11_byHand_1 : decode cX11_byHand 1 = .ok (.iload_n 1, 1) := by decide +kernel
theorem dX11_byHand_2 : decode cX11_byHand 2 = .ok (.iadd, 1) := by decide +kernel
theorem dX11_byHand_3 : decode cX11_byHand 3 = .ok (.iconst 2, 1) := by decide +kernel
theorem dX11_byHand_4 : decode cX11_byHand 4 = .ok (.isub, 1) := by decide +kernel
theorem dX11_byHand_5 : decode cX11_byHand 5 = .ok (.bipush 36, 2) := by decide +kernel
theorem dX11_byHand_7 : decode cX11_byHand 7 = .ok (.invokestatic 339, 3) := by decide +kernel
theorem dX11_byHand_10 : decode cX11_byHand 10 = .ok (.ireturn, 1) := by decide +kernel
theorem dX11_handAt_0 : decode cX11_handAt 0 = .ok (.iconst 0, 1) := by decide +kernel
theorem dX11_handAt_1 : decode cX11_handAt 1 = .ok (.istore_n 2, 1) := by decide +kernel
theorem dX11_handAt_2 : decode cX11_handAt 2 = .ok (.iconst 0, 1) := by decide +kernel
theorem dX11_handAt_3 : decode cX11_handAt 3 = .ok (.istore_n 3, 1) := by decide +kernel
theorem dX11_handAt_4 : decode cX11_handAt 4 = .ok (.iload_n 3, 1) := by decide +kernel
theorem dX11_handAt_5 : decode cX11_handAt 5 = .ok (.iconst 5, 1) := by decide +kernel
theorem dX11_handAt_6 : decode cX11_handAt 6 = .ok (.if_icmp .ge 28, 3) := by decide +kernel
theorem dX11_handAt_9 : decode cX11_handAt 9 = .ok (.iload_n 2, 1) := by decide +kernel
theorem dX11_handAt_10 : decode cX11_handAt 10 = .ok (.aload_n 0, 1) := by decide +kernel
theorem dX11_handAt_11 : decode cX11_handAt 11 = .ok (.getfield 10, 3) := by decide +kernel
theorem dX11_handAt_14 : decode cX11_handAt 14 = .ok (.getfield 123, 3) := by decide +kernel
theorem dX11_handAt_17 : decode cX11_handAt 17 = .ok (.iload_n 3, 1) := by decide +kernel
theorem dX11_handAt_18 : decode cX11_handAt 18 = .ok (.iaload, 1) := by decide +kernel
theorem dX11_handAt_19 : decode cX11_handAt 19 = .ok (.iadd, 1) := by decide +kernel
theorem dX11_handAt_20 : decode cX11_handAt 20 = .ok (.istore_n 2, 1) := by decide +kernel
theorem dX11_handAt_21 : decode cX11_handAt 21 = .ok (.iload_n 1, 1) := by decide +kernel
theorem dX11_handAt_22 : decode cX11_handAt 22 = .ok (.iload_n 2, 1) := by decide +kernel
theorem dX11_handAt_23 : decode cX11_handAt 23 = .ok (.if_icmp .ge 5, 3) := by decide +kernel
theorem dX11_handAt_26 : decode cX11_handAt 26 = .ok (.iload_n 3, 1) := by decide +kernel
theorem dX11_handAt_27 : decode cX11_handAt 27 = .ok (.ireturn, 1) := by decide +kernel
theorem dX11_handAt_28 : decode cX11_handAt 28 = .ok (.iinc 3 1, 3) := by decide +kernel
theorem dX11_handAt_31 : decode cX11_handAt 31 = .ok (.goto (-27), 3) := by decide +kernel
theorem dX11_handAt_34 : decode cX11_handAt 34 = .ok (.iconst 4, 1) := by decide +kernel
theorem dX11_handAt_35 : decode cX11_handAt 35 = .ok (.ireturn, 1) := by decide +kernel
theorem dX11_weightsToward_0 : decode cX11_weightsToward 0 = .ok (.iconst 0, 1) := by decide +kernel
theorem dX11_weightsToward_1 : decode cX11_weightsToward 1 = .ok (.istore_n 3, 1) := by decide +kernel
theorem dX11_weightsToward_2 : decode cX11_weightsToward 2 = .ok (.iconst 0, 1) := by decide +kernel
theorem dX11_weightsToward_3 : decode cX11_weightsToward 3 = .ok (.istore 4, 2) := by decide +kernel
theorem dX11_weightsToward_5 : decode cX11_weightsToward 5 = .ok (.iload 4, 2) := by decide +kernel
theorem dX11_weightsToward_7 : decode cX11_weightsToward 7 = .ok (.iconst 5, 1) := by decide +kernel
theorem dX11_weightsToward_8 : decode cX11_weightsToward 8 = .ok (.if_icmp .ge 37, 3) := by decide +kernel
theorem dX11_weightsToward_11 : decode cX11_weightsToward 11 = .ok (.aload_n 0, 1) := by decide +kernel
theorem dX11_weightsToward_12 : decode cX11_weightsToward 12 = .ok (.getfield 68, 3) := by decide +kernel
theorem dX11_weightsToward_15 : decode cX11_weightsToward 15 = .ok (.iload_n 1, 1) := by decide +kernel
theorem dX11_weightsToward_16 : decode cX11_weightsToward 16 = .ok (.iload 4, 2) := by decide +kernel
theorem dX11_weightsToward_18 : decode cX11_weightsToward 18 = .ok (.invokestatic 207, 3) := by decide +kernel
theorem dX11_weightsToward_21 : decode cX11_weightsToward 21 = .ok (.iaload, 1) := by decide +kernel
theorem dX11_weightsToward_22 : decode cX11_weightsToward 22 = .ok (.iload_n 2, 1) := by decide +kernel
theorem dX11_weightsToward_23 : decode cX11_weightsToward 23 = .ok (.if_icmp .ne 16, 3) := by decide +kernel
theorem dX11_weightsToward_26 : decode cX11_weightsToward 26 = .ok (.iload_n 3, 1) := by decide +kernel
theorem dX11_weightsToward_27 : decode cX11_weightsToward 27 = .ok (.aload_n 0, 1) := by decide +kernel
theorem dX11_weightsToward_28 : decode cX11_weightsToward 28 = .ok (.getfield 10, 3) := by decide +kernel
theorem dX11_weightsToward_31 : decode cX11_weightsToward 31 = .ok (.getfield 123, 3) := by decide +kernel
theorem dX11_weightsToward_34 : decode cX11_weightsToward 34 = .ok (.iload 4, 2) := by decide +kernel
theorem dX11_weightsToward_36 : decode cX11_weightsToward 36 = .ok (.iaload, 1) := by decide +kernel
theorem dX11_weightsToward_37 : decode cX11_weightsToward 37 = .ok (.iadd, 1) := by decide +kernel
theorem dX11_weightsToward_38 : decode cX11_weightsToward 38 = .ok (.istore_n 3, 1) := by decide +kernel
theorem dX11_weightsToward_39 : decode cX11_weightsToward 39 = .ok (.iinc 4 1, 3) := by decide +kernel
theorem dX11_weightsToward_42 : decode cX11_weightsToward 42 = .ok (.goto (-37), 3) := by decide +kernel
theorem dX11_weightsToward_45 : decode cX11_weightsToward 45 = .ok (.iload_n 3, 1) := by decide +kernel
theorem dX11_weightsToward_46 : decode cX11_weightsToward 46 = .ok (.ireturn, 1) := by decide +kernel
theorem dX11_filmRefusal_0 : decode cX11_filmRefusal 0 = .ok (.aload_n 0, 1) := by decide +kernel
theorem dX11_filmRefusal_1 : decode cX11_filmRefusal 1 = .ok (.ifnonnull 5, 3) := by decide +kernel
theorem dX11_filmRefusal_4 : decode cX11_filmRefusal 4 = .ok (.iconst (-1), 1) := by decide +kernel
theorem dX11_filmRefusal_5 : decode cX11_filmRefusal 5 = .ok (.ireturn, 1) := by decide +kernel
theorem dX11_filmRefusal_6 : decode cX11_filmRefusal 6 = .ok (.aload_n 0, 1) := by decide +kernel
theorem dX11_filmRefusal_7 : decode cX11_filmRefusal 7 = .ok (.getfield 261, 3) := by decide +kernel
theorem dX11_filmRefusal_10 : decode cX11_filmRefusal 10 = .ok (.iconst (-1), 1) := by decide +kernel
theorem dX11_filmRefusal_11 : decode cX11_filmRefusal 11 = .ok (.if_icmp .ne 6, 3) := by decide +kernel
theorem dX11_filmRefusal_14 : decode cX11_filmRefusal 14 = .ok (.bipush (-11), 2) := by decide +kernel
theorem dX11_filmRefusal_16 : decode cX11_filmRefusal 16 = .ok (.ireturn, 1) := by decide +kernel
theorem dX11_filmRefusal_17 : decode cX11_filmRefusal 17 = .ok (.aload_n 0, 1) := by decide +kernel
theorem dX11_filmRefusal_18 : decode cX11_filmRefusal 18 = .ok (.getfield 261, 3) := by decide +kernel
theorem dX11_filmRefusal_21 : decode cX11_filmRefusal 21 = .ok (.iconst 2, 1) := by decide +kernel
theorem dX11_filmRefusal_22 : decode cX11_filmRefusal 22 = .ok (.if_icmp .ne 7, 3) := by decide +kernel
theorem dX11_filmRefusal_25 : decode cX11_filmRefusal 25 = .ok (.iconst 0, 1) := by decide +kernel
theorem dX11_filmRefusal_26 : decode cX11_filmRefusal 26 = .ok (.goto 5, 3) := by decide +kernel
theorem dX11_filmRefusal_29 : decode cX11_filmRefusal 29 = .ok (.bipush (-13), 2) := by decide +kernel
theorem dX11_filmRefusal_31 : decode cX11_filmRefusal 31 = .ok (.ireturn, 1) := by decide +kernel
theorem dX11_missOf_0 : decode cX11_missOf 0 = .ok (.lconst 0, 1) := by decide +kernel
theorem dX11_missOf_1 : decode cX11_missOf 1 = .ok (.lstore_n 3, 1) := by decide +kernel
theorem dX11_missOf_2 : decode cX11_missOf 2 = .ok (.iconst 0, 1) := by decide +kernel
theorem dX11_missOf_3 : decode cX11_missOf 3 = .ok (.istore 5, 2) := by decide +kernel
theorem dX11_missOf_5 : decode cX11_missOf 5 = .ok (.iload 5, 2) := by decide +kernel
theorem dX11_missOf_7 : decode cX11_missOf 7 = .ok (.aload_n 1, 1) := by decide +kernel
theorem dX11_missOf_8 : decode cX11_missOf 8 = .ok (.getfield 263, 3) := by decide +kernel
theorem dX11_missOf_11 : decode cX11_missOf 11 = .ok (.if_icmp .ge 40, 3) := by decide +kernel
theorem dX11_missOf_14 : decode cX11_missOf 14 = .ok (.aload_n 0, 1) := by decide +kernel
theorem dX11_missOf_15 : decode cX11_missOf 15 = .ok (.invokevirtual 147, 3) := by decide +kernel
theorem dX11_missOf_18 : decode cX11_missOf 18 = .ok (.ifCond .ne 33, 3) := by decide +kernel
theorem dX11_missOf_21 : decode cX11_missOf 21 = .ok (.aload_n 0, 1) := by decide +kernel
theorem dX11_missOf_22 : decode cX11_missOf 22 = .ok (.aload_n 2, 1) := by decide +kernel
theorem dX11_missOf_23 : decode cX11_missOf 23 = .ok (.invokevirtual 151, 3) := by decide +kernel
theorem dX11_missOf_26 : decode cX11_missOf 26 = .ok (.lload_n 3, 1) := by decide +kernel
theorem dX11_missOf_27 : decode cX11_missOf 27 = .ok (.aload_n 1, 1) := by decide +kernel
theorem dX11_missOf_28 : decode cX11_missOf 28 = .ok (.getfield 264, 3) := by decide +kernel
theorem dX11_missOf_31 : decode cX11_missOf 31 = .ok (.iload 5, 2) := by decide +kernel
theorem dX11_missOf_33 : decode cX11_missOf 33 = .ok (.laload, 1) := by decide +kernel
theorem dX11_missOf_34 : decode cX11_missOf 34 = .ok (.aload_n 0, 1) := by decide +kernel
theorem dX11_missOf_35 : decode cX11_missOf 35 = .ok (.getfield 159, 3) := by decide +kernel
theorem dX11_missOf_38 : decode cX11_missOf 38 = .ok (.i2l, 1) := by decide +kernel
theorem dX11_missOf_39 : decode cX11_missOf 39 = .ok (.lsub, 1) := by decide +kernel
theorem dX11_missOf_40 : decode cX11_missOf 40 = .ok (.invokestatic 342, 3) := by decide +kernel
theorem dX11_missOf_43 : decode cX11_missOf 43 = .ok (.ladd, 1) := by decide +kernel
theorem dX11_missOf_44 : decode cX11_missOf 44 = .ok (.lstore_n 3, 1) := by decide +kernel
theorem dX11_missOf_45 : decode cX11_missOf 45 = .ok (.iinc 5 1, 3) := by decide +kernel
theorem dX11_missOf_48 : decode cX11_missOf 48 = .ok (.goto (-43), 3) := by decide +kernel
theorem dX11_missOf_51 : decode cX11_missOf 51 = .ok (.lload_n 3, 1) := by decide +kernel
theorem dX11_missOf_52 : decode cX11_missOf 52 = .ok (.ldc2_w 345, 3) := by decide +kernel
theorem dX11_missOf_55 : decode cX11_missOf 55 = .ok (.invokestatic 347, 3) := by decide +kernel
theorem dX11_missOf_58 : decode cX11_missOf 58 = .ok (.l2i, 1) := by decide +kernel
theorem dX11_missOf_59 : decode cX11_missOf 59 = .ok (.ireturn, 1) := by decide +kernel
theorem dX11_lay_0 : decode cX11_lay 0 = .ok (.aload_n 0, 1) := by decide +kernel
theorem dX11_lay_1 : decode cX11_lay 1 = .ok (.getfield 42, 3) := by decide +kernel
theorem dX11_lay_4 : decode cX11_lay 4 = .ok (.iload_n 1, 1) := by decide +kernel
theorem dX11_lay_5 : decode cX11_lay 5 = .ok (.iload_n 2, 1) := by decide +kernel
theorem dX11_lay_6 : decode cX11_lay 6 = .ok (.iastore, 1) := by decide +kernel
theorem dX11_lay_7 : decode cX11_lay 7 = .ok (.aload_n 0, 1) := by decide +kernel
theorem dX11_lay_8 : decode cX11_lay 8 = .ok (.getfield 46, 3) := by decide +kernel
theorem dX11_lay_11 : decode cX11_lay 11 = .ok (.iload_n 1, 1) := by decide +kernel
theorem dX11_lay_12 : decode cX11_lay 12 = .ok (.iload_n 3, 1) := by decide +kernel
theorem dX11_lay_13 : decode cX11_lay 13 = .ok (.iastore, 1) := by decide +kernel
theorem dX11_lay_14 : decode cX11_lay 14 = .ok (.aload_n 0, 1) := by decide +kernel
theorem dX11_lay_15 : decode cX11_lay 15 = .ok (.getfield 49, 3) := by decide +kernel
theorem dX11_lay_18 : decode cX11_lay 18 = .ok (.iload_n 1, 1) := by decide +kernel
theorem dX11_lay_19 : decode cX11_lay 19 = .ok (.iload 4, 2) := by decide +kernel
theorem dX11_lay_21 : decode cX11_lay 21 = .ok (.iastore, 1) := by decide +kernel
theorem dX11_lay_22 : decode cX11_lay 22 = .ok (.iconst 1, 1) := by decide +kernel
theorem dX11_lay_23 : decode cX11_lay 23 = .ok (.ireturn, 1) := by decide +kernel
theorem dX11_layRow_0 : decode cX11_layRow 0 = .ok (.aload_n 2, 1) := by decide +kernel
theorem dX11_layRow_1 : decode cX11_layRow 1 = .ok (.ifnonnull 5, 3) := by decide +kernel
theorem dX11_layRow_4 : decode cX11_layRow 4 = .ok (.iconst (-1), 1) := by decide +kernel
theorem dX11_layRow_5 : decode cX11_layRow 5 = .ok (.ireturn, 1) := by decide +kernel
theorem dX11_layRow_6 : decode cX11_layRow 6 = .ok (.aload_n 2, 1) := by decide +kernel
theorem dX11_layRow_7 : decode cX11_layRow 7 = .ok (.getfield 261, 3) := by decide +kernel
theorem dX11_layRow_10 : decode cX11_layRow 10 = .ok (.iconst (-1), 1) := by decide +kernel
theorem dX11_layRow_11 : decode cX11_layRow 11 = .ok (.if_icmp .ne 12, 3) := by decide +kernel
theorem dX11_layRow_14 : decode cX11_layRow 14 = .ok (.aload_n 0, 1) := by decide +kernel
theorem dX11_layRow_15 : decode cX11_layRow 15 = .ok (.iload_n 1, 1) := by decide +kernel
theorem dX11_layRow_16 : decode cX11_layRow 16 = .ok (.iconst 0, 1) := by decide +kernel
theorem dX11_layRow_17 : decode cX11_layRow 17 = .ok (.iconst 0, 1) := by decide +kernel
theorem dX11_layRow_18 : decode cX11_layRow 18 = .ok (.iconst 0, 1) := by decide +kernel
theorem dX11_layRow_19 : decode cX11_layRow 19 = .ok (.invokevirtual 275, 3) := by decide +kernel
theorem dX11_layRow_22 : decode cX11_layRow 22 = .ok (.ireturn, 1) := by decide +kernel
theorem dX11_layRow_23 : decode cX11_layRow 23 = .ok (.aload_n 0, 1) := by decide +kernel
theorem dX11_layRow_24 : decode cX11_layRow 24 = .ok (.iload_n 1, 1) := by decide +kernel
theorem dX11_layRow_25 : decode cX11_layRow 25 = .ok (.iconst 2, 1) := by decide +kernel
theorem dX11_layRow_26 : decode cX11_layRow 26 = .ok (.aload_n 2, 1) := by decide +kernel
theorem dX11_layRow_27 : decode cX11_layRow 27 = .ok (.getfield 261, 3) := by decide +kernel
theorem dX11_layRow_30 : decode cX11_layRow 30 = .ok (.aload_n 2, 1) := by decide +kernel
theorem dX11_layRow_31 : decode cX11_layRow 31 = .ok (.getfield 263, 3) := by decide +kernel
theorem dX11_layRow_34 : decode cX11_layRow 34 = .ok (.invokevirtual 275, 3) := by decide +kernel
theorem dX11_layRow_37 : decode cX11_layRow 37 = .ok (.ireturn, 1) := by decide +kernel
theorem dX11_thingOn_0 : decode cX11_thingOn 0 = .ok (.iload_n 1, 1) := by decide +kernel
theorem dX11_thingOn_1 : decode cX11_thingOn 1 = .ok (.invokestatic 272, 3) := by decide +kernel
theorem dX11_thingOn_4 : decode cX11_thingOn 4 = .ok (.ifCond .eq 13, 3) := by decide +kernel
theorem dX11_thingOn_7 : decode cX11_thingOn 7 = .ok (.aload_n 0, 1) := by decide +kernel
theorem dX11_thingOn_8 : decode cX11_thingOn 8 = .ok (.getfield 42, 3) := by decide +kernel
theorem dX11_thingOn_11 : decode cX11_thingOn 11 = .ok (.iload_n 1, 1) := by decide +kernel
theorem dX11_thingOn_12 : decode cX11_thingOn 12 = .ok (.iaload, 1) := by decide +kernel
theorem dX11_thingOn_13 : decode cX11_thingOn 13 = .ok (.iconst 1, 1) := by decide +kernel
theorem dX11_thingOn_14 : decode cX11_thingOn 14 = .ok (.if_icmp .eq 5, 3) := by decide +kernel
theorem dX11_thingOn_17 : decode cX11_thingOn 17 = .ok (.aconst_null, 1) := by decide +kernel
theorem dX11_thingOn_18 : decode cX11_thingOn 18 = .ok (.areturn, 1) := by decide +kernel
theorem dX11_thingOn_19 : decode cX11_thingOn 19 = .ok (.aload_n 0, 1) := by decide +kernel
theorem dX11_thingOn_20 : decode cX11_thingOn 20 = .ok (.getfield 10, 3) := by decide +kernel
theorem dX11_thingOn_23 : decode cX11_thingOn 23 = .ok (.aload_n 0, 1) := by decide +kernel
theorem dX11_thingOn_24 : decode cX11_thingOn 24 = .ok (.getfield 46, 3) := by decide +kernel
theorem dX11_thingOn_27 : decode cX11_thingOn 27 = .ok (.iload_n 1, 1) := by decide +kernel
theorem dX11_thingOn_28 : decode cX11_thingOn 28 = .ok (.iaload, 1) := by decide +kernel
theorem dX11_thingOn_29 : decode cX11_thingOn 29 = .ok (.invokevirtual 101, 3) := by decide +kernel
theorem dX11_thingOn_32 : decode cX11_thingOn 32 = .ok (.areturn, 1) := by decide +kernel
