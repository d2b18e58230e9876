theorem dX12_air_0 : decode cX12_air 0 = .ok (.aload_n 0, 1) := by decide +kernel
theorem dX12_air_1 : decode cX12_air 1 = .ok (.getfield 26, 3) := by decide +kernel
theorem dX12_air_4 : decode cX12_air 4 = .ok (.iconst 0, 1) := by decide +kernel
theorem dX12_air_5 : decode cX12_air 5 = .ok (.iaload, 1) := by decide +kernel
theorem dX12_air_6 : decode cX12_air 6 = .ok (.ifCond .lt 13, 3) := by decide +kernel
theorem dX12_air_9 : decode cX12_air 9 = .ok (.iload_n 1, 1) := by decide +kernel
theorem dX12_air_10 : decode cX12_air 10 = .ok (.iconst 0, 1) := by decide +kernel
theorem dX12_air_11 : decode cX12_air 11 = .ok (.bipush 8, 2) := by decide +kernel
theorem dX12_air_13 : decode cX12_air 13 = .ok (.invokestatic 84, 3) := by decide +kernel
theorem dX12_air_16 : decode cX12_air 16 = .ok (.ifCond .ne 7, 3) := by decide +kernel
theorem dX12_air_19 : decode cX12_air 19 = .ok (.ldc_w 297, 3) := by decide +kernel
theorem dX12_air_22 : decode cX12_air 22 = .ok (.ireturn, 1) := by decide +kernel
theorem dX12_air_23 : decode cX12_air 23 = .ok (.iload_n 1, 1) := by decide +kernel
theorem dX12_air_24 : decode cX12_air 24 = .ok (.bipush 8, 2) := by decide +kernel
theorem dX12_air_26 : decode cX12_air 26 = .ok (.if_icmp .ge 12, 3) := by decide +kernel
theorem dX12_air_29 : decode cX12_air 29 = .ok (.aload_n 0, 1) := by decide +kernel
theorem dX12_air_30 : decode cX12_air 30 = .ok (.getfield 26, 3) := by decide +kernel
theorem dX12_air_33 : decode cX12_air 33 = .ok (.iload_n 1, 1) := by decide +kernel
theorem dX12_air_34 : decode cX12_air 34 = .ok (.iaload, 1) := by decide +kernel
theorem dX12_air_35 : decode cX12_air 35 = .ok (.goto 17, 3) := by decide +kernel
theorem dX12_air_38 : decode cX12_air 38 = .ok (.aload_n 0, 1) := by decide +kernel
theorem dX12_air_39 : decode cX12_air 39 = .ok (.getfield 26, 3) := by decide +kernel
theorem dX12_air_42 : decode cX12_air 42 = .ok (.iconst 3, 1) := by decide +kernel
theorem dX12_air_43 : decode cX12_air 43 = .ok (.iaload, 1) := by decide +kernel
theorem dX12_air_44 : decode cX12_air 44 = .ok (.ifCond .gt 7, 3) := by decide +kernel
theorem dX12_air_47 : decode cX12_air 47 = .ok (.iconst 1, 1) := by decide +kernel
theorem dX12_air_48 : decode cX12_air 48 = .ok (.goto 4, 3) := by decide +kernel
theorem dX12_air_51 : decode cX12_air 51 = .ok (.iconst 0, 1) := by decide +kernel
theorem dX12_air_52 : decode cX12_air 52 = .ok (.ireturn, 1) := by decide +kernel
theorem dX12_gust_0 : decode cX12_gust 0 = .ok (.iload_n 1, 1) := by decide +kernel
theorem dX12_gust_1 : decode cX12_gust 1 = .ok (.sipush (-999), 3) := by decide +kernel
theorem dX12_gust_4 : decode cX12_gust 4 = .ok (.sipush 999, 3) := by decide +kernel
theorem dX12_gust_7 : decode cX12_gust 7 = .ok (.invokestatic 84, 3) := by decide +kernel
theorem dX12_gust_10 : decode cX12_gust 10 = .ok (.ifCond .eq 16, 3) := by decide +kernel
theorem dX12_gust_13 : decode cX12_gust 13 = .ok (.iload_n 2, 1) := by decide +kernel
theorem dX12_gust_14 : decode cX12_gust 14 = .ok (.sipush (-999), 3) := by decide +kernel
theorem dX12_gust_17 : decode cX12_gust 17 = .ok (.sipush 999, 3) := by decide +kernel
theorem dX12_gust_20 : decode cX12_gust 20 = .ok (.invokestatic 84, 3) := by decide +kernel
theorem dX12_gust_23 : decode cX12_gust 23 = .ok (.ifCond .ne 5, 3) := by decide +kernel
theorem dX12_gust_26 : decode cX12_gust 26 = .ok (.iconst (-1), 1) := by decide +kernel
theorem dX12_gust_27 : decode cX12_gust 27 = .ok (.ireturn, 1) := by decide +kernel
theorem dX12_gust_28 : decode cX12_gust 28 = .ok (.aload_n 0, 1) := by decide +kernel
theorem dX12_gust_29 : decode cX12_gust 29 = .ok (.getfield 26, 3) := by decide +kernel
theorem dX12_gust_32 : decode cX12_gust 32 = .ok (.iconst 0, 1) := by decide +kernel
theorem dX12_gust_33 : decode cX12_gust 33 = .ok (.iaload, 1) := by decide +kernel
theorem dX12_gust_34 : decode cX12_gust 34 = .ok (.ifCond .lt 12, 3) := by decide +kernel
theorem dX12_gust_37 : decode cX12_gust 37 = .ok (.aload_n 0, 1) := by decide +kernel
theorem dX12_gust_38 : decode cX12_gust 38 = .ok (.getfield 26, 3) := by decide +kernel
theorem dX12_gust_41 : decode cX12_gust 41 = .ok (.iconst 3, 1) := by decide +kernel
theorem dX12_gust_42 : decode cX12_gust 42 = .ok (.iaload, 1) := by decide +kernel
theorem dX12_gust_43 : decode cX12_gust 43 = .ok (.ifCond .gt 6, 3) := by decide +kernel
theorem dX12_gust_46 : decode cX12_gust 46 = .ok (.bipush (-4), 2) := by decide +kernel
theorem dX12_gust_48 : decode cX12_gust 48 = .ok (.ireturn, 1) := by decide +kernel
theorem dX12_gust_49 : decode cX12_gust 49 = .ok (.aload_n 0, 1) := by decide +kernel
theorem dX12_gust_50 : decode cX12_gust 50 = .ok (.getfield 26, 3) := by decide +kernel
theorem dX12_gust_53 : decode cX12_gust 53 = .ok (.bipush 6, 2) := by decide +kernel
theorem dX12_gust_55 : decode cX12_gust 55 = .ok (.aload_n 0, 1) := by decide +kernel
theorem dX12_gust_56 : decode cX12_gust 56 = .ok (.getfield 26, 3) := by decide +kernel
theorem dX12_gust_59 : decode cX12_gust 59 = .ok (.bipush 6, 2) := by decide +kernel
theorem dX12_gust_61 : decode cX12_gust 61 = .ok (.iaload, 1) := by decide +kernel
theorem dX12_gust_62 : decode cX12_gust 62 = .ok (.iload_n 1, 1) := by decide +kernel
theorem dX12_gust_63 : decode cX12_gust 63 = .ok (.iadd, 1) := by decide +kernel
theorem dX12_gust_64 : decode cX12_gust 64 = .ok (.sipush 9999, 3) := by decide +kernel
theorem dX12_gust_67 : decode cX12_gust 67 = .ok (.invokestatic 268, 3) := by decide +kernel
theorem dX12_gust_70 : decode cX12_gust 70 = .ok (.iastore, 1) := by decide +kernel
theorem dX12_gust_71 : decode cX12_gust 71 = .ok (.aload_n 0, 1) := by decide +kernel
theorem dX12_gust_72 : decode cX12_gust 72 = .ok (.getfield 26, 3) := by decide +kernel
theorem dX12_gust_75 : decode cX12_gust 75 = .ok (.bipush 7, 2) := by decide +kernel
theorem dX12_gust_77 : decode cX12_gust 77 = .ok (.aload_n 0, 1) := by decide +kernel
theorem dX12_gust_78 : decode cX12_gust 78 = .ok (.getfield 26, 3) := by decide +kernel
theorem dX12_gust_81 : decode cX12_gust 81 = .ok (.bipush 7, 2) := by decide +kernel
theorem dX12_gust_83 : decode cX12_gust 83 = .ok (.iaload, 1) := by decide +kernel
theorem dX12_gust_84 : decode cX12_gust 84 = .ok (.iload_n 2, 1) := by decide +kernel
theorem dX12_gust_85 : decode cX12_gust 85 = .ok (.iadd, 1) := by decide +kernel
theorem dX12_gust_86 : decode cX12_gust 86 = .ok (.sipush 9999, 3) := by decide +kernel
theorem dX12_gust_89 : decode cX12_gust 89 = .ok (.invokestatic 268, 3) := by decide +kernel
theorem dX12_gust_92 : decode cX12_gust 92 = .ok (.iastore, 1) := by decide +kernel
theorem dX12_gust_93 : decode cX12_gust 93 = .ok (.iconst 1, 1) := by decide +kernel
theorem dX12_gust_94 : decode cX12_gust 94 = .ok (.ireturn, 1) := by decide +kernel
theorem dX12_sortOf_0 : decode cX12_sortOf 0 = .ok (.aload_n 0, 1) := by decide +kernel
theorem dX12_sortOf_1 : decode cX12_sortOf 1 = .ok (.getfield 253, 3) := by decide +kernel
theorem dX12_sortOf_4 : decode cX12_sortOf 4 = .ok (.ifCond .le 7, 3) := by decide +kernel
theorem dX12_sortOf_7 : decode cX12_sortOf 7 = .ok (.iconst 1, 1) := by decide +kernel
theorem dX12_sortOf_8 : decode cX12_sortOf 8 = .ok (.goto 4, 3) := by decide +kernel
theorem dX12_sortOf_11 : decode cX12_sortOf 11 = .ok (.iconst 0, 1) := by decide +kernel
theorem dX12_sortOf_12 : decode cX12_sortOf 12 = .ok (.aload_n 0, 1) := by decide +kernel
theorem dX12_sortOf_13 : decode cX12_sortOf 13 = .ok (.getfield 256, 3) := by decide +kernel
theorem dX12_sortOf_16 : decode cX12_sortOf 16 = .ok (.ifCond .le 7, 3) := by decide +kernel
theorem dX12_sortOf_19 : decode cX12_sortOf 19 = .ok (.iconst 2, 1) := by decide +kernel
theorem dX12_sortOf_20 : decode cX12_sortOf 20 = .ok (.goto 4, 3) := by decide +kernel
theorem dX12_sortOf_23 : decode cX12_sortOf 23 = .ok (.iconst 0, 1) := by decide +kernel
theorem dX12_sortOf_24 : decode cX12_sortOf 24 = .ok (.iadd, 1) := by decide +kernel
theorem dX12_sortOf_25 : decode cX12_sortOf 25 = .ok (.ireturn, 1) := by decide +kernel
theorem dX12_squareOf_0 : decode cX12_squareOf 0 = .ok (.aload_n 0, 1) := by decide +kernel
theorem dX12_squareOf_1 : decode cX12_squareOf 1 = .ok (.getfield 235, 3) := by decide +kernel
theorem dX12_squareOf_4 : decode cX12_squareOf 4 = .ok (.ifCond .lt 13, 3) := by decide +kernel
theorem dX12_squareOf_7 : decode cX12_squareOf 7 = .ok (.aload_n 0, 1) := by decide +kernel
theorem dX12_squareOf_8 : decode cX12_squareOf 8 = .ok (.getfield 235, 3) := by decide +kernel
theorem dX12_squareOf_11 : decode cX12_squareOf 11 = .ok (.bipush 100, 2) := by decide +kernel
theorem dX12_squareOf_13 : decode cX12_squareOf 13 = .ok (.idiv, 1) := by decide +kernel
theorem dX12_squareOf_14 : decode cX12_squareOf 14 = .ok (.goto 14, 3) := by decide +kernel
theorem dX12_squareOf_17 : decode cX12_squareOf 17 = .ok (.bipush 99, 2) := by decide +kernel
theorem dX12_squareOf_19 : decode cX12_squareOf 19 = .ok (.aload_n 0, 1) := by decide +kernel
theorem dX12_squareOf_20 : decode cX12_squareOf 20 = .ok (.getfield 235, 3) := by decide +kernel
theorem dX12_squareOf_23 : decode cX12_squareOf 23 = .ok (.isub, 1) := by decide +kernel
theorem dX12_squareOf_24 : decode cX12_squareOf 24 = .ok (.bipush 100, 2) := by decide +kernel
theorem dX12_squareOf_26 : decode cX12_squareOf 26 = .ok (.idiv, 1) := by decide +kernel
theorem dX12_squareOf_27 : decode cX12_squareOf 27 = .ok (.ineg, 1) := by decide +kernel
theorem dX12_squareOf_28 : decode cX12_squareOf 28 = .ok (.ireturn, 1) := by decide +kernel
theorem dX12_fall_0 : decode cX12_fall 0 = .ok (.aload_n 0, 1) := by decide +kernel
theorem dX12_fall_1 : decode cX12_fall 1 = .ok (.iload_n 1, 1) := by decide +kernel
theorem dX12_fall_2 : decode cX12_fall 2 = .ok (.iload_n 2, 1) := by decide +kernel
theorem dX12_fall_3 : decode cX12_fall 3 = .ok (.iload_n 3, 1) := by decide +kernel
theorem dX12_fall_4 : decode cX12_fall 4 = .ok (.iload 4, 2) := by decide +kernel
theorem dX12_fall_6 : decode cX12_fall 6 = .ok (.invokevirtual 288, 3) := by decide +kernel
theorem dX12_fall_9 : decode cX12_fall 9 = .ok (.ifCond .eq 25, 3) := by decide +kernel
theorem dX12_fall_12 : decode cX12_fall 12 = .ok (.iload 5, 2) := by decide +kernel
theorem dX12_fall_14 : decode cX12_fall 14 = .ok (.iconst 0, 1) := by decide +kernel
theorem dX12_fall_15 : decode cX12_fall 15 = .ok (.iconst 5, 1) := by decide +kernel
theorem dX12_fall_16 : decode cX12_fall 16 = .ok (.invokestatic 84, 3) := by decide +kernel
theorem dX12_fall_19 : decode cX12_fall 19 = .ok (.ifCond .eq 15, 3) := by decide +kernel
theorem dX12_fall_22 : decode cX12_fall 22 = .ok (.aload_n 0, 1) := by decide +kernel
theorem dX12_fall_23 : decode cX12_fall 23 = .ok (.iload_n 1, 1) := by decide +kernel
theorem dX12_fall_24 : decode cX12_fall 24 = .ok (.iload_n 2, 1) := by decide +kernel
theorem dX12_fall_25 : decode cX12_fall 25 = .ok (.iload_n 3, 1) := by decide +kernel
theorem dX12_fall_26 : decode cX12_fall 26 = .ok (.iload 4, 2) := by decide +kernel
theorem dX12_fall_28 : decode cX12_fall 28 = .ok (.invokevirtual 298, 3) := by decide +kernel
theorem dX12_fall_31 : decode cX12_fall 31 = .ok (.ifCond .ne 7, 3) := by decide +kernel
theorem dX12_fall_34 : decode cX12_fall 34 = .ok (.ldc_w 297, 3) := by decide +kernel
theorem dX12_fall_37 : decode cX12_fall 37 = .ok (.ireturn, 1) := by decide +kernel
theorem dX12_fall_38 : decode cX12_fall 38 = .ok (.iload 5, 2) := by decide +kernel
theorem dX12_fall_40 : decode cX12_fall 40 = .ok (.tableswitch 61 0 4 #[36, 41, 46, 51, 56], 36) := by decide +kernel
theorem dX12_fall_76 : decode cX12_fall 76 = .ok (.aload_n 0, 1) := by decide +kernel
theorem dX12_fall_77 : decode cX12_fall 77 = .ok (.getfield 232, 3) := by decide +kernel
theorem dX12_fall_80 : decode cX12_fall 80 = .ok (.ireturn, 1) := by decide +kernel
theorem dX12_fall_81 : decode cX12_fall 81 = .ok (.aload_n 0, 1) := by decide +kernel
theorem dX12_fall_82 : decode cX12_fall 82 = .ok (.getfield 235, 3) := by decide +kernel
theorem dX12_fall_85 : decode cX12_fall 85 = .ok (.ireturn, 1) := by decide +kernel
theorem dX12_fall_86 : decode cX12_fall 86 = .ok (.aload_n 0, 1) := by decide +kernel
theorem dX12_fall_87 : decode cX12_fall 87 = .ok (.getfield 253, 3) := by decide +kernel
theorem dX12_fall_90 : decode cX12_fall 90 = .ok (.ireturn, 1) := by decide +kernel
theorem dX12_fall_91 : decode cX12_fall 91 = .ok (.aload_n 0, 1) := by decide +kernel
theorem dX12_fall_92 : decode cX12_fall 92 = .ok (.getfield 256, 3) := by decide +kernel
theorem dX12_fall_95 : decode cX12_fall 95 = .ok (.ireturn, 1) := by decide +kernel
theorem dX12_fall_96 : decode cX12_fall 96 = .ok (.aload_n 0, 1) := by decide +kernel
theorem dX12_fall_97 : decode cX12_fall 97 = .ok (.invokevirtual 301, 3) := by decide +kernel
theorem dX12_fall_100 : decode cX12_fall 100 = .ok (.ireturn, 1) := by decide +kernel
theorem dX12_fall_101 : decode cX12_fall 101 = .ok (.aload_n 0, 1) := by decide +kernel
theorem dX12_fall_102 : decode cX12_fall 102 = .ok (.invokevirtual 304, 3) := by decide +kernel
theorem dX12_fall_105 : decode cX12_fall 105 = .ok (.ireturn, 1) := by decide +kernel
theorem dX12_line_0 : decode cX12_line 0 = .ok (.aload_n 0, 1) := by decide +kernel
theorem dX12_line_1 : decode cX12_line 1 = .ok (.iload_n 1, 1) := by decide +kernel
theorem dX12_line_2 : decode cX12_line 2 = .ok (.iload_n 2, 1) := by decide +kernel
theorem dX12_line_3 : decode cX12_line 3 = .ok (.iload_n 3, 1) := by decide +kernel
theorem dX12_line_4 : decode cX12_line 4 = .ok (.iload 4, 2) := by decide +kernel
theorem dX12_line_6 : decode cX12_line 6 = .ok (.invokevirtual 288, 3) := by decide +kernel
theorem dX12_line_9 : decode cX12_line 9 = .ok (.ifCond .eq 13, 3) := by decide +kernel
theorem dX12_line_12 : decode cX12_line 12 = .ok (.iload 5, 2) := by decide +kernel
theorem dX12_line_14 : decode cX12_line 14 = .ok (.iconst 0, 1) := by decide +kernel
theorem dX12_line_15 : decode cX12_line 15 = .ok (.iconst 3, 1) := by decide +kernel
theorem dX12_line_16 : decode cX12_line 16 = .ok (.invokestatic 84, 3) := by decide +kernel
theorem dX12_line_19 : decode cX12_line 19 = .ok (.ifCond .ne 5, 3) := by decide +kernel
theorem dX12_line_22 : decode cX12_line 22 = .ok (.iconst (-1), 1) := by decide +kernel
theorem dX12_line_23 : decode cX12_line 23 = .ok (.ireturn, 1) := by decide +kernel
theorem dX12_line_24 : decode cX12_line 24 = .ok (.aload_n 0, 1) := by decide +kernel
theorem dX12_line_25 : decode cX12_line 25 = .ok (.iload_n 1, 1) := by decide +kernel
theorem dX12_line_26 : decode cX12_line 26 = .ok (.iconst 1, 1) := by decide +kernel
theorem dX12_line_27 : decode cX12_line 27 = .ok (.invokevirtual 208, 3) := by decide +kernel
theorem dX12_line_30 : decode cX12_line 30 = .ok (.istore 6, 2) := by decide +kernel
theorem dX12_line_32 : decode cX12_line 32 = .ok (.bipush (-3), 2) := by decide +kernel
theorem dX12_line_34 : decode cX12_line 34 = .ok (.istore 7, 2) := by decide +kernel
theorem dX12_line_36 : decode cX12_line 36 = .ok (.iconst 1, 1) := by decide +kernel
theorem dX12_line_37 : decode cX12_line 37 = .ok (.istore 8, 2) := by decide +kernel
theorem dX12_line_39 : decode cX12_line 39 = .ok (.iload 8, 2) := by decide +kernel
theorem dX12_line_41 : decode cX12_line 41 = .ok (.bipush 100, 2) := by decide +kernel
theorem dX12_line_43 : decode cX12_line 43 = .ok (.if_icmp .ge 56, 3) := by decide +kernel
theorem dX12_line_46 : decode cX12_line 46 = .ok (.iload 7, 2) := by decide +kernel
theorem dX12_line_48 : decode cX12_line 48 = .ok (.ifCond .ge 51, 3) := by decide +kernel
theorem dX12_line_51 : decode cX12_line 51 = .ok (.aload_n 0, 1) := by decide +kernel
theorem dX12_line_52 : decode cX12_line 52 = .ok (.getfield 7, 3) := by decide +kernel
theorem dX12_line_55 : decode cX12_line 55 = .ok (.iconst 4, 1) := by decide +kernel
theorem dX12_line_56 : decode cX12_line 56 = .ok (.iload_n 1, 1) := by decide +kernel
theorem dX12_line_57 : decode cX12_line 57 = .ok (.imul, 1) := by decide +kernel
theorem dX12_line_58 : decode cX12_line 58 = .ok (.iconst 1, 1) := by decide +kernel
theorem dX12_line_59 : decode cX12_line 59 = .ok (.iadd, 1) := by decide +kernel
theorem dX12_line_60 : decode cX12_line 60 = .ok (.iload 8, 2) := by decide +kernel
theorem dX12_line_62 : decode cX12_line 62 = .ok (.iastore, 1) := by decide +kernel
theorem dX12_line_63 : decode cX12_line 63 = .ok (.aload_n 0, 1) := by decide +kernel
theorem dX12_line_64 : decode cX12_line 64 = .ok (.iload_n 1, 1) := by decide +kernel
theorem dX12_line_65 : decode cX12_line 65 = .ok (.iload_n 2, 1) := by decide +kernel
theorem dX12_line_66 : decode cX12_line 66 = .ok (.iload_n 3, 1) := by decide +kernel
theorem dX12_line_67 : decode cX12_line 67 = .ok (.iload 4, 2) := by decide +kernel
theorem dX12_line_69 : decode cX12_line 69 = .ok (.invokevirtual 298, 3) := by decide +kernel
theorem dX12_line_72 : decode cX12_line 72 = .ok (.ifCond .eq 17, 3) := by decide +kernel
theorem dX12_line_75 : decode cX12_line 75 = .ok (.aload_n 0, 1) := by decide +kernel
theorem dX12_line_76 : decode cX12_line 76 = .ok (.invokevirtual 301, 3) := by decide +kernel
theorem dX12_line_79 : decode cX12_line 79 = .ok (.iload 5, 2) := by decide +kernel
theorem dX12_line_81 : decode cX12_line 81 = .ok (.if_icmp .ne 8, 3) := by decide +kernel
theorem dX12_line_84 : decode cX12_line 84 = .ok (.iload 8, 2) := by decide +kernel
theorem dX12_line_86 : decode cX12_line 86 = .ok (.goto 5, 3) := by decide +kernel
theorem dX12_line_89 : decode cX12_line 89 = .ok (.bipush (-3), 2) := by decide +kernel
theorem dX12_line_91 : decode cX12_line 91 = .ok (.istore 7, 2) := by decide +kernel
theorem dX12_line_93 : decode cX12_line 93 = .ok (.iinc 8 1, 3) := by decide +kernel
theorem dX12_line_96 : decode cX12_line 96 = .ok (.goto (-57), 3) := by decide +kernel
theorem dX12_line_99 : decode cX12_line 99 = .ok (.aload_n 0, 1) := by decide +kernel
theorem dX12_line_100 : decode cX12_line 100 = .ok (.getfield 7, 3) := by decide +kernel
theorem dX12_line_103 : decode cX12_line 103 = .ok (.iconst 4, 1) := by decide +kernel
theorem dX12_line_104 : decode cX12_line 104 = .ok (.iload_n 1, 1) := by decide +kernel
theorem dX12_line_105 : decode cX12_line 105 = .ok (.imul, 1) := by decide +kernel
theorem dX12_line_106 : decode cX12_line 106 = .ok (.iconst 1, 1) := by decide +kernel
theorem dX12_line_107 : decode cX12_line 107 = .ok (.iadd, 1) := by decide +kernel
theorem dX12_line_108 : decode cX12_line 108 = .ok (.iload 6, 2) := by decide +kernel
theorem dX12_line_110 : decode cX12_line 110 = .ok (.iastore, 1) := by decide +kernel
theorem dX12_line_111 : decode cX12_line 111 = .ok (.iload 7, 2) := by decide +kernel
theorem dX12_line_113 : decode cX12_line 113 = .ok (.ireturn, 1) := by decide +kernel
theorem dX12_films_0 : decode cX12_films 0 = .ok (.aload_n 0, 1) := by decide +kernel
theorem dX12_films_1 : decode cX12_films 1 = .ok (.iload_n 2, 1) := by decide +kernel
theorem dX12_films_2 : decode cX12_films 2 = .ok (.iload_n 3, 1) := by decide +kernel
theorem dX12_films_3 : decode cX12_films 3 = .ok (.iload 4, 2) := by decide +kernel
theorem dX12_films_5 : decode cX12_films 5 = .ok (.iload 5, 2) := by decide +kernel
theorem dX12_films_7 : decode cX12_films 7 = .ok (.invokevirtual 274, 3) := by decide +kernel
theorem dX12_films_10 : decode cX12_films 10 = .ok (.aload_n 0, 1) := by decide +kernel
theorem dX12_films_11 : decode cX12_films 11 = .ok (.invokevirtual 278, 3) := by decide +kernel
theorem dX12_films_14 : decode cX12_films 14 = .ok (.ifCond .ne 32, 3) := by decide +kernel
theorem dX12_films_17 : decode cX12_films 17 = .ok (.aload_n 0, 1) := by decide +kernel
theorem dX12_films_18 : decode cX12_films 18 = .ok (.getfield 232, 3) := by decide +kernel
theorem dX12_films_21 : decode cX12_films 21 = .ok (.sipush 400, 3) := by decide +kernel
theorem dX12_films_24 : decode cX12_films 24 = .ok (.if_icmp .ge 22, 3) := by decide +kernel
theorem dX12_films_27 : decode cX12_films 27 = .ok (.aload_n 0, 1) := by decide +kernel
theorem dX12_films_28 : decode cX12_films 28 = .ok (.invokevirtual 282, 3) := by decide +kernel
theorem dX12_films_31 : decode cX12_films 31 = .ok (.aload_n 1, 1) := by decide +kernel
theorem dX12_films_32 : decode cX12_films 32 = .ok (.aload_n 0, 1) := by decide +kernel
theorem dX12_films_33 : decode cX12_films 33 = .ok (.getfield 232, 3) := by decide +kernel
theorem dX12_films_36 : decode cX12_films 36 = .ok (.iconst 1, 1) := by decide +kernel
theorem dX12_films_37 : decode cX12_films 37 = .ok (.isub, 1) := by decide +kernel
theorem dX12_films_38 : decode cX12_films 38 = .ok (.aload_n 0, 1) := by decide +kernel
theorem dX12_films_39 : decode cX12_films 39 = .ok (.getfield 235, 3) := by decide +kernel
theorem dX12_films_42 : decode cX12_films 42 = .ok (.iastore, 1) := by decide +kernel
theorem dX12_films_43 : decode cX12_films 43 = .ok (.goto (-33), 3) := by decide +kernel
theorem dX12_films_46 : decode cX12_films 46 = .ok (.aload_n 0, 1) := by decide +kernel
theorem dX12_films_47 : decode cX12_films 47 = .ok (.getfield 232, 3) := by decide +kernel
theorem dX12_films_50 : decode cX12_films 50 = .ok (.ireturn, 1) := by decide +kernel
theorem dX12_parted_0 : decode cX12_parted 0 = .ok (.aload_n 0, 1) := by decide +kernel
theorem dX12_parted_1 : decode cX12_parted 1 = .ok (.iload_n 1, 1) := by decide +kernel
theorem dX12_parted_2 : decode cX12_parted 2 = .ok (.iload_n 2, 1) := by decide +kernel
theorem dX12_parted_3 : decode cX12_parted 3 = .ok (.iload_n 3, 1) := by decide +kernel
theorem dX12_parted_4 : decode cX12_parted 4 = .ok (.iload 4, 2) := by decide +kernel
theorem dX12_parted_6 : decode cX12_parted 6 = .ok (.invokevirtual 288, 3) := by decide +kernel
theorem dX12_parted_9 : decode cX12_parted 9 = .ok (.ifCond .eq 15, 3) := by decide +kernel
theorem dX12_parted_12 : decode cX12_parted 12 = .ok (.iload 5, 2) := by decide +kernel
theorem dX12_parted_14 : decode cX12_parted 14 = .ok (.iconst 0, 1) := by decide +kernel
theorem dX12_parted_15 : decode cX12_parted 15 = .ok (.sipush 9999, 3) := by decide +kernel
theorem dX12_parted_18 : decode cX12_parted 18 = .ok (.invokestatic 84, 3) := by decide +kernel
theorem dX12_parted_21 : decode cX12_parted 21 = .ok (.ifCond .ne 5, 3) := by decide +kernel
theorem dX12_parted_24 : decode cX12_parted 24 = .ok (.iconst (-1), 1) := by decide +kernel
theorem dX12_parted_25 : decode cX12_parted 25 = .ok (.ireturn, 1) := by decide +kernel
theorem dX12_parted_26 : decode cX12_parted 26 = .ok (.aload_n 0, 1) := by decide +kernel
theorem dX12_parted_27 : decode cX12_parted 27 = .ok (.aload_n 0, 1) := by decide +kernel
theorem dX12_parted_28 : decode cX12_parted 28 = .ok (.getfield 41, 3) := by decide +kernel
theorem dX12_parted_31 : decode cX12_parted 31 = .ok (.iload_n 1, 1) := by decide +kernel
theorem dX12_parted_32 : decode cX12_parted 32 = .ok (.iload_n 2, 1) := by decide +kernel
theorem dX12_parted_33 : decode cX12_parted 33 = .ok (.iload_n 3, 1) := by decide +kernel
theorem dX12_parted_34 : decode cX12_parted 34 = .ok (.iload 4, 2) := by decide +kernel
theorem dX12_parted_36 : decode cX12_parted 36 = .ok (.invokevirtual 307, 3) := by decide +kernel
theorem dX12_parted_39 : decode cX12_parted 39 = .ok (.istore 6, 2) := by decide +kernel
theorem dX12_parted_41 : decode cX12_parted 41 = .ok (.aload_n 0, 1) := by decide +kernel
theorem dX12_parted_42 : decode cX12_parted 42 = .ok (.aload_n 0, 1) := by decide +kernel
theorem dX12_parted_43 : decode cX12_parted 43 = .ok (.getfield 44, 3) := by decide +kernel
theorem dX12_parted_46 : decode cX12_parted 46 = .ok (.iload_n 1, 1) := by decide +kernel
theorem dX12_parted_47 : decode cX12_parted 47 = .ok (.iload_n 2, 1) := by decide +kernel
theorem dX12_parted_48 : decode cX12_parted 48 = .ok (.iload_n 3, 1) := by decide +kernel
theorem dX12_parted_49 : decode cX12_parted 49 = .ok (.iconst 1, 1) := by decide +kernel
theorem dX12_parted_50 : decode cX12_parted 50 = .ok (.iadd, 1) := by decide +kernel
theorem dX12_parted_51 : decode cX12_parted 51 = .ok (.bipush 36, 2) := by decide +kernel
theorem dX12_parted_53 : decode cX12_parted 53 = .ok (.irem, 1) := by decide +kernel
theorem dX12_parted_54 : decode cX12_parted 54 = .ok (.iload 4, 2) := by decide +kernel
theorem dX12_parted_56 : decode cX12_parted 56 = .ok (.invokevirtual 307, 3) := by decide +kernel
theorem dX12_parted_59 : decode cX12_parted 59 = .ok (.istore 7, 2) := by decide +kernel
theorem dX12_parted_61 : decode cX12_parted 61 = .ok (.iconst 0, 1) := by decide +kernel
theorem dX12_parted_62 : decode cX12_parted 62 = .ok (.istore 8, 2) := by decide +kernel
theorem dX12_parted_64 : decode cX12_parted 64 = .ok (.iload 8, 2) := by decide +kernel
theorem dX12_parted_66 : decode cX12_parted 66 = .ok (.iload 6, 2) := by decide +kernel
theorem dX12_parted_68 : decode cX12_parted 68 = .ok (.if_icmp .ge 44, 3) := by decide +kernel
theorem dX12_parted_71 : decode cX12_parted 71 = .ok (.iload 8, 2) := by decide +kernel
theorem dX12_parted_73 : decode cX12_parted 73 = .ok (.iload 7, 2) := by decide +kernel
theorem dX12_parted_75 : decode cX12_parted 75 = .ok (.if_icmp .ge 37, 3) := by decide +kernel
theorem dX12_parted_78 : decode cX12_parted 78 = .ok (.aload_n 0, 1) := by decide +kernel
theorem dX12_parted_79 : decode cX12_parted 79 = .ok (.getfield 41, 3) := by decide +kernel
theorem dX12_parted_82 : decode cX12_parted 82 = .ok (.iload 8, 2) := by decide +kernel
theorem dX12_parted_84 : decode cX12_parted 84 = .ok (.iaload, 1) := by decide +kernel
theorem dX12_parted_85 : decode cX12_parted 85 = .ok (.aload_n 0, 1) := by decide +kernel
theorem dX12_parted_86 : decode cX12_parted 86 = .ok (.getfield 44, 3) := by decide +kernel
theorem dX12_parted_89 : decode cX12_parted 89 = .ok (.iload 8, 2) := by decide +kernel
theorem dX12_parted_91 : decode cX12_parted 91 = .ok (.iaload, 1) := by decide +kernel
theorem dX12_parted_92 : decode cX12_parted 92 = .ok (.isub, 1) := by decide +kernel
theorem dX12_parted_93 : decode cX12_parted 93 = .ok (.invokestatic 265, 3) := by decide +kernel
theorem dX12_parted_96 : decode cX12_parted 96 = .ok (.iload 5, 2) := by decide +kernel
theorem dX12_parted_98 : decode cX12_parted 98 = .ok (.if_icmp .le 8, 3) := by decide +kernel
theorem dX12_parted_101 : decode cX12_parted 101 = .ok (.iload 8, 2) := by decide +kernel
theorem dX12_parted_103 : decode cX12_parted 103 = .ok (.iconst 1, 1) := by decide +kernel
theorem dX12_parted_104 : decode cX12_parted 104 = .ok (.iadd, 1) := by decide +kernel
theorem dX12_parted_105 : decode cX12_parted 105 = .ok (.ireturn, 1) := by decide +kernel
theorem dX12_parted_106 : decode cX12_parted 106 = .ok (.iinc 8 1, 3) := by decide +kernel
theorem dX12_parted_109 : decode cX12_parted 109 = .ok (.goto (-45), 3) := by decide +kernel
theorem dX12_parted_112 : decode cX12_parted 112 = .ok (.bipush (-3), 2) := by decide +kernel
theorem dX12_parted_114 : decode cX12_parted 114 = .ok (.ireturn, 1) := by decide +kernel
theorem dX12_oftenOn_0 : decode cX12_oftenOn 0 = .ok (.iconst 0, 1) := by decide +kernel
theorem dX12_oftenOn_1 : decode cX12_oftenOn 1 = .ok (.istore 6, 2) := by decide +kernel
theorem dX12_oftenOn_3 : decode cX12_oftenOn 3 = .ok (.iconst 0, 1) := by decide +kernel
theorem dX12_oftenOn_4 : decode cX12_oftenOn 4 = .ok (.istore 7, 2) := by decide +kernel
theorem dX12_oftenOn_6 : decode cX12_oftenOn 6 = .ok (.iload 7, 2) := by decide +kernel
theorem dX12_oftenOn_8 : decode cX12_oftenOn 8 = .ok (.iconst 5, 1) := by decide +kernel
theorem dX12_oftenOn_9 : decode cX12_oftenOn 9 = .ok (.if_icmp .ge 65, 3) := by decide +kernel
theorem dX12_oftenOn_12 : decode cX12_oftenOn 12 = .ok (.aload_n 0, 1) := by decide +kernel
theorem dX12_oftenOn_13 : decode cX12_oftenOn 13 = .ok (.getfield 16, 3) := by decide +kernel
theorem dX12_oftenOn_16 : decode cX12_oftenOn 16 = .ok (.iload 7, 2) := by decide +kernel
theorem dX12_oftenOn_18 : decode cX12_oftenOn 18 = .ok (.iaload, 1) := by decide +kernel
theorem dX12_oftenOn_19 : decode cX12_oftenOn 19 = .ok (.ifCond .le 49, 3) := by decide +kernel
theorem dX12_oftenOn_22 : decode cX12_oftenOn 22 = .ok (.aload_n 0, 1) := by decide +kernel
theorem dX12_oftenOn_23 : decode cX12_oftenOn 23 = .ok (.iload_n 1, 1) := by decide +kernel
theorem dX12_oftenOn_24 : decode cX12_oftenOn 24 = .ok (.iload_n 2, 1) := by decide +kernel
theorem dX12_oftenOn_25 : decode cX12_oftenOn 25 = .ok (.iload_n 3, 1) := by decide +kernel
theorem dX12_oftenOn_26 : decode cX12_oftenOn 26 = .ok (.iload 7, 2) := by decide +kernel
theorem dX12_oftenOn_28 : decode cX12_oftenOn 28 = .ok (.iadd, 1) := by decide +kernel
theorem dX12_oftenOn_29 : decode cX12_oftenOn 29 = .ok (.bipush 34, 2) := by decide +kernel
theorem dX12_oftenOn_31 : decode cX12_oftenOn 31 = .ok (.iadd, 1) := by decide +kernel
theorem dX12_oftenOn_32 : decode cX12_oftenOn 32 = .ok (.bipush 36, 2) := by decide +kernel
theorem dX12_oftenOn_34 : decode cX12_oftenOn 34 = .ok (.irem, 1) := by decide +kernel
theorem dX12_oftenOn_35 : decode cX12_oftenOn 35 = .ok (.iload 4, 2) := by decide +kernel
theorem dX12_oftenOn_37 : decode cX12_oftenOn 37 = .ok (.invokevirtual 298, 3) := by decide +kernel
theorem dX12_oftenOn_40 : decode cX12_oftenOn 40 = .ok (.ifCond .eq 28, 3) := by decide +kernel
theorem dX12_oftenOn_43 : decode cX12_oftenOn 43 = .ok (.iload 6, 2) := by decide +kernel
theorem dX12_oftenOn_45 : decode cX12_oftenOn 45 = .ok (.aload_n 0, 1) := by decide +kernel
theorem dX12_oftenOn_46 : decode cX12_oftenOn 46 = .ok (.invokevirtual 304, 3) := by decide +kernel
theorem dX12_oftenOn_49 : decode cX12_oftenOn 49 = .ok (.iload 5, 2) := by decide +kernel
theorem dX12_oftenOn_51 : decode cX12_oftenOn 51 = .ok (.if_icmp .ne 13, 3) := by decide +kernel
theorem dX12_oftenOn_54 : decode cX12_oftenOn 54 = .ok (.aload_n 0, 1) := by decide +kernel
theorem dX12_oftenOn_55 : decode cX12_oftenOn 55 = .ok (.getfield 16, 3) := by decide +kernel
theorem dX12_oftenOn_58 : decode cX12_oftenOn 58 = .ok (.iload 7, 2) := by decide +kernel
theorem dX12_oftenOn_60 : decode cX12_oftenOn 60 = .ok (.iaload, 1) := by decide +kernel
theorem dX12_oftenOn_61 : decode cX12_oftenOn 61 = .ok (.goto 4, 3) := by decide +kernel
theorem dX12_oftenOn_64 : decode cX12_oftenOn 64 = .ok (.iconst 0, 1) := by decide +kernel
theorem dX12_oftenOn_65 : decode cX12_oftenOn 65 = .ok (.iadd, 1) := by decide +kernel
theorem dX12_oftenOn_66 : decode cX12_oftenOn 66 = .ok (.istore 6, 2) := by decide +kernel
theorem dX12_oftenOn_68 : decode cX12_oftenOn 68 = .ok (.iinc 7 1, 3) := by decide +kernel
theorem dX12_oftenOn_71 : decode cX12_oftenOn 71 = .ok (.goto (-65), 3) := by decide +kernel
theorem dX12_oftenOn_74 : decode cX12_oftenOn 74 = .ok (.iload 6, 2) := by decide +kernel
theorem dX12_oftenOn_76 : decode cX12_oftenOn 76 = .ok (.ireturn, 1) := by decide +kernel
theorem dX12_isSquare_0 : decode cX12_isSquare 0 = .ok (.iload_n 0, 1) := by decide +kernel
theorem dX12_isSquare_1 : decode cX12_isSquare 1 = .ok (.sipush (-999), 3) := by decide +kernel
theorem dX12_isSquare_4 : decode cX12_isSquare 4 = .ok (.sipush 999, 3) := by decide +kernel
theorem dX12_isSquare_7 : decode cX12_isSquare 7 = .ok (.invokestatic 84, 3) := by decide +kernel
theorem dX12_isSquare_10 : decode cX12_isSquare 10 = .ok (.ireturn, 1) := by decide +kernel
theorem dX12_partOf_0 : decode cX12_partOf 0 = .ok (.iload_n 0, 1) := by decide +kernel
theorem dX12_partOf_1 : decode cX12_partOf 1 = .ok (.istore_n 3, 1) := by decide +kernel
theorem dX12_partOf_2 : decode cX12_partOf 2 = .ok (.iload_n 1, 1) := by decide +kernel
theorem dX12_partOf_3 : decode cX12_partOf 3 = .ok (.istore 4, 2) := by decide +kernel
theorem dX12_partOf_5 : decode cX12_partOf 5 = .ok (.iload 4, 2) := by decide +kernel
theorem dX12_partOf_7 : decode cX12_partOf 7 = .ok (.ifCond .eq 19, 3) := by decide +kernel
theorem dX12_partOf_10 : decode cX12_partOf 10 = .ok (.iload_n 3, 1) := by decide +kernel
theorem dX12_partOf_11 : decode cX12_partOf 11 = .ok (.iload 4, 2) := by decide +kernel
theorem dX12_partOf_13 : decode cX12_partOf 13 = .ok (.irem, 1) := by decide +kernel
theorem dX12_partOf_14 : decode cX12_partOf 14 = .ok (.istore 5, 2) := by decide +kernel
theorem dX12_partOf_16 : decode cX12_partOf 16 = .ok (.iload 4, 2) := by decide +kernel
theorem dX12_partOf_18 : decode cX12_partOf 18 = .ok (.istore_n 3, 1) := by decide +kernel
theorem dX12_partOf_19 : decode cX12_partOf 19 = .ok (.iload 5, 2) := by decide +kernel
theorem dX12_partOf_21 : decode cX12_partOf 21 = .ok (.istore 4, 2) := by decide +kernel
theorem dX12_partOf_23 : decode cX12_partOf 23 = .ok (.goto (-18), 3) := by decide +kernel
theorem dX12_partOf_26 : decode cX12_partOf 26 = .ok (.iload_n 2, 1) := by decide +kernel
theorem dX12_partOf_27 : decode cX12_partOf 27 = .ok (.ifCond .ne 7, 3) := by decide +kernel
theorem dX12_partOf_30 : decode cX12_partOf 30 = .ok (.iload_n 0, 1) := by decide +kernel
theorem dX12_partOf_31 : decode cX12_partOf 31 = .ok (.goto 4, 3) := by decide +kernel
theorem dX12_partOf_34 : decode cX12_partOf 34 = .ok (.iload_n 1, 1) := by decide +kernel
theorem dX12_partOf_35 : decode cX12_partOf 35 = .ok (.iload_n 3, 1) := by decide +kernel
theorem dX12_partOf_36 : decode cX12_partOf 36 = .ok (.idiv, 1) := by decide +kernel
theorem dX12_partOf_37 : decode cX12_partOf 37 = .ok (.ireturn, 1) := by decide +kernel
theorem dX12_odds_0 : decode cX12_odds 0 = .ok (.aload_n 0, 1) := by decide +kernel
theorem dX12_odds_1 : decode cX12_odds 1 = .ok (.iload_n 1, 1) := by decide +kernel
theorem dX12_odds_2 : decode cX12_odds 2 = .ok (.iload_n 2, 1) := by decide +kernel
theorem dX12_odds_3 : decode cX12_odds 3 = .ok (.iload_n 3, 1) := by decide +kernel
theorem dX12_odds_4 : decode cX12_odds 4 = .ok (.iload 4, 2) := by decide +kernel
theorem dX12_odds_6 : decode cX12_odds 6 = .ok (.invokevirtual 288, 3) := by decide +kernel
theorem dX12_odds_9 : decode cX12_odds 9 = .ok (.ifCond .eq 19, 3) := by decide +kernel
theorem dX12_odds_12 : decode cX12_odds 12 = .ok (.iload 5, 2) := by decide +kernel
theorem dX12_odds_14 : decode cX12_odds 14 = .ok (.invokestatic 311, 3) := by decide +kernel
theorem dX12_odds_17 : decode cX12_odds 17 = .ok (.ifCond .eq 11, 3) := by decide +kernel
theorem dX12_odds_20 : decode cX12_odds 20 = .ok (.iload 6, 2) := by decide +kernel
theorem dX12_odds_22 : decode cX12_odds 22 = .ok (.invokestatic 314, 3) := by decide +kernel
theorem dX12_odds_25 : decode cX12_odds 25 = .ok (.ifCond .ne 5, 3) := by decide +kernel
theorem dX12_odds_28 : decode cX12_odds 28 = .ok (.iconst (-1), 1) := by decide +kernel
theorem dX12_odds_29 : decode cX12_odds 29 = .ok (.ireturn, 1) := by decide +kernel
theorem dX12_odds_30 : decode cX12_odds 30 = .ok (.aload_n 0, 1) := by decide +kernel
theorem dX12_odds_31 : decode cX12_odds 31 = .ok (.iload_n 1, 1) := by decide +kernel
theorem dX12_odds_32 : decode cX12_odds 32 = .ok (.iload_n 2, 1) := by decide +kernel
theorem dX12_odds_33 : decode cX12_odds 33 = .ok (.iload_n 3, 1) := by decide +kernel
theorem dX12_odds_34 : decode cX12_odds 34 = .ok (.iload 4, 2) := by decide +kernel
theorem dX12_odds_36 : decode cX12_odds 36 = .ok (.iload 5, 2) := by decide +kernel
theorem dX12_odds_38 : decode cX12_odds 38 = .ok (.invokevirtual 317, 3) := by decide +kernel
theorem dX12_odds_41 : decode cX12_odds 41 = .ok (.aload_n 0, 1) := by decide +kernel
theorem dX12_odds_42 : decode cX12_odds 42 = .ok (.invokevirtual 214, 3) := by decide +kernel
theorem dX12_odds_45 : decode cX12_odds 45 = .ok (.iload 6, 2) := by decide +kernel
theorem dX12_odds_47 : decode cX12_odds 47 = .ok (.invokestatic 321, 3) := by decide +kernel
theorem dX12_odds_50 : decode cX12_odds 50 = .ok (.ireturn, 1) := by decide +kernel
theorem dX12_aim_0 : decode cX12_aim 0 = .ok (.aload_n 0, 1) := by decide +kernel
theorem dX12_aim_1 : decode cX12_aim 1 = .ok (.iload_n 1, 1) := by decide +kernel
theorem dX12_aim_2 : decode cX12_aim 2 = .ok (.iload_n 2, 1) := by decide +kernel
theorem dX12_aim_3 : decode cX12_aim 3 = .ok (.iconst 0, 1) := by decide +kernel
theorem dX12_aim_4 : decode cX12_aim 4 = .ok (.iload_n 3, 1) := by decide +kernel
theorem dX12_aim_5 : decode cX12_aim 5 = .ok (.invokevirtual 288, 3) := by decide +kernel
theorem dX12_aim_8 : decode cX12_aim 8 = .ok (.ifCond .eq 11, 3) := by decide +kernel
theorem dX12_aim_11 : decode cX12_aim 11 = .ok (.iload 4, 2) := by decide +kernel
theorem dX12_aim_13 : decode cX12_aim 13 = .ok (.invokestatic 311, 3) := by decide +kernel
theorem dX12_aim_16 : decode cX12_aim 16 = .ok (.ifCond .ne 5, 3) := by decide +kernel
theorem dX12_aim_19 : decode cX12_aim 19 = .ok (.iconst (-1), 1) := by decide +kernel
theorem dX12_aim_20 : decode cX12_aim 20 = .ok (.ireturn, 1) := by decide +kernel
theorem dX12_aim_21 : decode cX12_aim 21 = .ok (.bipush (-3), 2) := by decide +kernel
theorem dX12_aim_23 : decode cX12_aim 23 = .ok (.istore 5, 2) := by decide +kernel
theorem dX12_aim_25 : decode cX12_aim 25 = .ok (.iconst 0, 1) := by decide +kernel
theorem dX12_aim_26 : decode cX12_aim 26 = .ok (.istore 6, 2) := by decide +kernel
theorem dX12_aim_28 : decode cX12_aim 28 = .ok (.iconst 0, 1) := by decide +kernel
theorem dX12_aim_29 : decode cX12_aim 29 = .ok (.istore 7, 2) := by decide +kernel
theorem dX12_aim_31 : decode cX12_aim 31 = .ok (.iload 7, 2) := by decide +kernel
theorem dX12_aim_33 : decode cX12_aim 33 = .ok (.bipush 36, 2) := by decide +kernel
theorem dX12_aim_35 : decode cX12_aim 35 = .ok (.if_icmp .ge 54, 3) := by decide +kernel
theorem dX12_aim_38 : decode cX12_aim 38 = .ok (.aload_n 0, 1) := by decide +kernel
theorem dX12_aim_39 : decode cX12_aim 39 = .ok (.iload_n 1, 1) := by decide +kernel
theorem dX12_aim_40 : decode cX12_aim 40 = .ok (.iload_n 2, 1) := by decide +kernel
theorem dX12_aim_41 : decode cX12_aim 41 = .ok (.iload 7, 2) := by decide +kernel
theorem dX12_aim_43 : decode cX12_aim 43 = .ok (.iload_n 3, 1) := by decide +kernel
theorem dX12_aim_44 : decode cX12_aim 44 = .ok (.iload 4, 2) := by decide +kernel
theorem dX12_aim_46 : decode cX12_aim 46 = .ok (.invokevirtual 317, 3) := by decide +kernel
theorem dX12_aim_49 : decode cX12_aim 49 = .ok (.istore 8, 2) := by decide +kernel
theorem dX12_aim_51 : decode cX12_aim 51 = .ok (.iload 8, 2) := by decide +kernel
theorem dX12_aim_53 : decode cX12_aim 53 = .ok (.iload 6, 2) := by decide +kernel
theorem dX12_aim_55 : decode cX12_aim 55 = .ok (.if_icmp .le 8, 3) := by decide +kernel
theorem dX12_aim_58 : decode cX12_aim 58 = .ok (.iload 7, 2) := by decide +kernel
theorem dX12_aim_60 : decode cX12_aim 60 = .ok (.goto 5, 3) := by decide +kernel
theorem dX12_aim_63 : decode cX12_aim 63 = .ok (.iload 5, 2) := by decide +kernel
theorem dX12_aim_65 : decode cX12_aim 65 = .ok (.istore 5, 2) := by decide +kernel
theorem dX12_aim_67 : decode cX12_aim 67 = .ok (.iload 8, 2) := by decide +kernel
theorem dX12_aim_69 : decode cX12_aim 69 = .ok (.iload 6, 2) := by decide +kernel
theorem dX12_aim_71 : decode cX12_aim 71 = .ok (.if_icmp .le 8, 3) := by decide +kernel
theorem dX12_aim_74 : decode cX12_aim 74 = .ok (.iload 8, 2) := by decide +kernel
theorem dX12_aim_76 : decode cX12_aim 76 = .ok (.goto 5, 3) := by decide +kernel
theorem dX12_aim_79 : decode cX12_aim 79 = .ok (.iload 6, 2) := by decide +kernel
theorem dX12_aim_81 : decode cX12_aim 81 = .ok (.istore 6, 2) := by decide +kernel
theorem dX12_aim_83 : decode cX12_aim 83 = .ok (.iinc 7 1, 3) := by decide +kernel
theorem dX12_aim_86 : decode cX12_aim 86 = .ok (.goto (-55), 3) := by decide +kernel
theorem dX12_aim_89 : decode cX12_aim 89 = .ok (.iload 5, 2) := by decide +kernel
theorem dX12_aim_91 : decode cX12_aim 91 = .ok (.ireturn, 1) := by decide +kernel
theorem dX12_longest_0 : decode cX12_longest 0 = .ok (.iload_n 1, 1) := by decide +kernel
theorem dX12_longest_1 : decode cX12_longest 1 = .ok (.iload_n 2, 1) := by decide +kernel
theorem dX12_longest_2 : decode cX12_longest 2 = .ok (.iload_n 3, 1) := by decide +kernel
theorem dX12_longest_3 : decode cX12_longest 3 = .ok (.invokestatic 285, 3) := by decide +kernel
theorem dX12_longest_6 : decode cX12_longest 6 = .ok (.ifCond .ne 5, 3) := by decide +kernel
theorem dX12_longest_9 : decode cX12_longest 9 = .ok (.iconst (-1), 1) := by decide +kernel
theorem dX12_longest_10 : decode cX12_longest 10 = .ok (.ireturn, 1) := by decide +kernel
theorem dX12_longest_11 : decode cX12_longest 11 = .ok (.bipush (-3), 2) := by decide +kernel
theorem dX12_longest_13 : decode cX12_longest 13 = .ok (.istore 4, 2) := by decide +kernel
theorem dX12_longest_15 : decode cX12_longest 15 = .ok (.iconst 0, 1) := by decide +kernel
theorem dX12_longest_16 : decode cX12_longest 16 = .ok (.istore 5, 2) := by decide +kernel
theorem dX12_longest_18 : decode cX12_longest 18 = .ok (.iconst 0, 1) := by decide +kernel
theorem dX12_longest_19 : decode cX12_longest 19 = .ok (.istore 6, 2) := by decide +kernel
theorem dX12_longest_21 : decode cX12_longest 21 = .ok (.iload 6, 2) := by decide +kernel
theorem dX12_longest_23 : decode cX12_longest 23 = .ok (.aload_n 0, 1) := by decide +kernel
theorem dX12_longest_24 : decode cX12_longest 24 = .ok (.getfield 81, 3) := by decide +kernel
theorem dX12_longest_27 : decode cX12_longest 27 = .ok (.if_icmp .ge 52, 3) := by decide +kernel
theorem dX12_longest_30 : decode cX12_longest 30 = .ok (.aload_n 0, 1) := by decide +kernel
theorem dX12_longest_31 : decode cX12_longest 31 = .ok (.iload 6, 2) := by decide +kernel
theorem dX12_longest_33 : decode cX12_longest 33 = .ok (.iload_n 1, 1) := by decide +kernel
theorem dX12_longest_34 : decode cX12_longest 34 = .ok (.iload_n 2, 1) := by decide +kernel
theorem dX12_longest_35 : decode cX12_longest 35 = .ok (.iload_n 3, 1) := by decide +kernel
theorem dX12_longest_36 : decode cX12_longest 36 = .ok (.invokevirtual 298, 3) := by decide +kernel
theorem dX12_longest_39 : decode cX12_longest 39 = .ok (.istore 7, 2) := by decide +kernel
theorem dX12_longest_41 : decode cX12_longest 41 = .ok (.iload 7, 2) := by decide +kernel
theorem dX12_longest_43 : decode cX12_longest 43 = .ok (.ifCond .eq 10, 3) := by decide +kernel
theorem dX12_longest_46 : decode cX12_longest 46 = .ok (.aload_n 0, 1) := by decide +kernel
theorem dX12_longest_47 : decode cX12_longest 47 = .ok (.getfield 232, 3) := by decide +kernel
theorem dX12_longest_50 : decode cX12_longest 50 = .ok (.goto 6, 3) := by decide +kernel
theorem dX12_longest_53 : decode cX12_longest 53 = .ok (.sipush 400, 3) := by decide +kernel
theorem dX12_longest_56 : decode cX12_longest 56 = .ok (.istore 8, 2) := by decide +kernel
theorem dX12_longest_58 : decode cX12_longest 58 = .ok (.iload 8, 2) := by decide +kernel
theorem dX12_longest_60 : decode cX12_longest 60 = .ok (.iload 5, 2) := by decide +kernel
theorem dX12_longest_62 : decode cX12_longest 62 = .ok (.if_icmp .le 11, 3) := by decide +kernel
theorem dX12_longest_65 : decode cX12_longest 65 = .ok (.iload 8, 2) := by decide +kernel
theorem dX12_longest_67 : decode cX12_longest 67 = .ok (.istore 5, 2) := by decide +kernel
theorem dX12_longest_69 : decode cX12_longest 69 = .ok (.iload 6, 2) := by decide +kernel
theorem dX12_longest_71 : decode cX12_longest 71 = .ok (.istore 4, 2) := by decide +kernel
theorem dX12_longest_73 : decode cX12_longest 73 = .ok (.iinc 6 1, 3) := by decide +kernel
theorem dX12_longest_76 : decode cX12_longest 76 = .ok (.goto (-55), 3) := by decide +kernel
theorem dX12_longest_79 : decode cX12_longest 79 = .ok (.iload 4, 2) := by decide +kernel
theorem dX12_longest_81 : decode cX12_longest 81 = .ok (.ireturn, 1) := by decide +kernel
theorem dX12_missOf_0 : decode cX12_missOf 0 = .ok (.aload_n 0, 1) := by decide +kernel
theorem dX12_missOf_1 : decode cX12_missOf 1 = .ok (.aload_n 0, 1) := by decide +kernel
theorem dX12_missOf_2 : decode cX12_missOf 2 = .ok (.getfield 41, 3) := by decide +kernel
theorem dX12_missOf_5 : decode cX12_missOf 5 = .ok (.iload_n 1, 1) := by decide +kernel
theorem dX12_missOf_6 : decode cX12_missOf 6 = .ok (.iload_n 2, 1) := by decide +kernel
theorem dX12_missOf_7 : decode cX12_missOf 7 = .ok (.iload_n 3, 1) := by decide +kernel
theorem dX12_missOf_8 : decode cX12_missOf 8 = .ok (.iload 4, 2) := by decide +kernel
theorem dX12_missOf_10 : decode cX12_missOf 10 = .ok (.invokevirtual 307, 3) := by decide +kernel
theorem dX12_missOf_13 : decode cX12_missOf 13 = .ok (.istore 6, 2) := by decide +kernel
theorem dX12_missOf_15 : decode cX12_missOf 15 = .ok (.lconst 0, 1) := by decide +kernel
theorem dX12_missOf_16 : decode cX12_missOf 16 = .ok (.lstore 7, 2) := by decide +kernel
theorem dX12_missOf_18 : decode cX12_missOf 18 = .ok (.iconst 0, 1) := by decide +kernel
theorem dX12_missOf_19 : decode cX12_missOf 19 = .ok (.istore 9, 2) := by decide +kernel
theorem dX12_missOf_21 : decode cX12_missOf 21 = .ok (.iload 9, 2) := by decide +kernel
theorem dX12_missOf_23 : decode cX12_missOf 23 = .ok (.iload 6, 2) := by decide +kernel
theorem dX12_missOf_25 : decode cX12_missOf 25 = .ok (.if_icmp .ge 65, 3) := by decide +kernel
theorem dX12_missOf_28 : decode cX12_missOf 28 = .ok (.iload 9, 2) := by decide +kernel
theorem dX12_missOf_30 : decode cX12_missOf 30 = .ok (.aload_n 0, 1) := by decide +kernel
theorem dX12_missOf_31 : decode cX12_missOf 31 = .ok (.getfield 56, 3) := by decide +kernel
theorem dX12_missOf_34 : decode cX12_missOf 34 = .ok (.iload 5, 2) := by decide +kernel
theorem dX12_missOf_36 : decode cX12_missOf 36 = .ok (.iaload, 1) := by decide +kernel
theorem dX12_missOf_37 : decode cX12_missOf 37 = .ok (.if_icmp .ge 53, 3) := by decide +kernel
theorem dX12_missOf_40 : decode cX12_missOf 40 = .ok (.aload_n 0, 1) := by decide +kernel
theorem dX12_missOf_41 : decode cX12_missOf 41 = .ok (.getfield 41, 3) := by decide +kernel
theorem dX12_missOf_44 : decode cX12_missOf 44 = .ok (.iload 9, 2) := by decide +kernel
theorem dX12_missOf_46 : decode cX12_missOf 46 = .ok (.iaload, 1) := by decide +kernel
theorem dX12_missOf_47 : decode cX12_missOf 47 = .ok (.i2l, 1) := by decide +kernel
theorem dX12_missOf_48 : decode cX12_missOf 48 = .ok (.aload_n 0, 1) := by decide +kernel
theorem dX12_missOf_49 : decode cX12_missOf 49 = .ok (.getfield 59, 3) := by decide +kernel
theorem dX12_missOf_52 : decode cX12_missOf 52 = .ok (.bipush 40, 2) := by decide +kernel
theorem dX12_missOf_54 : decode cX12_missOf 54 = .ok (.iload 5, 2) := by decide +kernel
theorem dX12_missOf_56 : decode cX12_missOf 56 = .ok (.imul, 1) := by decide +kernel
theorem dX12_missOf_57 : decode cX12_missOf 57 = .ok (.iload 9, 2) := by decide +kernel
theorem dX12_missOf_59 : decode cX12_missOf 59 = .ok (.iadd, 1) := by decide +kernel
theorem dX12_missOf_60 : decode cX12_missOf 60 = .ok (.laload, 1) := by decide +kernel
theorem dX12_missOf_61 : decode cX12_missOf 61 = .ok (.lsub, 1) := by decide +kernel
theorem dX12_missOf_62 : decode cX12_missOf 62 = .ok (.lstore 10, 2) := by decide +kernel
theorem dX12_missOf_64 : decode cX12_missOf 64 = .ok (.lload 7, 2) := by decide +kernel
theorem dX12_missOf_66 : decode cX12_missOf 66 = .ok (.lload 10, 2) := by decide +kernel
theorem dX12_missOf_68 : decode cX12_missOf 68 = .ok (.lconst 0, 1) := by decide +kernel
theorem dX12_missOf_69 : decode cX12_missOf 69 = .ok (.lcmp, 1) := by decide +kernel
theorem dX12_missOf_70 : decode cX12_missOf 70 = .ok (.ifCond .ge 9, 3) := by decide +kernel
theorem dX12_missOf_73 : decode cX12_missOf 73 = .ok (.lload 10, 2) := by decide +kernel
theorem dX12_missOf_75 : decode cX12_missOf 75 = .ok (.lneg, 1) := by decide +kernel
theorem dX12_missOf_76 : decode cX12_missOf 76 = .ok (.goto 5, 3) := by decide +kernel
theorem dX12_missOf_79 : decode cX12_missOf 79 = .ok (.lload 10, 2) := by decide +kernel
theorem dX12_missOf_81 : decode cX12_missOf 81 = .ok (.ladd, 1) := by decide +kernel
theorem dX12_missOf_82 : decode cX12_missOf 82 = .ok (.lstore 7, 2) := by decide +kernel
theorem dX12_missOf_84 : decode cX12_missOf 84 = .ok (.iinc 9 1, 3) := by decide +kernel
theorem dX12_missOf_87 : decode cX12_missOf 87 = .ok (.goto (-66), 3) := by decide +kernel
theorem dX12_missOf_90 : decode cX12_missOf 90 = .ok (.lload 7, 2) := by decide +kernel
theorem dX12_missOf_92 : decode cX12_missOf 92 = .ok (.ldc2_w 325, 3) := by decide +kernel
theorem dX12_missOf_95 : decode cX12_missOf 95 = .ok (.lcmp, 1) := by decide +kernel
theorem dX12_missOf_96 : decode cX12_missOf 96 = .ok (.ifCond .le 9, 3) := by decide +kernel
theorem dX12_missOf_99 : decode cX12_missOf 99 = .ok (.ldc_w 327, 3) := by decide +kernel
theorem dX12_missOf_102 : decode cX12_missOf 102 = .ok (.goto 6, 3) := by decide +kernel
theorem dX12_missOf_105 : decode cX12_missOf 105 = .ok (.lload 7, 2) := by decide +kernel
theorem dX12_missOf_107 : decode cX12_missOf 107 = .ok (.l2i, 1) := by decide +kernel
theorem dX12_missOf_108 : decode cX12_missOf 108 = .ok (.ireturn, 1) := by decide +kernel
theorem dX12_miss_0 : decode cX12_miss 0 = .ok (.aload_n 0, 1) := by decide +kernel
theorem dX12_miss_1 : decode cX12_miss 1 = .ok (.iload_n 1, 1) := by decide +kernel
theorem dX12_miss_2 : decode cX12_miss 2 = .ok (.iload_n 2, 1) := by decide +kernel
theorem dX12_miss_3 : decode cX12_miss 3 = .ok (.iload_n 3, 1) := by decide +kernel
theorem dX12_miss_4 : decode cX12_miss 4 = .ok (.iload 4, 2) := by decide +kernel
theorem dX12_miss_6 : decode cX12_miss 6 = .ok (.invokevirtual 288, 3) := by decide +kernel
theorem dX12_miss_9 : decode cX12_miss 9 = .ok (.ifCond .eq 11, 3) := by decide +kernel
theorem dX12_miss_12 : decode cX12_miss 12 = .ok (.iload 5, 2) := by decide +kernel
theorem dX12_miss_14 : decode cX12_miss 14 = .ok (.invokestatic 328, 3) := by decide +kernel
theorem dX12_miss_17 : decode cX12_miss 17 = .ok (.ifCond .ne 5, 3) := by decide +kernel
theorem dX12_miss_20 : decode cX12_miss 20 = .ok (.iconst (-1), 1) := by decide +kernel
theorem dX12_miss_21 : decode cX12_miss 21 = .ok (.ireturn, 1) := by decide +kernel
theorem dX12_miss_22 : decode cX12_miss 22 = .ok (.aload_n 0, 1) := by decide +kernel
theorem dX12_miss_23 : decode cX12_miss 23 = .ok (.iload 5, 2) := by decide +kernel
theorem dX12_miss_25 : decode cX12_miss 25 = .ok (.iconst 2, 1) := by decide +kernel
theorem dX12_miss_26 : decode cX12_miss 26 = .ok (.invokevirtual 331, 3) := by decide +kernel
theorem dX12_miss_29 : decode cX12_miss 29 = .ok (.istore 6, 2) := by decide +kernel
theorem dX12_miss_31 : decode cX12_miss 31 = .ok (.iload 6, 2) := by decide +kernel
theorem dX12_miss_33 : decode cX12_miss 33 = .ok (.ifCond .eq 8, 3) := by decide +kernel
theorem dX12_miss_36 : decode cX12_miss 36 = .ok (.iload 6, 2) := by decide +kernel
theorem dX12_miss_38 : decode cX12_miss 38 = .ok (.goto 14, 3) := by decide +kernel
theorem dX12_miss_41 : decode cX12_miss 41 = .ok (.aload_n 0, 1) := by decide +kernel
theorem dX12_miss_42 : decode cX12_miss 42 = .ok (.iload_n 1, 1) := by decide +kernel
theorem dX12_miss_43 : decode cX12_miss 43 = .ok (.iload_n 2, 1) := by decide +kernel
theorem dX12_miss_44 : decode cX12_miss 44 = .ok (.iload_n 3, 1) := by decide +kernel
theorem dX12_miss_45 : decode cX12_miss 45 = .ok (.iload 4, 2) := by decide +kernel
theorem dX12_miss_47 : decode cX12_miss 47 = .ok (.iload 5, 2) := by decide +kernel
theorem dX12_miss_49 : decode cX12_miss 49 = .ok (.invokevirtual 334, 3) := by decide +kernel
theorem dX12_miss_52 : decode cX12_miss 52 = .ok (.ireturn, 1) := by decide +kernel
theorem dX12_fit_0 : decode cX12_fit 0 = .ok (.aload_n 0, 1) := by decide +kernel
theorem dX12_fit_1 : decode cX12_fit 1 = .ok (.iload_n 1, 1) := by decide +kernel
theorem dX12_fit_2 : decode cX12_fit 2 = .ok (.iload_n 2, 1) := by decide +kernel
theorem dX12_fit_3 : decode cX12_fit 3 = .ok (.iload_n 3, 1) := by decide +kernel
theorem dX12_fit_4 : decode cX12_fit 4 = .ok (.iload 4, 2) := by decide +kernel
theorem dX12_fit_6 : decode cX12_fit 6 = .ok (.invokevirtual 288, 3) := by decide +kernel
theorem dX12_fit_9 : decode cX12_fit 9 = .ok (.ifCond .eq 19, 3) := by decide +kernel
theorem dX12_fit_12 : decode cX12_fit 12 = .ok (.iload 5, 2) := by decide +kernel
theorem dX12_fit_14 : decode cX12_fit 14 = .ok (.invokestatic 328, 3) := by decide +kernel
theorem dX12_fit_17 : decode cX12_fit 17 = .ok (.ifCond .eq 11, 3) := by decide +kernel
theorem dX12_fit_20 : decode cX12_fit 20 = .ok (.iload 6, 2) := by decide +kernel
theorem dX12_fit_22 : decode cX12_fit 22 = .ok (.invokestatic 211, 3) := by decide +kernel
theorem dX12_fit_25 : decode cX12_fit 25 = .ok (.ifCond .ne 5, 3) := by decide +kernel
theorem dX12_fit_28 : decode cX12_fit 28 = .ok (.iconst (-1), 1) := by decide +kernel
theorem dX12_fit_29 : decode cX12_fit 29 = .ok (.ireturn, 1) := by decide +kernel
theorem dX12_fit_30 : decode cX12_fit 30 = .ok (.aload_n 0, 1) := by decide +kernel
theorem dX12_fit_31 : decode cX12_fit 31 = .ok (.iload 5, 2) := by decide +kernel
theorem dX12_fit_33 : decode cX12_fit 33 = .ok (.iconst 2, 1) := by decide +kernel
theorem dX12_fit_34 : decode cX12_fit 34 = .ok (.invokevirtual 331, 3) := by decide +kernel
theorem dX12_fit_37 : decode cX12_fit 37 = .ok (.istore 7, 2) := by decide +kernel
theorem dX12_fit_39 : decode cX12_fit 39 = .ok (.iload 7, 2) := by decide +kernel
theorem dX12_fit_41 : decode cX12_fit 41 = .ok (.ifCond .eq 6, 3) := by decide +kernel
theorem dX12_fit_44 : decode cX12_fit 44 = .ok (.iload 7, 2) := by decide +kernel
theorem dX12_fit_46 : decode cX12_fit 46 = .ok (.ireturn, 1) := by decide +kernel
theorem dX12_fit_47 : decode cX12_fit 47 = .ok (.aload_n 0, 1) := by decide +kernel
theorem dX12_fit_48 : decode cX12_fit 48 = .ok (.getfield 13, 3) := by decide +kernel
theorem dX12_fit_51 : decode cX12_fit 51 = .ok (.iload 6, 2) := by decide +kernel
theorem dX12_fit_53 : decode cX12_fit 53 = .ok (.iaload, 1) := by decide +kernel
theorem dX12_fit_54 : decode cX12_fit 54 = .ok (.istore 8, 2) := by decide +kernel
theorem dX12_fit_56 : decode cX12_fit 56 = .ok (.iconst 0, 1) := by decide +kernel
theorem dX12_fit_57 : decode cX12_fit 57 = .ok (.istore 9, 2) := by decide +kernel
theorem dX12_fit_59 : decode cX12_fit 59 = .ok (.iconst (-1), 1) := by decide +kernel
theorem dX12_fit_60 : decode cX12_fit 60 = .ok (.istore 10, 2) := by decide +kernel
theorem dX12_fit_62 : decode cX12_fit 62 = .ok (.iconst 0, 1) := by decide +kernel
theorem dX12_fit_63 : decode cX12_fit 63 = .ok (.istore 11, 2) := by decide +kernel
theorem dX12_fit_65 : decode cX12_fit 65 = .ok (.iload 11, 2) := by decide +kernel
theorem dX12_fit_67 : decode cX12_fit 67 = .ok (.bipush 64, 2) := by decide +kernel
theorem dX12_fit_69 : decode cX12_fit 69 = .ok (.if_icmp .ge 51, 3) := by decide +kernel
theorem dX12_fit_72 : decode cX12_fit 72 = .ok (.aload_n 0, 1) := by decide +kernel
theorem dX12_fit_73 : decode cX12_fit 73 = .ok (.getfield 13, 3) := by decide +kernel
theorem dX12_fit_76 : decode cX12_fit 76 = .ok (.iload 6, 2) := by decide +kernel
theorem dX12_fit_78 : decode cX12_fit 78 = .ok (.iload 11, 2) := by decide +kernel
theorem dX12_fit_80 : decode cX12_fit 80 = .ok (.iastore, 1) := by decide +kernel
theorem dX12_fit_81 : decode cX12_fit 81 = .ok (.aload_n 0, 1) := by decide +kernel
theorem dX12_fit_82 : decode cX12_fit 82 = .ok (.iload_n 1, 1) := by decide +kernel
theorem dX12_fit_83 : decode cX12_fit 83 = .ok (.iload_n 2, 1) := by decide +kernel
theorem dX12_fit_84 : decode cX12_fit 84 = .ok (.iload_n 3, 1) := by decide +kernel
theorem dX12_fit_85 : decode cX12_fit 85 = .ok (.iload 4, 2) := by decide +kernel
theorem dX12_fit_87 : decode cX12_fit 87 = .ok (.iload 5, 2) := by decide +kernel
theorem dX12_fit_89 : decode cX12_fit 89 = .ok (.invokevirtual 334, 3) := by decide +kernel
theorem dX12_fit_92 : decode cX12_fit 92 = .ok (.istore 12, 2) := by decide +kernel
theorem dX12_fit_94 : decode cX12_fit 94 = .ok (.iload 10, 2) := by decide +kernel
theorem dX12_fit_96 : decode cX12_fit 96 = .ok (.ifCond .lt 10, 3) := by decide +kernel
theorem dX12_fit_99 : decode cX12_fit 99 = .ok (.iload 12, 2) := by decide +kernel
theorem dX12_fit_101 : decode cX12_fit 101 = .ok (.iload 10, 2) := by decide +kernel
theorem dX12_fit_103 : decode cX12_fit 103 = .ok (.if_icmp .ge 11, 3) := by decide +kernel
theorem dX12_fit_106 : decode cX12_fit 106 = .ok (.iload 12, 2) := by decide +kernel
theorem dX12_fit_108 : decode cX12_fit 108 = .ok (.istore 10, 2) := by decide +kernel
theorem dX12_fit_110 : decode cX12_fit 110 = .ok (.iload 11, 2) := by decide +kernel
theorem dX12_fit_112 : decode cX12_fit 112 = .ok (.istore 9, 2) := by decide +kernel
theorem dX12_fit_114 : decode cX12_fit 114 = .ok (.iinc 11 1, 3) := by decide +kernel
theorem dX12_fit_117 : decode cX12_fit 117 = .ok (.goto (-52), 3) := by decide +kernel
theorem dX12_fit_120 : decode cX12_fit 120 = .ok (.aload_n 0, 1) := by decide +kernel
theorem dX12_fit_121 : decode cX12_fit 121 = .ok (.getfield 13, 3) := by decide +kernel
theorem dX12_fit_124 : decode cX12_fit 124 = .ok (.iload 6, 2) := by decide +kernel
theorem dX12_fit_126 : decode cX12_fit 126 = .ok (.iload 8, 2) := by decide +kernel
theorem dX12_fit_128 : decode cX12_fit 128 = .ok (.iastore, 1) := by decide +kernel
theorem dX12_fit_129 : decode cX12_fit 129 = .ok (.iload 9, 2) := by decide +kernel
theorem dX12_fit_131 : decode cX12_fit 131 = .ok (.ireturn, 1) := by decide +kernel
theorem dX12_toss_0 : decode cX12_toss 0 = .ok (.aload_n 0, 1) := by decide +kernel
theorem dX12_toss_1 : decode cX12_toss 1 = .ok (.iload_n 1, 1) := by decide +kernel
theorem dX12_toss_2 : decode cX12_toss 2 = .ok (.iload_n 2, 1) := by decide +kernel
theorem dX12_toss_3 : decode cX12_toss 3 = .ok (.iload_n 3, 1) := by decide +kernel
theorem dX12_toss_4 : decode cX12_toss 4 = .ok (.iload 4, 2) := by decide +kernel
theorem dX12_toss_6 : decode cX12_toss 6 = .ok (.invokevirtual 288, 3) := by decide +kernel
theorem dX12_toss_9 : decode cX12_toss 9 = .ok (.ifCond .ne 7, 3) := by decide +kernel
theorem dX12_toss_12 : decode cX12_toss 12 = .ok (.ldc_w 297, 3) := by decide +kernel
theorem dX12_toss_15 : decode cX12_toss 15 = .ok (.ireturn, 1) := by decide +kernel
theorem dX12_toss_16 : decode cX12_toss 16 = .ok (.aload_n 0, 1) := by decide +kernel
theorem dX12_toss_17 : decode cX12_toss 17 = .ok (.aload_n 0, 1) := by decide +kernel
theorem dX12_toss_18 : decode cX12_toss 18 = .ok (.getfield 22, 3) := by decide +kernel
theorem dX12_toss_21 : decode cX12_toss 21 = .ok (.ldc_w 337, 3) := by decide +kernel
theorem dX12_toss_24 : decode cX12_toss 24 = .ok (.imul, 1) := by decide +kernel
theorem dX12_toss_25 : decode cX12_toss 25 = .ok (.sipush 12345, 3) := by decide +kernel
theorem dX12_toss_28 : decode cX12_toss 28 = .ok (.iadd, 1) := by decide +kernel
theorem dX12_toss_29 : decode cX12_toss 29 = .ok (.putfield 22, 3) := by decide +kernel
theorem dX12_toss_32 : decode cX12_toss 32 = .ok (.aload_n 0, 1) := by decide +kernel
theorem dX12_toss_33 : decode cX12_toss 33 = .ok (.getfield 22, 3) := by decide +kernel
theorem dX12_toss_36 : decode cX12_toss 36 = .ok (.bipush 16, 2) := by decide +kernel
theorem dX12_toss_38 : decode cX12_toss 38 = .ok (.iushr, 1) := by decide +kernel
theorem dX12_toss_39 : decode cX12_toss 39 = .ok (.aload_n 0, 1) := by decide +kernel
theorem dX12_toss_40 : decode cX12_toss 40 = .ok (.invokevirtual 214, 3) := by decide +kernel
theorem dX12_toss_43 : decode cX12_toss 43 = .ok (.irem, 1) := by decide +kernel
theorem dX12_toss_44 : decode cX12_toss 44 = .ok (.istore 5, 2) := by decide +kernel
theorem dX12_toss_46 : decode cX12_toss 46 = .ok (.iconst 0, 1) := by decide +kernel
theorem dX12_toss_47 : decode cX12_toss 47 = .ok (.istore 6, 2) := by decide +kernel
theorem dX12_toss_49 : decode cX12_toss 49 = .ok (.iload 5, 2) := by decide +kernel
theorem dX12_toss_51 : decode cX12_toss 51 = .ok (.aload_n 0, 1) := by decide +kernel
theorem dX12_toss_52 : decode cX12_toss 52 = .ok (.getfield 16, 3) := by decide +kernel
theorem dX12_toss_55 : decode cX12_toss 55 = .ok (.iload 6, 2) := by decide +kernel
theorem dX12_toss_57 : decode cX12_toss 57 = .ok (.iaload, 1) := by decide +kernel
theorem dX12_toss_58 : decode cX12_toss 58 = .ok (.if_icmp .lt 21, 3) := by decide +kernel
theorem dX12_toss_61 : decode cX12_toss 61 = .ok (.iload 5, 2) := by decide +kernel
theorem dX12_toss_63 : decode cX12_toss 63 = .ok (.aload_n 0, 1) := by decide +kernel
theorem dX12_toss_64 : decode cX12_toss 64 = .ok (.getfield 16, 3) := by decide +kernel
theorem dX12_toss_67 : decode cX12_toss 67 = .ok (.iload 6, 2) := by decide +kernel
theorem dX12_toss_69 : decode cX12_toss 69 = .ok (.iaload, 1) := by decide +kernel
theorem dX12_toss_70 : decode cX12_toss 70 = .ok (.isub, 1) := by decide +kernel
theorem dX12_toss_71 : decode cX12_toss 71 = .ok (.istore 5, 2) := by decide +kernel
theorem dX12_toss_73 : decode cX12_toss 73 = .ok (.iinc 6 1, 3) := by decide +kernel
theorem dX12_toss_76 : decode cX12_toss 76 = .ok (.goto (-27), 3) := by decide +kernel
theorem dX12_toss_79 : decode cX12_toss 79 = .ok (.aload_n 0, 1) := by decide +kernel
theorem dX12_toss_80 : decode cX12_toss 80 = .ok (.iload_n 1, 1) := by decide +kernel
theorem dX12_toss_81 : decode cX12_toss 81 = .ok (.iload_n 2, 1) := by decide +kernel
theorem dX12_toss_82 : decode cX12_toss 82 = .ok (.iload_n 3, 1) := by decide +kernel
theorem dX12_toss_83 : decode cX12_toss 83 = .ok (.iload 6, 2) := by decide +kernel
theorem dX12_toss_85 : decode cX12_toss 85 = .ok (.iadd, 1) := by decide +kernel
theorem dX12_toss_86 : decode cX12_toss 86 = .ok (.bipush 34, 2) := by decide +kernel
theorem dX12_toss_88 : decode cX12_toss 88 = .ok (.iadd, 1) := by decide +kernel
theorem dX12_toss_89 : decode cX12_toss 89 = .ok (.bipush 36, 2) := by decide +kernel
theorem dX12_toss_91 : decode cX12_toss 91 = .ok (.irem, 1) := by decide +kernel
theorem dX12_toss_92 : decode cX12_toss 92 = .ok (.iload 4, 2) := by decide +kernel
theorem dX12_toss_94 : decode cX12_toss 94 = .ok (.invokevirtual 298, 3) := by decide +kernel
theorem dX12_toss_97 : decode cX12_toss 97 = .ok (.ifCond .eq 10, 3) := by decide +kernel
theorem dX12_toss_100 : decode cX12_toss 100 = .ok (.aload_n 0, 1) := by decide +kernel
theorem dX12_toss_101 : decode cX12_toss 101 = .ok (.invokevirtual 304, 3) := by decide +kernel
theorem dX12_toss_104 : decode cX12_toss 104 = .ok (.goto 6, 3) := by decide +kernel
theorem dX12_toss_107 : decode cX12_toss 107 = .ok (.ldc_w 297, 3) := by decide +kernel
theorem dX12_toss_110 : decode cX12_toss 110 = .ok (.ireturn, 1) := by decide +kernel
theorem dX12_seed_0 : decode cX12_seed 0 = .ok (.aload_n 0, 1) := by decide +kernel
theorem dX12_seed_1 : decode cX12_seed 1 = .ok (.getfield 22, 3) := by decide +kernel
theorem dX12_seed_4 : decode cX12_seed 4 = .ok (.istore_n 2, 1) := by decide +kernel
theorem dX12_seed_5 : decode cX12_seed 5 = .ok (.aload_n 0, 1) := by decide +kernel
theorem dX12_seed_6 : decode cX12_seed 6 = .ok (.iload_n 1, 1) := by decide +kernel
theorem dX12_seed_7 : decode cX12_seed 7 = .ok (.putfield 22, 3) := by decide +kernel
theorem dX12_seed_10 : decode cX12_seed 10 = .ok (.iload_n 2, 1) := by decide +kernel
theorem dX12_seed_11 : decode cX12_seed 11 = .ok (.ireturn, 1) := by decide +kernel
theorem dX12_findRows_0 : decode cX12_findRows 0 = .ok (.aload_n 0, 1) := by decide +kernel
theorem dX12_findRows_1 : decode cX12_findRows 1 = .ok (.invokevirtual 294, 3) := by decide +kernel
theorem dX12_findRows_4 : decode cX12_findRows 4 = .ok (.aload_n 0, 1) := by decide +kernel
theorem dX12_findRows_5 : decode cX12_findRows 5 = .ok (.iconst 0, 1) := by decide +kernel
theorem dX12_findRows_6 : decode cX12_findRows 6 = .ok (.putfield 338, 3) := by decide +kernel
theorem dX12_findRows_9 : decode cX12_findRows 9 = .ok (.aload_n 0, 1) := by decide +kernel
theorem dX12_findRows_10 : decode cX12_findRows 10 = .ok (.getfield 338, 3) := by decide +kernel
theorem dX12_findRows_13 : decode cX12_findRows 13 = .ok (.iload_n 1, 1) := by decide +kernel
theorem dX12_findRows_14 : decode cX12_findRows 14 = .ok (.if_icmp .ge 76, 3) := by decide +kernel
theorem dX12_findRows_17 : decode cX12_findRows 17 = .ok (.aload_n 0, 1) := by decide +kernel
theorem dX12_findRows_18 : decode cX12_findRows 18 = .ok (.invokevirtual 278, 3) := by decide +kernel
theorem dX12_findRows_21 : decode cX12_findRows 21 = .ok (.ifCond .ne 69, 3) := by decide +kernel
theorem dX12_findRows_24 : decode cX12_findRows 24 = .ok (.aload_n 0, 1) := by decide +kernel
theorem dX12_findRows_25 : decode cX12_findRows 25 = .ok (.invokevirtual 282, 3) := by decide +kernel
theorem dX12_findRows_28 : decode cX12_findRows 28 = .ok (.aload_n 0, 1) := by decide +kernel
theorem dX12_findRows_29 : decode cX12_findRows 29 = .ok (.getfield 50, 3) := by decide +kernel
theorem dX12_findRows_32 : decode cX12_findRows 32 = .ok (.iconst 3, 1) := by decide +kernel
theorem dX12_findRows_33 : decode cX12_findRows 33 = .ok (.aload_n 0, 1) := by decide +kernel
theorem dX12_findRows_34 : decode cX12_findRows 34 = .ok (.getfield 338, 3) := by decide +kernel
theorem dX12_findRows_37 : decode cX12_findRows 37 = .ok (.imul, 1) := by decide +kernel
theorem dX12_findRows_38 : decode cX12_findRows 38 = .ok (.aload_n 0, 1) := by decide +kernel
theorem dX12_findRows_39 : decode cX12_findRows 39 = .ok (.getfield 235, 3) := by decide +kernel
theorem dX12_findRows_42 : decode cX12_findRows 42 = .ok (.iastore, 1) := by decide +kernel
theorem dX12_findRows_43 : decode cX12_findRows 43 = .ok (.aload_n 0, 1) := by decide +kernel
theorem dX12_findRows_44 : decode cX12_findRows 44 = .ok (.getfield 50, 3) := by decide +kernel
theorem dX12_findRows_47 : decode cX12_findRows 47 = .ok (.iconst 3, 1) := by decide +kernel
theorem dX12_findRows_48 : decode cX12_findRows 48 = .ok (.aload_n 0, 1) := by decide +kernel
theorem dX12_findRows_49 : decode cX12_findRows 49 = .ok (.getfield 338, 3) := by decide +kernel
theorem dX12_findRows_52 : decode cX12_findRows 52 = .ok (.imul, 1) := by decide +kernel
theorem dX12_findRows_53 : decode cX12_findRows 53 = .ok (.iconst 1, 1) := by decide +kernel
theorem dX12_findRows_54 : decode cX12_findRows 54 = .ok (.iadd, 1) := by decide +kernel
theorem dX12_findRows_55 : decode cX12_findRows 55 = .ok (.aload_n 0, 1) := by decide +kernel
theorem dX12_findRows_56 : decode cX12_findRows 56 = .ok (.getfield 238, 3) := by decide +kernel
theorem dX12_findRows_59 : decode cX12_findRows 59 = .ok (.iastore, 1) := by decide +kernel
theorem dX12_findRows_60 : decode cX12_findRows 60 = .ok (.aload_n 0, 1) := by decide +kernel
theorem dX12_findRows_61 : decode cX12_findRows 61 = .ok (.getfield 50, 3) := by decide +kernel
theorem dX12_findRows_64 : decode cX12_findRows 64 = .ok (.iconst 3, 1) := by decide +kernel
theorem dX12_findRows_65 : decode cX12_findRows 65 = .ok (.aload_n 0, 1) := by decide +kernel
theorem dX12_findRows_66 : decode cX12_findRows 66 = .ok (.getfield 338, 3) := by decide +kernel
theorem dX12_findRows_69 : decode cX12_findRows 69 = .ok (.imul, 1) := by decide +kernel
theorem dX12_findRows_70 : decode cX12_findRows 70 = .ok (.iconst 2, 1) := by decide +kernel
theorem dX12_findRows_71 : decode cX12_findRows 71 = .ok (.iadd, 1) := by decide +kernel
theorem dX12_findRows_72 : decode cX12_findRows 72 = .ok (.aload_n 0, 1) := by decide +kernel
theorem dX12_findRows_73 : decode cX12_findRows 73 = .ok (.getfield 241, 3) := by decide +kernel
theorem dX12_findRows_76 : decode cX12_findRows 76 = .ok (.iastore, 1) := by decide +kernel
theorem dX12_findRows_77 : decode cX12_findRows 77 = .ok (.aload_n 0, 1) := by decide +kernel
theorem dX12_findRows_78 : decode cX12_findRows 78 = .ok (.dup, 1) := by decide +kernel
theorem dX12_findRows_79 : decode cX12_findRows 79 = .ok (.getfield 338, 3) := by decide +kernel
theorem dX12_findRows_82 : decode cX12_findRows 82 = .ok (.iconst 1, 1) := by decide +kernel
theorem dX12_findRows_83 : decode cX12_findRows 83 = .ok (.iadd, 1) := by decide +kernel
theorem dX12_findRows_84 : decode cX12_findRows 84 = .ok (.putfield 338, 3) := by decide +kernel
theorem dX12_findRows_87 : decode cX12_findRows 87 = .ok (.goto (-78), 3) := by decide +kernel
theorem dX12_findRows_90 : decode cX12_findRows 90 = .ok (.return_, 1) := by decide +kernel
theorem dX12_prove_0 : decode cX12_prove 0 = .ok (.iload_n 1, 1) := by decide +kernel
theorem dX12_prove_1 : decode cX12_prove 1 = .ok (.iconst 1, 1) := by decide +kernel
theorem dX12_prove_2 : decode cX12_prove 2 = .ok (.bipush 20, 2) := by decide +kernel
theorem dX12_prove_4 : decode cX12_prove 4 = .ok (.invokestatic 84, 3) := by decide +kernel
theorem dX12_prove_7 : decode cX12_prove 7 = .ok (.ifCond .ne 5, 3) := by decide +kernel
theorem dX12_prove_10 : decode cX12_prove 10 = .ok (.iconst (-1), 1) := by decide +kernel
theorem dX12_prove_11 : decode cX12_prove 11 = .ok (.ireturn, 1) := by decide +kernel
theorem dX12_prove_12 : decode cX12_prove 12 = .ok (.aload_n 0, 1) := by decide +kernel
theorem dX12_prove_13 : decode cX12_prove 13 = .ok (.getfield 26, 3) := by decide +kernel
theorem dX12_prove_16 : decode cX12_prove 16 = .ok (.iconst 0, 1) := by decide +kernel
theorem dX12_prove_17 : decode cX12_prove 17 = .ok (.iaload, 1) := by decide +kernel
theorem dX12_prove_18 : decode cX12_prove 18 = .ok (.ifCond .ge 6, 3) := by decide +kernel
theorem dX12_prove_21 : decode cX12_prove 21 = .ok (.bipush (-4), 2) := by decide +kernel
theorem dX12_prove_23 : decode cX12_prove 23 = .ok (.ireturn, 1) := by decide +kernel
theorem dX12_prove_24 : decode cX12_prove 24 = .ok (.aload_n 0, 1) := by decide +kernel
theorem dX12_prove_25 : decode cX12_prove 25 = .ok (.iload_n 1, 1) := by decide +kernel
theorem dX12_prove_26 : decode cX12_prove 26 = .ok (.invokevirtual 341, 3) := by decide +kernel
theorem dX12_prove_29 : decode cX12_prove 29 = .ok (.aload_n 0, 1) := by decide +kernel
theorem dX12_prove_30 : decode cX12_prove 30 = .ok (.aload_n 0, 1) := by decide +kernel
theorem dX12_prove_31 : decode cX12_prove 31 = .ok (.getfield 338, 3) := by decide +kernel
theorem dX12_prove_34 : decode cX12_prove 34 = .ok (.putfield 198, 3) := by decide +kernel
theorem dX12_prove_37 : decode cX12_prove 37 = .ok (.iconst 0, 1) := by decide +kernel
theorem dX12_prove_38 : decode cX12_prove 38 = .ok (.istore_n 2, 1) := by decide +kernel
theorem dX12_prove_39 : decode cX12_prove 39 = .ok (.iload_n 2, 1) := by decide +kernel
theorem dX12_prove_40 : decode cX12_prove 40 = .ok (.iconst 3, 1) := by decide +kernel
theorem dX12_prove_41 : decode cX12_prove 41 = .ok (.aload_n 0, 1) := by decide +kernel
theorem dX12_prove_42 : decode cX12_prove 42 = .ok (.getfield 198, 3) := by decide +kernel
theorem dX12_prove_45 : decode cX12_prove 45 = .ok (.imul, 1) := by decide +kernel
theorem dX12_prove_46 : decode cX12_prove 46 = .ok (.if_icmp .ge 21, 3) := by decide +kernel
theorem dX12_prove_49 : decode cX12_prove 49 = .ok (.aload_n 0, 1) := by decide +kernel
theorem dX12_prove_50 : decode cX12_prove 50 = .ok (.getfield 47, 3) := by decide +kernel
theorem dX12_prove_53 : decode cX12_prove 53 = .ok (.iload_n 2, 1) := by decide +kernel
theorem dX12_prove_54 : decode cX12_prove 54 = .ok (.aload_n 0, 1) := by decide +kernel
theorem dX12_prove_55 : decode cX12_prove 55 = .ok (.getfield 50, 3) := by decide +kernel
theorem dX12_prove_58 : decode cX12_prove 58 = .ok (.iload_n 2, 1) := by decide +kernel
theorem dX12_prove_59 : decode cX12_prove 59 = .ok (.iaload, 1) := by decide +kernel
theorem dX12_prove_60 : decode cX12_prove 60 = .ok (.iastore, 1) := by decide +kernel
theorem dX12_prove_61 : decode cX12_prove 61 = .ok (.iinc 2 1, 3) := by decide +kernel
theorem dX12_prove_64 : decode cX12_prove 64 = .ok (.goto (-25), 3) := by decide +kernel
theorem dX12_prove_67 : decode cX12_prove 67 = .ok (.aload_n 0, 1) := by decide +kernel
theorem dX12_prove_68 : decode cX12_prove 68 = .ok (.getfield 198, 3) := by decide +kernel
theorem dX12_prove_71 : decode cX12_prove 71 = .ok (.ireturn, 1) := by decide +kernel
theorem dX12_isRow_0 : decode cX12_isRow 0 = .ok (.iload_n 1, 1) := by decide +kernel
theorem dX12_isRow_1 : decode cX12_isRow 1 = .ok (.iconst 0, 1) := by decide +kernel
theorem dX12_isRow_2 : decode cX12_isRow 2 = .ok (.aload_n 0, 1) := by decide +kernel
theorem dX12_isRow_3 : decode cX12_isRow 3 = .ok (.getfield 198, 3) := by decide +kernel
theorem dX12_isRow_6 : decode cX12_isRow 6 = .ok (.iconst 1, 1) := by decide +kernel
theorem dX12_isRow_7 : decode cX12_isRow 7 = .ok (.isub, 1) := by decide +kernel
theorem dX12_isRow_8 : decode cX12_isRow 8 = .ok (.invokestatic 84, 3) := by decide +kernel
theorem dX12_isRow_11 : decode cX12_isRow 11 = .ok (.ifCond .eq 16, 3) := by decide +kernel
theorem dX12_isRow_14 : decode cX12_isRow 14 = .ok (.iload_n 2, 1) := by decide +kernel
theorem dX12_isRow_15 : decode cX12_isRow 15 = .ok (.iconst 0, 1) := by decide +kernel
theorem dX12_isRow_16 : decode cX12_isRow 16 = .ok (.iconst 2, 1) := by decide +kernel
theorem dX12_isRow_17 : decode cX12_isRow 17 = .ok (.invokestatic 84, 3) := by decide +kernel
theorem dX12_isRow_20 : decode cX12_isRow 20 = .ok (.ifCond .eq 7, 3) := by decide +kernel
theorem dX12_isRow_23 : decode cX12_isRow 23 = .ok (.iconst 1, 1) := by decide +kernel
theorem dX12_isRow_24 : decode cX12_isRow 24 = .ok (.goto 4, 3) := by decide +kernel
theorem dX12_isRow_27 : decode cX12_isRow 27 = .ok (.iconst 0, 1) := by decide +kernel
theorem dX12_isRow_28 : decode cX12_isRow 28 = .ok (.ireturn, 1) := by decide +kernel
theorem dX12_row_0 : decode cX12_row 0 = .ok (.aload_n 0, 1) := by decide +kernel
theorem dX12_row_1 : decode cX12_row 1 = .ok (.iload_n 1, 1) := by decide +kernel
theorem dX12_row_2 : decode cX12_row 2 = .ok (.iload_n 2, 1) := by decide +kernel
theorem dX12_row_3 : decode cX12_row 3 = .ok (.invokevirtual 344, 3) := by decide +kernel
theorem dX12_row_6 : decode cX12_row 6 = .ok (.ifCond .eq 16, 3) := by decide +kernel
theorem dX12_row_9 : decode cX12_row 9 = .ok (.aload_n 0, 1) := by decide +kernel
theorem dX12_row_10 : decode cX12_row 10 = .ok (.getfield 47, 3) := by decide +kernel
theorem dX12_row_13 : decode cX12_row 13 = .ok (.iconst 3, 1) := by decide +kernel
theorem dX12_row_14 : decode cX12_row 14 = .ok (.iload_n 1, 1) := by decide +kernel
theorem dX12_row_15 : decode cX12_row 15 = .ok (.imul, 1) := by decide +kernel
theorem dX12_row_16 : decode cX12_row 16 = .ok (.iload_n 2, 1) := by decide +kernel
theorem dX12_row_17 : decode cX12_row 17 = .ok (.iadd, 1) := by decide +kernel
theorem dX12_row_18 : decode cX12_row 18 = .ok (.iaload, 1) := by decide +kernel
theorem dX12_row_19 : decode cX12_row 19 = .ok (.goto 6, 3) := by decide +kernel
theorem dX12_row_22 : decode cX12_row 22 = .ok (.ldc_w 297, 3) := by decide +kernel
theorem dX12_row_25 : decode cX12_row 25 = .ok (.ireturn, 1) := by decide +kernel
theorem dX12_alterRow_0 : decode cX12_alterRow 0 = .ok (.aload_n 0, 1) := by decide +kernel
theorem dX12_alterRow_1 : decode cX12_alterRow 1 = .ok (.iload_n 1, 1) := by decide +kernel
theorem dX12_alterRow_2 : decode cX12_alterRow 2 = .ok (.iload_n 2, 1) := by decide +kernel
theorem dX12_alterRow_3 : decode cX12_alterRow 3 = .ok (.invokevirtual 344, 3) := by decide +kernel
theorem dX12_alterRow_6 : decode cX12_alterRow 6 = .ok (.ifCond .ne 7, 3) := by decide +kernel
theorem dX12_alterRow_9 : decode cX12_alterRow 9 = .ok (.ldc_w 297, 3) := by decide +kernel
theorem dX12_alterRow_12 : decode cX12_alterRow 12 = .ok (.ireturn, 1) := by decide +kernel
theorem dX12_alterRow_13 : decode cX12_alterRow 13 = .ok (.aload_n 0, 1) := by decide +kernel
theorem dX12_alterRow_14 : decode cX12_alterRow 14 = .ok (.getfield 47, 3) := by decide +kernel
theorem dX12_alterRow_17 : decode cX12_alterRow 17 = .ok (.iconst 3, 1) := by decide +kernel
theorem dX12_alterRow_18 : decode cX12_alterRow 18 = .ok (.iload_n 1, 1) := by decide +kernel
theorem dX12_alterRow_19 : decode cX12_alterRow 19 = .ok (.imul, 1) := by decide +kernel
theorem dX12_alterRow_20 : decode cX12_alterRow 20 = .ok (.iload_n 2, 1) := by decide +kernel
theorem dX12_alterRow_21 : decode cX12_alterRow 21 = .ok (.iadd, 1) := by decide +kernel
theorem dX12_alterRow_22 : decode cX12_alterRow 22 = .ok (.iaload, 1) := by decide +kernel
theorem dX12_alterRow_23 : decode cX12_alterRow 23 = .ok (.istore 4, 2) := by decide +kernel
theorem dX12_alterRow_25 : decode cX12_alterRow 25 = .ok (.aload_n 0, 1) := by decide +kernel
theorem dX12_alterRow_26 : decode cX12_alterRow 26 = .ok (.getfield 47, 3) := by decide +kernel
theorem dX12_alterRow_29 : decode cX12_alterRow 29 = .ok (.iconst 3, 1) := by decide +kernel
theorem dX12_alterRow_30 : decode cX12_alterRow 30 = .ok (.iload_n 1, 1) := by decide +kernel
theorem dX12_alterRow_31 : decode cX12_alterRow 31 = .ok (.imul, 1) := by decide +kernel
theorem dX12_alterRow_32 : decode cX12_alterRow 32 = .ok (.iload_n 2, 1) := by decide +kernel
theorem dX12_alterRow_33 : decode cX12_alterRow 33 = .ok (.iadd, 1) := by decide +kernel
theorem dX12_alterRow_34 : decode cX12_alterRow 34 = .ok (.iload_n 3, 1) := by decide +kernel
theorem dX12_alterRow_35 : decode cX12_alterRow 35 = .ok (.iastore, 1) := by decide +kernel
theorem dX12_alterRow_36 : decode cX12_alterRow 36 = .ok (.iload 4, 2) := by decide +kernel
theorem dX12_alterRow_38 : decode cX12_alterRow 38 = .ok (.ireturn, 1) := by decide +kernel
theorem dX12_judge_0 : decode cX12_judge 0 = .ok (.aload_n 0, 1) := by decide +kernel
theorem dX12_judge_1 : decode cX12_judge 1 = .ok (.getfield 26, 3) := by decide +kernel
theorem dX12_judge_4 : decode cX12_judge 4 = .ok (.iconst 0, 1) := by decide +kernel
theorem dX12_judge_5 : decode cX12_judge 5 = .ok (.iaload, 1) := by decide +kernel
theorem dX12_judge_6 : decode cX12_judge 6 = .ok (.ifCond .ge 6, 3) := by decide +kernel
theorem dX12_judge_9 : decode cX12_judge 9 = .ok (.bipush (-4), 2) := by decide +kernel
theorem dX12_judge_11 : decode cX12_judge 11 = .ok (.ireturn, 1) := by decide +kernel
theorem dX12_judge_12 : decode cX12_judge 12 = .ok (.aload_n 0, 1) := by decide +kernel
theorem dX12_judge_13 : decode cX12_judge 13 = .ok (.aload_n 0, 1) := by decide +kernel
theorem dX12_judge_14 : decode cX12_judge 14 = .ok (.getfield 198, 3) := by decide +kernel
theorem dX12_judge_17 : decode cX12_judge 17 = .ok (.invokevirtual 341, 3) := by decide +kernel
theorem dX12_judge_20 : decode cX12_judge 20 = .ok (.iconst 0, 1) := by decide +kernel
theorem dX12_judge_21 : decode cX12_judge 21 = .ok (.istore_n 1, 1) := by decide +kernel
theorem dX12_judge_22 : decode cX12_judge 22 = .ok (.iload_n 1, 1) := by decide +kernel
theorem dX12_judge_23 : decode cX12_judge 23 = .ok (.aload_n 0, 1) := by decide +kernel
theorem dX12_judge_24 : decode cX12_judge 24 = .ok (.getfield 198, 3) := by decide +kernel
theorem dX12_judge_27 : decode cX12_judge 27 = .ok (.if_icmp .ge 77, 3) := by decide +kernel
theorem dX12_judge_30 : decode cX12_judge 30 = .ok (.iload_n 1, 1) := by decide +kernel
theorem dX12_judge_31 : decode cX12_judge 31 = .ok (.aload_n 0, 1) := by decide +kernel
theorem dX12_judge_32 : decode cX12_judge 32 = .ok (.getfield 338, 3) := by decide +kernel
theorem dX12_judge_35 : decode cX12_judge 35 = .ok (.if_icmp .ge 7, 3) := by decide +kernel
theorem dX12_judge_38 : decode cX12_judge 38 = .ok (.iconst 1, 1) := by decide +kernel
theorem dX12_judge_39 : decode cX12_judge 39 = .ok (.goto 4, 3) := by decide +kernel
theorem dX12_judge_42 : decode cX12_judge 42 = .ok (.iconst 0, 1) := by decide +kernel
theorem dX12_judge_43 : decode cX12_judge 43 = .ok (.istore_n 2, 1) := by decide +kernel
theorem dX12_judge_44 : decode cX12_judge 44 = .ok (.iconst 0, 1) := by decide +kernel
theorem dX12_judge_45 : decode cX12_judge 45 = .ok (.istore_n 3, 1) := by decide +kernel
theorem dX12_judge_46 : decode cX12_judge 46 = .ok (.iload_n 3, 1) := by decide +kernel
theorem dX12_judge_47 : decode cX12_judge 47 = .ok (.iconst 3, 1) := by decide +kernel
theorem dX12_judge_48 : decode cX12_judge 48 = .ok (.if_icmp .ge 42, 3) := by decide +kernel
theorem dX12_judge_51 : decode cX12_judge 51 = .ok (.iload_n 2, 1) := by decide +kernel
theorem dX12_judge_52 : decode cX12_judge 52 = .ok (.ifCond .eq 38, 3) := by decide +kernel
theorem dX12_judge_55 : decode cX12_judge 55 = .ok (.aload_n 0, 1) := by decide +kernel
theorem dX12_judge_56 : decode cX12_judge 56 = .ok (.getfield 47, 3) := by decide +kernel
theorem dX12_judge_59 : decode cX12_judge 59 = .ok (.iconst 3, 1) := by decide +kernel
theorem dX12_judge_60 : decode cX12_judge 60 = .ok (.iload_n 1, 1) := by decide +kernel
theorem dX12_judge_61 : decode cX12_judge 61 = .ok (.imul, 1) := by decide +kernel
theorem dX12_judge_62 : decode cX12_judge 62 = .ok (.iload_n 3, 1) := by decide +kernel
theorem dX12_judge_63 : decode cX12_judge 63 = .ok (.iadd, 1) := by decide +kernel
theorem dX12_judge_64 : decode cX12_judge 64 = .ok (.iaload, 1) := by decide +kernel
theorem dX12_judge_65 : decode cX12_judge 65 = .ok (.aload_n 0, 1) := by decide +kernel
theorem dX12_judge_66 : decode cX12_judge 66 = .ok (.getfield 50, 3) := by decide +kernel
theorem dX12_judge_69 : decode cX12_judge 69 = .ok (.iconst 3, 1) := by decide +kernel
theorem dX12_judge_70 : decode cX12_judge 70 = .ok (.iload_n 1, 1) := by decide +kernel
theorem dX12_judge_71 : decode cX12_judge 71 = .ok (.imul, 1) := by decide +kernel
theorem dX12_judge_72 : decode cX12_judge 72 = .ok (.iload_n 3, 1) := by decide +kernel
theorem dX12_judge_73 : decode cX12_judge 73 = .ok (.iadd, 1) := by decide +kernel
theorem dX12_judge_74 : decode cX12_judge 74 = .ok (.iaload, 1) := by decide +kernel
theorem dX12_judge_75 : decode cX12_judge 75 = .ok (.if_icmp .ne 7, 3) := by decide +kernel
theorem dX12_judge_78 : decode cX12_judge 78 = .ok (.iconst 1, 1) := by decide +kernel
theorem dX12_judge_79 : decode cX12_judge 79 = .ok (.goto 4, 3) := by decide +kernel
theorem dX12_judge_82 : decode cX12_judge 82 = .ok (.iconst 0, 1) := by decide +kernel
theorem dX12_judge_83 : decode cX12_judge 83 = .ok (.istore_n 2, 1) := by decide +kernel
theorem dX12_judge_84 : decode cX12_judge 84 = .ok (.iinc 3 1, 3) := by decide +kernel
theorem dX12_judge_87 : decode cX12_judge 87 = .ok (.goto (-41), 3) := by decide +kernel
theorem dX12_judge_90 : decode cX12_judge 90 = .ok (.iload_n 2, 1) := by decide +kernel
theorem dX12_judge_91 : decode cX12_judge 91 = .ok (.ifCond .ne 7, 3) := by decide +kernel
theorem dX12_judge_94 : decode cX12_judge 94 = .ok (.iload_n 1, 1) := by decide +kernel
theorem dX12_judge_95 : decode cX12_judge 95 = .ok (.iconst 1, 1) := by decide +kernel
theorem dX12_judge_96 : decode cX12_judge 96 = .ok (.iadd, 1) := by decide +kernel
theorem dX12_judge_97 : decode cX12_judge 97 = .ok (.ireturn, 1) := by decide +kernel
theorem dX12_judge_98 : decode cX12_judge 98 = .ok (.iinc 1 1, 3) := by decide +kernel
theorem dX12_judge_101 : decode cX12_judge 101 = .ok (.goto (-79), 3) := by decide +kernel
theorem dX12_judge_104 : decode cX12_judge 104 = .ok (.iconst 0, 1) := by decide +kernel
theorem dX12_judge_105 : decode cX12_judge 105 = .ok (.ireturn, 1) := by decide +kernel
theorem dX12_isShelf_0 : decode cX12_isShelf 0 = .ok (.iload_n 0, 1) := by decide +kernel
theorem dX12_isShelf_1 : decode cX12_isShelf 1 = .ok (.iconst 0, 1) := by decide +kernel
theorem dX12_isShelf_2 : decode cX12_isShelf 2 = .ok (.iconst 3, 1) := by decide +kernel
theorem dX12_isShelf_3 : decode cX12_isShelf 3 = .ok (.invokestatic 84, 3) := by decide +kernel
theorem dX12_isShelf_6 : decode cX12_isShelf 6 = .ok (.ireturn, 1) := by decide +kernel
theorem dX12_sheet_0 : decode cX12_sheet 0 = .ok (.iload_n 1, 1) := by decide +kernel
theorem dX12_sheet_1 : decode cX12_sheet 1 = .ok (.invokestatic 328, 3) := by decide +kernel
theorem dX12_sheet_4 : decode cX12_sheet 4 = .ok (.ifCond .eq 22, 3) := by decide +kernel
theorem dX12_sheet_7 : decode cX12_sheet 7 = .ok (.iload_n 2, 1) := by decide +kernel
theorem dX12_sheet_8 : decode cX12_sheet 8 = .ok (.iconst (-1), 1) := by decide +kernel
theorem dX12_sheet_9 : decode cX12_sheet 9 = .ok (.iconst 3, 1) := by decide +kernel
theorem dX12_sheet_10 : decode cX12_sheet 10 = .ok (.invokestatic 84, 3) := by decide +kernel
theorem dX12_sheet_13 : decode cX12_sheet 13 = .ok (.ifCond .eq 13, 3) := by decide +kernel
theorem dX12_sheet_16 : decode cX12_sheet 16 = .ok (.iload_n 2, 1) := by decide +kernel
theorem dX12_sheet_17 : decode cX12_sheet 17 = .ok (.ifCond .lt 11, 3) := by decide +kernel
theorem dX12_sheet_20 : decode cX12_sheet 20 = .ok (.iload_n 3, 1) := by decide +kernel
theorem dX12_sheet_21 : decode cX12_sheet 21 = .ok (.bipush 40, 2) := by decide +kernel
theorem dX12_sheet_23 : decode cX12_sheet 23 = .ok (.if_icmp .le 5, 3) := by decide +kernel
theorem dX12_sheet_26 : decode cX12_sheet 26 = .ok (.iconst (-1), 1) := by decide +kernel
theorem dX12_sheet_27 : decode cX12_sheet 27 = .ok (.ireturn, 1) := by decide +kernel
theorem dX12_sheet_28 : decode cX12_sheet 28 = .ok (.iload_n 2, 1) := by decide +kernel
theorem dX12_sheet_29 : decode cX12_sheet 29 = .ok (.ifCond .lt 10, 3) := by decide +kernel
theorem dX12_sheet_32 : decode cX12_sheet 32 = .ok (.iload_n 3, 1) := by decide +kernel
theorem dX12_sheet_33 : decode cX12_sheet 33 = .ok (.ifCond .ge 6, 3) := by decide +kernel
theorem dX12_sheet_36 : decode cX12_sheet 36 = .ok (.bipush (-14), 2) := by decide +kernel
theorem dX12_sheet_38 : decode cX12_sheet 38 = .ok (.ireturn, 1) := by decide +kernel
theorem dX12_sheet_39 : decode cX12_sheet 39 = .ok (.aload_n 0, 1) := by decide +kernel
theorem dX12_sheet_40 : decode cX12_sheet 40 = .ok (.getfield 53, 3) := by decide +kernel
theorem dX12_sheet_43 : decode cX12_sheet 43 = .ok (.iload_n 1, 1) := by decide +kernel
theorem dX12_sheet_44 : decode cX12_sheet 44 = .ok (.iload_n 2, 1) := by decide +kernel
theorem dX12_sheet_45 : decode cX12_sheet 45 = .ok (.iastore, 1) := by decide +kernel
theorem dX12_sheet_46 : decode cX12_sheet 46 = .ok (.aload_n 0, 1) := by decide +kernel
theorem dX12_sheet_47 : decode cX12_sheet 47 = .ok (.getfield 56, 3) := by decide +kernel
theorem dX12_sheet_50 : decode cX12_sheet 50 = .ok (.iload_n 1, 1) := by decide +kernel
theorem dX12_sheet_51 : decode cX12_sheet 51 = .ok (.iload_n 2, 1) := by decide +kernel
theorem dX12_sheet_52 : decode cX12_sheet 52 = .ok (.ifCond .ge 7, 3) := by decide +kernel
theorem dX12_sheet_55 : decode cX12_sheet 55 = .ok (.iconst 0, 1) := by decide +kernel
theorem dX12_sheet_56 : decode cX12_sheet 56 = .ok (.goto 4, 3) := by decide +kernel
theorem dX12_sheet_59 : decode cX12_sheet 59 = .ok (.iload_n 3, 1) := by decide +kernel
theorem dX12_sheet_60 : decode cX12_sheet 60 = .ok (.iastore, 1) := by decide +kernel
theorem dX12_sheet_61 : decode cX12_sheet 61 = .ok (.iconst 0, 1) := by decide +kernel
theorem dX12_sheet_62 : decode cX12_sheet 62 = .ok (.istore 4, 2) := by decide +kernel
theorem dX12_sheet_64 : decode cX12_sheet 64 = .ok (.iload 4, 2) := by decide +kernel
theorem dX12_sheet_66 : decode cX12_sheet 66 = .ok (.bipush 40, 2) := by decide +kernel
theorem dX12_sheet_68 : decode cX12_sheet 68 = .ok (.if_icmp .ge 22, 3) := by decide +kernel
theorem dX12_sheet_71 : decode cX12_sheet 71 = .ok (.aload_n 0, 1) := by decide +kernel
theorem dX12_sheet_72 : decode cX12_sheet 72 = .ok (.getfield 59, 3) := by decide +kernel
theorem dX12_sheet_75 : decode cX12_sheet 75 = .ok (.bipush 40, 2) := by decide +kernel
theorem dX12_sheet_77 : decode cX12_sheet 77 = .ok (.iload_n 1, 1) := by decide +kernel
theorem dX12_sheet_78 : decode cX12_sheet 78 = .ok (.imul, 1) := by decide +kernel
theorem dX12_sheet_79 : decode cX12_sheet 79 = .ok (.iload 4, 2) := by decide +kernel
theorem dX12_sheet_81 : decode cX12_sheet 81 = .ok (.iadd, 1) := by decide +kernel
theorem dX12_sheet_82 : decode cX12_sheet 82 = .ok (.lconst 0, 1) := by decide +kernel
theorem dX12_sheet_83 : decode cX12_sheet 83 = .ok (.lastore, 1) := by decide +kernel
theorem dX12_sheet_84 : decode cX12_sheet 84 = .ok (.iinc 4 1, 3) := by decide +kernel
theorem dX12_sheet_87 : decode cX12_sheet 87 = .ok (.goto (-23), 3) := by decide +kernel
theorem dX12_sheet_90 : decode cX12_sheet 90 = .ok (.iconst 1, 1) := by decide +kernel
theorem dX12_sheet_91 : decode cX12_sheet 91 = .ok (.ireturn, 1) := by decide +kernel
theorem dX12_put_0 : decode cX12_put 0 = .ok (.iload_n 1, 1) := by decide +kernel
theorem dX12_put_1 : decode cX12_put 1 = .ok (.invokestatic 328, 3) := by decide +kernel
theorem dX12_put_4 : decode cX12_put 4 = .ok (.ifCond .ne 5, 3) := by decide +kernel
theorem dX12_put_7 : decode cX12_put 7 = .ok (.iconst (-1), 1) := by decide +kernel
theorem dX12_put_8 : decode cX12_put 8 = .ok (.ireturn, 1) := by decide +kernel
theorem dX12_put_9 : decode cX12_put 9 = .ok (.aload_n 0, 1) := by decide +kernel
theorem dX12_put_10 : decode cX12_put 10 = .ok (.getfield 53, 3) := by decide +kernel
theorem dX12_put_13 : decode cX12_put 13 = .ok (.iload_n 1, 1) := by decide +kernel
theorem dX12_put_14 : decode cX12_put 14 = .ok (.iaload, 1) := by decide +kernel
theorem dX12_put_15 : decode cX12_put 15 = .ok (.ifCond .ge 6, 3) := by decide +kernel
theorem dX12_put_18 : decode cX12_put 18 = .ok (.bipush (-11), 2) := by decide +kernel
theorem dX12_put_20 : decode cX12_put 20 = .ok (.ireturn, 1) := by decide +kernel
theorem dX12_put_21 : decode cX12_put 21 = .ok (.iload_n 2, 1) := by decide +kernel
theorem dX12_put_22 : decode cX12_put 22 = .ok (.iconst 0, 1) := by decide +kernel
theorem dX12_put_23 : decode cX12_put 23 = .ok (.aload_n 0, 1) := by decide +kernel
theorem dX12_put_24 : decode cX12_put 24 = .ok (.getfield 56, 3) := by decide +kernel
theorem dX12_put_27 : decode cX12_put 27 = .ok (.iload_n 1, 1) := by decide +kernel
theorem dX12_put_28 : decode cX12_put 28 = .ok (.iaload, 1) := by decide +kernel
theorem dX12_put_29 : decode cX12_put 29 = .ok (.iconst 1, 1) := by decide +kernel
theorem dX12_put_30 : decode cX12_put 30 = .ok (.isub, 1) := by decide +kernel
theorem dX12_put_31 : decode cX12_put 31 = .ok (.invokestatic 84, 3) := by decide +kernel
theorem dX12_put_34 : decode cX12_put 34 = .ok (.ifCond .ne 6, 3) := by decide +kernel
theorem dX12_put_37 : decode cX12_put 37 = .ok (.bipush (-12), 2) := by decide +kernel
theorem dX12_put_39 : decode cX12_put 39 = .ok (.ireturn, 1) := by decide +kernel
theorem dX12_put_40 : decode cX12_put 40 = .ok (.aload_n 0, 1) := by decide +kernel
theorem dX12_put_41 : decode cX12_put 41 = .ok (.getfield 59, 3) := by decide +kernel
theorem dX12_put_44 : decode cX12_put 44 = .ok (.bipush 40, 2) := by decide +kernel
theorem dX12_put_46 : decode cX12_put 46 = .ok (.iload_n 1, 1) := by decide +kernel
theorem dX12_put_47 : decode cX12_put 47 = .ok (.imul, 1) := by decide +kernel
theorem dX12_put_48 : decode cX12_put 48 = .ok (.iload_n 2, 1) := by decide +kernel
theorem dX12_put_49 : decode cX12_put 49 = .ok (.iadd, 1) := by decide +kernel
theorem dX12_put_50 : decode cX12_put 50 = .ok (.aload_n 0, 1) := by decide +kernel
theorem dX12_put_51 : decode cX12_put 51 = .ok (.getfield 53, 3) := by decide +kernel
theorem dX12_put_54 : decode cX12_put 54 = .ok (.iload_n 1, 1) := by decide +kernel
theorem dX12_put_55 : decode cX12_put 55 = .ok (.iaload, 1) := by decide +kernel
theorem dX12_put_56 : decode cX12_put 56 = .ok (.ifCond .ne 9, 3) := by decide +kernel
theorem dX12_put_59 : decode cX12_put 59 = .ok (.iload_n 3, 1) := by decide +kernel
theorem dX12_put_60 : decode cX12_put 60 = .ok (.i2b, 1) := by decide +kernel
theorem dX12_put_61 : decode cX12_put 61 = .ok (.i2l, 1) := by decide +kernel
theorem dX12_put_62 : decode cX12_put 62 = .ok (.goto 21, 3) := by decide +kernel
theorem dX12_put_65 : decode cX12_put 65 = .ok (.aload_n 0, 1) := by decide +kernel
theorem dX12_put_66 : decode cX12_put 66 = .ok (.getfield 53, 3) := by decide +kernel
theorem dX12_put_69 : decode cX12_put 69 = .ok (.iload_n 1, 1) := by decide +kernel
theorem dX12_put_70 : decode cX12_put 70 = .ok (.iaload, 1) := by decide +kernel
theorem dX12_put_71 : decode cX12_put 71 = .ok (.iconst 1, 1) := by decide +kernel
theorem dX12_put_72 : decode cX12_put 72 = .ok (.if_icmp .ne 9, 3) := by decide +kernel
theorem dX12_put_75 : decode cX12_put 75 = .ok (.iload_n 3, 1) := by decide +kernel
theorem dX12_put_76 : decode cX12_put 76 = .ok (.i2s, 1) := by decide +kernel
theorem dX12_put_77 : decode cX12_put 77 = .ok (.i2l, 1) := by decide +kernel
theorem dX12_put_78 : decode cX12_put 78 = .ok (.goto 5, 3) := by decide +kernel
theorem dX12_put_81 : decode cX12_put 81 = .ok (.iload_n 3, 1) := by decide +kernel
theorem dX12_put_82 : decode cX12_put 82 = .ok (.i2l, 1) := by decide +kernel
theorem dX12_put_83 : decode cX12_put 83 = .ok (.lastore, 1) := by decide +kernel
theorem dX12_put_84 : decode cX12_put 84 = .ok (.iconst 1, 1) := by decide +kernel
theorem dX12_put_85 : decode cX12_put 85 = .ok (.ireturn, 1) := by decide +kernel
theorem dX12_lacksSort_0 : decode cX12_lacksSort 0 = .ok (.aload_n 0, 1) := by decide +kernel
theorem dX12_lacksSort_1 : decode cX12_lacksSort 1 = .ok (.getfield 53, 3) := by decide +kernel
theorem dX12_lacksSort_4 : decode cX12_lacksSort 4 = .ok (.iload_n 1, 1) := by decide +kernel
theorem dX12_lacksSort_5 : decode cX12_lacksSort 5 = .ok (.iaload, 1) := by decide +kernel
theorem dX12_lacksSort_6 : decode cX12_lacksSort 6 = .ok (.ifCond .ge 8, 3) := by decide +kernel
theorem dX12_lacksSort_9 : decode cX12_lacksSort 9 = .ok (.bipush (-11), 2) := by decide +kernel
theorem dX12_lacksSort_11 : decode cX12_lacksSort 11 = .ok (.goto 19, 3) := by decide +kernel
theorem dX12_lacksSort_14 : decode cX12_lacksSort 14 = .ok (.aload_n 0, 1) := by decide +kernel
theorem dX12_lacksSort_15 : decode cX12_lacksSort 15 = .ok (.getfield 53, 3) := by decide +kernel
theorem dX12_lacksSort_18 : decode cX12_lacksSort 18 = .ok (.iload_n 1, 1) := by decide +kernel
theorem dX12_lacksSort_19 : decode cX12_lacksSort 19 = .ok (.iaload, 1) := by decide +kernel
theorem dX12_lacksSort_20 : decode cX12_lacksSort 20 = .ok (.iload_n 2, 1) := by decide +kernel
theorem dX12_lacksSort_21 : decode cX12_lacksSort 21 = .ok (.if_icmp .eq 8, 3) := by decide +kernel
theorem dX12_lacksSort_24 : decode cX12_lacksSort 24 = .ok (.bipush (-13), 2) := by decide +kernel
theorem dX12_lacksSort_26 : decode cX12_lacksSort 26 = .ok (.goto 4, 3) := by decide +kernel
theorem dX12_lacksSort_29 : decode cX12_lacksSort 29 = .ok (.iconst 0, 1) := by decide +kernel
theorem dX12_lacksSort_30 : decode cX12_lacksSort 30 = .ok (.ireturn, 1) := by decide +kernel
theorem dX12_item_0 : decode cX12_item 0 = .ok (.iload_n 1, 1) := by decide +kernel
theorem dX12_item_1 : decode cX12_item 1 = .ok (.invokestatic 328, 3) := by decide +kernel
theorem dX12_item_4 : decode cX12_item 4 = .ok (.ifCond .eq 12, 3) := by decide +kernel
theorem dX12_item_7 : decode cX12_item 7 = .ok (.iload_n 2, 1) := by decide +kernel
theorem dX12_item_8 : decode cX12_item 8 = .ok (.iconst 0, 1) := by decide +kernel
theorem dX12_item_9 : decode cX12_item 9 = .ok (.iconst 3, 1) := by decide +kernel
theorem dX12_item_10 : decode cX12_item 10 = .ok (.invokestatic 84, 3) := by decide +kernel
theorem dX12_item_13 : decode cX12_item 13 = .ok (.ifCond .ne 5, 3) := by decide +kernel
theorem dX12_item_16 : decode cX12_item 16 = .ok (.iconst (-1), 1) := by decide +kernel
theorem dX12_item_17 : decode cX12_item 17 = .ok (.ireturn, 1) := by decide +kernel
theorem dX12_item_18 : decode cX12_item 18 = .ok (.aload_n 0, 1) := by decide +kernel
theorem dX12_item_19 : decode cX12_item 19 = .ok (.iload_n 1, 1) := by decide +kernel
theorem dX12_item_20 : decode cX12_item 20 = .ok (.iload_n 2, 1) := by decide +kernel
theorem dX12_item_21 : decode cX12_item 21 = .ok (.invokevirtual 331, 3) := by decide +kernel
theorem dX12_item_24 : decode cX12_item 24 = .ok (.istore 4, 2) := by decide +kernel
theorem dX12_item_26 : decode cX12_item 26 = .ok (.iload 4, 2) := by decide +kernel
theorem dX12_item_28 : decode cX12_item 28 = .ok (.ifCond .eq 6, 3) := by decide +kernel
theorem dX12_item_31 : decode cX12_item 31 = .ok (.iload 4, 2) := by decide +kernel
theorem dX12_item_33 : decode cX12_item 33 = .ok (.ireturn, 1) := by decide +kernel
theorem dX12_item_34 : decode cX12_item 34 = .ok (.iload_n 3, 1) := by decide +kernel
theorem dX12_item_35 : decode cX12_item 35 = .ok (.iconst 0, 1) := by decide +kernel
theorem dX12_item_36 : decode cX12_item 36 = .ok (.aload_n 0, 1) := by decide +kernel
theorem dX12_item_37 : decode cX12_item 37 = .ok (.getfield 56, 3) := by decide +kernel
theorem dX12_item_40 : decode cX12_item 40 = .ok (.iload_n 1, 1) := by decide +kernel
theorem dX12_item_41 : decode cX12_item 41 = .ok (.iaload, 1) := by decide +kernel
theorem dX12_item_42 : decode cX12_item 42 = .ok (.iconst 1, 1) := by decide +kernel
theorem dX12_item_43 : decode cX12_item 43 = .ok (.isub, 1) := by decide +kernel
theorem dX12_item_44 : decode cX12_item 44 = .ok (.invokestatic 84, 3) := by decide +kernel
theorem dX12_item_47 : decode cX12_item 47 = .ok (.ifCond .eq 18, 3) := by decide +kernel
theorem dX12_item_50 : decode cX12_item 50 = .ok (.aload_n 0, 1) := by decide +kernel
theorem dX12_item_51 : decode cX12_item 51 = .ok (.getfield 59, 3) := by decide +kernel
theorem dX12_item_54 : decode cX12_item 54 = .ok (.bipush 40, 2) := by decide +kernel
theorem dX12_item_56 : decode cX12_item 56 = .ok (.iload_n 1, 1) := by decide +kernel
theorem dX12_item_57 : decode cX12_item 57 = .ok (.imul, 1) := by decide +kernel
theorem dX12_item_58 : decode cX12_item 58 = .ok (.iload_n 3, 1) := by decide +kernel
theorem dX12_item_59 : decode cX12_item 59 = .ok (.iadd, 1) := by decide +kernel
theorem dX12_item_60 : decode cX12_item 60 = .ok (.laload, 1) := by decide +kernel
theorem dX12_item_61 : decode cX12_item 61 = .ok (.l2i, 1) := by decide +kernel
theorem dX12_item_62 : decode cX12_item 62 = .ok (.goto 5, 3) := by decide +kernel
theorem dX12_item_65 : decode cX12_item 65 = .ok (.bipush (-12), 2) := by decide +kernel
theorem dX12_item_67 : decode cX12_item 67 = .ok (.ireturn, 1) := by decide +kernel
theorem dX12_isHeld_0 : decode cX12_isHeld 0 = .ok (.iload_n 1, 1) := by decide +kernel
theorem dX12_isHeld_1 : decode cX12_isHeld 1 = .ok (.ifCond .ne 11, 3) := by decide +kernel
theorem dX12_isHeld_4 : decode cX12_isHeld 4 = .ok (.aload_n 0, 1) := by decide +kernel
theorem dX12_isHeld_5 : decode cX12_isHeld 5 = .ok (.iload_n 2, 1) := by decide +kernel
theorem dX12_isHeld_6 : decode cX12_isHeld 6 = .ok (.invokevirtual 205, 3) := by decide +kernel
theorem dX12_isHeld_9 : decode cX12_isHeld 9 = .ok (.goto 25, 3) := by decide +kernel
theorem dX12_isHeld_12 : decode cX12_isHeld 12 = .ok (.iload_n 1, 1) := by decide +kernel
theorem dX12_isHeld_13 : decode cX12_isHeld 13 = .ok (.iconst 1, 1) := by decide +kernel
theorem dX12_isHeld_14 : decode cX12_isHeld 14 = .ok (.if_icmp .ne 10, 3) := by decide +kernel
theorem dX12_isHeld_17 : decode cX12_isHeld 17 = .ok (.iload_n 2, 1) := by decide +kernel
theorem dX12_isHeld_18 : decode cX12_isHeld 18 = .ok (.invokestatic 328, 3) := by decide +kernel
theorem dX12_isHeld_21 : decode cX12_isHeld 21 = .ok (.goto 13, 3) := by decide +kernel
theorem dX12_isHeld_24 : decode cX12_isHeld 24 = .ok (.iload_n 1, 1) := by decide +kernel
theorem dX12_isHeld_25 : decode cX12_isHeld 25 = .ok (.iconst 2, 1) := by decide +kernel
theorem dX12_isHeld_26 : decode cX12_isHeld 26 = .ok (.if_icmp .ne 7, 3) := by decide +kernel
theorem dX12_isHeld_29 : decode cX12_isHeld 29 = .ok (.iconst 1, 1) := by decide +kernel
theorem dX12_isHeld_30 : decode cX12_isHeld 30 = .ok (.goto 4, 3) := by decide +kernel
theorem dX12_isHeld_33 : decode cX12_isHeld 33 = .ok (.iconst 0, 1) := by decide +kernel
theorem dX12_isHeld_34 : decode cX12_isHeld 34 = .ok (.ireturn, 1) := by decide +kernel
theorem dX12_shelf_0 : decode cX12_shelf 0 = .ok (.iload_n 1, 1) := by decide +kernel
theorem dX12_shelf_1 : decode cX12_shelf 1 = .ok (.invokestatic 328, 3) := by decide +kernel
theorem dX12_shelf_4 : decode cX12_shelf 4 = .ok (.ifCond .eq 12, 3) := by decide +kernel
theorem dX12_shelf_7 : decode cX12_shelf 7 = .ok (.aload_n 0, 1) := by decide +kernel
theorem dX12_shelf_8 : decode cX12_shelf 8 = .ok (.iload_n 2, 1) := by decide +kernel
theorem dX12_shelf_9 : decode cX12_shelf 9 = .ok (.iload_n 3, 1) := by decide +kernel
theorem dX12_shelf_10 : decode cX12_shelf 10 = .ok (.invokevirtual 348, 3) := by decide +kernel
theorem dX12_shelf_13 : decode cX12_shelf 13 = .ok (.ifCond .ne 5, 3) := by decide +kernel
theorem dX12_shelf_16 : decode cX12_shelf 16 = .ok (.iconst (-1), 1) := by decide +kernel
theorem dX12_shelf_17 : decode cX12_shelf 17 = .ok (.ireturn, 1) := by decide +kernel
theorem dX12_shelf_18 : decode cX12_shelf 18 = .ok (.aload_n 0, 1) := by decide +kernel
theorem dX12_shelf_19 : decode cX12_shelf 19 = .ok (.getfield 63, 3) := by decide +kernel
theorem dX12_shelf_22 : decode cX12_shelf 22 = .ok (.iload_n 1, 1) := by decide +kernel
theorem dX12_shelf_23 : decode cX12_shelf 23 = .ok (.iload_n 2, 1) := by decide +kernel
theorem dX12_shelf_24 : decode cX12_shelf 24 = .ok (.iconst 2, 1) := by decide +kernel
theorem dX12_shelf_25 : decode cX12_shelf 25 = .ok (.if_icmp .eq 17, 3) := by decide +kernel
theorem dX12_shelf_28 : decode cX12_shelf 28 = .ok (.iload_n 2, 1) := by decide +kernel
theorem dX12_shelf_29 : decode cX12_shelf 29 = .ok (.iconst 1, 1) := by decide +kernel
theorem dX12_shelf_30 : decode cX12_shelf 30 = .ok (.if_icmp .ne 16, 3) := by decide +kernel
theorem dX12_shelf_33 : decode cX12_shelf 33 = .ok (.aload_n 0, 1) := by decide +kernel
theorem dX12_shelf_34 : decode cX12_shelf 34 = .ok (.getfield 53, 3) := by decide +kernel
theorem dX12_shelf_37 : decode cX12_shelf 37 = .ok (.iload_n 3, 1) := by decide +kernel
theorem dX12_shelf_38 : decode cX12_shelf 38 = .ok (.iaload, 1) := by decide +kernel
theorem dX12_shelf_39 : decode cX12_shelf 39 = .ok (.ifCond .ge 7, 3) := by decide +kernel
theorem dX12_shelf_42 : decode cX12_shelf 42 = .ok (.iconst (-1), 1) := by decide +kernel
theorem dX12_shelf_43 : decode cX12_shelf 43 = .ok (.goto 4, 3) := by decide +kernel
theorem dX12_shelf_46 : decode cX12_shelf 46 = .ok (.iload_n 2, 1) := by decide +kernel
theorem dX12_shelf_47 : decode cX12_shelf 47 = .ok (.iastore, 1) := by decide +kernel
theorem dX12_shelf_48 : decode cX12_shelf 48 = .ok (.aload_n 0, 1) := by decide +kernel
theorem dX12_shelf_49 : decode cX12_shelf 49 = .ok (.getfield 66, 3) := by decide +kernel
theorem dX12_shelf_52 : decode cX12_shelf 52 = .ok (.iload_n 1, 1) := by decide +kernel
theorem dX12_shelf_53 : decode cX12_shelf 53 = .ok (.iload_n 2, 1) := by decide +kernel
theorem dX12_shelf_54 : decode cX12_shelf 54 = .ok (.iconst 1, 1) := by decide +kernel
theorem dX12_shelf_55 : decode cX12_shelf 55 = .ok (.if_icmp .ne 12, 3) := by decide +kernel
theorem dX12_shelf_58 : decode cX12_shelf 58 = .ok (.aload_n 0, 1) := by decide +kernel
theorem dX12_shelf_59 : decode cX12_shelf 59 = .ok (.getfield 53, 3) := by decide +kernel
theorem dX12_shelf_62 : decode cX12_shelf 62 = .ok (.iload_n 3, 1) := by decide +kernel
theorem dX12_shelf_63 : decode cX12_shelf 63 = .ok (.iaload, 1) := by decide +kernel
theorem dX12_shelf_64 : decode cX12_shelf 64 = .ok (.goto 4, 3) := by decide +kernel
theorem dX12_shelf_67 : decode cX12_shelf 67 = .ok (.iload_n 3, 1) := by decide +kernel
theorem dX12_shelf_68 : decode cX12_shelf 68 = .ok (.iastore, 1) := by decide +kernel
theorem dX12_shelf_69 : decode cX12_shelf 69 = .ok (.aload_n 0, 1) := by decide +kernel
theorem dX12_shelf_70 : decode cX12_shelf 70 = .ok (.getfield 69, 3) := by decide +kernel
theorem dX12_shelf_73 : decode cX12_shelf 73 = .ok (.iload_n 1, 1) := by decide +kernel
theorem dX12_shelf_74 : decode cX12_shelf 74 = .ok (.iload_n 2, 1) := by decide +kernel
theorem dX12_shelf_75 : decode cX12_shelf 75 = .ok (.iconst 1, 1) := by decide +kernel
theorem dX12_shelf_76 : decode cX12_shelf 76 = .ok (.if_icmp .ne 12, 3) := by decide +kernel
theorem dX12_shelf_79 : decode cX12_shelf 79 = .ok (.aload_n 0, 1) := by decide +kernel
theorem dX12_shelf_80 : decode cX12_shelf 80 = .ok (.getfield 56, 3) := by decide +kernel
theorem dX12_shelf_83 : decode cX12_shelf 83 = .ok (.iload_n 3, 1) := by decide +kernel
theorem dX12_shelf_84 : decode cX12_shelf 84 = .ok (.iaload, 1) := by decide +kernel
theorem dX12_shelf_85 : decode cX12_shelf 85 = .ok (.goto 4, 3) := by decide +kernel
theorem dX12_shelf_88 : decode cX12_shelf 88 = .ok (.iconst 0, 1) := by decide +kernel
theorem dX12_shelf_89 : decode cX12_shelf 89 = .ok (.iastore, 1) := by decide +kernel
theorem dX12_shelf_90 : decode cX12_shelf 90 = .ok (.iconst 1, 1) := by decide +kernel
theorem dX12_shelf_91 : decode cX12_shelf 91 = .ok (.ireturn, 1) := by decide +kernel
theorem dX12_kindOn_0 : decode cX12_kindOn 0 = .ok (.aload_n 0, 1) := by decide +kernel
theorem dX12_kindOn_1 : decode cX12_kindOn 1 = .ok (.getfield 63, 3) := by decide +kernel
theorem dX12_kindOn_4 : decode cX12_kindOn 4 = .ok (.iload_n 1, 1) := by decide +kernel
theorem dX12_kindOn_5 : decode cX12_kindOn 5 = .ok (.iaload, 1) := by decide +kernel
theorem dX12_kindOn_6 : decode cX12_kindOn 6 = .ok (.ifCond .eq 19, 3) := by decide +kernel
theorem dX12_kindOn_9 : decode cX12_kindOn 9 = .ok (.aload_n 0, 1) := by decide +kernel
theorem dX12_kindOn_10 : decode cX12_kindOn 10 = .ok (.getfield 63, 3) := by decide +kernel
theorem dX12_kindOn_13 : decode cX12_kindOn 13 = .ok (.iload_n 1, 1) := by decide +kernel
theorem dX12_kindOn_14 : decode cX12_kindOn 14 = .ok (.iaload, 1) := by decide +kernel
theorem dX12_kindOn_15 : decode cX12_kindOn 15 = .ok (.ifCond .ge 7, 3) := by decide +kernel
theorem dX12_kindOn_18 : decode cX12_kindOn 18 = .ok (.iconst (-1), 1) := by decide +kernel
theorem dX12_kindOn_19 : decode cX12_kindOn 19 = .ok (.goto 5, 3) := by decide +kernel
theorem dX12_kindOn_22 : decode cX12_kindOn 22 = .ok (.bipush 9, 2) := by decide +kernel
theorem dX12_kindOn_24 : decode cX12_kindOn 24 = .ok (.ireturn, 1) := by decide +kernel
theorem dX12_kindOn_25 : decode cX12_kindOn 25 = .ok (.aload_n 0, 1) := by decide +kernel
theorem dX12_kindOn_26 : decode cX12_kindOn 26 = .ok (.aload_n 0, 1) := by decide +kernel
theorem dX12_kindOn_27 : decode cX12_kindOn 27 = .ok (.getfield 66, 3) := by decide +kernel
theorem dX12_kindOn_30 : decode cX12_kindOn 30 = .ok (.iload_n 1, 1) := by decide +kernel
theorem dX12_kindOn_31 : decode cX12_kindOn 31 = .ok (.iaload, 1) := by decide +kernel
theorem dX12_kindOn_32 : decode cX12_kindOn 32 = .ok (.invokevirtual 205, 3) := by decide +kernel
theorem dX12_kindOn_35 : decode cX12_kindOn 35 = .ok (.ifCond .eq 17, 3) := by decide +kernel
theorem dX12_kindOn_38 : decode cX12_kindOn 38 = .ok (.aload_n 0, 1) := by decide +kernel
theorem dX12_kindOn_39 : decode cX12_kindOn 39 = .ok (.aload_n 0, 1) := by decide +kernel
theorem dX12_kindOn_40 : decode cX12_kindOn 40 = .ok (.getfield 66, 3) := by decide +kernel
theorem dX12_kindOn_43 : decode cX12_kindOn 43 = .ok (.iload_n 1, 1) := by decide +kernel
theorem dX12_kindOn_44 : decode cX12_kindOn 44 = .ok (.iaload, 1) := by decide +kernel
theorem dX12_kindOn_45 : decode cX12_kindOn 45 = .ok (.iconst 0, 1) := by decide +kernel
theorem dX12_kindOn_46 : decode cX12_kindOn 46 = .ok (.invokevirtual 208, 3) := by decide +kernel
theorem dX12_kindOn_49 : decode cX12_kindOn 49 = .ok (.goto 4, 3) := by decide +kernel
theorem dX12_kindOn_52 : decode cX12_kindOn 52 = .ok (.iconst (-1), 1) := by decide +kernel
theorem dX12_kindOn_53 : decode cX12_kindOn 53 = .ok (.ireturn, 1) := by decide +kernel
theorem dX12_isUnder_0 : decode cX12_isUnder 0 = .ok (.iload_n 1, 1) := by decide +kernel
theorem dX12_isUnder_1 : decode cX12_isUnder 1 = .ok (.ifCond .eq 28, 3) := by decide +kernel
theorem dX12_isUnder_4 : decode cX12_isUnder 4 = .ok (.iload_n 1, 1) := by decide +kernel
theorem dX12_isUnder_5 : decode cX12_isUnder 5 = .ok (.iload_n 0, 1) := by decide +kernel
theorem dX12_isUnder_6 : decode cX12_isUnder 6 = .ok (.if_icmp .eq 23, 3) := by decide +kernel
theorem dX12_isUnder_9 : decode cX12_isUnder 9 = .ok (.iload_n 1, 1) := by decide +kernel
theorem dX12_isUnder_10 : decode cX12_isUnder 10 = .ok (.iconst 1, 1) := by decide +kernel
theorem dX12_isUnder_11 : decode cX12_isUnder 11 = .ok (.if_icmp .ne 8, 3) := by decide +kernel
theorem dX12_isUnder_14 : decode cX12_isUnder 14 = .ok (.iload_n 0, 1) := by decide +kernel
theorem dX12_isUnder_15 : decode cX12_isUnder 15 = .ok (.iconst 4, 1) := by decide +kernel
theorem dX12_isUnder_16 : decode cX12_isUnder 16 = .ok (.if_icmp .eq 13, 3) := by decide +kernel
theorem dX12_isUnder_19 : decode cX12_isUnder 19 = .ok (.iload_n 1, 1) := by decide +kernel
theorem dX12_isUnder_20 : decode cX12_isUnder 20 = .ok (.iconst 3, 1) := by decide +kernel
theorem dX12_isUnder_21 : decode cX12_isUnder 21 = .ok (.if_icmp .ne 12, 3) := by decide +kernel
theorem dX12_isUnder_24 : decode cX12_isUnder 24 = .ok (.iload_n 0, 1) := by decide +kernel
theorem dX12_isUnder_25 : decode cX12_isUnder 25 = .ok (.iconst 5, 1) := by decide +kernel
theorem dX12_isUnder_26 : decode cX12_isUnder 26 = .ok (.if_icmp .ne 7, 3) := by decide +kernel
theorem dX12_isUnder_29 : decode cX12_isUnder 29 = .ok (.iconst 1, 1) := by decide +kernel
theorem dX12_isUnder_30 : decode cX12_isUnder 30 = .ok (.goto 4, 3) := by decide +kernel
theorem dX12_isUnder_33 : decode cX12_isUnder 33 = .ok (.iconst 0, 1) := by decide +kernel
theorem dX12_isUnder_34 : decode cX12_isUnder 34 = .ok (.ireturn, 1) := by decide +kernel
theorem dX12_taken_0 : decode cX12_taken 0 = .ok (.iload_n 1, 1) := by decide +kernel
theorem dX12_taken_1 : decode cX12_taken 1 = .ok (.invokestatic 328, 3) := by decide +kernel
theorem dX12_taken_4 : decode cX12_taken 4 = .ok (.ifCond .eq 23, 3) := by decide +kernel
theorem dX12_taken_7 : decode cX12_taken 7 = .ok (.iload_n 2, 1) := by decide +kernel
theorem dX12_taken_8 : decode cX12_taken 8 = .ok (.iconst 0, 1) := by decide +kernel
theorem dX12_taken_9 : decode cX12_taken 9 = .ok (.iconst 5, 1) := by decide +kernel
theorem dX12_taken_10 : decode cX12_taken 10 = .ok (.invokestatic 84, 3) := by decide +kernel
theorem dX12_taken_13 : decode cX12_taken 13 = .ok (.ifCond .ne 16, 3) := by decide +kernel
theorem dX12_taken_16 : decode cX12_taken 16 = .ok (.iload_n 2, 1) := by decide +kernel
theorem dX12_taken_17 : decode cX12_taken 17 = .ok (.bipush 10, 2) := by decide +kernel
theorem dX12_taken_19 : decode cX12_taken 19 = .ok (.bipush 13, 2) := by decide +kernel
theorem dX12_taken_21 : decode cX12_taken 21 = .ok (.invokestatic 84, 3) := by decide +kernel
theorem dX12_taken_24 : decode cX12_taken 24 = .ok (.ifCond .ne 5, 3) := by decide +kernel
theorem dX12_taken_27 : decode cX12_taken 27 = .ok (.iconst (-1), 1) := by decide +kernel
theorem dX12_taken_28 : decode cX12_taken 28 = .ok (.ireturn, 1) := by decide +kernel
theorem dX12_taken_29 : decode cX12_taken 29 = .ok (.aload_n 0, 1) := by decide +kernel
theorem dX12_taken_30 : decode cX12_taken 30 = .ok (.iload_n 1, 1) := by decide +kernel
theorem dX12_taken_31 : decode cX12_taken 31 = .ok (.invokevirtual 351, 3) := by decide +kernel
theorem dX12_taken_34 : decode cX12_taken 34 = .ok (.istore_n 3, 1) := by decide +kernel
theorem dX12_taken_35 : decode cX12_taken 35 = .ok (.iload_n 3, 1) := by decide +kernel
theorem dX12_taken_36 : decode cX12_taken 36 = .ok (.ifCond .ge 6, 3) := by decide +kernel
theorem dX12_taken_39 : decode cX12_taken 39 = .ok (.bipush (-11), 2) := by decide +kernel
theorem dX12_taken_41 : decode cX12_taken 41 = .ok (.ireturn, 1) := by decide +kernel
theorem dX12_taken_42 : decode cX12_taken 42 = .ok (.iload_n 3, 1) := by decide +kernel
theorem dX12_taken_43 : decode cX12_taken 43 = .ok (.bipush 9, 2) := by decide +kernel
theorem dX12_taken_45 : decode cX12_taken 45 = .ok (.if_icmp .ne 28, 3) := by decide +kernel
theorem dX12_taken_48 : decode cX12_taken 48 = .ok (.iload_n 2, 1) := by decide +kernel
theorem dX12_taken_49 : decode cX12_taken 49 = .ok (.bipush 10, 2) := by decide +kernel
theorem dX12_taken_51 : decode cX12_taken 51 = .ok (.aload_n 0, 1) := by decide +kernel
theorem dX12_taken_52 : decode cX12_taken 52 = .ok (.getfield 66, 3) := by decide +kernel
theorem dX12_taken_55 : decode cX12_taken 55 = .ok (.iload_n 1, 1) := by decide +kernel
theorem dX12_taken_56 : decode cX12_taken 56 = .ok (.iaload, 1) := by decide +kernel
theorem dX12_taken_57 : decode cX12_taken 57 = .ok (.iadd, 1) := by decide +kernel
theorem dX12_taken_58 : decode cX12_taken 58 = .ok (.if_icmp .ne 12, 3) := by decide +kernel
theorem dX12_taken_61 : decode cX12_taken 61 = .ok (.aload_n 0, 1) := by decide +kernel
theorem dX12_taken_62 : decode cX12_taken 62 = .ok (.getfield 69, 3) := by decide +kernel
theorem dX12_taken_65 : decode cX12_taken 65 = .ok (.iload_n 1, 1) := by decide +kernel
theorem dX12_taken_66 : decode cX12_taken 66 = .ok (.iaload, 1) := by decide +kernel
theorem dX12_taken_67 : decode cX12_taken 67 = .ok (.goto 5, 3) := by decide +kernel
theorem dX12_taken_70 : decode cX12_taken 70 = .ok (.bipush (-13), 2) := by decide +kernel
theorem dX12_taken_72 : decode cX12_taken 72 = .ok (.ireturn, 1) := by decide +kernel
theorem dX12_taken_73 : decode cX12_taken 73 = .ok (.iload_n 2, 1) := by decide +kernel
theorem dX12_taken_74 : decode cX12_taken 74 = .ok (.bipush 10, 2) := by decide +kernel
theorem dX12_taken_76 : decode cX12_taken 76 = .ok (.if_icmp .ge 20, 3) := by decide +kernel
theorem dX12_taken_79 : decode cX12_taken 79 = .ok (.iload_n 3, 1) := by decide +kernel
theorem dX12_taken_80 : decode cX12_taken 80 = .ok (.iload_n 2, 1) := by decide +kernel
theorem dX12_taken_81 : decode cX12_taken 81 = .ok (.invokestatic 354, 3) := by decide +kernel
theorem dX12_taken_84 : decode cX12_taken 84 = .ok (.ifCond .eq 12, 3) := by decide +kernel
theorem dX12_taken_87 : decode cX12_taken 87 = .ok (.aload_n 0, 1) := by decide +kernel
theorem dX12_taken_88 : decode cX12_taken 88 = .ok (.getfield 66, 3) := by decide +kernel
theorem dX12_taken_91 : decode cX12_taken 91 = .ok (.iload_n 1, 1) := by decide +kernel
theorem dX12_taken_92 : decode cX12_taken 92 = .ok (.iaload, 1) := by decide +kernel
theorem dX12_taken_93 : decode cX12_taken 93 = .ok (.goto 5, 3) := by decide +kernel
theorem dX12_taken_96 : decode cX12_taken 96 = .ok (.bipush (-13), 2) := by decide +kernel
theorem dX12_taken_98 : decode cX12_taken 98 = .ok (.ireturn, 1) := by decide +kernel
theorem dX12_ran_0 : decode cX12_ran 0 = .ok (.aload_n 0, 1) := by decide +kernel
theorem dX12_ran_1 : decode cX12_ran 1 = .ok (.getfield 357, 3) := by decide +kernel
theorem dX12_ran_4 : decode cX12_ran 4 = .ok (.bipush 30, 2) := by decide +kernel
theorem dX12_ran_6 : decode cX12_ran 6 = .ok (.if_icmp .ge 23, 3) := by decide +kernel
theorem dX12_ran_9 : decode cX12_ran 9 = .ok (.aload_n 0, 1) := by decide +kernel
theorem dX12_ran_10 : decode cX12_ran 10 = .ok (.getfield 72, 3) := by decide +kernel
theorem dX12_ran_13 : decode cX12_ran 13 = .ok (.aload_n 0, 1) := by decide +kernel
theorem dX12_ran_14 : decode cX12_ran 14 = .ok (.getfield 357, 3) := by decide +kernel
theorem dX12_ran_17 : decode cX12_ran 17 = .ok (.iload_n 1, 1) := by decide +kernel
theorem dX12_ran_18 : decode cX12_ran 18 = .ok (.iastore, 1) := by decide +kernel
theorem dX12_ran_19 : decode cX12_ran 19 = .ok (.aload_n 0, 1) := by decide +kernel
theorem dX12_ran_20 : decode cX12_ran 20 = .ok (.dup, 1) := by decide +kernel
theorem dX12_ran_21 : decode cX12_ran 21 = .ok (.getfield 357, 3) := by decide +kernel
theorem dX12_ran_24 : decode cX12_ran 24 = .ok (.iconst 1, 1) := by decide +kernel
theorem dX12_ran_25 : decode cX12_ran 25 = .ok (.iadd, 1) := by decide +kernel
theorem dX12_ran_26 : decode cX12_ran 26 = .ok (.putfield 357, 3) := by decide +kernel
theorem dX12_ran_29 : decode cX12_ran 29 = .ok (.return_, 1) := by decide +kernel
theorem dX12_plainFalls_0 : decode cX12_plainFalls 0 = .ok (.aload_n 0, 1) := by decide +kernel
theorem dX12_plainFalls_1 : decode cX12_plainFalls 1 = .ok (.bipush 10, 2) := by decide +kernel
theorem dX12_plainFalls_3 : decode cX12_plainFalls 3 = .ok (.invokevirtual 360, 3) := by decide +kernel
theorem dX12_plainFalls_6 : decode cX12_plainFalls 6 = .ok (.iload_n 1, 1) := by decide +kernel
theorem dX12_plainFalls_7 : decode cX12_plainFalls 7 = .ok (.aload_n 0, 1) := by decide +kernel
theorem dX12_plainFalls_8 : decode cX12_plainFalls 8 = .ok (.getfield 363, 3) := by decide +kernel
theorem dX12_plainFalls_11 : decode cX12_plainFalls 11 = .ok (.iadd, 1) := by decide +kernel
theorem dX12_plainFalls_12 : decode cX12_plainFalls 12 = .ok (.ireturn, 1) := by decide +kernel
theorem dX12_fallsIt_0 : decode cX12_fallsIt 0 = .ok (.aload_n 0, 1) := by decide +kernel
theorem dX12_fallsIt_1 : decode cX12_fallsIt 1 = .ok (.getfield 366, 3) := by decide +kernel
theorem dX12_fallsIt_4 : decode cX12_fallsIt 4 = .ok (.iconst 2, 1) := by decide +kernel
theorem dX12_fallsIt_5 : decode cX12_fallsIt 5 = .ok (.if_icmp .ne 17, 3) := by decide +kernel
theorem dX12_fallsIt_8 : decode cX12_fallsIt 8 = .ok (.aload_n 0, 1) := by decide +kernel
theorem dX12_fallsIt_9 : decode cX12_fallsIt 9 = .ok (.bipush 30, 2) := by decide +kernel
theorem dX12_fallsIt_11 : decode cX12_fallsIt 11 = .ok (.invokevirtual 360, 3) := by decide +kernel
theorem dX12_fallsIt_14 : decode cX12_fallsIt 14 = .ok (.aload_n 0, 1) := by decide +kernel
theorem dX12_fallsIt_15 : decode cX12_fallsIt 15 = .ok (.iload_n 1, 1) := by decide +kernel
theorem dX12_fallsIt_16 : decode cX12_fallsIt 16 = .ok (.invokevirtual 369, 3) := by decide +kernel
theorem dX12_fallsIt_19 : decode cX12_fallsIt 19 = .ok (.iconst 3, 1) := by decide +kernel
theorem dX12_fallsIt_20 : decode cX12_fallsIt 20 = .ok (.imul, 1) := by decide +kernel
theorem dX12_fallsIt_21 : decode cX12_fallsIt 21 = .ok (.ireturn, 1) := by decide +kernel
theorem dX12_fallsIt_22 : decode cX12_fallsIt 22 = .ok (.aload_n 0, 1) := by decide +kernel
theorem dX12_fallsIt_23 : decode cX12_fallsIt 23 = .ok (.getfield 366, 3) := by decide +kernel
theorem dX12_fallsIt_26 : decode cX12_fallsIt 26 = .ok (.iconst 4, 1) := by decide +kernel
theorem dX12_fallsIt_27 : decode cX12_fallsIt 27 = .ok (.if_icmp .ne 20, 3) := by decide +kernel
theorem dX12_fallsIt_30 : decode cX12_fallsIt 30 = .ok (.aload_n 0, 1) := by decide +kernel
theorem dX12_fallsIt_31 : decode cX12_fallsIt 31 = .ok (.bipush 51, 2) := by decide +kernel
theorem dX12_fallsIt_33 : decode cX12_fallsIt 33 = .ok (.invokevirtual 360, 3) := by decide +kernel
theorem dX12_fallsIt_36 : decode cX12_fallsIt 36 = .ok (.aload_n 0, 1) := by decide +kernel
theorem dX12_fallsIt_37 : decode cX12_fallsIt 37 = .ok (.iload_n 1, 1) := by decide +kernel
theorem dX12_fallsIt_38 : decode cX12_fallsIt 38 = .ok (.invokevirtual 369, 3) := by decide +kernel
theorem dX12_fallsIt_41 : decode cX12_fallsIt 41 = .ok (.aload_n 0, 1) := by decide +kernel
theorem dX12_fallsIt_42 : decode cX12_fallsIt 42 = .ok (.getfield 363, 3) := by decide +kernel
theorem dX12_fallsIt_45 : decode cX12_fallsIt 45 = .ok (.isub, 1) := by decide +kernel
theorem dX12_fallsIt_46 : decode cX12_fallsIt 46 = .ok (.ireturn, 1) := by decide +kernel
theorem dX12_fallsIt_47 : decode cX12_fallsIt 47 = .ok (.aload_n 0, 1) := by decide +kernel
theorem dX12_fallsIt_48 : decode cX12_fallsIt 48 = .ok (.iload_n 1, 1) := by decide +kernel
theorem dX12_fallsIt_49 : decode cX12_fallsIt 49 = .ok (.invokevirtual 369, 3) := by decide +kernel
theorem dX12_fallsIt_52 : decode cX12_fallsIt 52 = .ok (.ireturn, 1) := by decide +kernel
theorem dX12_plainTurns_0 : decode cX12_plainTurns 0 = .ok (.aload_n 0, 1) := by decide +kernel
theorem dX12_plainTurns_1 : decode cX12_plainTurns 1 = .ok (.bipush 11, 2) := by decide +kernel
theorem dX12_plainTurns_3 : decode cX12_plainTurns 3 = .ok (.invokevirtual 360, 3) := by decide +kernel
theorem dX12_plainTurns_6 : decode cX12_plainTurns 6 = .ok (.aload_n 0, 1) := by decide +kernel
theorem dX12_plainTurns_7 : decode cX12_plainTurns 7 = .ok (.iload_n 1, 1) := by decide +kernel
theorem dX12_plainTurns_8 : decode cX12_plainTurns 8 = .ok (.invokevirtual 372, 3) := by decide +kernel
theorem dX12_plainTurns_11 : decode cX12_plainTurns 11 = .ok (.iconst 2, 1) := by decide +kernel
theorem dX12_plainTurns_12 : decode cX12_plainTurns 12 = .ok (.imul, 1) := by decide +kernel
theorem dX12_plainTurns_13 : decode cX12_plainTurns 13 = .ok (.ireturn, 1) := by decide +kernel
theorem dX12_turnsIt_0 : decode cX12_turnsIt 0 = .ok (.aload_n 0, 1) := by decide +kernel
theorem dX12_turnsIt_1 : decode cX12_turnsIt 1 = .ok (.getfield 366, 3) := by decide +kernel
theorem dX12_turnsIt_4 : decode cX12_turnsIt 4 = .ok (.iconst 1, 1) := by decide +kernel
theorem dX12_turnsIt_5 : decode cX12_turnsIt 5 = .ok (.if_icmp .eq 11, 3) := by decide +kernel
theorem dX12_turnsIt_8 : decode cX12_turnsIt 8 = .ok (.aload_n 0, 1) := by decide +kernel
theorem dX12_turnsIt_9 : decode cX12_turnsIt 9 = .ok (.getfield 366, 3) := by decide +kernel
theorem dX12_turnsIt_12 : decode cX12_turnsIt 12 = .ok (.iconst 4, 1) := by decide +kernel
theorem dX12_turnsIt_13 : decode cX12_turnsIt 13 = .ok (.if_icmp .ne 20, 3) := by decide +kernel
theorem dX12_turnsIt_16 : decode cX12_turnsIt 16 = .ok (.aload_n 0, 1) := by decide +kernel
theorem dX12_turnsIt_17 : decode cX12_turnsIt 17 = .ok (.bipush 20, 2) := by decide +kernel
theorem dX12_turnsIt_19 : decode cX12_turnsIt 19 = .ok (.invokevirtual 360, 3) := by decide +kernel
theorem dX12_turnsIt_22 : decode cX12_turnsIt 22 = .ok (.aload_n 0, 1) := by decide +kernel
theorem dX12_turnsIt_23 : decode cX12_turnsIt 23 = .ok (.iload_n 1, 1) := by decide +kernel
theorem dX12_turnsIt_24 : decode cX12_turnsIt 24 = .ok (.invokevirtual 375, 3) := by decide +kernel
theorem dX12_turnsIt_27 : decode cX12_turnsIt 27 = .ok (.aload_n 0, 1) := by decide +kernel
theorem dX12_turnsIt_28 : decode cX12_turnsIt 28 = .ok (.getfield 378, 3) := by decide +kernel
theorem dX12_turnsIt_31 : decode cX12_turnsIt 31 = .ok (.isub, 1) := by decide +kernel
theorem dX12_turnsIt_32 : decode cX12_turnsIt 32 = .ok (.ireturn, 1) := by decide +kernel
theorem dX12_turnsIt_33 : decode cX12_turnsIt 33 = .ok (.aload_n 0, 1) := by decide +kernel
theorem dX12_turnsIt_34 : decode cX12_turnsIt 34 = .ok (.getfield 366, 3) := by decide +kernel
theorem dX12_turnsIt_37 : decode cX12_turnsIt 37 = .ok (.iconst 3, 1) := by decide +kernel
theorem dX12_turnsIt_38 : decode cX12_turnsIt 38 = .ok (.if_icmp .eq 11, 3) := by decide +kernel
theorem dX12_turnsIt_41 : decode cX12_turnsIt 41 = .ok (.aload_n 0, 1) := by decide +kernel
theorem dX12_turnsIt_42 : decode cX12_turnsIt 42 = .ok (.getfield 366, 3) := by decide +kernel
theorem dX12_turnsIt_45 : decode cX12_turnsIt 45 = .ok (.iconst 5, 1) := by decide +kernel
theorem dX12_turnsIt_46 : decode cX12_turnsIt 46 = .ok (.if_icmp .ne 17, 3) := by decide +kernel
theorem dX12_turnsIt_49 : decode cX12_turnsIt 49 = .ok (.aload_n 0, 1) := by decide +kernel
theorem dX12_turnsIt_50 : decode cX12_turnsIt 50 = .ok (.bipush 40, 2) := by decide +kernel
theorem dX12_turnsIt_52 : decode cX12_turnsIt 52 = .ok (.invokevirtual 360, 3) := by decide +kernel
theorem dX12_turnsIt_55 : decode cX12_turnsIt 55 = .ok (.iconst 0, 1) := by decide +kernel
theorem dX12_turnsIt_56 : decode cX12_turnsIt 56 = .ok (.aload_n 0, 1) := by decide +kernel
theorem dX12_turnsIt_57 : decode cX12_turnsIt 57 = .ok (.iload_n 1, 1) := by decide +kernel
theorem dX12_turnsIt_58 : decode cX12_turnsIt 58 = .ok (.invokevirtual 375, 3) := by decide +kernel
theorem dX12_turnsIt_61 : decode cX12_turnsIt 61 = .ok (.isub, 1) := by decide +kernel
theorem dX12_turnsIt_62 : decode cX12_turnsIt 62 = .ok (.ireturn, 1) := by decide +kernel
theorem dX12_turnsIt_63 : decode cX12_turnsIt 63 = .ok (.aload_n 0, 1) := by decide +kernel
theorem dX12_turnsIt_64 : decode cX12_turnsIt 64 = .ok (.iload_n 1, 1) := by decide +kernel
theorem dX12_turnsIt_65 : decode cX12_turnsIt 65 = .ok (.invokevirtual 375, 3) := by decide +kernel
theorem dX12_turnsIt_68 : decode cX12_turnsIt 68 = .ok (.ireturn, 1) := by decide +kernel
theorem dX12_plainShares_0 : decode cX12_plainShares 0 = .ok (.aload_n 0, 1) := by decide +kernel
theorem dX12_plainShares_1 : decode cX12_plainShares 1 = .ok (.bipush 12, 2) := by decide +kernel
theorem dX12_plainShares_3 : decode cX12_plainShares 3 = .ok (.invokevirtual 360, 3) := by decide +kernel
theorem dX12_plainShares_6 : decode cX12_plainShares 6 = .ok (.aload_n 0, 1) := by decide +kernel
theorem dX12_plainShares_7 : decode cX12_plainShares 7 = .ok (.getfield 378, 3) := by decide +kernel
theorem dX12_plainShares_10 : decode cX12_plainShares 10 = .ok (.aload_n 0, 1) := by decide +kernel
theorem dX12_plainShares_11 : decode cX12_plainShares 11 = .ok (.getfield 363, 3) := by decide +kernel
theorem dX12_plainShares_14 : decode cX12_plainShares 14 = .ok (.if_icmp .ne 10, 3) := by decide +kernel
theorem dX12_plainShares_17 : decode cX12_plainShares 17 = .ok (.aload_n 0, 1) := by decide +kernel
theorem dX12_plainShares_18 : decode cX12_plainShares 18 = .ok (.iconst 1, 1) := by decide +kernel
theorem dX12_plainShares_19 : decode cX12_plainShares 19 = .ok (.putfield 381, 3) := by decide +kernel
theorem dX12_plainShares_22 : decode cX12_plainShares 22 = .ok (.iconst 0, 1) := by decide +kernel
theorem dX12_plainShares_23 : decode cX12_plainShares 23 = .ok (.ireturn, 1) := by decide +kernel
theorem dX12_plainShares_24 : decode cX12_plainShares 24 = .ok (.iload_n 1, 1) := by decide +kernel
theorem dX12_plainShares_25 : decode cX12_plainShares 25 = .ok (.aload_n 0, 1) := by decide +kernel
theorem dX12_plainShares_26 : decode cX12_plainShares 26 = .ok (.getfield 378, 3) := by decide +kernel
theorem dX12_plainShares_29 : decode cX12_plainShares 29 = .ok (.aload_n 0, 1) := by decide +kernel
theorem dX12_plainShares_30 : decode cX12_plainShares 30 = .ok (.getfield 363, 3) := by decide +kernel
theorem dX12_plainShares_33 : decode cX12_plainShares 33 = .ok (.isub, 1) := by decide +kernel
theorem dX12_plainShares_34 : decode cX12_plainShares 34 = .ok (.idiv, 1) := by decide +kernel
theorem dX12_plainShares_35 : decode cX12_plainShares 35 = .ok (.ireturn, 1) := by decide +kernel
theorem dX12_sharesIt_0 : decode cX12_sharesIt 0 = .ok (.aload_n 0, 1) := by decide +kernel
theorem dX12_sharesIt_1 : decode cX12_sharesIt 1 = .ok (.getfield 366, 3) := by decide +kernel
theorem dX12_sharesIt_4 : decode cX12_sharesIt 4 = .ok (.iconst 4, 1) := by decide +kernel
theorem dX12_sharesIt_5 : decode cX12_sharesIt 5 = .ok (.if_icmp .ne 19, 3) := by decide +kernel
theorem dX12_sharesIt_8 : decode cX12_sharesIt 8 = .ok (.aload_n 0, 1) := by decide +kernel
theorem dX12_sharesIt_9 : decode cX12_sharesIt 9 = .ok (.bipush 50, 2) := by decide +kernel
theorem dX12_sharesIt_11 : decode cX12_sharesIt 11 = .ok (.invokevirtual 360, 3) := by decide +kernel
theorem dX12_sharesIt_14 : decode cX12_sharesIt 14 = .ok (.aload_n 0, 1) := by decide +kernel
theorem dX12_sharesIt_15 : decode cX12_sharesIt 15 = .ok (.iload_n 1, 1) := by decide +kernel
theorem dX12_sharesIt_16 : decode cX12_sharesIt 16 = .ok (.iconst 2, 1) := by decide +kernel
theorem dX12_sharesIt_17 : decode cX12_sharesIt 17 = .ok (.iadd, 1) := by decide +kernel
theorem dX12_sharesIt_18 : decode cX12_sharesIt 18 = .ok (.invokevirtual 384, 3) := by decide +kernel
theorem dX12_sharesIt_21 : decode cX12_sharesIt 21 = .ok (.iconst 1, 1) := by decide +kernel
theorem dX12_sharesIt_22 : decode cX12_sharesIt 22 = .ok (.ixor, 1) := by decide +kernel
theorem dX12_sharesIt_23 : decode cX12_sharesIt 23 = .ok (.ireturn, 1) := by decide +kernel
theorem dX12_sharesIt_24 : decode cX12_sharesIt 24 = .ok (.aload_n 0, 1) := by decide +kernel
theorem dX12_sharesIt_25 : decode cX12_sharesIt 25 = .ok (.getfield 366, 3) := by decide +kernel
theorem dX12_sharesIt_28 : decode cX12_sharesIt 28 = .ok (.iconst 5, 1) := by decide +kernel
theorem dX12_sharesIt_29 : decode cX12_sharesIt 29 = .ok (.if_icmp .ne 37, 3) := by decide +kernel
theorem dX12_sharesIt_32 : decode cX12_sharesIt 32 = .ok (.aload_n 0, 1) := by decide +kernel
theorem dX12_sharesIt_33 : decode cX12_sharesIt 33 = .ok (.bipush 61, 2) := by decide +kernel
theorem dX12_sharesIt_35 : decode cX12_sharesIt 35 = .ok (.invokevirtual 360, 3) := by decide +kernel
theorem dX12_sharesIt_38 : decode cX12_sharesIt 38 = .ok (.aload_n 0, 1) := by decide +kernel
theorem dX12_sharesIt_39 : decode cX12_sharesIt 39 = .ok (.iload_n 1, 1) := by decide +kernel
theorem dX12_sharesIt_40 : decode cX12_sharesIt 40 = .ok (.invokevirtual 384, 3) := by decide +kernel
theorem dX12_sharesIt_43 : decode cX12_sharesIt 43 = .ok (.istore_n 2, 1) := by decide +kernel
theorem dX12_sharesIt_44 : decode cX12_sharesIt 44 = .ok (.aload_n 0, 1) := by decide +kernel
theorem dX12_sharesIt_45 : decode cX12_sharesIt 45 = .ok (.getfield 381, 3) := by decide +kernel
theorem dX12_sharesIt_48 : decode cX12_sharesIt 48 = .ok (.ifCond .eq 7, 3) := by decide +kernel
theorem dX12_sharesIt_51 : decode cX12_sharesIt 51 = .ok (.iconst 0, 1) := by decide +kernel
theorem dX12_sharesIt_52 : decode cX12_sharesIt 52 = .ok (.goto 13, 3) := by decide +kernel
theorem dX12_sharesIt_55 : decode cX12_sharesIt 55 = .ok (.iload_n 2, 1) := by decide +kernel
theorem dX12_sharesIt_56 : decode cX12_sharesIt 56 = .ok (.aload_n 0, 1) := by decide +kernel
theorem dX12_sharesIt_57 : decode cX12_sharesIt 57 = .ok (.aload_n 0, 1) := by decide +kernel
theorem dX12_sharesIt_58 : decode cX12_sharesIt 58 = .ok (.getfield 378, 3) := by decide +kernel
theorem dX12_sharesIt_61 : decode cX12_sharesIt 61 = .ok (.invokevirtual 372, 3) := by decide +kernel
theorem dX12_sharesIt_64 : decode cX12_sharesIt 64 = .ok (.iadd, 1) := by decide +kernel
theorem dX12_sharesIt_65 : decode cX12_sharesIt 65 = .ok (.ireturn, 1) := by decide +kernel
theorem dX12_sharesIt_66 : decode cX12_sharesIt 66 = .ok (.aload_n 0, 1) := by decide +kernel
theorem dX12_sharesIt_67 : decode cX12_sharesIt 67 = .ok (.iload_n 1, 1) := by decide +kernel
theorem dX12_sharesIt_68 : decode cX12_sharesIt 68 = .ok (.invokevirtual 384, 3) := by decide +kernel
theorem dX12_sharesIt_71 : decode cX12_sharesIt 71 = .ok (.ireturn, 1) := by decide +kernel
theorem dX12_plainTells_0 : decode cX12_plainTells 0 = .ok (.aload_n 0, 1) := by decide +kernel
theorem dX12_plainTells_1 : decode cX12_plainTells 1 = .ok (.bipush 13, 2) := by decide +kernel
theorem dX12_plainTells_3 : decode cX12_plainTells 3 = .ok (.invokevirtual 360, 3) := by decide +kernel
theorem dX12_plainTells_6 : decode cX12_plainTells 6 = .ok (.aload_n 0, 1) := by decide +kernel
theorem dX12_plainTells_7 : decode cX12_plainTells 7 = .ok (.iload_n 1, 1) := by decide +kernel
theorem dX12_plainTells_8 : decode cX12_plainTells 8 = .ok (.invokevirtual 387, 3) := by decide +kernel
theorem dX12_plainTells_11 : decode cX12_plainTells 11 = .ok (.aload_n 0, 1) := by decide +kernel
theorem dX12_plainTells_12 : decode cX12_plainTells 12 = .ok (.getfield 378, 3) := by decide +kernel
theorem dX12_plainTells_15 : decode cX12_plainTells 15 = .ok (.ixor, 1) := by decide +kernel
theorem dX12_plainTells_16 : decode cX12_plainTells 16 = .ok (.ireturn, 1) := by decide +kernel
theorem dX12_tellsIt_0 : decode cX12_tellsIt 0 = .ok (.aload_n 0, 1) := by decide +kernel
theorem dX12_tellsIt_1 : decode cX12_tellsIt 1 = .ok (.getfield 366, 3) := by decide +kernel
theorem dX12_tellsIt_4 : decode cX12_tellsIt 4 = .ok (.iconst 2, 1) := by decide +kernel
theorem dX12_tellsIt_5 : decode cX12_tellsIt 5 = .ok (.if_icmp .ne 26, 3) := by decide +kernel
theorem dX12_tellsIt_8 : decode cX12_tellsIt 8 = .ok (.aload_n 0, 1) := by decide +kernel
theorem dX12_tellsIt_9 : decode cX12_tellsIt 9 = .ok (.bipush 31, 2) := by decide +kernel
theorem dX12_tellsIt_11 : decode cX12_tellsIt 11 = .ok (.invokevirtual 360, 3) := by decide +kernel
theorem dX12_tellsIt_14 : decode cX12_tellsIt 14 = .ok (.aload_n 0, 1) := by decide +kernel
theorem dX12_tellsIt_15 : decode cX12_tellsIt 15 = .ok (.iload_n 1, 1) := by decide +kernel
theorem dX12_tellsIt_16 : decode cX12_tellsIt 16 = .ok (.invokevirtual 390, 3) := by decide +kernel
theorem dX12_tellsIt_19 : decode cX12_tellsIt 19 = .ok (.istore_n 2, 1) := by decide +kernel
theorem dX12_tellsIt_20 : decode cX12_tellsIt 20 = .ok (.iload_n 2, 1) := by decide +kernel
theorem dX12_tellsIt_21 : decode cX12_tellsIt 21 = .ok (.aload_n 0, 1) := by decide +kernel
theorem dX12_tellsIt_22 : decode cX12_tellsIt 22 = .ok (.aload_n 0, 1) := by decide +kernel
theorem dX12_tellsIt_23 : decode cX12_tellsIt 23 = .ok (.getfield 363, 3) := by decide +kernel
theorem dX12_tellsIt_26 : decode cX12_tellsIt 26 = .ok (.invokevirtual 393, 3) := by decide +kernel
theorem dX12_tellsIt_29 : decode cX12_tellsIt 29 = .ok (.iadd, 1) := by decide +kernel
theorem dX12_tellsIt_30 : decode cX12_tellsIt 30 = .ok (.ireturn, 1) := by decide +kernel
theorem dX12_tellsIt_31 : decode cX12_tellsIt 31 = .ok (.aload_n 0, 1) := by decide +kernel
theorem dX12_tellsIt_32 : decode cX12_tellsIt 32 = .ok (.getfield 366, 3) := by decide +kernel
theorem dX12_tellsIt_35 : decode cX12_tellsIt 35 = .ok (.iconst 5, 1) := by decide +kernel
theorem dX12_tellsIt_36 : decode cX12_tellsIt 36 = .ok (.if_icmp .ne 17, 3) := by decide +kernel
theorem dX12_tellsIt_39 : decode cX12_tellsIt 39 = .ok (.aload_n 0, 1) := by decide +kernel
theorem dX12_tellsIt_40 : decode cX12_tellsIt 40 = .ok (.bipush 60, 2) := by decide +kernel
theorem dX12_tellsIt_42 : decode cX12_tellsIt 42 = .ok (.invokevirtual 360, 3) := by decide +kernel
theorem dX12_tellsIt_45 : decode cX12_tellsIt 45 = .ok (.aload_n 0, 1) := by decide +kernel
theorem dX12_tellsIt_46 : decode cX12_tellsIt 46 = .ok (.iload_n 1, 1) := by decide +kernel
theorem dX12_tellsIt_47 : decode cX12_tellsIt 47 = .ok (.invokevirtual 390, 3) := by decide +kernel
theorem dX12_tellsIt_50 : decode cX12_tellsIt 50 = .ok (.iconst 2, 1) := by decide +kernel
theorem dX12_tellsIt_51 : decode cX12_tellsIt 51 = .ok (.imul, 1) := by decide +kernel
theorem dX12_tellsIt_52 : decode cX12_tellsIt 52 = .ok (.ireturn, 1) := by decide +kernel
theorem dX12_tellsIt_53 : decode cX12_tellsIt 53 = .ok (.aload_n 0, 1) := by decide +kernel
theorem dX12_tellsIt_54 : decode cX12_tellsIt 54 = .ok (.iload_n 1, 1) := by decide +kernel
theorem dX12_tellsIt_55 : decode cX12_tellsIt 55 = .ok (.invokevirtual 390, 3) := by decide +kernel
theorem dX12_tellsIt_58 : decode cX12_tellsIt 58 = .ok (.ireturn, 1) := by decide +kernel
theorem dX12_act_0 : decode cX12_act 0 = .ok (.aload_n 0, 1) := by decide +kernel
theorem dX12_act_1 : decode cX12_act 1 = .ok (.iconst 0, 1) := by decide +kernel
theorem dX12_act_2 : decode cX12_act 2 = .ok (.putfield 357, 3) := by decide +kernel
theorem dX12_act_5 : decode cX12_act 5 = .ok (.iload_n 1, 1) := by decide +kernel
theorem dX12_act_6 : decode cX12_act 6 = .ok (.invokestatic 328, 3) := by decide +kernel
theorem dX12_act_9 : decode cX12_act 9 = .ok (.ifCond .eq 11, 3) := by decide +kernel
theorem dX12_act_12 : decode cX12_act 12 = .ok (.aload_n 0, 1) := by decide +kernel
theorem dX12_act_13 : decode cX12_act 13 = .ok (.iload_n 1, 1) := by decide +kernel
theorem dX12_act_14 : decode cX12_act 14 = .ok (.invokevirtual 351, 3) := by decide +kernel
theorem dX12_act_17 : decode cX12_act 17 = .ok (.goto 4, 3) := by decide +kernel
theorem dX12_act_20 : decode cX12_act 20 = .ok (.iconst (-1), 1) := by decide +kernel
theorem dX12_act_21 : decode cX12_act 21 = .ok (.istore 4, 2) := by decide +kernel
theorem dX12_act_23 : decode cX12_act 23 = .ok (.iload_n 2, 1) := by decide +kernel
theorem dX12_act_24 : decode cX12_act 24 = .ok (.iconst 0, 1) := by decide +kernel
theorem dX12_act_25 : decode cX12_act 25 = .ok (.iconst 3, 1) := by decide +kernel
theorem dX12_act_26 : decode cX12_act 26 = .ok (.invokestatic 84, 3) := by decide +kernel
theorem dX12_act_29 : decode cX12_act 29 = .ok (.ifCond .eq 13, 3) := by decide +kernel
theorem dX12_act_32 : decode cX12_act 32 = .ok (.iload 4, 2) := by decide +kernel
theorem dX12_act_34 : decode cX12_act 34 = .ok (.iconst 0, 1) := by decide +kernel
theorem dX12_act_35 : decode cX12_act 35 = .ok (.iconst 5, 1) := by decide +kernel
theorem dX12_act_36 : decode cX12_act 36 = .ok (.invokestatic 84, 3) := by decide +kernel
theorem dX12_act_39 : decode cX12_act 39 = .ok (.ifCond .ne 5, 3) := by decide +kernel
theorem dX12_act_42 : decode cX12_act 42 = .ok (.iconst 0, 1) := by decide +kernel
theorem dX12_act_43 : decode cX12_act 43 = .ok (.ireturn, 1) := by decide +kernel
theorem dX12_act_44 : decode cX12_act 44 = .ok (.aload_n 0, 1) := by decide +kernel
theorem dX12_act_45 : decode cX12_act 45 = .ok (.iload 4, 2) := by decide +kernel
theorem dX12_act_47 : decode cX12_act 47 = .ok (.putfield 366, 3) := by decide +kernel
theorem dX12_act_50 : decode cX12_act 50 = .ok (.aload_n 0, 1) := by decide +kernel
theorem dX12_act_51 : decode cX12_act 51 = .ok (.aload_n 0, 1) := by decide +kernel
theorem dX12_act_52 : decode cX12_act 52 = .ok (.getfield 66, 3) := by decide +kernel
theorem dX12_act_55 : decode cX12_act 55 = .ok (.iload_n 1, 1) := by decide +kernel
theorem dX12_act_56 : decode cX12_act 56 = .ok (.iaload, 1) := by decide +kernel
theorem dX12_act_57 : decode cX12_act 57 = .ok (.putfield 363, 3) := by decide +kernel
theorem dX12_act_60 : decode cX12_act 60 = .ok (.aload_n 0, 1) := by decide +kernel
theorem dX12_act_61 : decode cX12_act 61 = .ok (.aload_n 0, 1) := by decide +kernel
theorem dX12_act_62 : decode cX12_act 62 = .ok (.aload_n 0, 1) := by decide +kernel
theorem dX12_act_63 : decode cX12_act 63 = .ok (.getfield 363, 3) := by decide +kernel
theorem dX12_act_66 : decode cX12_act 66 = .ok (.iconst 1, 1) := by decide +kernel
theorem dX12_act_67 : decode cX12_act 67 = .ok (.invokevirtual 208, 3) := by decide +kernel
theorem dX12_act_70 : decode cX12_act 70 = .ok (.putfield 378, 3) := by decide +kernel
theorem dX12_act_73 : decode cX12_act 73 = .ok (.aload_n 0, 1) := by decide +kernel
theorem dX12_act_74 : decode cX12_act 74 = .ok (.iconst 0, 1) := by decide +kernel
theorem dX12_act_75 : decode cX12_act 75 = .ok (.putfield 381, 3) := by decide +kernel
theorem dX12_act_78 : decode cX12_act 78 = .ok (.iload_n 2, 1) := by decide +kernel
theorem dX12_act_79 : decode cX12_act 79 = .ok (.ifCond .ne 11, 3) := by decide +kernel
theorem dX12_act_82 : decode cX12_act 82 = .ok (.aload_n 0, 1) := by decide +kernel
theorem dX12_act_83 : decode cX12_act 83 = .ok (.iload_n 3, 1) := by decide +kernel
theorem dX12_act_84 : decode cX12_act 84 = .ok (.invokevirtual 372, 3) := by decide +kernel
theorem dX12_act_87 : decode cX12_act 87 = .ok (.goto 34, 3) := by decide +kernel
theorem dX12_act_90 : decode cX12_act 90 = .ok (.iload_n 2, 1) := by decide +kernel
theorem dX12_act_91 : decode cX12_act 91 = .ok (.iconst 1, 1) := by decide +kernel
theorem dX12_act_92 : decode cX12_act 92 = .ok (.if_icmp .ne 11, 3) := by decide +kernel
theorem dX12_act_95 : decode cX12_act 95 = .ok (.aload_n 0, 1) := by decide +kernel
theorem dX12_act_96 : decode cX12_act 96 = .ok (.iload_n 3, 1) := by decide +kernel
theorem dX12_act_97 : decode cX12_act 97 = .ok (.invokevirtual 387, 3) := by decide +kernel
theorem dX12_act_100 : decode cX12_act 100 = .ok (.goto 21, 3) := by decide +kernel
theorem dX12_act_103 : decode cX12_act 103 = .ok (.iload_n 2, 1) := by decide +kernel
theorem dX12_act_104 : decode cX12_act 104 = .ok (.iconst 2, 1) := by decide +kernel
theorem dX12_act_105 : decode cX12_act 105 = .ok (.if_icmp .ne 11, 3) := by decide +kernel
theorem dX12_act_108 : decode cX12_act 108 = .ok (.aload_n 0, 1) := by decide +kernel
theorem dX12_act_109 : decode cX12_act 109 = .ok (.iload_n 3, 1) := by decide +kernel
theorem dX12_act_110 : decode cX12_act 110 = .ok (.invokevirtual 393, 3) := by decide +kernel
theorem dX12_act_113 : decode cX12_act 113 = .ok (.goto 8, 3) := by decide +kernel
theorem dX12_act_116 : decode cX12_act 116 = .ok (.aload_n 0, 1) := by decide +kernel
theorem dX12_act_117 : decode cX12_act 117 = .ok (.iload_n 3, 1) := by decide +kernel
theorem dX12_act_118 : decode cX12_act 118 = .ok (.invokevirtual 396, 3) := by decide +kernel
theorem dX12_act_121 : decode cX12_act 121 = .ok (.istore 5, 2) := by decide +kernel
theorem dX12_act_123 : decode cX12_act 123 = .ok (.aload_n 0, 1) := by decide +kernel
theorem dX12_act_124 : decode cX12_act 124 = .ok (.getfield 381, 3) := by decide +kernel
theorem dX12_act_127 : decode cX12_act 127 = .ok (.ifCond .eq 8, 3) := by decide +kernel
theorem dX12_act_130 : decode cX12_act 130 = .ok (.bipush (-15), 2) := by decide +kernel
theorem dX12_act_132 : decode cX12_act 132 = .ok (.goto 5, 3) := by decide +kernel
theorem dX12_act_135 : decode cX12_act 135 = .ok (.iload 5, 2) := by decide +kernel
theorem dX12_act_137 : decode cX12_act 137 = .ok (.ireturn, 1) := by decide +kernel
theorem dX12_trace_0 : decode cX12_trace 0 = .ok (.iload_n 1, 1) := by decide +kernel
theorem dX12_trace_1 : decode cX12_trace 1 = .ok (.iconst 0, 1) := by decide +kernel
theorem dX12_trace_2 : decode cX12_trace 2 = .ok (.aload_n 0, 1) := by decide +kernel
theorem dX12_trace_3 : decode cX12_trace 3 = .ok (.getfield 357, 3) := by decide +kernel
theorem dX12_trace_6 : decode cX12_trace 6 = .ok (.iconst 1, 1) := by decide +kernel
theorem dX12_trace_7 : decode cX12_trace 7 = .ok (.isub, 1) := by decide +kernel
theorem dX12_trace_8 : decode cX12_trace 8 = .ok (.invokestatic 84, 3) := by decide +kernel
theorem dX12_trace_11 : decode cX12_trace 11 = .ok (.ifCond .eq 12, 3) := by decide +kernel
theorem dX12_trace_14 : decode cX12_trace 14 = .ok (.aload_n 0, 1) := by decide +kernel
theorem dX12_trace_15 : decode cX12_trace 15 = .ok (.getfield 72, 3) := by decide +kernel
theorem dX12_trace_18 : decode cX12_trace 18 = .ok (.iload_n 1, 1) := by decide +kernel
theorem dX12_trace_19 : decode cX12_trace 19 = .ok (.iaload, 1) := by decide +kernel
theorem dX12_trace_20 : decode cX12_trace 20 = .ok (.goto 5, 3) := by decide +kernel
theorem dX12_trace_23 : decode cX12_trace 23 = .ok (.bipush (-3), 2) := by decide +kernel
theorem dX12_trace_25 : decode cX12_trace 25 = .ok (.ireturn, 1) := by decide +kernel
theorem dX12_many_0 : decode cX12_many 0 = .ok (.iload_n 1, 1) := by decide +kernel
theorem dX12_many_1 : decode cX12_many 1 = .ok (.tableswitch 60 0 4 #[35, 40, 45, 50, 55], 35) := by decide +kernel
theorem dX12_many_36 : decode cX12_many 36 = .ok (.aload_n 0, 1) := by decide +kernel
theorem dX12_many_37 : decode cX12_many 37 = .ok (.getfield 81, 3) := by decide +kernel
theorem dX12_many_40 : decode cX12_many 40 = .ok (.ireturn, 1) := by decide +kernel
theorem dX12_many_41 : decode cX12_many 41 = .ok (.aload_n 0, 1) := by decide +kernel
theorem dX12_many_42 : decode cX12_many 42 = .ok (.getfield 198, 3) := by decide +kernel
theorem dX12_many_45 : decode cX12_many 45 = .ok (.ireturn, 1) := by decide +kernel
theorem dX12_many_46 : decode cX12_many 46 = .ok (.aload_n 0, 1) := by decide +kernel
theorem dX12_many_47 : decode cX12_many 47 = .ok (.getfield 88, 3) := by decide +kernel
theorem dX12_many_50 : decode cX12_many 50 = .ok (.ireturn, 1) := by decide +kernel
theorem dX12_many_51 : decode cX12_many 51 = .ok (.aload_n 0, 1) := by decide +kernel
theorem dX12_many_52 : decode cX12_many 52 = .ok (.getfield 357, 3) := by decide +kernel
theorem dX12_many_55 : decode cX12_many 55 = .ok (.ireturn, 1) := by decide +kernel
theorem dX12_many_56 : decode cX12_many 56 = .ok (.aload_n 0, 1) := by decide +kernel
theorem dX12_many_57 : decode cX12_many 57 = .ok (.invokevirtual 214, 3) := by decide +kernel
theorem dX12_many_60 : decode cX12_many 60 = .ok (.ireturn, 1) := by decide +kernel
theorem dX12_many_61 : decode cX12_many 61 = .ok (.iconst (-1), 1) := by decide +kernel
theorem dX12_many_62 : decode cX12_many 62 = .ok (.ireturn, 1) := by decide +kernel
theorem dX12_move_0 : decode cX12_move 0 = .ok (.iconst 0, 1) := by decide +kernel
theorem dX12_move_1 : decode cX12_move 1 = .ok (.istore 4, 2) := by decide +kernel
theorem dX12_move_3 : decode cX12_move 3 = .ok (.iload 4, 2) := by decide +kernel
theorem dX12_move_5 : decode cX12_move 5 = .ok (.iload_n 2, 1) := by decide +kernel
theorem dX12_move_6 : decode cX12_move 6 = .ok (.if_icmp .ge 52, 3) := by decide +kernel
theorem dX12_move_9 : decode cX12_move 9 = .ok (.iload_n 3, 1) := by decide +kernel
theorem dX12_move_10 : decode cX12_move 10 = .ok (.ifCond .eq 19, 3) := by decide +kernel
theorem dX12_move_13 : decode cX12_move 13 = .ok (.aload_n 0, 1) := by decide +kernel
theorem dX12_move_14 : decode cX12_move 14 = .ok (.getfield 75, 3) := by decide +kernel
theorem dX12_move_17 : decode cX12_move 17 = .ok (.aload_n 0, 1) := by decide +kernel
theorem dX12_move_18 : decode cX12_move 18 = .ok (.getfield 399, 3) := by decide +kernel
theorem dX12_move_21 : decode cX12_move 21 = .ok (.aload_n 1, 1) := by decide +kernel
theorem dX12_move_22 : decode cX12_move 22 = .ok (.iload 4, 2) := by decide +kernel
theorem dX12_move_24 : decode cX12_move 24 = .ok (.iaload, 1) := by decide +kernel
theorem dX12_move_25 : decode cX12_move 25 = .ok (.iastore, 1) := by decide +kernel
theorem dX12_move_26 : decode cX12_move 26 = .ok (.goto 16, 3) := by decide +kernel
theorem dX12_move_29 : decode cX12_move 29 = .ok (.aload_n 1, 1) := by decide +kernel
theorem dX12_move_30 : decode cX12_move 30 = .ok (.iload 4, 2) := by decide +kernel
theorem dX12_move_32 : decode cX12_move 32 = .ok (.aload_n 0, 1) := by decide +kernel
theorem dX12_move_33 : decode cX12_move 33 = .ok (.getfield 75, 3) := by decide +kernel
theorem dX12_move_36 : decode cX12_move 36 = .ok (.aload_n 0, 1) := by decide +kernel
theorem dX12_move_37 : decode cX12_move 37 = .ok (.getfield 399, 3) := by decide +kernel
theorem dX12_move_40 : decode cX12_move 40 = .ok (.iaload, 1) := by decide +kernel
theorem dX12_move_41 : decode cX12_move 41 = .ok (.iastore, 1) := by decide +kernel
theorem dX12_move_42 : decode cX12_move 42 = .ok (.aload_n 0, 1) := by decide +kernel
theorem dX12_move_43 : decode cX12_move 43 = .ok (.dup, 1) := by decide +kernel
theorem dX12_move_44 : decode cX12_move 44 = .ok (.getfield 399, 3) := by decide +kernel
theorem dX12_move_47 : decode cX12_move 47 = .ok (.iconst 1, 1) := by decide +kernel
theorem dX12_move_48 : decode cX12_move 48 = .ok (.iadd, 1) := by decide +kernel
theorem dX12_move_49 : decode cX12_move 49 = .ok (.putfield 399, 3) := by decide +kernel
theorem dX12_move_52 : decode cX12_move 52 = .ok (.iinc 4 1, 3) := by decide +kernel
theorem dX12_move_55 : decode cX12_move 55 = .ok (.goto (-52), 3) := by decide +kernel
theorem dX12_move_58 : decode cX12_move 58 = .ok (.return_, 1) := by decide +kernel
theorem dX12_moveAll_0 : decode cX12_moveAll 0 = .ok (.aload_n 0, 1) := by decide +kernel
theorem dX12_moveAll_1 : decode cX12_moveAll 1 = .ok (.iconst 0, 1) := by decide +kernel
theorem dX12_moveAll_2 : decode cX12_moveAll 2 = .ok (.putfield 399, 3) := by decide +kernel
theorem dX12_moveAll_5 : decode cX12_moveAll 5 = .ok (.aload_n 0, 1) := by decide +kernel
theorem dX12_moveAll_6 : decode cX12_moveAll 6 = .ok (.getfield 78, 3) := by decide +kernel
theorem dX12_moveAll_9 : decode cX12_moveAll 9 = .ok (.iconst 0, 1) := by decide +kernel
theorem dX12_moveAll_10 : decode cX12_moveAll 10 = .ok (.aload_n 0, 1) := by decide +kernel
theorem dX12_moveAll_11 : decode cX12_moveAll 11 = .ok (.getfield 81, 3) := by decide +kernel
theorem dX12_moveAll_14 : decode cX12_moveAll 14 = .ok (.iastore, 1) := by decide +kernel
theorem dX12_moveAll_15 : decode cX12_moveAll 15 = .ok (.aload_n 0, 1) := by decide +kernel
theorem dX12_moveAll_16 : decode cX12_moveAll 16 = .ok (.getfield 78, 3) := by decide +kernel
theorem dX12_moveAll_19 : decode cX12_moveAll 19 = .ok (.iconst 1, 1) := by decide +kernel
theorem dX12_moveAll_20 : decode cX12_moveAll 20 = .ok (.aload_n 0, 1) := by decide +kernel
theorem dX12_moveAll_21 : decode cX12_moveAll 21 = .ok (.getfield 22, 3) := by decide +kernel
theorem dX12_moveAll_24 : decode cX12_moveAll 24 = .ok (.iastore, 1) := by decide +kernel
theorem dX12_moveAll_25 : decode cX12_moveAll 25 = .ok (.aload_n 0, 1) := by decide +kernel
theorem dX12_moveAll_26 : decode cX12_moveAll 26 = .ok (.aload_n 0, 1) := by decide +kernel
theorem dX12_moveAll_27 : decode cX12_moveAll 27 = .ok (.getfield 78, 3) := by decide +kernel
theorem dX12_moveAll_30 : decode cX12_moveAll 30 = .ok (.iconst 2, 1) := by decide +kernel
theorem dX12_moveAll_31 : decode cX12_moveAll 31 = .ok (.iload_n 1, 1) := by decide +kernel
theorem dX12_moveAll_32 : decode cX12_moveAll 32 = .ok (.invokevirtual 402, 3) := by decide +kernel
theorem dX12_moveAll_35 : decode cX12_moveAll 35 = .ok (.aload_n 0, 1) := by decide +kernel
theorem dX12_moveAll_36 : decode cX12_moveAll 36 = .ok (.aload_n 0, 1) := by decide +kernel
theorem dX12_moveAll_37 : decode cX12_moveAll 37 = .ok (.getfield 7, 3) := by decide +kernel
theorem dX12_moveAll_40 : decode cX12_moveAll 40 = .ok (.bipush 24, 2) := by decide +kernel
theorem dX12_moveAll_42 : decode cX12_moveAll 42 = .ok (.iload_n 1, 1) := by decide +kernel
theorem dX12_moveAll_43 : decode cX12_moveAll 43 = .ok (.invokevirtual 402, 3) := by decide +kernel
theorem dX12_moveAll_46 : decode cX12_moveAll 46 = .ok (.aload_n 0, 1) := by decide +kernel
theorem dX12_moveAll_47 : decode cX12_moveAll 47 = .ok (.aload_n 0, 1) := by decide +kernel
theorem dX12_moveAll_48 : decode cX12_moveAll 48 = .ok (.getfield 13, 3) := by decide +kernel
theorem dX12_moveAll_51 : decode cX12_moveAll 51 = .ok (.bipush 6, 2) := by decide +kernel
theorem dX12_moveAll_53 : decode cX12_moveAll 53 = .ok (.iload_n 1, 1) := by decide +kernel
theorem dX12_moveAll_54 : decode cX12_moveAll 54 = .ok (.invokevirtual 402, 3) := by decide +kernel
theorem dX12_moveAll_57 : decode cX12_moveAll 57 = .ok (.aload_n 0, 1) := by decide +kernel
theorem dX12_moveAll_58 : decode cX12_moveAll 58 = .ok (.aload_n 0, 1) := by decide +kernel
theorem dX12_moveAll_59 : decode cX12_moveAll 59 = .ok (.getfield 16, 3) := by decide +kernel
theorem dX12_moveAll_62 : decode cX12_moveAll 62 = .ok (.iconst 5, 1) := by decide +kernel
theorem dX12_moveAll_63 : decode cX12_moveAll 63 = .ok (.iload_n 1, 1) := by decide +kernel
theorem dX12_moveAll_64 : decode cX12_moveAll 64 = .ok (.invokevirtual 402, 3) := by decide +kernel
theorem dX12_moveAll_67 : decode cX12_moveAll 67 = .ok (.aload_n 0, 1) := by decide +kernel
theorem dX12_moveAll_68 : decode cX12_moveAll 68 = .ok (.aload_n 0, 1) := by decide +kernel
theorem dX12_moveAll_69 : decode cX12_moveAll 69 = .ok (.getfield 26, 3) := by decide +kernel
theorem dX12_moveAll_72 : decode cX12_moveAll 72 = .ok (.bipush 8, 2) := by decide +kernel
theorem dX12_moveAll_74 : decode cX12_moveAll 74 = .ok (.iload_n 1, 1) := by decide +kernel
theorem dX12_moveAll_75 : decode cX12_moveAll 75 = .ok (.invokevirtual 402, 3) := by decide +kernel
theorem dX12_moveAll_78 : decode cX12_moveAll 78 = .ok (.return_, 1) := by decide +kernel
theorem dX12_keep_0 : decode cX12_keep 0 = .ok (.aload_n 0, 1) := by decide +kernel
theorem dX12_keep_1 : decode cX12_keep 1 = .ok (.iconst 1, 1) := by decide +kernel
theorem dX12_keep_2 : decode cX12_keep 2 = .ok (.invokevirtual 406, 3) := by decide +kernel
theorem dX12_keep_5 : decode cX12_keep 5 = .ok (.aload_n 0, 1) := by decide +kernel
theorem dX12_keep_6 : decode cX12_keep 6 = .ok (.iconst 1, 1) := by decide +kernel
theorem dX12_keep_7 : decode cX12_keep 7 = .ok (.putfield 410, 3) := by decide +kernel
theorem dX12_keep_10 : decode cX12_keep 10 = .ok (.iconst 1, 1) := by decide +kernel
theorem dX12_keep_11 : decode cX12_keep 11 = .ok (.ireturn, 1) := by decide +kernel
theorem dX12_again_0 : decode cX12_again 0 = .ok (.aload_n 0, 1) := by decide +kernel
theorem dX12_again_1 : decode cX12_again 1 = .ok (.getfield 410, 3) := by decide +kernel
theorem dX12_again_4 : decode cX12_again 4 = .ok (.ifCond .ne 6, 3) := by decide +kernel
theorem dX12_again_7 : decode cX12_again 7 = .ok (.bipush (-3), 2) := by decide +kernel
theorem dX12_again_9 : decode cX12_again 9 = .ok (.ireturn, 1) := by decide +kernel
theorem dX12_again_10 : decode cX12_again 10 = .ok (.aload_n 0, 1) := by decide +kernel
theorem dX12_again_11 : decode cX12_again 11 = .ok (.iconst 0, 1) := by decide +kernel
theorem dX12_again_12 : decode cX12_again 12 = .ok (.invokevirtual 406, 3) := by decide +kernel
theorem dX12_again_15 : decode cX12_again 15 = .ok (.aload_n 0, 1) := by decide +kernel
theorem dX12_again_16 : decode cX12_again 16 = .ok (.aload_n 0, 1) := by decide +kernel
theorem dX12_again_17 : decode cX12_again 17 = .ok (.getfield 78, 3) := by decide +kernel
theorem dX12_again_20 : decode cX12_again 20 = .ok (.iconst 0, 1) := by decide +kernel
theorem dX12_again_21 : decode cX12_again 21 = .ok (.iaload, 1) := by decide +kernel
theorem dX12_again_22 : decode cX12_again 22 = .ok (.putfield 81, 3) := by decide +kernel
theorem dX12_again_25 : decode cX12_again 25 = .ok (.aload_n 0, 1) := by decide +kernel
theorem dX12_again_26 : decode cX12_again 26 = .ok (.aload_n 0, 1) := by decide +kernel
theorem dX12_again_27 : decode cX12_again 27 = .ok (.getfield 78, 3) := by decide +kernel
theorem dX12_again_30 : decode cX12_again 30 = .ok (.iconst 1, 1) := by decide +kernel
theorem dX12_again_31 : decode cX12_again 31 = .ok (.iaload, 1) := by decide +kernel
theorem dX12_again_32 : decode cX12_again 32 = .ok (.putfield 22, 3) := by decide +kernel
theorem dX12_again_35 : decode cX12_again 35 = .ok (.aload_n 0, 1) := by decide +kernel
theorem dX12_again_36 : decode cX12_again 36 = .ok (.getfield 81, 3) := by decide +kernel
theorem dX12_again_39 : decode cX12_again 39 = .ok (.ireturn, 1) := by decide +kernel
