theorem dX0_init_0 : decode cX0_init 0 = .ok (.aload_n 0, 1) := by decide +kernel
theorem dX0_init_1 : decode cX0_init 1 = .ok (.invokespecial 3, 3) := by decide +kernel
theorem dX0_init_4 : decode cX0_init 4 = .ok (.aload_n 0, 1) := by decide +kernel
theorem dX0_init_5 : decode cX0_init 5 = .ok (.iload_n 1, 1) := by decide +kernel
theorem dX0_init_6 : decode cX0_init 6 = .ok (.putfield 9, 3) := by decide +kernel
theorem dX0_init_9 : decode cX0_init 9 = .ok (.aload_n 0, 1) := by decide +kernel
theorem dX0_init_10 : decode cX0_init 10 = .ok (.iload_n 2, 1) := by decide +kernel
theorem dX0_init_11 : decode cX0_init 11 = .ok (.putfield 15, 3) := by decide +kernel
theorem dX0_init_14 : decode cX0_init 14 = .ok (.aload_n 0, 1) := by decide +kernel
theorem dX0_init_15 : decode cX0_init 15 = .ok (.iload_n 3, 1) := by decide +kernel
theorem dX0_init_16 : decode cX0_init 16 = .ok (.putfield 18, 3) := by decide +kernel
theorem dX0_init_19 : decode cX0_init 19 = .ok (.aload_n 0, 1) := by decide +kernel
theorem dX0_init_20 : decode cX0_init 20 = .ok (.iload 4, 2) := by decide +kernel
theorem dX0_init_22 : decode cX0_init 22 = .ok (.putfield 21, 3) := by decide +kernel
theorem dX0_init_25 : decode cX0_init 25 = .ok (.return_, 1) := by decide +kernel
theorem dX0_kind_0 : decode cX0_kind 0 = .ok (.iconst 0, 1) := by decide +kernel
theorem dX0_kind_1 : decode cX0_kind 1 = .ok (.ireturn, 1) := by decide +kernel
theorem dX0_downTold_0 : decode cX0_downTold 0 = .ok (.iload_n 1, 1) := by decide +kernel
theorem dX0_downTold_1 : decode cX0_downTold 1 = .ok (.ireturn, 1) := by decide +kernel
theorem dX0_turnTold_0 : decode cX0_turnTold 0 = .ok (.aload_n 0, 1) := by decide +kernel
theorem dX0_turnTold_1 : decode cX0_turnTold 1 = .ok (.getfield 18, 3) := by decide +kernel
theorem dX0_turnTold_4 : decode cX0_turnTold 4 = .ok (.ifCond .le 15, 3) := by decide +kernel
theorem dX0_turnTold_7 : decode cX0_turnTold 7 = .ok (.aload_n 0, 1) := by decide +kernel
theorem dX0_turnTold_8 : decode cX0_turnTold 8 = .ok (.getfield 21, 3) := by decide +kernel
theorem dX0_turnTold_11 : decode cX0_turnTold 11 = .ok (.aload_n 0, 1) := by decide +kernel
theorem dX0_turnTold_12 : decode cX0_turnTold 12 = .ok (.getfield 18, 3) := by decide +kernel
theorem dX0_turnTold_15 : decode cX0_turnTold 15 = .ok (.idiv, 1) := by decide +kernel
theorem dX0_turnTold_16 : decode cX0_turnTold 16 = .ok (.goto 4, 3) := by decide +kernel
theorem dX0_turnTold_19 : decode cX0_turnTold 19 = .ok (.iconst 0, 1) := by decide +kernel
theorem dX0_turnTold_20 : decode cX0_turnTold 20 = .ok (.istore 4, 2) := by decide +kernel
theorem dX0_turnTold_22 : decode cX0_turnTold 22 = .ok (.aload_n 1, 1) := by decide +kernel
theorem dX0_turnTold_23 : decode cX0_turnTold 23 = .ok (.getfield 24, 3) := by decide +kernel
theorem dX0_turnTold_26 : decode cX0_turnTold 26 = .ok (.aload_n 1, 1) := by decide +kernel
theorem dX0_turnTold_27 : decode cX0_turnTold 27 = .ok (.getfield 29, 3) := by decide +kernel
theorem dX0_turnTold_30 : decode cX0_turnTold 30 = .ok (.iload_n 2, 1) := by decide +kernel
theorem dX0_turnTold_31 : decode cX0_turnTold 31 = .ok (.imul, 1) := by decide +kernel
theorem dX0_turnTold_32 : decode cX0_turnTold 32 = .ok (.sipush 1000, 3) := by decide +kernel
theorem dX0_turnTold_35 : decode cX0_turnTold 35 = .ok (.idiv, 1) := by decide +kernel
theorem dX0_turnTold_36 : decode cX0_turnTold 36 = .ok (.aload_n 3, 1) := by decide +kernel
theorem dX0_turnTold_37 : decode cX0_turnTold 37 = .ok (.iconst 3, 1) := by decide +kernel
theorem dX0_turnTold_38 : decode cX0_turnTold 38 = .ok (.iaload, 1) := by decide +kernel
theorem dX0_turnTold_39 : decode cX0_turnTold 39 = .ok (.imul, 1) := by decide +kernel
theorem dX0_turnTold_40 : decode cX0_turnTold 40 = .ok (.sipush 1024, 3) := by decide +kernel
theorem dX0_turnTold_43 : decode cX0_turnTold 43 = .ok (.idiv, 1) := by decide +kernel
theorem dX0_turnTold_44 : decode cX0_turnTold 44 = .ok (.iadd, 1) := by decide +kernel
theorem dX0_turnTold_45 : decode cX0_turnTold 45 = .ok (.aload_n 1, 1) := by decide +kernel
theorem dX0_turnTold_46 : decode cX0_turnTold 46 = .ok (.getfield 24, 3) := by decide +kernel
theorem dX0_turnTold_49 : decode cX0_turnTold 49 = .ok (.aload_n 3, 1) := by decide +kernel
theorem dX0_turnTold_50 : decode cX0_turnTold 50 = .ok (.iconst 4, 1) := by decide +kernel
theorem dX0_turnTold_51 : decode cX0_turnTold 51 = .ok (.iaload, 1) := by decide +kernel
theorem dX0_turnTold_52 : decode cX0_turnTold 52 = .ok (.imul, 1) := by decide +kernel
theorem dX0_turnTold_53 : decode cX0_turnTold 53 = .ok (.bipush 64, 2) := by decide +kernel
theorem dX0_turnTold_55 : decode cX0_turnTold 55 = .ok (.idiv, 1) := by decide +kernel
theorem dX0_turnTold_56 : decode cX0_turnTold 56 = .ok (.isub, 1) := by decide +kernel
theorem dX0_turnTold_57 : decode cX0_turnTold 57 = .ok (.iload 4, 2) := by decide +kernel
theorem dX0_turnTold_59 : decode cX0_turnTold 59 = .ok (.iadd, 1) := by decide +kernel
theorem dX0_turnTold_60 : decode cX0_turnTold 60 = .ok (.ireturn, 1) := by decide +kernel
theorem dX0_falls_0 : decode cX0_falls 0 = .ok (.aload_n 2, 1) := by decide +kernel
theorem dX0_falls_1 : decode cX0_falls 1 = .ok (.bipush 10, 2) := by decide +kernel
theorem dX0_falls_3 : decode cX0_falls 3 = .ok (.invokevirtual 32, 3) := by decide +kernel
theorem dX0_falls_6 : decode cX0_falls 6 = .ok (.iload_n 1, 1) := by decide +kernel
theorem dX0_falls_7 : decode cX0_falls 7 = .ok (.aload_n 0, 1) := by decide +kernel
theorem dX0_falls_8 : decode cX0_falls 8 = .ok (.getfield 9, 3) := by decide +kernel
theorem dX0_falls_11 : decode cX0_falls 11 = .ok (.iadd, 1) := by decide +kernel
theorem dX0_falls_12 : decode cX0_falls 12 = .ok (.ireturn, 1) := by decide +kernel
theorem dX0_turns_0 : decode cX0_turns 0 = .ok (.aload_n 2, 1) := by decide +kernel
theorem dX0_turns_1 : decode cX0_turns 1 = .ok (.bipush 11, 2) := by decide +kernel
theorem dX0_turns_3 : decode cX0_turns 3 = .ok (.invokevirtual 32, 3) := by decide +kernel
theorem dX0_turns_6 : decode cX0_turns 6 = .ok (.aload_n 0, 1) := by decide +kernel
theorem dX0_turns_7 : decode cX0_turns 7 = .ok (.iload_n 1, 1) := by decide +kernel
theorem dX0_turns_8 : decode cX0_turns 8 = .ok (.aload_n 2, 1) := by decide +kernel
theorem dX0_turns_9 : decode cX0_turns 9 = .ok (.invokevirtual 38, 3) := by decide +kernel
theorem dX0_turns_12 : decode cX0_turns 12 = .ok (.iconst 2, 1) := by decide +kernel
theorem dX0_turns_13 : decode cX0_turns 13 = .ok (.imul, 1) := by decide +kernel
theorem dX0_turns_14 : decode cX0_turns 14 = .ok (.ireturn, 1) := by decide +kernel
theorem dX0_shares_0 : decode cX0_shares 0 = .ok (.aload_n 2, 1) := by decide +kernel
theorem dX0_shares_1 : decode cX0_shares 1 = .ok (.bipush 12, 2) := by decide +kernel
theorem dX0_shares_3 : decode cX0_shares 3 = .ok (.invokevirtual 32, 3) := by decide +kernel
theorem dX0_shares_6 : decode cX0_shares 6 = .ok (.aload_n 0, 1) := by decide +kernel
theorem dX0_shares_7 : decode cX0_shares 7 = .ok (.getfield 15, 3) := by decide +kernel
theorem dX0_shares_10 : decode cX0_shares 10 = .ok (.aload_n 0, 1) := by decide +kernel
theorem dX0_shares_11 : decode cX0_shares 11 = .ok (.getfield 9, 3) := by decide +kernel
theorem dX0_shares_14 : decode cX0_shares 14 = .ok (.isub, 1) := by decide +kernel
theorem dX0_shares_15 : decode cX0_shares 15 = .ok (.istore_n 3, 1) := by decide +kernel
theorem dX0_shares_16 : decode cX0_shares 16 = .ok (.iload_n 3, 1) := by decide +kernel
theorem dX0_shares_17 : decode cX0_shares 17 = .ok (.ifCond .ne 10, 3) := by decide +kernel
theorem dX0_shares_20 : decode cX0_shares 20 = .ok (.aload_n 2, 1) := by decide +kernel
theorem dX0_shares_21 : decode cX0_shares 21 = .ok (.iconst 1, 1) := by decide +kernel
theorem dX0_shares_22 : decode cX0_shares 22 = .ok (.putfield 42, 3) := by decide +kernel
theorem dX0_shares_25 : decode cX0_shares 25 = .ok (.iconst 0, 1) := by decide +kernel
theorem dX0_shares_26 : decode cX0_shares 26 = .ok (.ireturn, 1) := by decide +kernel
theorem dX0_shares_27 : decode cX0_shares 27 = .ok (.iload_n 1, 1) := by decide +kernel
theorem dX0_shares_28 : decode cX0_shares 28 = .ok (.iload_n 3, 1) := by decide +kernel
theorem dX0_shares_29 : decode cX0_shares 29 = .ok (.idiv, 1) := by decide +kernel
theorem dX0_shares_30 : decode cX0_shares 30 = .ok (.ireturn, 1) := by decide +kernel
theorem dX0_tells_0 : decode cX0_tells 0 = .ok (.aload_n 2, 1) := by decide +kernel
theorem dX0_tells_1 : decode cX0_tells 1 = .ok (.bipush 13, 2) := by decide +kernel
theorem dX0_tells_3 : decode cX0_tells 3 = .ok (.invokevirtual 32, 3) := by decide +kernel
theorem dX0_tells_6 : decode cX0_tells 6 = .ok (.aload_n 0, 1) := by decide +kernel
theorem dX0_tells_7 : decode cX0_tells 7 = .ok (.iload_n 1, 1) := by decide +kernel
theorem dX0_tells_8 : decode cX0_tells 8 = .ok (.aload_n 2, 1) := by decide +kernel
theorem dX0_tells_9 : decode cX0_tells 9 = .ok (.invokevirtual 46, 3) := by decide +kernel
theorem dX0_tells_12 : decode cX0_tells 12 = .ok (.aload_n 0, 1) := by decide +kernel
theorem dX0_tells_13 : decode cX0_tells 13 = .ok (.getfield 15, 3) := by decide +kernel
theorem dX0_tells_16 : decode cX0_tells 16 = .ok (.ixor, 1) := by decide +kernel
theorem dX0_tells_17 : decode cX0_tells 17 = .ok (.ireturn, 1) := by decide +kernel
theorem dX1_init_0 : decode cX1_init 0 = .ok (.aload_n 0, 1) := by decide +kernel
theorem dX1_init_1 : decode cX1_init 1 = .ok (.invokespecial 3, 3) := by decide +kernel
theorem dX1_init_4 : decode cX1_init 4 = .ok (.return_, 1) := by decide +kernel
theorem dX1_start_0 : decode cX1_start 0 = .ok (.aload_n 0, 1) := by decide +kernel
theorem dX1_start_1 : decode cX1_start 1 = .ok (.aload_n 1, 1) := by decide +kernel
theorem dX1_start_2 : decode cX1_start 2 = .ok (.putfield 9, 3) := by decide +kernel
theorem dX1_start_5 : decode cX1_start 5 = .ok (.aload_n 0, 1) := by decide +kernel
theorem dX1_start_6 : decode cX1_start 6 = .ok (.aload_n 1, 1) := by decide +kernel
theorem dX1_start_7 : decode cX1_start 7 = .ok (.ifnonnull 7, 3) := by decide +kernel
theorem dX1_start_10 : decode cX1_start 10 = .ok (.iconst 0, 1) := by decide +kernel
theorem dX1_start_11 : decode cX1_start 11 = .ok (.goto 7, 3) := by decide +kernel
theorem dX1_start_14 : decode cX1_start 14 = .ok (.aload_n 1, 1) := by decide +kernel
theorem dX1_start_15 : decode cX1_start 15 = .ok (.getfield 15, 3) := by decide +kernel
theorem dX1_start_18 : decode cX1_start 18 = .ok (.putfield 21, 3) := by decide +kernel
theorem dX1_start_21 : decode cX1_start 21 = .ok (.aload_n 0, 1) := by decide +kernel
theorem dX1_start_22 : decode cX1_start 22 = .ok (.iconst 0, 1) := by decide +kernel
theorem dX1_start_23 : decode cX1_start 23 = .ok (.putfield 22, 3) := by decide +kernel
theorem dX1_start_26 : decode cX1_start 26 = .ok (.aload_n 0, 1) := by decide +kernel
theorem dX1_start_27 : decode cX1_start 27 = .ok (.iconst 0, 1) := by decide +kernel
theorem dX1_start_28 : decode cX1_start 28 = .ok (.putfield 25, 3) := by decide +kernel
theorem dX1_start_31 : decode cX1_start 31 = .ok (.aload_n 0, 1) := by decide +kernel
theorem dX1_start_32 : decode cX1_start 32 = .ok (.iload_n 2, 1) := by decide +kernel
theorem dX1_start_33 : decode cX1_start 33 = .ok (.putfield 28, 3) := by decide +kernel
theorem dX1_start_36 : decode cX1_start 36 = .ok (.aload_n 0, 1) := by decide +kernel
theorem dX1_start_37 : decode cX1_start 37 = .ok (.iload_n 3, 1) := by decide +kernel
theorem dX1_start_38 : decode cX1_start 38 = .ok (.putfield 31, 3) := by decide +kernel
theorem dX1_start_41 : decode cX1_start 41 = .ok (.aload_n 0, 1) := by decide +kernel
theorem dX1_start_42 : decode cX1_start 42 = .ok (.iload 4, 2) := by decide +kernel
theorem dX1_start_44 : decode cX1_start 44 = .ok (.putfield 34, 3) := by decide +kernel
theorem dX1_start_47 : decode cX1_start 47 = .ok (.aload_n 0, 1) := by decide +kernel
theorem dX1_start_48 : decode cX1_start 48 = .ok (.iconst 0, 1) := by decide +kernel
theorem dX1_start_49 : decode cX1_start 49 = .ok (.putfield 37, 3) := by decide +kernel
theorem dX1_start_52 : decode cX1_start 52 = .ok (.aload_n 0, 1) := by decide +kernel
theorem dX1_start_53 : decode cX1_start 53 = .ok (.iconst 0, 1) := by decide +kernel
theorem dX1_start_54 : decode cX1_start 54 = .ok (.putfield 40, 3) := by decide +kernel
theorem dX1_start_57 : decode cX1_start 57 = .ok (.aload_n 0, 1) := by decide +kernel
theorem dX1_start_58 : decode cX1_start 58 = .ok (.iconst 0, 1) := by decide +kernel
theorem dX1_start_59 : decode cX1_start 59 = .ok (.putfield 43, 3) := by decide +kernel
theorem dX1_start_62 : decode cX1_start 62 = .ok (.aload_n 0, 1) := by decide +kernel
theorem dX1_start_63 : decode cX1_start 63 = .ok (.iconst 0, 1) := by decide +kernel
theorem dX1_start_64 : decode cX1_start 64 = .ok (.putfield 46, 3) := by decide +kernel
theorem dX1_start_67 : decode cX1_start 67 = .ok (.return_, 1) := by decide +kernel
theorem dX1_copyFrom_0 : decode cX1_copyFrom 0 = .ok (.aload_n 0, 1) := by decide +kernel
theorem dX1_copyFrom_1 : decode cX1_copyFrom 1 = .ok (.aload_n 1, 1) := by decide +kernel
theorem dX1_copyFrom_2 : decode cX1_copyFrom 2 = .ok (.getfield 9, 3) := by decide +kernel
theorem dX1_copyFrom_5 : decode cX1_copyFrom 5 = .ok (.putfield 9, 3) := by decide +kernel
theorem dX1_copyFrom_8 : decode cX1_copyFrom 8 = .ok (.aload_n 0, 1) := by decide +kernel
theorem dX1_copyFrom_9 : decode cX1_copyFrom 9 = .ok (.aload_n 1, 1) := by decide +kernel
theorem dX1_copyFrom_10 : decode cX1_copyFrom 10 = .ok (.getfield 21, 3) := by decide +kernel
theorem dX1_copyFrom_13 : decode cX1_copyFrom 13 = .ok (.putfield 21, 3) := by decide +kernel
theorem dX1_copyFrom_16 : decode cX1_copyFrom 16 = .ok (.aload_n 0, 1) := by decide +kernel
theorem dX1_copyFrom_17 : decode cX1_copyFrom 17 = .ok (.aload_n 1, 1) := by decide +kernel
theorem dX1_copyFrom_18 : decode cX1_copyFrom 18 = .ok (.getfield 22, 3) := by decide +kernel
theorem dX1_copyFrom_21 : decode cX1_copyFrom 21 = .ok (.putfield 22, 3) := by decide +kernel
theorem dX1_copyFrom_24 : decode cX1_copyFrom 24 = .ok (.aload_n 0, 1) := by decide +kernel
theorem dX1_copyFrom_25 : decode cX1_copyFrom 25 = .ok (.aload_n 1, 1) := by decide +kernel
theorem dX1_copyFrom_26 : decode cX1_copyFrom 26 = .ok (.getfield 25, 3) := by decide +kernel
theorem dX1_copyFrom_29 : decode cX1_copyFrom 29 = .ok (.putfield 25, 3) := by decide +kernel
theorem dX1_copyFrom_32 : decode cX1_copyFrom 32 = .ok (.aload_n 0, 1) := by decide +kernel
theorem dX1_copyFrom_33 : decode cX1_copyFrom 33 = .ok (.aload_n 1, 1) := by decide +kernel
theorem dX1_copyFrom_34 : decode cX1_copyFrom 34 = .ok (.getfield 28, 3) := by decide +kernel
theorem dX1_copyFrom_37 : decode cX1_copyFrom 37 = .ok (.putfield 28, 3) := by decide +kernel
theorem dX1_copyFrom_40 : decode cX1_copyFrom 40 = .ok (.aload_n 0, 1) := by decide +kernel
theorem dX1_copyFrom_41 : decode cX1_copyFrom 41 = .ok (.aload_n 1, 1) := by decide +kernel
theorem dX1_copyFrom_42 : decode cX1_copyFrom 42 = .ok (.getfield 31, 3) := by decide +kernel
theorem dX1_copyFrom_45 : decode cX1_copyFrom 45 = .ok (.putfield 31, 3) := by decide +kernel
theorem dX1_copyFrom_48 : decode cX1_copyFrom 48 = .ok (.aload_n 0, 1) := by decide +kernel
theorem dX1_copyFrom_49 : decode cX1_copyFrom 49 = .ok (.aload_n 1, 1) := by decide +kernel
theorem dX1_copyFrom_50 : decode cX1_copyFrom 50 = .ok (.getfield 34, 3) := by decide +kernel
theorem dX1_copyFrom_53 : decode cX1_copyFrom 53 = .ok (.putfield 34, 3) := by decide +kernel
theorem dX1_copyFrom_56 : decode cX1_copyFrom 56 = .ok (.aload_n 0, 1) := by decide +kernel
theorem dX1_copyFrom_57 : decode cX1_copyFrom 57 = .ok (.aload_n 1, 1) := by decide +kernel
theorem dX1_copyFrom_58 : decode cX1_copyFrom 58 = .ok (.getfield 37, 3) := by decide +kernel
theorem dX1_copyFrom_61 : decode cX1_copyFrom 61 = .ok (.putfield 37, 3) := by decide +kernel
theorem dX1_copyFrom_64 : decode cX1_copyFrom 64 = .ok (.aload_n 0, 1) := by decide +kernel
theorem dX1_copyFrom_65 : decode cX1_copyFrom 65 = .ok (.aload_n 1, 1) := by decide +kernel
theorem dX1_copyFrom_66 : decode cX1_copyFrom 66 = .ok (.getfield 40, 3) := by decide +kernel
theorem dX1_copyFrom_69 : decode cX1_copyFrom 69 = .ok (.putfield 40, 3) := by decide +kernel
theorem dX1_copyFrom_72 : decode cX1_copyFrom 72 = .ok (.aload_n 0, 1) := by decide +kernel
theorem dX1_copyFrom_73 : decode cX1_copyFrom 73 = .ok (.aload_n 1, 1) := by decide +kernel
theorem dX1_copyFrom_74 : decode cX1_copyFrom 74 = .ok (.getfield 43, 3) := by decide +kernel
theorem dX1_copyFrom_77 : decode cX1_copyFrom 77 = .ok (.putfield 43, 3) := by decide +kernel
theorem dX1_copyFrom_80 : decode cX1_copyFrom 80 = .ok (.aload_n 0, 1) := by decide +kernel
theorem dX1_copyFrom_81 : decode cX1_copyFrom 81 = .ok (.aload_n 1, 1) := by decide +kernel
theorem dX1_copyFrom_82 : decode cX1_copyFrom 82 = .ok (.getfield 46, 3) := by decide +kernel
theorem dX1_copyFrom_85 : decode cX1_copyFrom 85 = .ok (.putfield 46, 3) := by decide +kernel
theorem dX1_copyFrom_88 : decode cX1_copyFrom 88 = .ok (.return_, 1) := by decide +kernel
theorem dX1_landed_0 : decode cX1_landed 0 = .ok (.aload_n 0, 1) := by decide +kernel
theorem dX1_landed_1 : decode cX1_landed 1 = .ok (.getfield 28, 3) := by decide +kernel
theorem dX1_landed_4 : decode cX1_landed 4 = .ok (.ifCond .gt 7, 3) := by decide +kernel
theorem dX1_landed_7 : decode cX1_landed 7 = .ok (.iconst 1, 1) := by decide +kernel
theorem dX1_landed_8 : decode cX1_landed 8 = .ok (.goto 4, 3) := by decide +kernel
theorem dX1_landed_11 : decode cX1_landed 11 = .ok (.iconst 0, 1) := by decide +kernel
theorem dX1_landed_12 : decode cX1_landed 12 = .ok (.ireturn, 1) := by decide +kernel
theorem dX1_step_0 : decode cX1_step 0 = .ok (.aload_n 0, 1) := by decide +kernel
theorem dX1_step_1 : decode cX1_step 1 = .ok (.getfield 9, 3) := by decide +kernel
theorem dX1_step_4 : decode cX1_step 4 = .ok (.ifnonnull 4, 3) := by decide +kernel
theorem dX1_step_7 : decode cX1_step 7 = .ok (.return_, 1) := by decide +kernel
theorem dX1_step_8 : decode cX1_step 8 = .ok (.aload_n 0, 1) := by decide +kernel
theorem dX1_step_9 : decode cX1_step 9 = .ok (.getfield 31, 3) := by decide +kernel
theorem dX1_step_12 : decode cX1_step 12 = .ok (.invokestatic 49, 3) := by decide +kernel
theorem dX1_step_15 : decode cX1_step 15 = .ok (.istore_n 2, 1) := by decide +kernel
theorem dX1_step_16 : decode cX1_step 16 = .ok (.aload_n 0, 1) := by decide +kernel
theorem dX1_step_17 : decode cX1_step 17 = .ok (.getfield 31, 3) := by decide +kernel
theorem dX1_step_20 : decode cX1_step 20 = .ok (.bipush 9, 2) := by decide +kernel
theorem dX1_step_22 : decode cX1_step 22 = .ok (.iadd, 1) := by decide +kernel
theorem dX1_step_23 : decode cX1_step 23 = .ok (.bipush 36, 2) := by decide +kernel
theorem dX1_step_25 : decode cX1_step 25 = .ok (.irem, 1) := by decide +kernel
theorem dX1_step_26 : decode cX1_step 26 = .ok (.invokestatic 49, 3) := by decide +kernel
theorem dX1_step_29 : decode cX1_step 29 = .ok (.istore_n 3, 1) := by decide +kernel
theorem dX1_step_30 : decode cX1_step 30 = .ok (.aload_n 0, 1) := by decide +kernel
theorem dX1_step_31 : decode cX1_step 31 = .ok (.getfield 37, 3) := by decide +kernel
theorem dX1_step_34 : decode cX1_step 34 = .ok (.aload_n 0, 1) := by decide +kernel
theorem dX1_step_35 : decode cX1_step 35 = .ok (.getfield 40, 3) := by decide +kernel
theorem dX1_step_38 : decode cX1_step 38 = .ok (.iload_n 2, 1) := by decide +kernel
theorem dX1_step_39 : decode cX1_step 39 = .ok (.imul, 1) := by decide +kernel
theorem dX1_step_40 : decode cX1_step 40 = .ok (.sipush 1000, 3) := by decide +kernel
theorem dX1_step_43 : decode cX1_step 43 = .ok (.idiv, 1) := by decide +kernel
theorem dX1_step_44 : decode cX1_step 44 = .ok (.aload_n 1, 1) := by decide +kernel
theorem dX1_step_45 : decode cX1_step 45 = .ok (.iconst 0, 1) := by decide +kernel
theorem dX1_step_46 : decode cX1_step 46 = .ok (.iaload, 1) := by decide +kernel
theorem dX1_step_47 : decode cX1_step 47 = .ok (.imul, 1) := by decide +kernel
theorem dX1_step_48 : decode cX1_step 48 = .ok (.bipush 32, 2) := by decide +kernel
theorem dX1_step_50 : decode cX1_step 50 = .ok (.idiv, 1) := by decide +kernel
theorem dX1_step_51 : decode cX1_step 51 = .ok (.iadd, 1) := by decide +kernel
theorem dX1_step_52 : decode cX1_step 52 = .ok (.aload_n 0, 1) := by decide +kernel
theorem dX1_step_53 : decode cX1_step 53 = .ok (.getfield 37, 3) := by decide +kernel
theorem dX1_step_56 : decode cX1_step 56 = .ok (.aload_n 1, 1) := by decide +kernel
theorem dX1_step_57 : decode cX1_step 57 = .ok (.iconst 1, 1) := by decide +kernel
theorem dX1_step_58 : decode cX1_step 58 = .ok (.iaload, 1) := by decide +kernel
theorem dX1_step_59 : decode cX1_step 59 = .ok (.imul, 1) := by decide +kernel
theorem dX1_step_60 : decode cX1_step 60 = .ok (.bipush 64, 2) := by decide +kernel
theorem dX1_step_62 : decode cX1_step 62 = .ok (.idiv, 1) := by decide +kernel
theorem dX1_step_63 : decode cX1_step 63 = .ok (.isub, 1) := by decide +kernel
theorem dX1_step_64 : decode cX1_step 64 = .ok (.aload_n 1, 1) := by decide +kernel
theorem dX1_step_65 : decode cX1_step 65 = .ok (.iconst 5, 1) := by decide +kernel
theorem dX1_step_66 : decode cX1_step 66 = .ok (.iaload, 1) := by decide +kernel
theorem dX1_step_67 : decode cX1_step 67 = .ok (.bipush 32, 2) := by decide +kernel
theorem dX1_step_69 : decode cX1_step 69 = .ok (.isub, 1) := by decide +kernel
theorem dX1_step_70 : decode cX1_step 70 = .ok (.iconst 4, 1) := by decide +kernel
theorem dX1_step_71 : decode cX1_step 71 = .ok (.idiv, 1) := by decide +kernel
theorem dX1_step_72 : decode cX1_step 72 = .ok (.iadd, 1) := by decide +kernel
theorem dX1_step_73 : decode cX1_step 73 = .ok (.istore 4, 2) := by decide +kernel
theorem dX1_step_75 : decode cX1_step 75 = .ok (.aload_n 0, 1) := by decide +kernel
theorem dX1_step_76 : decode cX1_step 76 = .ok (.getfield 40, 3) := by decide +kernel
theorem dX1_step_79 : decode cX1_step 79 = .ok (.aload_n 0, 1) := by decide +kernel
theorem dX1_step_80 : decode cX1_step 80 = .ok (.getfield 21, 3) := by decide +kernel
theorem dX1_step_83 : decode cX1_step 83 = .ok (.iadd, 1) := by decide +kernel
theorem dX1_step_84 : decode cX1_step 84 = .ok (.aload_n 0, 1) := by decide +kernel
theorem dX1_step_85 : decode cX1_step 85 = .ok (.getfield 40, 3) := by decide +kernel
theorem dX1_step_88 : decode cX1_step 88 = .ok (.aload_n 1, 1) := by decide +kernel
theorem dX1_step_89 : decode cX1_step 89 = .ok (.iconst 1, 1) := by decide +kernel
theorem dX1_step_90 : decode cX1_step 90 = .ok (.iaload, 1) := by decide +kernel
theorem dX1_step_91 : decode cX1_step 91 = .ok (.aload_n 1, 1) := by decide +kernel
theorem dX1_step_92 : decode cX1_step 92 = .ok (.iconst 2, 1) := by decide +kernel
theorem dX1_step_93 : decode cX1_step 93 = .ok (.iaload, 1) := by decide +kernel
theorem dX1_step_94 : decode cX1_step 94 = .ok (.iload_n 3, 1) := by decide +kernel
theorem dX1_step_95 : decode cX1_step 95 = .ok (.invokestatic 53, 3) := by decide +kernel
theorem dX1_step_98 : decode cX1_step 98 = .ok (.imul, 1) := by decide +kernel
theorem dX1_step_99 : decode cX1_step 99 = .ok (.sipush 1000, 3) := by decide +kernel
theorem dX1_step_102 : decode cX1_step 102 = .ok (.idiv, 1) := by decide +kernel
theorem dX1_step_103 : decode cX1_step 103 = .ok (.iadd, 1) := by decide +kernel
theorem dX1_step_104 : decode cX1_step 104 = .ok (.imul, 1) := by decide +kernel
theorem dX1_step_105 : decode cX1_step 105 = .ok (.bipush 64, 2) := by decide +kernel
theorem dX1_step_107 : decode cX1_step 107 = .ok (.idiv, 1) := by decide +kernel
theorem dX1_step_108 : decode cX1_step 108 = .ok (.isub, 1) := by decide +kernel
theorem dX1_step_109 : decode cX1_step 109 = .ok (.istore 5, 2) := by decide +kernel
theorem dX1_step_111 : decode cX1_step 111 = .ok (.aload_n 0, 1) := by decide +kernel
theorem dX1_step_112 : decode cX1_step 112 = .ok (.iload 4, 2) := by decide +kernel
theorem dX1_step_114 : decode cX1_step 114 = .ok (.sipush 9999, 3) := by decide +kernel
theorem dX1_step_117 : decode cX1_step 117 = .ok (.invokestatic 58, 3) := by decide +kernel
theorem dX1_step_120 : decode cX1_step 120 = .ok (.putfield 37, 3) := by decide +kernel
theorem dX1_step_123 : decode cX1_step 123 = .ok (.aload_n 0, 1) := by decide +kernel
theorem dX1_step_124 : decode cX1_step 124 = .ok (.aload_n 0, 1) := by decide +kernel
theorem dX1_step_125 : decode cX1_step 125 = .ok (.getfield 9, 3) := by decide +kernel
theorem dX1_step_128 : decode cX1_step 128 = .ok (.iload 5, 2) := by decide +kernel
theorem dX1_step_130 : decode cX1_step 130 = .ok (.invokevirtual 62, 3) := by decide +kernel
theorem dX1_step_133 : decode cX1_step 133 = .ok (.sipush 9999, 3) := by decide +kernel
theorem dX1_step_136 : decode cX1_step 136 = .ok (.invokestatic 58, 3) := by decide +kernel
theorem dX1_step_139 : decode cX1_step 139 = .ok (.putfield 40, 3) := by decide +kernel
theorem dX1_step_142 : decode cX1_step 142 = .ok (.aload_n 0, 1) := by decide +kernel
theorem dX1_step_143 : decode cX1_step 143 = .ok (.getfield 34, 3) := by decide +kernel
theorem dX1_step_146 : decode cX1_step 146 = .ok (.istore 6, 2) := by decide +kernel
theorem dX1_step_148 : decode cX1_step 148 = .ok (.aload_n 0, 1) := by decide +kernel
theorem dX1_step_149 : decode cX1_step 149 = .ok (.aload_n 0, 1) := by decide +kernel
theorem dX1_step_150 : decode cX1_step 150 = .ok (.getfield 9, 3) := by decide +kernel
theorem dX1_step_153 : decode cX1_step 153 = .ok (.aload_n 0, 1) := by decide +kernel
theorem dX1_step_154 : decode cX1_step 154 = .ok (.iload_n 3, 1) := by decide +kernel
theorem dX1_step_155 : decode cX1_step 155 = .ok (.aload_n 1, 1) := by decide +kernel
theorem dX1_step_156 : decode cX1_step 156 = .ok (.invokevirtual 65, 3) := by decide +kernel
theorem dX1_step_159 : decode cX1_step 159 = .ok (.bipush 9, 2) := by decide +kernel
theorem dX1_step_161 : decode cX1_step 161 = .ok (.invokestatic 58, 3) := by decide +kernel
theorem dX1_step_164 : decode cX1_step 164 = .ok (.putfield 34, 3) := by decide +kernel
theorem dX1_step_167 : decode cX1_step 167 = .ok (.aload_n 0, 1) := by decide +kernel
theorem dX1_step_168 : decode cX1_step 168 = .ok (.getfield 31, 3) := by decide +kernel
theorem dX1_step_171 : decode cX1_step 171 = .ok (.istore 7, 2) := by decide +kernel
theorem dX1_step_173 : decode cX1_step 173 = .ok (.aload_n 0, 1) := by decide +kernel
theorem dX1_step_174 : decode cX1_step 174 = .ok (.aload_n 0, 1) := by decide +kernel
theorem dX1_step_175 : decode cX1_step 175 = .ok (.getfield 31, 3) := by decide +kernel
theorem dX1_step_178 : decode cX1_step 178 = .ok (.aload_n 0, 1) := by decide +kernel
theorem dX1_step_179 : decode cX1_step 179 = .ok (.getfield 34, 3) := by decide +kernel
theorem dX1_step_182 : decode cX1_step 182 = .ok (.iadd, 1) := by decide +kernel
theorem dX1_step_183 : decode cX1_step 183 = .ok (.bipush 36, 2) := by decide +kernel
theorem dX1_step_185 : decode cX1_step 185 = .ok (.invokestatic 69, 3) := by decide +kernel
theorem dX1_step_188 : decode cX1_step 188 = .ok (.putfield 31, 3) := by decide +kernel
theorem dX1_step_191 : decode cX1_step 191 = .ok (.aload_n 0, 1) := by decide +kernel
theorem dX1_step_192 : decode cX1_step 192 = .ok (.dup, 1) := by decide +kernel
theorem dX1_step_193 : decode cX1_step 193 = .ok (.getfield 25, 3) := by decide +kernel
theorem dX1_step_196 : decode cX1_step 196 = .ok (.aload_n 0, 1) := by decide +kernel
theorem dX1_step_197 : decode cX1_step 197 = .ok (.getfield 37, 3) := by decide +kernel
theorem dX1_step_200 : decode cX1_step 200 = .ok (.bipush 8, 2) := by decide +kernel
theorem dX1_step_202 : decode cX1_step 202 = .ok (.idiv, 1) := by decide +kernel
theorem dX1_step_203 : decode cX1_step 203 = .ok (.iadd, 1) := by decide +kernel
theorem dX1_step_204 : decode cX1_step 204 = .ok (.putfield 25, 3) := by decide +kernel
theorem dX1_step_207 : decode cX1_step 207 = .ok (.aload_n 0, 1) := by decide +kernel
theorem dX1_step_208 : decode cX1_step 208 = .ok (.dup, 1) := by decide +kernel
theorem dX1_step_209 : decode cX1_step 209 = .ok (.getfield 28, 3) := by decide +kernel
theorem dX1_step_212 : decode cX1_step 212 = .ok (.aload_n 0, 1) := by decide +kernel
theorem dX1_step_213 : decode cX1_step 213 = .ok (.getfield 40, 3) := by decide +kernel
theorem dX1_step_216 : decode cX1_step 216 = .ok (.bipush 8, 2) := by decide +kernel
theorem dX1_step_218 : decode cX1_step 218 = .ok (.idiv, 1) := by decide +kernel
theorem dX1_step_219 : decode cX1_step 219 = .ok (.isub, 1) := by decide +kernel
theorem dX1_step_220 : decode cX1_step 220 = .ok (.putfield 28, 3) := by decide +kernel
theorem dX1_step_223 : decode cX1_step 223 = .ok (.aload_n 0, 1) := by decide +kernel
theorem dX1_step_224 : decode cX1_step 224 = .ok (.iload 6, 2) := by decide +kernel
theorem dX1_step_226 : decode cX1_step 226 = .ok (.invokevirtual 72, 3) := by decide +kernel
theorem dX1_step_229 : decode cX1_step 229 = .ok (.aload_n 0, 1) := by decide +kernel
theorem dX1_step_230 : decode cX1_step 230 = .ok (.iload 7, 2) := by decide +kernel
theorem dX1_step_232 : decode cX1_step 232 = .ok (.invokevirtual 76, 3) := by decide +kernel
theorem dX1_step_235 : decode cX1_step 235 = .ok (.aload_n 0, 1) := by decide +kernel
theorem dX1_step_236 : decode cX1_step 236 = .ok (.dup, 1) := by decide +kernel
theorem dX1_step_237 : decode cX1_step 237 = .ok (.getfield 22, 3) := by decide +kernel
theorem dX1_step_240 : decode cX1_step 240 = .ok (.iconst 1, 1) := by decide +kernel
theorem dX1_step_241 : decode cX1_step 241 = .ok (.iadd, 1) := by decide +kernel
theorem dX1_step_242 : decode cX1_step 242 = .ok (.putfield 22, 3) := by decide +kernel
theorem dX1_step_245 : decode cX1_step 245 = .ok (.return_, 1) := by decide +kernel
theorem dX1_countSwing_0 : decode cX1_countSwing 0 = .ok (.aload_n 0, 1) := by decide +kernel
theorem dX1_countSwing_1 : decode cX1_countSwing 1 = .ok (.getfield 22, 3) := by decide +kernel
theorem dX1_countSwing_4 : decode cX1_countSwing 4 = .ok (.ifCond .le 35, 3) := by decide +kernel
theorem dX1_countSwing_7 : decode cX1_countSwing 7 = .ok (.iload_n 1, 1) := by decide +kernel
theorem dX1_countSwing_8 : decode cX1_countSwing 8 = .ok (.ifCond .le 10, 3) := by decide +kernel
theorem dX1_countSwing_11 : decode cX1_countSwing 11 = .ok (.aload_n 0, 1) := by decide +kernel
theorem dX1_countSwing_12 : decode cX1_countSwing 12 = .ok (.getfield 34, 3) := by decide +kernel
theorem dX1_countSwing_15 : decode cX1_countSwing 15 = .ok (.ifCond .lt 14, 3) := by decide +kernel
theorem dX1_countSwing_18 : decode cX1_countSwing 18 = .ok (.iload_n 1, 1) := by decide +kernel
theorem dX1_countSwing_19 : decode cX1_countSwing 19 = .ok (.ifCond .ge 20, 3) := by decide +kernel
theorem dX1_countSwing_22 : decode cX1_countSwing 22 = .ok (.aload_n 0, 1) := by decide +kernel
theorem dX1_countSwing_23 : decode cX1_countSwing 23 = .ok (.getfield 34, 3) := by decide +kernel
theorem dX1_countSwing_26 : decode cX1_countSwing 26 = .ok (.ifCond .le 13, 3) := by decide +kernel
theorem dX1_countSwing_29 : decode cX1_countSwing 29 = .ok (.aload_n 0, 1) := by decide +kernel
theorem dX1_countSwing_30 : decode cX1_countSwing 30 = .ok (.dup, 1) := by decide +kernel
theorem dX1_countSwing_31 : decode cX1_countSwing 31 = .ok (.getfield 43, 3) := by decide +kernel
theorem dX1_countSwing_34 : decode cX1_countSwing 34 = .ok (.iconst 1, 1) := by decide +kernel
theorem dX1_countSwing_35 : decode cX1_countSwing 35 = .ok (.iadd, 1) := by decide +kernel
theorem dX1_countSwing_36 : decode cX1_countSwing 36 = .ok (.putfield 43, 3) := by decide +kernel
theorem dX1_countSwing_39 : decode cX1_countSwing 39 = .ok (.return_, 1) := by decide +kernel
theorem dX1_countRound_0 : decode cX1_countRound 0 = .ok (.iload_n 1, 1) := by decide +kernel
theorem dX1_countRound_1 : decode cX1_countRound 1 = .ok (.bipush 27, 2) := by decide +kernel
theorem dX1_countRound_3 : decode cX1_countRound 3 = .ok (.if_icmp .lt 12, 3) := by decide +kernel
theorem dX1_countRound_6 : decode cX1_countRound 6 = .ok (.aload_n 0, 1) := by decide +kernel
theorem dX1_countRound_7 : decode cX1_countRound 7 = .ok (.getfield 31, 3) := by decide +kernel
theorem dX1_countRound_10 : decode cX1_countRound 10 = .ok (.bipush 8, 2) := by decide +kernel
theorem dX1_countRound_12 : decode cX1_countRound 12 = .ok (.if_icmp .le 18, 3) := by decide +kernel
theorem dX1_countRound_15 : decode cX1_countRound 15 = .ok (.iload_n 1, 1) := by decide +kernel
theorem dX1_countRound_16 : decode cX1_countRound 16 = .ok (.bipush 8, 2) := by decide +kernel
theorem dX1_countRound_18 : decode cX1_countRound 18 = .ok (.if_icmp .gt 22, 3) := by decide +kernel
theorem dX1_countRound_21 : decode cX1_countRound 21 = .ok (.aload_n 0, 1) := by decide +kernel
theorem dX1_countRound_22 : decode cX1_countRound 22 = .ok (.getfield 31, 3) := by decide +kernel
theorem dX1_countRound_25 : decode cX1_countRound 25 = .ok (.bipush 27, 2) := by decide +kernel
theorem dX1_countRound_27 : decode cX1_countRound 27 = .ok (.if_icmp .lt 13, 3) := by decide +kernel
theorem dX1_countRound_30 : decode cX1_countRound 30 = .ok (.aload_n 0, 1) := by decide +kernel
theorem dX1_countRound_31 : decode cX1_countRound 31 = .ok (.dup, 1) := by decide +kernel
theorem dX1_countRound_32 : decode cX1_countRound 32 = .ok (.getfield 46, 3) := by decide +kernel
theorem dX1_countRound_35 : decode cX1_countRound 35 = .ok (.iconst 1, 1) := by decide +kernel
theorem dX1_countRound_36 : decode cX1_countRound 36 = .ok (.iadd, 1) := by decide +kernel
theorem dX1_countRound_37 : decode cX1_countRound 37 = .ok (.putfield 46, 3) := by decide +kernel
theorem dX1_countRound_40 : decode cX1_countRound 40 = .ok (.return_, 1) := by decide +kernel
theorem dX1_runOut_0 : decode cX1_runOut 0 = .ok (.iconst 0, 1) := by decide +kernel
theorem dX1_runOut_1 : decode cX1_runOut 1 = .ok (.istore_n 2, 1) := by decide +kernel
theorem dX1_runOut_2 : decode cX1_runOut 2 = .ok (.iload_n 2, 1) := by decide +kernel
theorem dX1_runOut_3 : decode cX1_runOut 3 = .ok (.sipush 400, 3) := by decide +kernel
theorem dX1_runOut_6 : decode cX1_runOut 6 = .ok (.if_icmp .ge 21, 3) := by decide +kernel
theorem dX1_runOut_9 : decode cX1_runOut 9 = .ok (.aload_n 0, 1) := by decide +kernel
theorem dX1_runOut_10 : decode cX1_runOut 10 = .ok (.invokevirtual 79, 3) := by decide +kernel
theorem dX1_runOut_13 : decode cX1_runOut 13 = .ok (.ifCond .ne 14, 3) := by decide +kernel
theorem dX1_runOut_16 : decode cX1_runOut 16 = .ok (.aload_n 0, 1) := by decide +kernel
theorem dX1_runOut_17 : decode cX1_runOut 17 = .ok (.aload_n 1, 1) := by decide +kernel
theorem dX1_runOut_18 : decode cX1_runOut 18 = .ok (.invokevirtual 83, 3) := by decide +kernel
theorem dX1_runOut_21 : decode cX1_runOut 21 = .ok (.iinc 2 1, 3) := by decide +kernel
theorem dX1_runOut_24 : decode cX1_runOut 24 = .ok (.goto (-22), 3) := by decide +kernel
theorem dX1_runOut_27 : decode cX1_runOut 27 = .ok (.aload_n 0, 1) := by decide +kernel
theorem dX1_runOut_28 : decode cX1_runOut 28 = .ok (.invokevirtual 79, 3) := by decide +kernel
theorem dX1_runOut_31 : decode cX1_runOut 31 = .ok (.ireturn, 1) := by decide +kernel
theorem dX1_sort_0 : decode cX1_sort 0 = .ok (.aload_n 0, 1) := by decide +kernel
theorem dX1_sort_1 : decode cX1_sort 1 = .ok (.getfield 43, 3) := by decide +kernel
theorem dX1_sort_4 : decode cX1_sort 4 = .ok (.ifCond .le 7, 3) := by decide +kernel
theorem dX1_sort_7 : decode cX1_sort 7 = .ok (.iconst 1, 1) := by decide +kernel
theorem dX1_sort_8 : decode cX1_sort 8 = .ok (.goto 4, 3) := by decide +kernel
theorem dX1_sort_11 : decode cX1_sort 11 = .ok (.iconst 0, 1) := by decide +kernel
theorem dX1_sort_12 : decode cX1_sort 12 = .ok (.aload_n 0, 1) := by decide +kernel
theorem dX1_sort_13 : decode cX1_sort 13 = .ok (.getfield 46, 3) := by decide +kernel
theorem dX1_sort_16 : decode cX1_sort 16 = .ok (.ifCond .le 7, 3) := by decide +kernel
theorem dX1_sort_19 : decode cX1_sort 19 = .ok (.iconst 2, 1) := by decide +kernel
theorem dX1_sort_20 : decode cX1_sort 20 = .ok (.goto 4, 3) := by decide +kernel
theorem dX1_sort_23 : decode cX1_sort 23 = .ok (.iconst 0, 1) := by decide +kernel
theorem dX1_sort_24 : decode cX1_sort 24 = .ok (.iadd, 1) := by decide +kernel
theorem dX1_sort_25 : decode cX1_sort 25 = .ok (.ireturn, 1) := by decide +kernel
theorem dX1_square_0 : decode cX1_square 0 = .ok (.aload_n 0, 1) := by decide +kernel
theorem dX1_square_1 : decode cX1_square 1 = .ok (.getfield 25, 3) := by decide +kernel
theorem dX1_square_4 : decode cX1_square 4 = .ok (.bipush 100, 2) := by decide +kernel
theorem dX1_square_6 : decode cX1_square 6 = .ok (.invokestatic 87, 3) := by decide +kernel
theorem dX1_square_9 : decode cX1_square 9 = .ok (.ireturn, 1) := by decide +kernel
theorem dX2_init_0 : decode cX2_init 0 = .ok (.aload_n 0, 1) := by decide +kernel
theorem dX2_init_1 : decode cX2_init 1 = .ok (.iload_n 1, 1) := by decide +kernel
theorem dX2_init_2 : decode cX2_init 2 = .ok (.iload_n 2, 1) := by decide +kernel
theorem dX2_init_3 : decode cX2_init 3 = .ok (.iload_n 3, 1) := by decide +kernel
theorem dX2_init_4 : decode cX2_init 4 = .ok (.iload 4, 2) := by decide +kernel
theorem dX2_init_6 : decode cX2_init 6 = .ok (.invokespecial 1, 3) := by decide +kernel
theorem dX2_init_9 : decode cX2_init 9 = .ok (.return_, 1) := by decide +kernel
theorem dX2_kind_0 : decode cX2_kind 0 = .ok (.iconst 4, 1) := by decide +kernel
theorem dX2_kind_1 : decode cX2_kind 1 = .ok (.ireturn, 1) := by decide +kernel
theorem dX2_turnTold_0 : decode cX2_turnTold 0 = .ok (.aload_n 1, 1) := by decide +kernel
theorem dX2_turnTold_1 : decode cX2_turnTold 1 = .ok (.getfield 7, 3) := by decide +kernel
theorem dX2_turnTold_4 : decode cX2_turnTold 4 = .ok (.ifCond .ne 5, 3) := by decide +kernel
theorem dX2_turnTold_7 : decode cX2_turnTold 7 = .ok (.iconst 0, 1) := by decide +kernel
theorem dX2_turnTold_8 : decode cX2_turnTold 8 = .ok (.ireturn, 1) := by decide +kernel
theorem dX2_turnTold_9 : decode cX2_turnTold 9 = .ok (.aload_n 1, 1) := by decide +kernel
theorem dX2_turnTold_10 : decode cX2_turnTold 10 = .ok (.getfield 7, 3) := by decide +kernel
theorem dX2_turnTold_13 : decode cX2_turnTold 13 = .ok (.bipush 18, 2) := by decide +kernel
theorem dX2_turnTold_15 : decode cX2_turnTold 15 = .ok (.if_icmp .gt 7, 3) := by decide +kernel
theorem dX2_turnTold_18 : decode cX2_turnTold 18 = .ok (.iconst (-1), 1) := by decide +kernel
theorem dX2_turnTold_19 : decode cX2_turnTold 19 = .ok (.goto 4, 3) := by decide +kernel
theorem dX2_turnTold_22 : decode cX2_turnTold 22 = .ok (.iconst 1, 1) := by decide +kernel
theorem dX2_turnTold_23 : decode cX2_turnTold 23 = .ok (.ireturn, 1) := by decide +kernel
theorem dX2_shares_0 : decode cX2_shares 0 = .ok (.aload_n 2, 1) := by decide +kernel
theorem dX2_shares_1 : decode cX2_shares 1 = .ok (.bipush 50, 2) := by decide +kernel
theorem dX2_shares_3 : decode cX2_shares 3 = .ok (.invokevirtual 13, 3) := by decide +kernel
theorem dX2_shares_6 : decode cX2_shares 6 = .ok (.aload_n 0, 1) := by decide +kernel
theorem dX2_shares_7 : decode cX2_shares 7 = .ok (.iload_n 1, 1) := by decide +kernel
theorem dX2_shares_8 : decode cX2_shares 8 = .ok (.iconst 2, 1) := by decide +kernel
theorem dX2_shares_9 : decode cX2_shares 9 = .ok (.iadd, 1) := by decide +kernel
theorem dX2_shares_10 : decode cX2_shares 10 = .ok (.aload_n 2, 1) := by decide +kernel
theorem dX2_shares_11 : decode cX2_shares 11 = .ok (.invokespecial 19, 3) := by decide +kernel
theorem dX2_shares_14 : decode cX2_shares 14 = .ok (.iconst 1, 1) := by decide +kernel
theorem dX2_shares_15 : decode cX2_shares 15 = .ok (.ixor, 1) := by decide +kernel
theorem dX2_shares_16 : decode cX2_shares 16 = .ok (.ireturn, 1) := by decide +kernel
theorem dX2_falls_0 : decode cX2_falls 0 = .ok (.aload_n 2, 1) := by decide +kernel
theorem dX2_falls_1 : decode cX2_falls 1 = .ok (.bipush 51, 2) := by decide +kernel
theorem dX2_falls_3 : decode cX2_falls 3 = .ok (.invokevirtual 13, 3) := by decide +kernel
theorem dX2_falls_6 : decode cX2_falls 6 = .ok (.aload_n 0, 1) := by decide +kernel
theorem dX2_falls_7 : decode cX2_falls 7 = .ok (.iload_n 1, 1) := by decide +kernel
theorem dX2_falls_8 : decode cX2_falls 8 = .ok (.aload_n 2, 1) := by decide +kernel
theorem dX2_falls_9 : decode cX2_falls 9 = .ok (.invokespecial 23, 3) := by decide +kernel
theorem dX2_falls_12 : decode cX2_falls 12 = .ok (.aload_n 0, 1) := by decide +kernel
theorem dX2_falls_13 : decode cX2_falls 13 = .ok (.getfield 26, 3) := by decide +kernel
theorem dX2_falls_16 : decode cX2_falls 16 = .ok (.isub, 1) := by decide +kernel
theorem dX2_falls_17 : decode cX2_falls 17 = .ok (.ireturn, 1) := by decide +kernel
theorem dX3_init_0 : decode cX3_init 0 = .ok (.aload_n 0, 1) := by decide +kernel
theorem dX3_init_1 : decode cX3_init 1 = .ok (.invokespecial 3, 3) := by decide +kernel
theorem dX3_init_4 : decode cX3_init 4 = .ok (.aload_n 0, 1) := by decide +kernel
theorem dX3_init_5 : decode cX3_init 5 = .ok (.iconst (-1), 1) := by decide +kernel
theorem dX3_init_6 : decode cX3_init 6 = .ok (.putfield 9, 3) := by decide +kernel
theorem dX3_init_9 : decode cX3_init 9 = .ok (.aload_n 0, 1) := by decide +kernel
theorem dX3_init_10 : decode cX3_init 10 = .ok (.bipush 40, 2) := by decide +kernel
theorem dX3_init_12 : decode cX3_init 12 = .ok (.newarray .long, 2) := by decide +kernel
theorem dX3_init_14 : decode cX3_init 14 = .ok (.putfield 15, 3) := by decide +kernel
theorem dX3_init_17 : decode cX3_init 17 = .ok (.return_, 1) := by decide +kernel
theorem dX3_become_0 : decode cX3_become 0 = .ok (.aload_n 0, 1) := by decide +kernel
theorem dX3_become_1 : decode cX3_become 1 = .ok (.iload_n 1, 1) := by decide +kernel
theorem dX3_become_2 : decode cX3_become 2 = .ok (.putfield 9, 3) := by decide +kernel
theorem dX3_become_5 : decode cX3_become 5 = .ok (.aload_n 0, 1) := by decide +kernel
theorem dX3_become_6 : decode cX3_become 6 = .ok (.iload_n 2, 1) := by decide +kernel
theorem dX3_become_7 : decode cX3_become 7 = .ok (.putfield 19, 3) := by decide +kernel
theorem dX3_become_10 : decode cX3_become 10 = .ok (.iconst 0, 1) := by decide +kernel
theorem dX3_become_11 : decode cX3_become 11 = .ok (.istore_n 3, 1) := by decide +kernel
theorem dX3_become_12 : decode cX3_become 12 = .ok (.iload_n 3, 1) := by decide +kernel
theorem dX3_become_13 : decode cX3_become 13 = .ok (.bipush 40, 2) := by decide +kernel
theorem dX3_become_15 : decode cX3_become 15 = .ok (.if_icmp .ge 16, 3) := by decide +kernel
theorem dX3_become_18 : decode cX3_become 18 = .ok (.aload_n 0, 1) := by decide +kernel
theorem dX3_become_19 : decode cX3_become 19 = .ok (.getfield 15, 3) := by decide +kernel
theorem dX3_become_22 : decode cX3_become 22 = .ok (.iload_n 3, 1) := by decide +kernel
theorem dX3_become_23 : decode cX3_become 23 = .ok (.lconst 0, 1) := by decide +kernel
theorem dX3_become_24 : decode cX3_become 24 = .ok (.lastore, 1) := by decide +kernel
theorem dX3_become_25 : decode cX3_become 25 = .ok (.iinc 3 1, 3) := by decide +kernel
theorem dX3_become_28 : decode cX3_become 28 = .ok (.goto (-16), 3) := by decide +kernel
theorem dX3_become_31 : decode cX3_become 31 = .ok (.return_, 1) := by decide +kernel
theorem dX3_narrowed_0 : decode cX3_narrowed 0 = .ok (.aload_n 0, 1) := by decide +kernel
theorem dX3_narrowed_1 : decode cX3_narrowed 1 = .ok (.getfield 9, 3) := by decide +kernel
theorem dX3_narrowed_4 : decode cX3_narrowed 4 = .ok (.lookupswitch 36 #[(0, 28), (1, 32)], 28) := by decide +kernel
theorem dX3_narrowed_32 : decode cX3_narrowed 32 = .ok (.iload_n 1, 1) := by decide +kernel
theorem dX3_narrowed_33 : decode cX3_narrowed 33 = .ok (.i2b, 1) := by decide +kernel
theorem dX3_narrowed_34 : decode cX3_narrowed 34 = .ok (.i2l, 1) := by decide +kernel
theorem dX3_narrowed_35 : decode cX3_narrowed 35 = .ok (.lreturn, 1) := by decide +kernel
theorem dX3_narrowed_36 : decode cX3_narrowed 36 = .ok (.iload_n 1, 1) := by decide +kernel
theorem dX3_narrowed_37 : decode cX3_narrowed 37 = .ok (.i2s, 1) := by decide +kernel
theorem dX3_narrowed_38 : decode cX3_narrowed 38 = .ok (.i2l, 1) := by decide +kernel
theorem dX3_narrowed_39 : decode cX3_narrowed 39 = .ok (.lreturn, 1) := by decide +kernel
theorem dX3_narrowed_40 : decode cX3_narrowed 40 = .ok (.iload_n 1, 1) := by decide +kernel
theorem dX3_narrowed_41 : decode cX3_narrowed 41 = .ok (.i2l, 1) := by decide +kernel
theorem dX3_narrowed_42 : decode cX3_narrowed 42 = .ok (.lreturn, 1) := by decide +kernel
theorem dX4_init_0 : decode cX4_init 0 = .ok (.aload_n 0, 1) := by decide +kernel
theorem dX4_init_1 : decode cX4_init 1 = .ok (.iload_n 1, 1) := by decide +kernel
theorem dX4_init_2 : decode cX4_init 2 = .ok (.iload_n 2, 1) := by decide +kernel
theorem dX4_init_3 : decode cX4_init 3 = .ok (.iload_n 3, 1) := by decide +kernel
theorem dX4_init_4 : decode cX4_init 4 = .ok (.iload 4, 2) := by decide +kernel
theorem dX4_init_6 : decode cX4_init 6 = .ok (.invokespecial 1, 3) := by decide +kernel
theorem dX4_init_9 : decode cX4_init 9 = .ok (.return_, 1) := by decide +kernel
theorem dX4_kind_0 : decode cX4_kind 0 = .ok (.iconst 1, 1) := by decide +kernel
theorem dX4_kind_1 : decode cX4_kind 1 = .ok (.ireturn, 1) := by decide +kernel
theorem dX4_turnTold_0 : decode cX4_turnTold 0 = .ok (.iconst 0, 1) := by decide +kernel
theorem dX4_turnTold_1 : decode cX4_turnTold 1 = .ok (.ireturn, 1) := by decide +kernel
theorem dX4_turns_0 : decode cX4_turns 0 = .ok (.aload_n 2, 1) := by decide +kernel
theorem dX4_turns_1 : decode cX4_turns 1 = .ok (.bipush 20, 2) := by decide +kernel
theorem dX4_turns_3 : decode cX4_turns 3 = .ok (.invokevirtual 7, 3) := by decide +kernel
theorem dX4_turns_6 : decode cX4_turns 6 = .ok (.aload_n 0, 1) := by decide +kernel
theorem dX4_turns_7 : decode cX4_turns 7 = .ok (.iload_n 1, 1) := by decide +kernel
theorem dX4_turns_8 : decode cX4_turns 8 = .ok (.aload_n 2, 1) := by decide +kernel
theorem dX4_turns_9 : decode cX4_turns 9 = .ok (.invokespecial 13, 3) := by decide +kernel
theorem dX4_turns_12 : decode cX4_turns 12 = .ok (.aload_n 0, 1) := by decide +kernel
theorem dX4_turns_13 : decode cX4_turns 13 = .ok (.getfield 17, 3) := by decide +kernel
theorem dX4_turns_16 : decode cX4_turns 16 = .ok (.isub, 1) := by decide +kernel
theorem dX4_turns_17 : decode cX4_turns 17 = .ok (.ireturn, 1) := by decide +kernel
theorem dX5_init_0 : decode cX5_init 0 = .ok (.aload_n 0, 1) := by decide +kernel
theorem dX5_init_1 : decode cX5_init 1 = .ok (.iload_n 1, 1) := by decide +kernel
theorem dX5_init_2 : decode cX5_init 2 = .ok (.iload_n 2, 1) := by decide +kernel
theorem dX5_init_3 : decode cX5_init 3 = .ok (.iload_n 3, 1) := by decide +kernel
theorem dX5_init_4 : decode cX5_init 4 = .ok (.iload 4, 2) := by decide +kernel
theorem dX5_init_6 : decode cX5_init 6 = .ok (.invokespecial 1, 3) := by decide +kernel
theorem dX5_init_9 : decode cX5_init 9 = .ok (.return_, 1) := by decide +kernel
theorem dX5_kind_0 : decode cX5_kind 0 = .ok (.iconst 2, 1) := by decide +kernel
theorem dX5_kind_1 : decode cX5_kind 1 = .ok (.ireturn, 1) := by decide +kernel
theorem dX5_turnTold_0 : decode cX5_turnTold 0 = .ok (.aload_n 0, 1) := by decide +kernel
theorem dX5_turnTold_1 : decode cX5_turnTold 1 = .ok (.aload_n 1, 1) := by decide +kernel
theorem dX5_turnTold_2 : decode cX5_turnTold 2 = .ok (.iload_n 2, 1) := by decide +kernel
theorem dX5_turnTold_3 : decode cX5_turnTold 3 = .ok (.aload_n 3, 1) := by decide +kernel
theorem dX5_turnTold_4 : decode cX5_turnTold 4 = .ok (.invokespecial 7, 3) := by decide +kernel
theorem dX5_turnTold_7 : decode cX5_turnTold 7 = .ok (.istore 4, 2) := by decide +kernel
theorem dX5_turnTold_9 : decode cX5_turnTold 9 = .ok (.aload_n 1, 1) := by decide +kernel
theorem dX5_turnTold_10 : decode cX5_turnTold 10 = .ok (.getfield 11, 3) := by decide +kernel
theorem dX5_turnTold_13 : decode cX5_turnTold 13 = .ok (.bipush 10, 2) := by decide +kernel
theorem dX5_turnTold_15 : decode cX5_turnTold 15 = .ok (.if_icmp .lt 18, 3) := by decide +kernel
theorem dX5_turnTold_18 : decode cX5_turnTold 18 = .ok (.aload_n 1, 1) := by decide +kernel
theorem dX5_turnTold_19 : decode cX5_turnTold 19 = .ok (.getfield 11, 3) := by decide +kernel
theorem dX5_turnTold_22 : decode cX5_turnTold 22 = .ok (.bipush 26, 2) := by decide +kernel
theorem dX5_turnTold_24 : decode cX5_turnTold 24 = .ok (.if_icmp .gt 9, 3) := by decide +kernel
theorem dX5_turnTold_27 : decode cX5_turnTold 27 = .ok (.iload 4, 2) := by decide +kernel
theorem dX5_turnTold_29 : decode cX5_turnTold 29 = .ok (.ineg, 1) := by decide +kernel
theorem dX5_turnTold_30 : decode cX5_turnTold 30 = .ok (.goto 5, 3) := by decide +kernel
theorem dX5_turnTold_33 : decode cX5_turnTold 33 = .ok (.iload 4, 2) := by decide +kernel
theorem dX5_turnTold_35 : decode cX5_turnTold 35 = .ok (.ireturn, 1) := by decide +kernel
theorem dX5_falls_0 : decode cX5_falls 0 = .ok (.aload_n 2, 1) := by decide +kernel
theorem dX5_falls_1 : decode cX5_falls 1 = .ok (.bipush 30, 2) := by decide +kernel
theorem dX5_falls_3 : decode cX5_falls 3 = .ok (.invokevirtual 17, 3) := by decide +kernel
theorem dX5_falls_6 : decode cX5_falls 6 = .ok (.aload_n 0, 1) := by decide +kernel
theorem dX5_falls_7 : decode cX5_falls 7 = .ok (.iload_n 1, 1) := by decide +kernel
theorem dX5_falls_8 : decode cX5_falls 8 = .ok (.aload_n 2, 1) := by decide +kernel
theorem dX5_falls_9 : decode cX5_falls 9 = .ok (.invokespecial 23, 3) := by decide +kernel
theorem dX5_falls_12 : decode cX5_falls 12 = .ok (.iconst 3, 1) := by decide +kernel
theorem dX5_falls_13 : decode cX5_falls 13 = .ok (.imul, 1) := by decide +kernel
theorem dX5_falls_14 : decode cX5_falls 14 = .ok (.ireturn, 1) := by decide +kernel
theorem dX5_tells_0 : decode cX5_tells 0 = .ok (.aload_n 2, 1) := by decide +kernel
theorem dX5_tells_1 : decode cX5_tells 1 = .ok (.bipush 31, 2) := by decide +kernel
theorem dX5_tells_3 : decode cX5_tells 3 = .ok (.invokevirtual 17, 3) := by decide +kernel
theorem dX5_tells_6 : decode cX5_tells 6 = .ok (.aload_n 0, 1) := by decide +kernel
theorem dX5_tells_7 : decode cX5_tells 7 = .ok (.iload_n 1, 1) := by decide +kernel
theorem dX5_tells_8 : decode cX5_tells 8 = .ok (.aload_n 2, 1) := by decide +kernel
theorem dX5_tells_9 : decode cX5_tells 9 = .ok (.invokespecial 27, 3) := by decide +kernel
theorem dX5_tells_12 : decode cX5_tells 12 = .ok (.aload_n 0, 1) := by decide +kernel
theorem dX5_tells_13 : decode cX5_tells 13 = .ok (.aload_n 0, 1) := by decide +kernel
theorem dX5_tells_14 : decode cX5_tells 14 = .ok (.getfield 30, 3) := by decide +kernel
theorem dX5_tells_17 : decode cX5_tells 17 = .ok (.aload_n 2, 1) := by decide +kernel
theorem dX5_tells_18 : decode cX5_tells 18 = .ok (.invokevirtual 35, 3) := by decide +kernel
theorem dX5_tells_21 : decode cX5_tells 21 = .ok (.iadd, 1) := by decide +kernel
theorem dX5_tells_22 : decode cX5_tells 22 = .ok (.ireturn, 1) := by decide +kernel
theorem dX6_init_0 : decode cX6_init 0 = .ok (.aload_n 0, 1) := by decide +kernel
theorem dX6_init_1 : decode cX6_init 1 = .ok (.invokespecial 3, 3) := by decide +kernel
theorem dX6_init_4 : decode cX6_init 4 = .ok (.aload_n 0, 1) := by decide +kernel
theorem dX6_init_5 : decode cX6_init 5 = .ok (.sipush 200, 3) := by decide +kernel
theorem dX6_init_8 : decode cX6_init 8 = .ok (.newarray .byte, 2) := by decide +kernel
theorem dX6_init_10 : decode cX6_init 10 = .ok (.putfield 9, 3) := by decide +kernel
theorem dX6_init_13 : decode cX6_init 13 = .ok (.return_, 1) := by decide +kernel
theorem dX6_takeBytes_0 : decode cX6_takeBytes 0 = .ok (.iload_n 3, 1) := by decide +kernel
theorem dX6_takeBytes_1 : decode cX6_takeBytes 1 = .ok (.ifCond .lt 15, 3) := by decide +kernel
theorem dX6_takeBytes_4 : decode cX6_takeBytes 4 = .ok (.iload_n 3, 1) := by decide +kernel
theorem dX6_takeBytes_5 : decode cX6_takeBytes 5 = .ok (.sipush 200, 3) := by decide +kernel
theorem dX6_takeBytes_8 : decode cX6_takeBytes 8 = .ok (.aload_n 0, 1) := by decide +kernel
theorem dX6_takeBytes_9 : decode cX6_takeBytes 9 = .ok (.getfield 15, 3) := by decide +kernel
theorem dX6_takeBytes_12 : decode cX6_takeBytes 12 = .ok (.isub, 1) := by decide +kernel
theorem dX6_takeBytes_13 : decode cX6_takeBytes 13 = .ok (.if_icmp .le 5, 3) := by decide +kernel
theorem dX6_takeBytes_16 : decode cX6_takeBytes 16 = .ok (.iconst 0, 1) := by decide +kernel
theorem dX6_takeBytes_17 : decode cX6_takeBytes 17 = .ok (.ireturn, 1) := by decide +kernel
theorem dX6_takeBytes_18 : decode cX6_takeBytes 18 = .ok (.iconst 0, 1) := by decide +kernel
theorem dX6_takeBytes_19 : decode cX6_takeBytes 19 = .ok (.istore 4, 2) := by decide +kernel
theorem dX6_takeBytes_21 : decode cX6_takeBytes 21 = .ok (.iload 4, 2) := by decide +kernel
theorem dX6_takeBytes_23 : decode cX6_takeBytes 23 = .ok (.iload_n 3, 1) := by decide +kernel
theorem dX6_takeBytes_24 : decode cX6_takeBytes 24 = .ok (.if_icmp .ge 37, 3) := by decide +kernel
theorem dX6_takeBytes_27 : decode cX6_takeBytes 27 = .ok (.aload_n 0, 1) := by decide +kernel
theorem dX6_takeBytes_28 : decode cX6_takeBytes 28 = .ok (.getfield 9, 3) := by decide +kernel
theorem dX6_takeBytes_31 : decode cX6_takeBytes 31 = .ok (.aload_n 0, 1) := by decide +kernel
theorem dX6_takeBytes_32 : decode cX6_takeBytes 32 = .ok (.getfield 15, 3) := by decide +kernel
theorem dX6_takeBytes_35 : decode cX6_takeBytes 35 = .ok (.lload_n 1, 1) := by decide +kernel
theorem dX6_takeBytes_36 : decode cX6_takeBytes 36 = .ok (.bipush 8, 2) := by decide +kernel
theorem dX6_takeBytes_38 : decode cX6_takeBytes 38 = .ok (.iload 4, 2) := by decide +kernel
theorem dX6_takeBytes_40 : decode cX6_takeBytes 40 = .ok (.imul, 1) := by decide +kernel
theorem dX6_takeBytes_41 : decode cX6_takeBytes 41 = .ok (.lshr, 1) := by decide +kernel
theorem dX6_takeBytes_42 : decode cX6_takeBytes 42 = .ok (.l2i, 1) := by decide +kernel
theorem dX6_takeBytes_43 : decode cX6_takeBytes 43 = .ok (.i2b, 1) := by decide +kernel
theorem dX6_takeBytes_44 : decode cX6_takeBytes 44 = .ok (.bastore, 1) := by decide +kernel
theorem dX6_takeBytes_45 : decode cX6_takeBytes 45 = .ok (.aload_n 0, 1) := by decide +kernel
theorem dX6_takeBytes_46 : decode cX6_takeBytes 46 = .ok (.dup, 1) := by decide +kernel
theorem dX6_takeBytes_47 : decode cX6_takeBytes 47 = .ok (.getfield 15, 3) := by decide +kernel
theorem dX6_takeBytes_50 : decode cX6_takeBytes 50 = .ok (.iconst 1, 1) := by decide +kernel
theorem dX6_takeBytes_51 : decode cX6_takeBytes 51 = .ok (.iadd, 1) := by decide +kernel
theorem dX6_takeBytes_52 : decode cX6_takeBytes 52 = .ok (.putfield 15, 3) := by decide +kernel
theorem dX6_takeBytes_55 : decode cX6_takeBytes 55 = .ok (.iinc 4 1, 3) := by decide +kernel
theorem dX6_takeBytes_58 : decode cX6_takeBytes 58 = .ok (.goto (-37), 3) := by decide +kernel
theorem dX6_takeBytes_61 : decode cX6_takeBytes 61 = .ok (.iconst 1, 1) := by decide +kernel
theorem dX6_takeBytes_62 : decode cX6_takeBytes 62 = .ok (.ireturn, 1) := by decide +kernel
theorem dX6_readInto_0 : decode cX6_readInto 0 = .ok (.aload_n 0, 1) := by decide +kernel
theorem dX6_readInto_1 : decode cX6_readInto 1 = .ok (.iconst 0, 1) := by decide +kernel
theorem dX6_readInto_2 : decode cX6_readInto 2 = .ok (.putfield 19, 3) := by decide +kernel
theorem dX6_readInto_5 : decode cX6_readInto 5 = .ok (.aload_n 0, 1) := by decide +kernel
theorem dX6_readInto_6 : decode cX6_readInto 6 = .ok (.iconst (-1), 1) := by decide +kernel
theorem dX6_readInto_7 : decode cX6_readInto 7 = .ok (.putfield 22, 3) := by decide +kernel
theorem dX6_readInto_10 : decode cX6_readInto 10 = .ok (.aload_n 0, 1) := by decide +kernel
theorem dX6_readInto_11 : decode cX6_readInto 11 = .ok (.invokevirtual 25, 3) := by decide +kernel
theorem dX6_readInto_14 : decode cX6_readInto 14 = .ok (.iconst 0, 1) := by decide +kernel
theorem dX6_readInto_15 : decode cX6_readInto 15 = .ok (.istore_n 2, 1) := by decide +kernel
theorem dX6_readInto_16 : decode cX6_readInto 16 = .ok (.iload_n 2, 1) := by decide +kernel
theorem dX6_readInto_17 : decode cX6_readInto 17 = .ok (.sipush 200, 3) := by decide +kernel
theorem dX6_readInto_20 : decode cX6_readInto 20 = .ok (.if_icmp .ge 36, 3) := by decide +kernel
theorem dX6_readInto_23 : decode cX6_readInto 23 = .ok (.aload_n 0, 1) := by decide +kernel
theorem dX6_readInto_24 : decode cX6_readInto 24 = .ok (.invokevirtual 28, 3) := by decide +kernel
theorem dX6_readInto_27 : decode cX6_readInto 27 = .ok (.ifCond .eq 29, 3) := by decide +kernel
theorem dX6_readInto_30 : decode cX6_readInto 30 = .ok (.aload_n 0, 1) := by decide +kernel
theorem dX6_readInto_31 : decode cX6_readInto 31 = .ok (.getfield 19, 3) := by decide +kernel
theorem dX6_readInto_34 : decode cX6_readInto 34 = .ok (.aload_n 0, 1) := by decide +kernel
theorem dX6_readInto_35 : decode cX6_readInto 35 = .ok (.getfield 15, 3) := by decide +kernel
theorem dX6_readInto_38 : decode cX6_readInto 38 = .ok (.if_icmp .ge 18, 3) := by decide +kernel
theorem dX6_readInto_41 : decode cX6_readInto 41 = .ok (.aload_n 0, 1) := by decide +kernel
theorem dX6_readInto_42 : decode cX6_readInto 42 = .ok (.aload_n 1, 1) := by decide +kernel
theorem dX6_readInto_43 : decode cX6_readInto 43 = .ok (.invokevirtual 32, 3) := by decide +kernel
theorem dX6_readInto_46 : decode cX6_readInto 46 = .ok (.aload_n 0, 1) := by decide +kernel
theorem dX6_readInto_47 : decode cX6_readInto 47 = .ok (.invokevirtual 25, 3) := by decide +kernel
theorem dX6_readInto_50 : decode cX6_readInto 50 = .ok (.iinc 2 1, 3) := by decide +kernel
theorem dX6_readInto_53 : decode cX6_readInto 53 = .ok (.goto (-37), 3) := by decide +kernel
theorem dX6_readInto_56 : decode cX6_readInto 56 = .ok (.aload_n 0, 1) := by decide +kernel
theorem dX6_readInto_57 : decode cX6_readInto 57 = .ok (.getfield 22, 3) := by decide +kernel
theorem dX6_readInto_60 : decode cX6_readInto 60 = .ok (.ireturn, 1) := by decide +kernel
theorem dX6_readPart_0 : decode cX6_readPart 0 = .ok (.iconst 0, 1) := by decide +kernel
theorem dX6_readPart_1 : decode cX6_readPart 1 = .ok (.istore_n 2, 1) := by decide +kernel
theorem dX6_readPart_2 : decode cX6_readPart 2 = .ok (.iload_n 2, 1) := by decide +kernel
theorem dX6_readPart_3 : decode cX6_readPart 3 = .ok (.bipush 6, 2) := by decide +kernel
theorem dX6_readPart_5 : decode cX6_readPart 5 = .ok (.if_icmp .ge 38, 3) := by decide +kernel
theorem dX6_readPart_8 : decode cX6_readPart 8 = .ok (.aload_n 0, 1) := by decide +kernel
theorem dX6_readPart_9 : decode cX6_readPart 9 = .ok (.iload_n 2, 1) := by decide +kernel
theorem dX6_readPart_10 : decode cX6_readPart 10 = .ok (.invokestatic 36, 3) := by decide +kernel
theorem dX6_readPart_13 : decode cX6_readPart 13 = .ok (.invokevirtual 40, 3) := by decide +kernel
theorem dX6_readPart_16 : decode cX6_readPart 16 = .ok (.ifCond .eq 21, 3) := by decide +kernel
theorem dX6_readPart_19 : decode cX6_readPart 19 = .ok (.aload_n 1, 1) := by decide +kernel
theorem dX6_readPart_20 : decode cX6_readPart 20 = .ok (.getfield 44, 3) := by decide +kernel
theorem dX6_readPart_23 : decode cX6_readPart 23 = .ok (.iload_n 2, 1) := by decide +kernel
theorem dX6_readPart_24 : decode cX6_readPart 24 = .ok (.aload_n 0, 1) := by decide +kernel
theorem dX6_readPart_25 : decode cX6_readPart 25 = .ok (.iconst 0, 1) := by decide +kernel
theorem dX6_readPart_26 : decode cX6_readPart 26 = .ok (.bipush 63, 2) := by decide +kernel
theorem dX6_readPart_28 : decode cX6_readPart 28 = .ok (.invokevirtual 50, 3) := by decide +kernel
theorem dX6_readPart_31 : decode cX6_readPart 31 = .ok (.iastore, 1) := by decide +kernel
theorem dX6_readPart_32 : decode cX6_readPart 32 = .ok (.aload_n 0, 1) := by decide +kernel
theorem dX6_readPart_33 : decode cX6_readPart 33 = .ok (.invokevirtual 54, 3) := by decide +kernel
theorem dX6_readPart_36 : decode cX6_readPart 36 = .ok (.return_, 1) := by decide +kernel
theorem dX6_readPart_37 : decode cX6_readPart 37 = .ok (.iinc 2 1, 3) := by decide +kernel
theorem dX6_readPart_40 : decode cX6_readPart 40 = .ok (.goto (-38), 3) := by decide +kernel
theorem dX6_readPart_43 : decode cX6_readPart 43 = .ok (.aload_n 0, 1) := by decide +kernel
theorem dX6_readPart_44 : decode cX6_readPart 44 = .ok (.ldc 57, 2) := by decide +kernel
theorem dX6_readPart_46 : decode cX6_readPart 46 = .ok (.invokevirtual 40, 3) := by decide +kernel
theorem dX6_readPart_49 : decode cX6_readPart 49 = .ok (.ifCond .eq 11, 3) := by decide +kernel
theorem dX6_readPart_52 : decode cX6_readPart 52 = .ok (.aload_n 0, 1) := by decide +kernel
theorem dX6_readPart_53 : decode cX6_readPart 53 = .ok (.aload_n 1, 1) := by decide +kernel
theorem dX6_readPart_54 : decode cX6_readPart 54 = .ok (.invokevirtual 59, 3) := by decide +kernel
theorem dX6_readPart_57 : decode cX6_readPart 57 = .ok (.goto 8, 3) := by decide +kernel
theorem dX6_readPart_60 : decode cX6_readPart 60 = .ok (.aload_n 0, 1) := by decide +kernel
theorem dX6_readPart_61 : decode cX6_readPart 61 = .ok (.aload_n 1, 1) := by decide +kernel
theorem dX6_readPart_62 : decode cX6_readPart 62 = .ok (.invokevirtual 62, 3) := by decide +kernel
theorem dX6_readPart_65 : decode cX6_readPart 65 = .ok (.return_, 1) := by decide +kernel
theorem dX6_readHand_0 : decode cX6_readHand 0 = .ok (.iconst 0, 1) := by decide +kernel
theorem dX6_readHand_1 : decode cX6_readHand 1 = .ok (.istore_n 2, 1) := by decide +kernel
theorem dX6_readHand_2 : decode cX6_readHand 2 = .ok (.iconst 0, 1) := by decide +kernel
theorem dX6_readHand_3 : decode cX6_readHand 3 = .ok (.istore_n 3, 1) := by decide +kernel
theorem dX6_readHand_4 : decode cX6_readHand 4 = .ok (.iload_n 3, 1) := by decide +kernel
theorem dX6_readHand_5 : decode cX6_readHand 5 = .ok (.iconst 5, 1) := by decide +kernel
theorem dX6_readHand_6 : decode cX6_readHand 6 = .ok (.if_icmp .ge 48, 3) := by decide +kernel
theorem dX6_readHand_9 : decode cX6_readHand 9 = .ok (.iload_n 3, 1) := by decide +kernel
theorem dX6_readHand_10 : decode cX6_readHand 10 = .ok (.iconst 4, 1) := by decide +kernel
theorem dX6_readHand_11 : decode cX6_readHand 11 = .ok (.if_icmp .ne 11, 3) := by decide +kernel
theorem dX6_readHand_14 : decode cX6_readHand 14 = .ok (.iload_n 2, 1) := by decide +kernel
theorem dX6_readHand_15 : decode cX6_readHand 15 = .ok (.ifCond .ne 7, 3) := by decide +kernel
theorem dX6_readHand_18 : decode cX6_readHand 18 = .ok (.iconst 1, 1) := by decide +kernel
theorem dX6_readHand_19 : decode cX6_readHand 19 = .ok (.goto 4, 3) := by decide +kernel
theorem dX6_readHand_22 : decode cX6_readHand 22 = .ok (.iconst 0, 1) := by decide +kernel
theorem dX6_readHand_23 : decode cX6_readHand 23 = .ok (.istore 4, 2) := by decide +kernel
theorem dX6_readHand_25 : decode cX6_readHand 25 = .ok (.aload_n 1, 1) := by decide +kernel
theorem dX6_readHand_26 : decode cX6_readHand 26 = .ok (.getfield 65, 3) := by decide +kernel
theorem dX6_readHand_29 : decode cX6_readHand 29 = .ok (.iload_n 3, 1) := by decide +kernel
theorem dX6_readHand_30 : decode cX6_readHand 30 = .ok (.aload_n 0, 1) := by decide +kernel
theorem dX6_readHand_31 : decode cX6_readHand 31 = .ok (.iload 4, 2) := by decide +kernel
theorem dX6_readHand_33 : decode cX6_readHand 33 = .ok (.bipush 9, 2) := by decide +kernel
theorem dX6_readHand_35 : decode cX6_readHand 35 = .ok (.invokevirtual 50, 3) := by decide +kernel
theorem dX6_readHand_38 : decode cX6_readHand 38 = .ok (.iastore, 1) := by decide +kernel
theorem dX6_readHand_39 : decode cX6_readHand 39 = .ok (.iload_n 2, 1) := by decide +kernel
theorem dX6_readHand_40 : decode cX6_readHand 40 = .ok (.aload_n 1, 1) := by decide +kernel
theorem dX6_readHand_41 : decode cX6_readHand 41 = .ok (.getfield 65, 3) := by decide +kernel
theorem dX6_readHand_44 : decode cX6_readHand 44 = .ok (.iload_n 3, 1) := by decide +kernel
theorem dX6_readHand_45 : decode cX6_readHand 45 = .ok (.iaload, 1) := by decide +kernel
theorem dX6_readHand_46 : decode cX6_readHand 46 = .ok (.iadd, 1) := by decide +kernel
theorem dX6_readHand_47 : decode cX6_readHand 47 = .ok (.istore_n 2, 1) := by decide +kernel
theorem dX6_readHand_48 : decode cX6_readHand 48 = .ok (.iinc 3 1, 3) := by decide +kernel
theorem dX6_readHand_51 : decode cX6_readHand 51 = .ok (.goto (-47), 3) := by decide +kernel
theorem dX6_readHand_54 : decode cX6_readHand 54 = .ok (.aload_n 0, 1) := by decide +kernel
theorem dX6_readHand_55 : decode cX6_readHand 55 = .ok (.invokevirtual 54, 3) := by decide +kernel
theorem dX6_readHand_58 : decode cX6_readHand 58 = .ok (.return_, 1) := by decide +kernel
theorem dX6_readCard_0 : decode cX6_readCard 0 = .ok (.aload_n 1, 1) := by decide +kernel
theorem dX6_readCard_1 : decode cX6_readCard 1 = .ok (.getfield 67, 3) := by decide +kernel
theorem dX6_readCard_4 : decode cX6_readCard 4 = .ok (.bipush 6, 2) := by decide +kernel
theorem dX6_readCard_6 : decode cX6_readCard 6 = .ok (.if_icmp .ge 10, 3) := by decide +kernel
theorem dX6_readCard_9 : decode cX6_readCard 9 = .ok (.aload_n 0, 1) := by decide +kernel
theorem dX6_readCard_10 : decode cX6_readCard 10 = .ok (.invokevirtual 70, 3) := by decide +kernel
theorem dX6_readCard_13 : decode cX6_readCard 13 = .ok (.goto 4, 3) := by decide +kernel
theorem dX6_readCard_16 : decode cX6_readCard 16 = .ok (.iconst (-1), 1) := by decide +kernel
theorem dX6_readCard_17 : decode cX6_readCard 17 = .ok (.istore_n 2, 1) := by decide +kernel
theorem dX6_readCard_18 : decode cX6_readCard 18 = .ok (.iload_n 2, 1) := by decide +kernel
theorem dX6_readCard_19 : decode cX6_readCard 19 = .ok (.ifCond .ge 8, 3) := by decide +kernel
theorem dX6_readCard_22 : decode cX6_readCard 22 = .ok (.aload_n 0, 1) := by decide +kernel
theorem dX6_readCard_23 : decode cX6_readCard 23 = .ok (.invokevirtual 74, 3) := by decide +kernel
theorem dX6_readCard_26 : decode cX6_readCard 26 = .ok (.return_, 1) := by decide +kernel
theorem dX6_readCard_27 : decode cX6_readCard 27 = .ok (.aload_n 0, 1) := by decide +kernel
theorem dX6_readCard_28 : decode cX6_readCard 28 = .ok (.iconst 1, 1) := by decide +kernel
theorem dX6_readCard_29 : decode cX6_readCard 29 = .ok (.bipush 99, 2) := by decide +kernel
theorem dX6_readCard_31 : decode cX6_readCard 31 = .ok (.invokevirtual 50, 3) := by decide +kernel
theorem dX6_readCard_34 : decode cX6_readCard 34 = .ok (.istore_n 3, 1) := by decide +kernel
theorem dX6_readCard_35 : decode cX6_readCard 35 = .ok (.aload_n 0, 1) := by decide +kernel
theorem dX6_readCard_36 : decode cX6_readCard 36 = .ok (.ldc 77, 2) := by decide +kernel
theorem dX6_readCard_38 : decode cX6_readCard 38 = .ok (.invokevirtual 40, 3) := by decide +kernel
theorem dX6_readCard_41 : decode cX6_readCard 41 = .ok (.ifCond .ne 7, 3) := by decide +kernel
theorem dX6_readCard_44 : decode cX6_readCard 44 = .ok (.aload_n 0, 1) := by decide +kernel
theorem dX6_readCard_45 : decode cX6_readCard 45 = .ok (.invokevirtual 74, 3) := by decide +kernel
theorem dX6_readCard_48 : decode cX6_readCard 48 = .ok (.aload_n 0, 1) := by decide +kernel
theorem dX6_readCard_49 : decode cX6_readCard 49 = .ok (.iconst 1, 1) := by decide +kernel
theorem dX6_readCard_50 : decode cX6_readCard 50 = .ok (.bipush 9, 2) := by decide +kernel
theorem dX6_readCard_52 : decode cX6_readCard 52 = .ok (.invokevirtual 50, 3) := by decide +kernel
theorem dX6_readCard_55 : decode cX6_readCard 55 = .ok (.istore 4, 2) := by decide +kernel
theorem dX6_readCard_57 : decode cX6_readCard 57 = .ok (.aload_n 0, 1) := by decide +kernel
theorem dX6_readCard_58 : decode cX6_readCard 58 = .ok (.ldc 79, 2) := by decide +kernel
theorem dX6_readCard_60 : decode cX6_readCard 60 = .ok (.invokevirtual 40, 3) := by decide +kernel
theorem dX6_readCard_63 : decode cX6_readCard 63 = .ok (.ifCond .eq 10, 3) := by decide +kernel
theorem dX6_readCard_66 : decode cX6_readCard 66 = .ok (.aload_n 0, 1) := by decide +kernel
theorem dX6_readCard_67 : decode cX6_readCard 67 = .ok (.invokevirtual 81, 3) := by decide +kernel
theorem dX6_readCard_70 : decode cX6_readCard 70 = .ok (.goto 4, 3) := by decide +kernel
theorem dX6_readCard_73 : decode cX6_readCard 73 = .ok (.iconst 0, 1) := by decide +kernel
theorem dX6_readCard_74 : decode cX6_readCard 74 = .ok (.istore 5, 2) := by decide +kernel
theorem dX6_readCard_76 : decode cX6_readCard 76 = .ok (.aload_n 0, 1) := by decide +kernel
theorem dX6_readCard_77 : decode cX6_readCard 77 = .ok (.invokevirtual 54, 3) := by decide +kernel
theorem dX6_readCard_80 : decode cX6_readCard 80 = .ok (.aload_n 0, 1) := by decide +kernel
theorem dX6_readCard_81 : decode cX6_readCard 81 = .ok (.invokevirtual 28, 3) := by decide +kernel
theorem dX6_readCard_84 : decode cX6_readCard 84 = .ok (.ifCond .eq 14, 3) := by decide +kernel
theorem dX6_readCard_87 : decode cX6_readCard 87 = .ok (.aload_n 1, 1) := by decide +kernel
theorem dX6_readCard_88 : decode cX6_readCard 88 = .ok (.iload_n 2, 1) := by decide +kernel
theorem dX6_readCard_89 : decode cX6_readCard 89 = .ok (.iload_n 3, 1) := by decide +kernel
theorem dX6_readCard_90 : decode cX6_readCard 90 = .ok (.iload 4, 2) := by decide +kernel
theorem dX6_readCard_92 : decode cX6_readCard 92 = .ok (.iload 5, 2) := by decide +kernel
theorem dX6_readCard_94 : decode cX6_readCard 94 = .ok (.invokevirtual 84, 3) := by decide +kernel
theorem dX6_readCard_97 : decode cX6_readCard 97 = .ok (.pop, 1) := by decide +kernel
theorem dX6_readCard_98 : decode cX6_readCard 98 = .ok (.return_, 1) := by decide +kernel
theorem dX6_readClip_0 : decode cX6_readClip 0 = .ok (.aload_n 0, 1) := by decide +kernel
theorem dX6_readClip_1 : decode cX6_readClip 1 = .ok (.bipush 45, 2) := by decide +kernel
theorem dX6_readClip_3 : decode cX6_readClip 3 = .ok (.invokevirtual 88, 3) := by decide +kernel
theorem dX6_readClip_6 : decode cX6_readClip 6 = .ok (.istore_n 1, 1) := by decide +kernel
theorem dX6_readClip_7 : decode cX6_readClip 7 = .ok (.aload_n 0, 1) := by decide +kernel
theorem dX6_readClip_8 : decode cX6_readClip 8 = .ok (.iconst 0, 1) := by decide +kernel
theorem dX6_readClip_9 : decode cX6_readClip 9 = .ok (.iconst 4, 1) := by decide +kernel
theorem dX6_readClip_10 : decode cX6_readClip 10 = .ok (.invokevirtual 50, 3) := by decide +kernel
theorem dX6_readClip_13 : decode cX6_readClip 13 = .ok (.istore_n 2, 1) := by decide +kernel
theorem dX6_readClip_14 : decode cX6_readClip 14 = .ok (.iload_n 1, 1) := by decide +kernel
theorem dX6_readClip_15 : decode cX6_readClip 15 = .ok (.ifCond .eq 8, 3) := by decide +kernel
theorem dX6_readClip_18 : decode cX6_readClip 18 = .ok (.iload_n 2, 1) := by decide +kernel
theorem dX6_readClip_19 : decode cX6_readClip 19 = .ok (.ineg, 1) := by decide +kernel
theorem dX6_readClip_20 : decode cX6_readClip 20 = .ok (.goto 4, 3) := by decide +kernel
theorem dX6_readClip_23 : decode cX6_readClip 23 = .ok (.iload_n 2, 1) := by decide +kernel
theorem dX6_readClip_24 : decode cX6_readClip 24 = .ok (.ireturn, 1) := by decide +kernel
theorem dX6_passKind_0 : decode cX6_passKind 0 = .ok (.iconst 0, 1) := by decide +kernel
theorem dX6_passKind_1 : decode cX6_passKind 1 = .ok (.istore_n 1, 1) := by decide +kernel
theorem dX6_passKind_2 : decode cX6_passKind 2 = .ok (.iload_n 1, 1) := by decide +kernel
theorem dX6_passKind_3 : decode cX6_passKind 3 = .ok (.iconst 5, 1) := by decide +kernel
theorem dX6_passKind_4 : decode cX6_passKind 4 = .ok (.if_icmp .gt 22, 3) := by decide +kernel
theorem dX6_passKind_7 : decode cX6_passKind 7 = .ok (.aload_n 0, 1) := by decide +kernel
theorem dX6_passKind_8 : decode cX6_passKind 8 = .ok (.iload_n 1, 1) := by decide +kernel
theorem dX6_passKind_9 : decode cX6_passKind 9 = .ok (.invokestatic 92, 3) := by decide +kernel
theorem dX6_passKind_12 : decode cX6_passKind 12 = .ok (.invokevirtual 40, 3) := by decide +kernel
theorem dX6_passKind_15 : decode cX6_passKind 15 = .ok (.ifCond .eq 5, 3) := by decide +kernel
theorem dX6_passKind_18 : decode cX6_passKind 18 = .ok (.iload_n 1, 1) := by decide +kernel
theorem dX6_passKind_19 : decode cX6_passKind 19 = .ok (.ireturn, 1) := by decide +kernel
theorem dX6_passKind_20 : decode cX6_passKind 20 = .ok (.iinc 1 1, 3) := by decide +kernel
theorem dX6_passKind_23 : decode cX6_passKind 23 = .ok (.goto (-21), 3) := by decide +kernel
theorem dX6_passKind_26 : decode cX6_passKind 26 = .ok (.iconst (-1), 1) := by decide +kernel
theorem dX6_passKind_27 : decode cX6_passKind 27 = .ok (.ireturn, 1) := by decide +kernel
theorem dX6_passEnd_0 : decode cX6_passEnd 0 = .ok (.aload_n 0, 1) := by decide +kernel
theorem dX6_passEnd_1 : decode cX6_passEnd 1 = .ok (.bipush 59, 2) := by decide +kernel
theorem dX6_passEnd_3 : decode cX6_passEnd 3 = .ok (.invokevirtual 88, 3) := by decide +kernel
theorem dX6_passEnd_6 : decode cX6_passEnd 6 = .ok (.ifCond .ne 7, 3) := by decide +kernel
theorem dX6_passEnd_9 : decode cX6_passEnd 9 = .ok (.aload_n 0, 1) := by decide +kernel
theorem dX6_passEnd_10 : decode cX6_passEnd 10 = .ok (.invokevirtual 74, 3) := by decide +kernel
theorem dX6_passEnd_13 : decode cX6_passEnd 13 = .ok (.return_, 1) := by decide +kernel
theorem dX6_passSign_0 : decode cX6_passSign 0 = .ok (.aload_n 0, 1) := by decide +kernel
theorem dX6_passSign_1 : decode cX6_passSign 1 = .ok (.invokevirtual 25, 3) := by decide +kernel
theorem dX6_passSign_4 : decode cX6_passSign 4 = .ok (.aload_n 0, 1) := by decide +kernel
theorem dX6_passSign_5 : decode cX6_passSign 5 = .ok (.invokevirtual 28, 3) := by decide +kernel
theorem dX6_passSign_8 : decode cX6_passSign 8 = .ok (.ifCond .eq 27, 3) := by decide +kernel
theorem dX6_passSign_11 : decode cX6_passSign 11 = .ok (.aload_n 0, 1) := by decide +kernel
theorem dX6_passSign_12 : decode cX6_passSign 12 = .ok (.getfield 19, 3) := by decide +kernel
theorem dX6_passSign_15 : decode cX6_passSign 15 = .ok (.aload_n 0, 1) := by decide +kernel
theorem dX6_passSign_16 : decode cX6_passSign 16 = .ok (.getfield 15, 3) := by decide +kernel
theorem dX6_passSign_19 : decode cX6_passSign 19 = .ok (.if_icmp .ge 16, 3) := by decide +kernel
theorem dX6_passSign_22 : decode cX6_passSign 22 = .ok (.aload_n 0, 1) := by decide +kernel
theorem dX6_passSign_23 : decode cX6_passSign 23 = .ok (.getfield 9, 3) := by decide +kernel
theorem dX6_passSign_26 : decode cX6_passSign 26 = .ok (.aload_n 0, 1) := by decide +kernel
theorem dX6_passSign_27 : decode cX6_passSign 27 = .ok (.getfield 19, 3) := by decide +kernel
theorem dX6_passSign_30 : decode cX6_passSign 30 = .ok (.baload, 1) := by decide +kernel
theorem dX6_passSign_31 : decode cX6_passSign 31 = .ok (.iload_n 1, 1) := by decide +kernel
theorem dX6_passSign_32 : decode cX6_passSign 32 = .ok (.if_icmp .eq 5, 3) := by decide +kernel
theorem dX6_passSign_35 : decode cX6_passSign 35 = .ok (.iconst 0, 1) := by decide +kernel
theorem dX6_passSign_36 : decode cX6_passSign 36 = .ok (.ireturn, 1) := by decide +kernel
theorem dX6_passSign_37 : decode cX6_passSign 37 = .ok (.aload_n 0, 1) := by decide +kernel
theorem dX6_passSign_38 : decode cX6_passSign 38 = .ok (.dup, 1) := by decide +kernel
theorem dX6_passSign_39 : decode cX6_passSign 39 = .ok (.getfield 19, 3) := by decide +kernel
theorem dX6_passSign_42 : decode cX6_passSign 42 = .ok (.iconst 1, 1) := by decide +kernel
theorem dX6_passSign_43 : decode cX6_passSign 43 = .ok (.iadd, 1) := by decide +kernel
theorem dX6_passSign_44 : decode cX6_passSign 44 = .ok (.putfield 19, 3) := by decide +kernel
theorem dX6_passSign_47 : decode cX6_passSign 47 = .ok (.iconst 1, 1) := by decide +kernel
theorem dX6_passSign_48 : decode cX6_passSign 48 = .ok (.ireturn, 1) := by decide +kernel
theorem dX6_passName_0 : decode cX6_passName 0 = .ok (.aload_n 0, 1) := by decide +kernel
theorem dX6_passName_1 : decode cX6_passName 1 = .ok (.invokevirtual 25, 3) := by decide +kernel
theorem dX6_passName_4 : decode cX6_passName 4 = .ok (.aload_n 0, 1) := by decide +kernel
theorem dX6_passName_5 : decode cX6_passName 5 = .ok (.getfield 19, 3) := by decide +kernel
theorem dX6_passName_8 : decode cX6_passName 8 = .ok (.aload_n 1, 1) := by decide +kernel
theorem dX6_passName_9 : decode cX6_passName 9 = .ok (.invokevirtual 95, 3) := by decide +kernel
theorem dX6_passName_12 : decode cX6_passName 12 = .ok (.iadd, 1) := by decide +kernel
theorem dX6_passName_13 : decode cX6_passName 13 = .ok (.istore_n 2, 1) := by decide +kernel
theorem dX6_passName_14 : decode cX6_passName 14 = .ok (.aload_n 0, 1) := by decide +kernel
theorem dX6_passName_15 : decode cX6_passName 15 = .ok (.invokevirtual 28, 3) := by decide +kernel
theorem dX6_passName_18 : decode cX6_passName 18 = .ok (.ifCond .eq 23, 3) := by decide +kernel
theorem dX6_passName_21 : decode cX6_passName 21 = .ok (.iload_n 2, 1) := by decide +kernel
theorem dX6_passName_22 : decode cX6_passName 22 = .ok (.aload_n 0, 1) := by decide +kernel
theorem dX6_passName_23 : decode cX6_passName 23 = .ok (.getfield 15, 3) := by decide +kernel
theorem dX6_passName_26 : decode cX6_passName 26 = .ok (.if_icmp .gt 15, 3) := by decide +kernel
theorem dX6_passName_29 : decode cX6_passName 29 = .ok (.aload_n 0, 1) := by decide +kernel
theorem dX6_passName_30 : decode cX6_passName 30 = .ok (.iload_n 2, 1) := by decide +kernel
theorem dX6_passName_31 : decode cX6_passName 31 = .ok (.bipush 97, 2) := by decide +kernel
theorem dX6_passName_33 : decode cX6_passName 33 = .ok (.bipush 122, 2) := by decide +kernel
theorem dX6_passName_35 : decode cX6_passName 35 = .ok (.invokevirtual 99, 3) := by decide +kernel
theorem dX6_passName_38 : decode cX6_passName 38 = .ok (.ifCond .eq 5, 3) := by decide +kernel
theorem dX6_passName_41 : decode cX6_passName 41 = .ok (.iconst 0, 1) := by decide +kernel
theorem dX6_passName_42 : decode cX6_passName 42 = .ok (.ireturn, 1) := by decide +kernel
theorem dX6_passName_43 : decode cX6_passName 43 = .ok (.iconst 0, 1) := by decide +kernel
theorem dX6_passName_44 : decode cX6_passName 44 = .ok (.istore_n 3, 1) := by decide +kernel
theorem dX6_passName_45 : decode cX6_passName 45 = .ok (.iload_n 3, 1) := by decide +kernel
theorem dX6_passName_46 : decode cX6_passName 46 = .ok (.aload_n 1, 1) := by decide +kernel
theorem dX6_passName_47 : decode cX6_passName 47 = .ok (.invokevirtual 95, 3) := by decide +kernel
theorem dX6_passName_50 : decode cX6_passName 50 = .ok (.if_icmp .ge 30, 3) := by decide +kernel
theorem dX6_passName_53 : decode cX6_passName 53 = .ok (.aload_n 0, 1) := by decide +kernel
theorem dX6_passName_54 : decode cX6_passName 54 = .ok (.getfield 9, 3) := by decide +kernel
theorem dX6_passName_57 : decode cX6_passName 57 = .ok (.aload_n 0, 1) := by decide +kernel
theorem dX6_passName_58 : decode cX6_passName 58 = .ok (.getfield 19, 3) := by decide +kernel
theorem dX6_passName_61 : decode cX6_passName 61 = .ok (.iload_n 3, 1) := by decide +kernel
theorem dX6_passName_62 : decode cX6_passName 62 = .ok (.iadd, 1) := by decide +kernel
theorem dX6_passName_63 : decode cX6_passName 63 = .ok (.baload, 1) := by decide +kernel
theorem dX6_passName_64 : decode cX6_passName 64 = .ok (.aload_n 1, 1) := by decide +kernel
theorem dX6_passName_65 : decode cX6_passName 65 = .ok (.iload_n 3, 1) := by decide +kernel
theorem dX6_passName_66 : decode cX6_passName 66 = .ok (.invokevirtual 103, 3) := by decide +kernel
theorem dX6_passName_69 : decode cX6_passName 69 = .ok (.if_icmp .eq 5, 3) := by decide +kernel
theorem dX6_passName_72 : decode cX6_passName 72 = .ok (.iconst 0, 1) := by decide +kernel
theorem dX6_passName_73 : decode cX6_passName 73 = .ok (.ireturn, 1) := by decide +kernel
theorem dX6_passName_74 : decode cX6_passName 74 = .ok (.iinc 3 1, 3) := by decide +kernel
theorem dX6_passName_77 : decode cX6_passName 77 = .ok (.goto (-32), 3) := by decide +kernel
theorem dX6_passName_80 : decode cX6_passName 80 = .ok (.aload_n 0, 1) := by decide +kernel
theorem dX6_passName_81 : decode cX6_passName 81 = .ok (.iload_n 2, 1) := by decide +kernel
theorem dX6_passName_82 : decode cX6_passName 82 = .ok (.putfield 19, 3) := by decide +kernel
theorem dX6_passName_85 : decode cX6_passName 85 = .ok (.iconst 1, 1) := by decide +kernel
theorem dX6_passName_86 : decode cX6_passName 86 = .ok (.ireturn, 1) := by decide +kernel
theorem dX6_readNumber_0 : decode cX6_readNumber 0 = .ok (.aload_n 0, 1) := by decide +kernel
theorem dX6_readNumber_1 : decode cX6_readNumber 1 = .ok (.invokevirtual 25, 3) := by decide +kernel
theorem dX6_readNumber_4 : decode cX6_readNumber 4 = .ok (.aload_n 0, 1) := by decide +kernel
theorem dX6_readNumber_5 : decode cX6_readNumber 5 = .ok (.getfield 19, 3) := by decide +kernel
theorem dX6_readNumber_8 : decode cX6_readNumber 8 = .ok (.istore_n 3, 1) := by decide +kernel
theorem dX6_readNumber_9 : decode cX6_readNumber 9 = .ok (.iconst 0, 1) := by decide +kernel
theorem dX6_readNumber_10 : decode cX6_readNumber 10 = .ok (.istore 4, 2) := by decide +kernel
theorem dX6_readNumber_12 : decode cX6_readNumber 12 = .ok (.iload_n 3, 1) := by decide +kernel
theorem dX6_readNumber_13 : decode cX6_readNumber 13 = .ok (.aload_n 0, 1) := by decide +kernel
theorem dX6_readNumber_14 : decode cX6_readNumber 14 = .ok (.getfield 15, 3) := by decide +kernel
theorem dX6_readNumber_17 : decode cX6_readNumber 17 = .ok (.if_icmp .ge 43, 3) := by decide +kernel
theorem dX6_readNumber_20 : decode cX6_readNumber 20 = .ok (.aload_n 0, 1) := by decide +kernel
theorem dX6_readNumber_21 : decode cX6_readNumber 21 = .ok (.iload_n 3, 1) := by decide +kernel
theorem dX6_readNumber_22 : decode cX6_readNumber 22 = .ok (.bipush 48, 2) := by decide +kernel
theorem dX6_readNumber_24 : decode cX6_readNumber 24 = .ok (.bipush 57, 2) := by decide +kernel
theorem dX6_readNumber_26 : decode cX6_readNumber 26 = .ok (.invokevirtual 99, 3) := by decide +kernel
theorem dX6_readNumber_29 : decode cX6_readNumber 29 = .ok (.ifCond .eq 31, 3) := by decide +kernel
theorem dX6_readNumber_32 : decode cX6_readNumber 32 = .ok (.iload 4, 2) := by decide +kernel
theorem dX6_readNumber_34 : decode cX6_readNumber 34 = .ok (.bipush 10, 2) := by decide +kernel
theorem dX6_readNumber_36 : decode cX6_readNumber 36 = .ok (.imul, 1) := by decide +kernel
theorem dX6_readNumber_37 : decode cX6_readNumber 37 = .ok (.aload_n 0, 1) := by decide +kernel
theorem dX6_readNumber_38 : decode cX6_readNumber 38 = .ok (.getfield 9, 3) := by decide +kernel
theorem dX6_readNumber_41 : decode cX6_readNumber 41 = .ok (.iload_n 3, 1) := by decide +kernel
theorem dX6_readNumber_42 : decode cX6_readNumber 42 = .ok (.baload, 1) := by decide +kernel
theorem dX6_readNumber_43 : decode cX6_readNumber 43 = .ok (.iadd, 1) := by decide +kernel
theorem dX6_readNumber_44 : decode cX6_readNumber 44 = .ok (.bipush 48, 2) := by decide +kernel
theorem dX6_readNumber_46 : decode cX6_readNumber 46 = .ok (.isub, 1) := by decide +kernel
theorem dX6_readNumber_47 : decode cX6_readNumber 47 = .ok (.bipush 100, 2) := by decide +kernel
theorem dX6_readNumber_49 : decode cX6_readNumber 49 = .ok (.invokestatic 107, 3) := by decide +kernel
theorem dX6_readNumber_52 : decode cX6_readNumber 52 = .ok (.istore 4, 2) := by decide +kernel
theorem dX6_readNumber_54 : decode cX6_readNumber 54 = .ok (.iinc 3 1, 3) := by decide +kernel
theorem dX6_readNumber_57 : decode cX6_readNumber 57 = .ok (.goto (-45), 3) := by decide +kernel
theorem dX6_readNumber_60 : decode cX6_readNumber 60 = .ok (.iload_n 3, 1) := by decide +kernel
theorem dX6_readNumber_61 : decode cX6_readNumber 61 = .ok (.aload_n 0, 1) := by decide +kernel
theorem dX6_readNumber_62 : decode cX6_readNumber 62 = .ok (.getfield 19, 3) := by decide +kernel
theorem dX6_readNumber_65 : decode cX6_readNumber 65 = .ok (.isub, 1) := by decide +kernel
theorem dX6_readNumber_66 : decode cX6_readNumber 66 = .ok (.istore 5, 2) := by decide +kernel
theorem dX6_readNumber_68 : decode cX6_readNumber 68 = .ok (.aload_n 0, 1) := by decide +kernel
theorem dX6_readNumber_69 : decode cX6_readNumber 69 = .ok (.invokevirtual 28, 3) := by decide +kernel
theorem dX6_readNumber_72 : decode cX6_readNumber 72 = .ok (.ifCond .eq 27, 3) := by decide +kernel
theorem dX6_readNumber_75 : decode cX6_readNumber 75 = .ok (.iload 5, 2) := by decide +kernel
theorem dX6_readNumber_77 : decode cX6_readNumber 77 = .ok (.iconst 1, 1) := by decide +kernel
theorem dX6_readNumber_78 : decode cX6_readNumber 78 = .ok (.if_icmp .lt 21, 3) := by decide +kernel
theorem dX6_readNumber_81 : decode cX6_readNumber 81 = .ok (.iload 5, 2) := by decide +kernel
theorem dX6_readNumber_83 : decode cX6_readNumber 83 = .ok (.iconst 2, 1) := by decide +kernel
theorem dX6_readNumber_84 : decode cX6_readNumber 84 = .ok (.if_icmp .gt 15, 3) := by decide +kernel
theorem dX6_readNumber_87 : decode cX6_readNumber 87 = .ok (.iload 4, 2) := by decide +kernel
theorem dX6_readNumber_89 : decode cX6_readNumber 89 = .ok (.iload_n 1, 1) := by decide +kernel
theorem dX6_readNumber_90 : decode cX6_readNumber 90 = .ok (.if_icmp .lt 9, 3) := by decide +kernel
theorem dX6_readNumber_93 : decode cX6_readNumber 93 = .ok (.iload 4, 2) := by decide +kernel
theorem dX6_readNumber_95 : decode cX6_readNumber 95 = .ok (.iload_n 2, 1) := by decide +kernel
theorem dX6_readNumber_96 : decode cX6_readNumber 96 = .ok (.if_icmp .le 9, 3) := by decide +kernel
theorem dX6_readNumber_99 : decode cX6_readNumber 99 = .ok (.aload_n 0, 1) := by decide +kernel
theorem dX6_readNumber_100 : decode cX6_readNumber 100 = .ok (.invokevirtual 74, 3) := by decide +kernel
theorem dX6_readNumber_103 : decode cX6_readNumber 103 = .ok (.iconst 0, 1) := by decide +kernel
theorem dX6_readNumber_104 : decode cX6_readNumber 104 = .ok (.ireturn, 1) := by decide +kernel
theorem dX6_readNumber_105 : decode cX6_readNumber 105 = .ok (.aload_n 0, 1) := by decide +kernel
theorem dX6_readNumber_106 : decode cX6_readNumber 106 = .ok (.iload_n 3, 1) := by decide +kernel
theorem dX6_readNumber_107 : decode cX6_readNumber 107 = .ok (.putfield 19, 3) := by decide +kernel
theorem dX6_readNumber_110 : decode cX6_readNumber 110 = .ok (.iload 4, 2) := by decide +kernel
theorem dX6_readNumber_112 : decode cX6_readNumber 112 = .ok (.ireturn, 1) := by decide +kernel
theorem dX6_isBetween_0 : decode cX6_isBetween 0 = .ok (.iload_n 1, 1) := by decide +kernel
theorem dX6_isBetween_1 : decode cX6_isBetween 1 = .ok (.ifCond .lt 35, 3) := by decide +kernel
theorem dX6_isBetween_4 : decode cX6_isBetween 4 = .ok (.iload_n 1, 1) := by decide +kernel
theorem dX6_isBetween_5 : decode cX6_isBetween 5 = .ok (.aload_n 0, 1) := by decide +kernel
theorem dX6_isBetween_6 : decode cX6_isBetween 6 = .ok (.getfield 15, 3) := by decide +kernel
theorem dX6_isBetween_9 : decode cX6_isBetween 9 = .ok (.if_icmp .ge 27, 3) := by decide +kernel
theorem dX6_isBetween_12 : decode cX6_isBetween 12 = .ok (.aload_n 0, 1) := by decide +kernel
theorem dX6_isBetween_13 : decode cX6_isBetween 13 = .ok (.getfield 9, 3) := by decide +kernel
theorem dX6_isBetween_16 : decode cX6_isBetween 16 = .ok (.iload_n 1, 1) := by decide +kernel
theorem dX6_isBetween_17 : decode cX6_isBetween 17 = .ok (.baload, 1) := by decide +kernel
theorem dX6_isBetween_18 : decode cX6_isBetween 18 = .ok (.iload_n 2, 1) := by decide +kernel
theorem dX6_isBetween_19 : decode cX6_isBetween 19 = .ok (.if_icmp .lt 17, 3) := by decide +kernel
theorem dX6_isBetween_22 : decode cX6_isBetween 22 = .ok (.aload_n 0, 1) := by decide +kernel
theorem dX6_isBetween_23 : decode cX6_isBetween 23 = .ok (.getfield 9, 3) := by decide +kernel
theorem dX6_isBetween_26 : decode cX6_isBetween 26 = .ok (.iload_n 1, 1) := by decide +kernel
theorem dX6_isBetween_27 : decode cX6_isBetween 27 = .ok (.baload, 1) := by decide +kernel
theorem dX6_isBetween_28 : decode cX6_isBetween 28 = .ok (.iload_n 3, 1) := by decide +kernel
theorem dX6_isBetween_29 : decode cX6_isBetween 29 = .ok (.if_icmp .gt 7, 3) := by decide +kernel
theorem dX6_isBetween_32 : decode cX6_isBetween 32 = .ok (.iconst 1, 1) := by decide +kernel
theorem dX6_isBetween_33 : decode cX6_isBetween 33 = .ok (.goto 4, 3) := by decide +kernel
theorem dX6_isBetween_36 : decode cX6_isBetween 36 = .ok (.iconst 0, 1) := by decide +kernel
theorem dX6_isBetween_37 : decode cX6_isBetween 37 = .ok (.ireturn, 1) := by decide +kernel
theorem dX6_skipBlanks_0 : decode cX6_skipBlanks 0 = .ok (.aload_n 0, 1) := by decide +kernel
theorem dX6_skipBlanks_1 : decode cX6_skipBlanks 1 = .ok (.getfield 19, 3) := by decide +kernel
theorem dX6_skipBlanks_4 : decode cX6_skipBlanks 4 = .ok (.aload_n 0, 1) := by decide +kernel
theorem dX6_skipBlanks_5 : decode cX6_skipBlanks 5 = .ok (.getfield 15, 3) := by decide +kernel
theorem dX6_skipBlanks_8 : decode cX6_skipBlanks 8 = .ok (.if_icmp .ge 30, 3) := by decide +kernel
theorem dX6_skipBlanks_11 : decode cX6_skipBlanks 11 = .ok (.aload_n 0, 1) := by decide +kernel
theorem dX6_skipBlanks_12 : decode cX6_skipBlanks 12 = .ok (.getfield 9, 3) := by decide +kernel
theorem dX6_skipBlanks_15 : decode cX6_skipBlanks 15 = .ok (.aload_n 0, 1) := by decide +kernel
theorem dX6_skipBlanks_16 : decode cX6_skipBlanks 16 = .ok (.getfield 19, 3) := by decide +kernel
theorem dX6_skipBlanks_19 : decode cX6_skipBlanks 19 = .ok (.baload, 1) := by decide +kernel
theorem dX6_skipBlanks_20 : decode cX6_skipBlanks 20 = .ok (.bipush 32, 2) := by decide +kernel
theorem dX6_skipBlanks_22 : decode cX6_skipBlanks 22 = .ok (.if_icmp .ne 16, 3) := by decide +kernel
theorem dX6_skipBlanks_25 : decode cX6_skipBlanks 25 = .ok (.aload_n 0, 1) := by decide +kernel
theorem dX6_skipBlanks_26 : decode cX6_skipBlanks 26 = .ok (.dup, 1) := by decide +kernel
theorem dX6_skipBlanks_27 : decode cX6_skipBlanks 27 = .ok (.getfield 19, 3) := by decide +kernel
theorem dX6_skipBlanks_30 : decode cX6_skipBlanks 30 = .ok (.iconst 1, 1) := by decide +kernel
theorem dX6_skipBlanks_31 : decode cX6_skipBlanks 31 = .ok (.iadd, 1) := by decide +kernel
theorem dX6_skipBlanks_32 : decode cX6_skipBlanks 32 = .ok (.putfield 19, 3) := by decide +kernel
theorem dX6_skipBlanks_35 : decode cX6_skipBlanks 35 = .ok (.goto (-35), 3) := by decide +kernel
theorem dX6_skipBlanks_38 : decode cX6_skipBlanks 38 = .ok (.return_, 1) := by decide +kernel
theorem dX6_isGood_0 : decode cX6_isGood 0 = .ok (.aload_n 0, 1) := by decide +kernel
theorem dX6_isGood_1 : decode cX6_isGood 1 = .ok (.getfield 22, 3) := by decide +kernel
theorem dX6_isGood_4 : decode cX6_isGood 4 = .ok (.iconst (-1), 1) := by decide +kernel
theorem dX6_isGood_5 : decode cX6_isGood 5 = .ok (.if_icmp .ne 7, 3) := by decide +kernel
theorem dX6_isGood_8 : decode cX6_isGood 8 = .ok (.iconst 1, 1) := by decide +kernel
theorem dX6_isGood_9 : decode cX6_isGood 9 = .ok (.goto 4, 3) := by decide +kernel
theorem dX6_isGood_12 : decode cX6_isGood 12 = .ok (.iconst 0, 1) := by decide +kernel
theorem dX6_isGood_13 : decode cX6_isGood 13 = .ok (.ireturn, 1) := by decide +kernel
theorem dX6_blameHere_0 : decode cX6_blameHere 0 = .ok (.aload_n 0, 1) := by decide +kernel
theorem dX6_blameHere_1 : decode cX6_blameHere 1 = .ok (.invokevirtual 28, 3) := by decide +kernel
theorem dX6_blameHere_4 : decode cX6_blameHere 4 = .ok (.ifCond .eq 11, 3) := by decide +kernel
theorem dX6_blameHere_7 : decode cX6_blameHere 7 = .ok (.aload_n 0, 1) := by decide +kernel
theorem dX6_blameHere_8 : decode cX6_blameHere 8 = .ok (.aload_n 0, 1) := by decide +kernel
theorem dX6_blameHere_9 : decode cX6_blameHere 9 = .ok (.getfield 19, 3) := by decide +kernel
theorem dX6_blameHere_12 : decode cX6_blameHere 12 = .ok (.putfield 22, 3) := by decide +kernel
theorem dX6_blameHere_15 : decode cX6_blameHere 15 = .ok (.return_, 1) := by decide +kernel
theorem dX6_lawName_0 : decode cX6_lawName 0 = .ok (.iload_n 0, 1) := by decide +kernel
theorem dX6_lawName_1 : decode cX6_lawName 1 = .ok (.tableswitch 50 0 4 #[35, 38, 41, 44, 47], 35) := by decide +kernel
theorem dX6_lawName_36 : decode cX6_lawName 36 = .ok (.ldc 112, 2) := by decide +kernel
theorem dX6_lawName_38 : decode cX6_lawName 38 = .ok (.areturn, 1) := by decide +kernel
theorem dX6_lawName_39 : decode cX6_lawName 39 = .ok (.ldc 114, 2) := by decide +kernel
theorem dX6_lawName_41 : decode cX6_lawName 41 = .ok (.areturn, 1) := by decide +kernel
theorem dX6_lawName_42 : decode cX6_lawName 42 = .ok (.ldc 116, 2) := by decide +kernel
theorem dX6_lawName_44 : decode cX6_lawName 44 = .ok (.areturn, 1) := by decide +kernel
theorem dX6_lawName_45 : decode cX6_lawName 45 = .ok (.ldc 118, 2) := by decide +kernel
theorem dX6_lawName_47 : decode cX6_lawName 47 = .ok (.areturn, 1) := by decide +kernel
theorem dX6_lawName_48 : decode cX6_lawName 48 = .ok (.ldc 120, 2) := by decide +kernel
theorem dX6_lawName_50 : decode cX6_lawName 50 = .ok (.areturn, 1) := by decide +kernel
theorem dX6_lawName_51 : decode cX6_lawName 51 = .ok (.ldc 122, 2) := by decide +kernel
theorem dX6_lawName_53 : decode cX6_lawName 53 = .ok (.areturn, 1) := by decide +kernel
theorem dX6_kindName_0 : decode cX6_kindName 0 = .ok (.iload_n 0, 1) := by decide +kernel
theorem dX6_kindName_1 : decode cX6_kindName 1 = .ok (.tableswitch 50 0 4 #[35, 38, 41, 44, 47], 35) := by decide +kernel
theorem dX6_kindName_36 : decode cX6_kindName 36 = .ok (.ldc 124, 2) := by decide +kernel
theorem dX6_kindName_38 : decode cX6_kindName 38 = .ok (.areturn, 1) := by decide +kernel
theorem dX6_kindName_39 : decode cX6_kindName 39 = .ok (.ldc 126, 2) := by decide +kernel
theorem dX6_kindName_41 : decode cX6_kindName 41 = .ok (.areturn, 1) := by decide +kernel
theorem dX6_kindName_42 : decode cX6_kindName 42 = .ok (.ldc 128, 2) := by decide +kernel
theorem dX6_kindName_44 : decode cX6_kindName 44 = .ok (.areturn, 1) := by decide +kernel
theorem dX6_kindName_45 : decode cX6_kindName 45 = .ok (.ldc 130, 2) := by decide +kernel
theorem dX6_kindName_47 : decode cX6_kindName 47 = .ok (.areturn, 1) := by decide +kernel
theorem dX6_kindName_48 : decode cX6_kindName 48 = .ok (.ldc 132, 2) := by decide +kernel
theorem dX6_kindName_50 : decode cX6_kindName 50 = .ok (.areturn, 1) := by decide +kernel
theorem dX6_kindName_51 : decode cX6_kindName 51 = .ok (.ldc 134, 2) := by decide +kernel
theorem dX6_kindName_53 : decode cX6_kindName 53 = .ok (.areturn, 1) := by decide +kernel
theorem dX7_init_0 : decode cX7_init 0 = .ok (.aload_n 0, 1) := by decide +kernel
theorem dX7_init_1 : decode cX7_init 1 = .ok (.invokespecial 3, 3) := by decide +kernel
theorem dX7_init_4 : decode cX7_init 4 = .ok (.aload_n 0, 1) := by decide +kernel
theorem dX7_init_5 : decode cX7_init 5 = .ok (.bipush 30, 2) := by decide +kernel
theorem dX7_init_7 : decode cX7_init 7 = .ok (.newarray .int, 2) := by decide +kernel
theorem dX7_init_9 : decode cX7_init 9 = .ok (.putfield 9, 3) := by decide +kernel
theorem dX7_init_12 : decode cX7_init 12 = .ok (.return_, 1) := by decide +kernel
theorem dX7_clear_0 : decode cX7_clear 0 = .ok (.aload_n 0, 1) := by decide +kernel
theorem dX7_clear_1 : decode cX7_clear 1 = .ok (.iconst 0, 1) := by decide +kernel
theorem dX7_clear_2 : decode cX7_clear 2 = .ok (.putfield 15, 3) := by decide +kernel
theorem dX7_clear_5 : decode cX7_clear 5 = .ok (.aload_n 0, 1) := by decide +kernel
theorem dX7_clear_6 : decode cX7_clear 6 = .ok (.iconst 0, 1) := by decide +kernel
theorem dX7_clear_7 : decode cX7_clear 7 = .ok (.putfield 19, 3) := by decide +kernel
theorem dX7_clear_10 : decode cX7_clear 10 = .ok (.return_, 1) := by decide +kernel
theorem dX7_began_0 : decode cX7_began 0 = .ok (.aload_n 0, 1) := by decide +kernel
theorem dX7_began_1 : decode cX7_began 1 = .ok (.getfield 19, 3) := by decide +kernel
theorem dX7_began_4 : decode cX7_began 4 = .ok (.ifCond .ne 32, 3) := by decide +kernel
theorem dX7_began_7 : decode cX7_began 7 = .ok (.aload_n 0, 1) := by decide +kernel
theorem dX7_began_8 : decode cX7_began 8 = .ok (.getfield 15, 3) := by decide +kernel
theorem dX7_began_11 : decode cX7_began 11 = .ok (.bipush 30, 2) := by decide +kernel
theorem dX7_began_13 : decode cX7_began 13 = .ok (.if_icmp .ge 23, 3) := by decide +kernel
theorem dX7_began_16 : decode cX7_began 16 = .ok (.aload_n 0, 1) := by decide +kernel
theorem dX7_began_17 : decode cX7_began 17 = .ok (.getfield 9, 3) := by decide +kernel
theorem dX7_began_20 : decode cX7_began 20 = .ok (.aload_n 0, 1) := by decide +kernel
theorem dX7_began_21 : decode cX7_began 21 = .ok (.getfield 15, 3) := by decide +kernel
theorem dX7_began_24 : decode cX7_began 24 = .ok (.iload_n 1, 1) := by decide +kernel
theorem dX7_began_25 : decode cX7_began 25 = .ok (.iastore, 1) := by decide +kernel
theorem dX7_began_26 : decode cX7_began 26 = .ok (.aload_n 0, 1) := by decide +kernel
theorem dX7_began_27 : decode cX7_began 27 = .ok (.dup, 1) := by decide +kernel
theorem dX7_began_28 : decode cX7_began 28 = .ok (.getfield 15, 3) := by decide +kernel
theorem dX7_began_31 : decode cX7_began 31 = .ok (.iconst 1, 1) := by decide +kernel
theorem dX7_began_32 : decode cX7_began 32 = .ok (.iadd, 1) := by decide +kernel
theorem dX7_began_33 : decode cX7_began 33 = .ok (.putfield 15, 3) := by decide +kernel
theorem dX7_began_36 : decode cX7_began 36 = .ok (.return_, 1) := by decide +kernel
theorem dX8_init_0 : decode cX8_init 0 = .ok (.aload_n 0, 1) := by decide +kernel
theorem dX8_init_1 : decode cX8_init 1 = .ok (.iload_n 1, 1) := by decide +kernel
theorem dX8_init_2 : decode cX8_init 2 = .ok (.iload_n 2, 1) := by decide +kernel
theorem dX8_init_3 : decode cX8_init 3 = .ok (.iload_n 3, 1) := by decide +kernel
theorem dX8_init_4 : decode cX8_init 4 = .ok (.iload 4, 2) := by decide +kernel
theorem dX8_init_6 : decode cX8_init 6 = .ok (.invokespecial 1, 3) := by decide +kernel
theorem dX8_init_9 : decode cX8_init 9 = .ok (.return_, 1) := by decide +kernel
theorem dX8_kind_0 : decode cX8_kind 0 = .ok (.iconst 3, 1) := by decide +kernel
theorem dX8_kind_1 : decode cX8_kind 1 = .ok (.ireturn, 1) := by decide +kernel
theorem dX8_turnTold_0 : decode cX8_turnTold 0 = .ok (.aload_n 0, 1) := by decide +kernel
theorem dX8_turnTold_1 : decode cX8_turnTold 1 = .ok (.aload_n 1, 1) := by decide +kernel
theorem dX8_turnTold_2 : decode cX8_turnTold 2 = .ok (.iload_n 2, 1) := by decide +kernel
theorem dX8_turnTold_3 : decode cX8_turnTold 3 = .ok (.aload_n 3, 1) := by decide +kernel
theorem dX8_turnTold_4 : decode cX8_turnTold 4 = .ok (.invokespecial 7, 3) := by decide +kernel
theorem dX8_turnTold_7 : decode cX8_turnTold 7 = .ok (.aload_n 1, 1) := by decide +kernel
theorem dX8_turnTold_8 : decode cX8_turnTold 8 = .ok (.getfield 11, 3) := by decide +kernel
theorem dX8_turnTold_11 : decode cX8_turnTold 11 = .ok (.ifCond .lt 7, 3) := by decide +kernel
theorem dX8_turnTold_14 : decode cX8_turnTold 14 = .ok (.iconst 1, 1) := by decide +kernel
theorem dX8_turnTold_15 : decode cX8_turnTold 15 = .ok (.goto 4, 3) := by decide +kernel
theorem dX8_turnTold_18 : decode cX8_turnTold 18 = .ok (.iconst (-1), 1) := by decide +kernel
theorem dX8_turnTold_19 : decode cX8_turnTold 19 = .ok (.iadd, 1) := by decide +kernel
theorem dX8_turnTold_20 : decode cX8_turnTold 20 = .ok (.ireturn, 1) := by decide +kernel
theorem dX8_turns_0 : decode cX8_turns 0 = .ok (.aload_n 2, 1) := by decide +kernel
theorem dX8_turns_1 : decode cX8_turns 1 = .ok (.bipush 40, 2) := by decide +kernel
theorem dX8_turns_3 : decode cX8_turns 3 = .ok (.invokevirtual 17, 3) := by decide +kernel
theorem dX8_turns_6 : decode cX8_turns 6 = .ok (.iconst 0, 1) := by decide +kernel
theorem dX8_turns_7 : decode cX8_turns 7 = .ok (.aload_n 0, 1) := by decide +kernel
theorem dX8_turns_8 : decode cX8_turns 8 = .ok (.iload_n 1, 1) := by decide +kernel
theorem dX8_turns_9 : decode cX8_turns 9 = .ok (.aload_n 2, 1) := by decide +kernel
theorem dX8_turns_10 : decode cX8_turns 10 = .ok (.invokespecial 23, 3) := by decide +kernel
theorem dX8_turns_13 : decode cX8_turns 13 = .ok (.isub, 1) := by decide +kernel
theorem dX8_turns_14 : decode cX8_turns 14 = .ok (.ireturn, 1) := by decide +kernel
theorem dX9_init_0 : decode cX9_init 0 = .ok (.aload_n 0, 1) := by decide +kernel
theorem dX9_init_1 : decode cX9_init 1 = .ok (.iload_n 1, 1) := by decide +kernel
theorem dX9_init_2 : decode cX9_init 2 = .ok (.iload_n 2, 1) := by decide +kernel
theorem dX9_init_3 : decode cX9_init 3 = .ok (.iload_n 3, 1) := by decide +kernel
theorem dX9_init_4 : decode cX9_init 4 = .ok (.iload 4, 2) := by decide +kernel
theorem dX9_init_6 : decode cX9_init 6 = .ok (.invokespecial 1, 3) := by decide +kernel
theorem dX9_init_9 : decode cX9_init 9 = .ok (.return_, 1) := by decide +kernel
theorem dX9_kind_0 : decode cX9_kind 0 = .ok (.iconst 5, 1) := by decide +kernel
theorem dX9_kind_1 : decode cX9_kind 1 = .ok (.ireturn, 1) := by decide +kernel
theorem dX9_downTold_0 : decode cX9_downTold 0 = .ok (.iload_n 1, 1) := by decide +kernel
theorem dX9_downTold_1 : decode cX9_downTold 1 = .ok (.iconst 2, 1) := by decide +kernel
theorem dX9_downTold_2 : decode cX9_downTold 2 = .ok (.idiv, 1) := by decide +kernel
theorem dX9_downTold_3 : decode cX9_downTold 3 = .ok (.ireturn, 1) := by decide +kernel
theorem dX9_tells_0 : decode cX9_tells 0 = .ok (.aload_n 2, 1) := by decide +kernel
theorem dX9_tells_1 : decode cX9_tells 1 = .ok (.bipush 60, 2) := by decide +kernel
theorem dX9_tells_3 : decode cX9_tells 3 = .ok (.invokevirtual 7, 3) := by decide +kernel
theorem dX9_tells_6 : decode cX9_tells 6 = .ok (.aload_n 0, 1) := by decide +kernel
theorem dX9_tells_7 : decode cX9_tells 7 = .ok (.iload_n 1, 1) := by decide +kernel
theorem dX9_tells_8 : decode cX9_tells 8 = .ok (.aload_n 2, 1) := by decide +kernel
theorem dX9_tells_9 : decode cX9_tells 9 = .ok (.invokespecial 13, 3) := by decide +kernel
theorem dX9_tells_12 : decode cX9_tells 12 = .ok (.iconst 2, 1) := by decide +kernel
theorem dX9_tells_13 : decode cX9_tells 13 = .ok (.imul, 1) := by decide +kernel
theorem dX9_tells_14 : decode cX9_tells 14 = .ok (.ireturn, 1) := by decide +kernel
theorem dX9_shares_0 : decode cX9_shares 0 = .ok (.aload_n 2, 1) := by decide +kernel
theorem dX9_shares_1 : decode cX9_shares 1 = .ok (.bipush 61, 2) := by decide +kernel
theorem dX9_shares_3 : decode cX9_shares 3 = .ok (.invokevirtual 7, 3) := by decide +kernel
theorem dX9_shares_6 : decode cX9_shares 6 = .ok (.aload_n 0, 1) := by decide +kernel
theorem dX9_shares_7 : decode cX9_shares 7 = .ok (.iload_n 1, 1) := by decide +kernel
theorem dX9_shares_8 : decode cX9_shares 8 = .ok (.aload_n 2, 1) := by decide +kernel
theorem dX9_shares_9 : decode cX9_shares 9 = .ok (.invokespecial 17, 3) := by decide +kernel
theorem dX9_shares_12 : decode cX9_shares 12 = .ok (.aload_n 0, 1) := by decide +kernel
theorem dX9_shares_13 : decode cX9_shares 13 = .ok (.aload_n 0, 1) := by decide +kernel
theorem dX9_shares_14 : decode cX9_shares 14 = .ok (.getfield 20, 3) := by decide +kernel
theorem dX9_shares_17 : decode cX9_shares 17 = .ok (.aload_n 2, 1) := by decide +kernel
theorem dX9_shares_18 : decode cX9_shares 18 = .ok (.invokevirtual 26, 3) := by decide +kernel
theorem dX9_shares_21 : decode cX9_shares 21 = .ok (.iadd, 1) := by decide +kernel
theorem dX9_shares_22 : decode cX9_shares 22 = .ok (.ireturn, 1) := by decide +kernel
theorem dX10_init_0 : decode cX10_init 0 = .ok (.aload_n 0, 1) := by decide +kernel
theorem dX10_init_1 : decode cX10_init 1 = .ok (.invokespecial 3, 3) := by decide +kernel
theorem dX10_init_4 : decode cX10_init 4 = .ok (.aload_n 0, 1) := by decide +kernel
theorem dX10_init_5 : decode cX10_init 5 = .ok (.bipush 6, 2) := by decide +kernel
theorem dX10_init_7 : decode cX10_init 7 = .ok (.anewarray 9, 3) := by decide +kernel
theorem dX10_init_10 : decode cX10_init 10 = .ok (.putfield 11, 3) := by decide +kernel
theorem dX10_init_13 : decode cX10_init 13 = .ok (.aload_n 0, 1) := by decide +kernel
theorem dX10_init_14 : decode cX10_init 14 = .ok (.bipush 6, 2) := by decide +kernel
theorem dX10_init_16 : decode cX10_init 16 = .ok (.newarray .int, 2) := by decide +kernel
theorem dX10_init_18 : decode cX10_init 18 = .ok (.dup, 1) := by decide +kernel
theorem dX10_init_19 : decode cX10_init 19 = .ok (.iconst 0, 1) := by decide +kernel
theorem dX10_init_20 : decode cX10_init 20 = .ok (.bipush 16, 2) := by decide +kernel
theorem dX10_init_22 : decode cX10_init 22 = .ok (.iastore, 1) := by decide +kernel
theorem dX10_init_23 : decode cX10_init 23 = .ok (.dup, 1) := by decide +kernel
theorem dX10_init_24 : decode cX10_init 24 = .ok (.iconst 1, 1) := by decide +kernel
theorem dX10_init_25 : decode cX10_init 25 = .ok (.bipush 8, 2) := by decide +kernel
theorem dX10_init_27 : decode cX10_init 27 = .ok (.iastore, 1) := by decide +kernel
theorem dX10_init_28 : decode cX10_init 28 = .ok (.dup, 1) := by decide +kernel
theorem dX10_init_29 : decode cX10_init 29 = .ok (.iconst 2, 1) := by decide +kernel
theorem dX10_init_30 : decode cX10_init 30 = .ok (.bipush 24, 2) := by decide +kernel
theorem dX10_init_32 : decode cX10_init 32 = .ok (.iastore, 1) := by decide +kernel
theorem dX10_init_33 : decode cX10_init 33 = .ok (.dup, 1) := by decide +kernel
theorem dX10_init_34 : decode cX10_init 34 = .ok (.iconst 3, 1) := by decide +kernel
theorem dX10_init_35 : decode cX10_init 35 = .ok (.bipush 20, 2) := by decide +kernel
theorem dX10_init_37 : decode cX10_init 37 = .ok (.iastore, 1) := by decide +kernel
theorem dX10_init_38 : decode cX10_init 38 = .ok (.dup, 1) := by decide +kernel
theorem dX10_init_39 : decode cX10_init 39 = .ok (.iconst 4, 1) := by decide +kernel
theorem dX10_init_40 : decode cX10_init 40 = .ok (.bipush 12, 2) := by decide +kernel
theorem dX10_init_42 : decode cX10_init 42 = .ok (.iastore, 1) := by decide +kernel
theorem dX10_init_43 : decode cX10_init 43 = .ok (.dup, 1) := by decide +kernel
theorem dX10_init_44 : decode cX10_init 44 = .ok (.iconst 5, 1) := by decide +kernel
theorem dX10_init_45 : decode cX10_init 45 = .ok (.bipush 32, 2) := by decide +kernel
theorem dX10_init_47 : decode cX10_init 47 = .ok (.iastore, 1) := by decide +kernel
theorem dX10_init_48 : decode cX10_init 48 = .ok (.putfield 17, 3) := by decide +kernel
theorem dX10_init_51 : decode cX10_init 51 = .ok (.aload_n 0, 1) := by decide +kernel
theorem dX10_init_52 : decode cX10_init 52 = .ok (.iconst 5, 1) := by decide +kernel
theorem dX10_init_53 : decode cX10_init 53 = .ok (.newarray .int, 2) := by decide +kernel
theorem dX10_init_55 : decode cX10_init 55 = .ok (.dup, 1) := by decide +kernel
theorem dX10_init_56 : decode cX10_init 56 = .ok (.iconst 0, 1) := by decide +kernel
theorem dX10_init_57 : decode cX10_init 57 = .ok (.iconst 0, 1) := by decide +kernel
theorem dX10_init_58 : decode cX10_init 58 = .ok (.iastore, 1) := by decide +kernel
theorem dX10_init_59 : decode cX10_init 59 = .ok (.dup, 1) := by decide +kernel
theorem dX10_init_60 : decode cX10_init 60 = .ok (.iconst 1, 1) := by decide +kernel
theorem dX10_init_61 : decode cX10_init 61 = .ok (.iconst 0, 1) := by decide +kernel
theorem dX10_init_62 : decode cX10_init 62 = .ok (.iastore, 1) := by decide +kernel
theorem dX10_init_63 : decode cX10_init 63 = .ok (.dup, 1) := by decide +kernel
theorem dX10_init_64 : decode cX10_init 64 = .ok (.iconst 2, 1) := by decide +kernel
theorem dX10_init_65 : decode cX10_init 65 = .ok (.iconst 1, 1) := by decide +kernel
theorem dX10_init_66 : decode cX10_init 66 = .ok (.iastore, 1) := by decide +kernel
theorem dX10_init_67 : decode cX10_init 67 = .ok (.dup, 1) := by decide +kernel
theorem dX10_init_68 : decode cX10_init 68 = .ok (.iconst 3, 1) := by decide +kernel
theorem dX10_init_69 : decode cX10_init 69 = .ok (.iconst 0, 1) := by decide +kernel
theorem dX10_init_70 : decode cX10_init 70 = .ok (.iastore, 1) := by decide +kernel
theorem dX10_init_71 : decode cX10_init 71 = .ok (.dup, 1) := by decide +kernel
theorem dX10_init_72 : decode cX10_init 72 = .ok (.iconst 4, 1) := by decide +kernel
theorem dX10_init_73 : decode cX10_init 73 = .ok (.iconst 0, 1) := by decide +kernel
theorem dX10_init_74 : decode cX10_init 74 = .ok (.iastore, 1) := by decide +kernel
theorem dX10_init_75 : decode cX10_init 75 = .ok (.putfield 21, 3) := by decide +kernel
theorem dX10_init_78 : decode cX10_init 78 = .ok (.aload_n 0, 1) := by decide +kernel
theorem dX10_init_79 : decode cX10_init 79 = .ok (.new 24, 3) := by decide +kernel
theorem dX10_init_82 : decode cX10_init 82 = .ok (.dup, 1) := by decide +kernel
theorem dX10_init_83 : decode cX10_init 83 = .ok (.invokespecial 26, 3) := by decide +kernel
theorem dX10_init_86 : decode cX10_init 86 = .ok (.putfield 27, 3) := by decide +kernel
theorem dX10_init_89 : decode cX10_init 89 = .ok (.aload_n 0, 1) := by decide +kernel
theorem dX10_init_90 : decode cX10_init 90 = .ok (.iconst 1, 1) := by decide +kernel
theorem dX10_init_91 : decode cX10_init 91 = .ok (.putfield 31, 3) := by decide +kernel
theorem dX10_init_94 : decode cX10_init 94 = .ok (.return_, 1) := by decide +kernel
theorem dX10_copyFrom_0 : decode cX10_copyFrom 0 = .ok (.aload_n 1, 1) := by decide +kernel
theorem dX10_copyFrom_1 : decode cX10_copyFrom 1 = .ok (.getfield 11, 3) := by decide +kernel
theorem dX10_copyFrom_4 : decode cX10_copyFrom 4 = .ok (.iconst 0, 1) := by decide +kernel
theorem dX10_copyFrom_5 : decode cX10_copyFrom 5 = .ok (.aload_n 0, 1) := by decide +kernel
theorem dX10_copyFrom_6 : decode cX10_copyFrom 6 = .ok (.getfield 11, 3) := by decide +kernel
theorem dX10_copyFrom_9 : decode cX10_copyFrom 9 = .ok (.iconst 0, 1) := by decide +kernel
theorem dX10_copyFrom_10 : decode cX10_copyFrom 10 = .ok (.bipush 6, 2) := by decide +kernel
theorem dX10_copyFrom_12 : decode cX10_copyFrom 12 = .ok (.invokestatic 35, 3) := by decide +kernel
theorem dX10_copyFrom_15 : decode cX10_copyFrom 15 = .ok (.aload_n 0, 1) := by decide +kernel
theorem dX10_copyFrom_16 : decode cX10_copyFrom 16 = .ok (.aload_n 1, 1) := by decide +kernel
theorem dX10_copyFrom_17 : decode cX10_copyFrom 17 = .ok (.getfield 41, 3) := by decide +kernel
theorem dX10_copyFrom_20 : decode cX10_copyFrom 20 = .ok (.putfield 41, 3) := by decide +kernel
theorem dX10_copyFrom_23 : decode cX10_copyFrom 23 = .ok (.aload_n 1, 1) := by decide +kernel
theorem dX10_copyFrom_24 : decode cX10_copyFrom 24 = .ok (.getfield 17, 3) := by decide +kernel
theorem dX10_copyFrom_27 : decode cX10_copyFrom 27 = .ok (.iconst 0, 1) := by decide +kernel
theorem dX10_copyFrom_28 : decode cX10_copyFrom 28 = .ok (.aload_n 0, 1) := by decide +kernel
theorem dX10_copyFrom_29 : decode cX10_copyFrom 29 = .ok (.getfield 17, 3) := by decide +kernel
theorem dX10_copyFrom_32 : decode cX10_copyFrom 32 = .ok (.iconst 0, 1) := by decide +kernel
theorem dX10_copyFrom_33 : decode cX10_copyFrom 33 = .ok (.bipush 6, 2) := by decide +kernel
theorem dX10_copyFrom_35 : decode cX10_copyFrom 35 = .ok (.invokestatic 35, 3) := by decide +kernel
theorem dX10_copyFrom_38 : decode cX10_copyFrom 38 = .ok (.aload_n 1, 1) := by decide +kernel
theorem dX10_copyFrom_39 : decode cX10_copyFrom 39 = .ok (.getfield 21, 3) := by decide +kernel
theorem dX10_copyFrom_42 : decode cX10_copyFrom 42 = .ok (.iconst 0, 1) := by decide +kernel
theorem dX10_copyFrom_43 : decode cX10_copyFrom 43 = .ok (.aload_n 0, 1) := by decide +kernel
theorem dX10_copyFrom_44 : decode cX10_copyFrom 44 = .ok (.getfield 21, 3) := by decide +kernel
theorem dX10_copyFrom_47 : decode cX10_copyFrom 47 = .ok (.iconst 0, 1) := by decide +kernel
theorem dX10_copyFrom_48 : decode cX10_copyFrom 48 = .ok (.iconst 5, 1) := by decide +kernel
theorem dX10_copyFrom_49 : decode cX10_copyFrom 49 = .ok (.invokestatic 35, 3) := by decide +kernel
theorem dX10_copyFrom_52 : decode cX10_copyFrom 52 = .ok (.aload_n 0, 1) := by decide +kernel
theorem dX10_copyFrom_53 : decode cX10_copyFrom 53 = .ok (.getfield 27, 3) := by decide +kernel
theorem dX10_copyFrom_56 : decode cX10_copyFrom 56 = .ok (.aload_n 1, 1) := by decide +kernel
theorem dX10_copyFrom_57 : decode cX10_copyFrom 57 = .ok (.getfield 27, 3) := by decide +kernel
theorem dX10_copyFrom_60 : decode cX10_copyFrom 60 = .ok (.invokevirtual 44, 3) := by decide +kernel
theorem dX10_copyFrom_63 : decode cX10_copyFrom 63 = .ok (.aload_n 0, 1) := by decide +kernel
theorem dX10_copyFrom_64 : decode cX10_copyFrom 64 = .ok (.aload_n 1, 1) := by decide +kernel
theorem dX10_copyFrom_65 : decode cX10_copyFrom 65 = .ok (.getfield 31, 3) := by decide +kernel
theorem dX10_copyFrom_68 : decode cX10_copyFrom 68 = .ok (.putfield 31, 3) := by decide +kernel
theorem dX10_copyFrom_71 : decode cX10_copyFrom 71 = .ok (.return_, 1) := by decide +kernel
theorem dX10_clearCards_0 : decode cX10_clearCards 0 = .ok (.aload_n 0, 1) := by decide +kernel
theorem dX10_clearCards_1 : decode cX10_clearCards 1 = .ok (.iconst 0, 1) := by decide +kernel
theorem dX10_clearCards_2 : decode cX10_clearCards 2 = .ok (.putfield 41, 3) := by decide +kernel
theorem dX10_clearCards_5 : decode cX10_clearCards 5 = .ok (.aload_n 0, 1) := by decide +kernel
theorem dX10_clearCards_6 : decode cX10_clearCards 6 = .ok (.getfield 27, 3) := by decide +kernel
theorem dX10_clearCards_9 : decode cX10_clearCards 9 = .ok (.aconst_null, 1) := by decide +kernel
theorem dX10_clearCards_10 : decode cX10_clearCards 10 = .ok (.putfield 48, 3) := by decide +kernel
theorem dX10_clearCards_13 : decode cX10_clearCards 13 = .ok (.return_, 1) := by decide +kernel
theorem dX10_cardAt_0 : decode cX10_cardAt 0 = .ok (.iload_n 1, 1) := by decide +kernel
theorem dX10_cardAt_1 : decode cX10_cardAt 1 = .ok (.ifCond .lt 26, 3) := by decide +kernel
theorem dX10_cardAt_4 : decode cX10_cardAt 4 = .ok (.iload_n 1, 1) := by decide +kernel
theorem dX10_cardAt_5 : decode cX10_cardAt 5 = .ok (.aload_n 0, 1) := by decide +kernel
theorem dX10_cardAt_6 : decode cX10_cardAt 6 = .ok (.getfield 41, 3) := by decide +kernel
theorem dX10_cardAt_9 : decode cX10_cardAt 9 = .ok (.if_icmp .ge 18, 3) := by decide +kernel
theorem dX10_cardAt_12 : decode cX10_cardAt 12 = .ok (.iload_n 1, 1) := by decide +kernel
theorem dX10_cardAt_13 : decode cX10_cardAt 13 = .ok (.bipush 6, 2) := by decide +kernel
theorem dX10_cardAt_15 : decode cX10_cardAt 15 = .ok (.if_icmp .ge 12, 3) := by decide +kernel
theorem dX10_cardAt_18 : decode cX10_cardAt 18 = .ok (.aload_n 0, 1) := by decide +kernel
theorem dX10_cardAt_19 : decode cX10_cardAt 19 = .ok (.getfield 11, 3) := by decide +kernel
theorem dX10_cardAt_22 : decode cX10_cardAt 22 = .ok (.iload_n 1, 1) := by decide +kernel
theorem dX10_cardAt_23 : decode cX10_cardAt 23 = .ok (.aaload, 1) := by decide +kernel
theorem dX10_cardAt_24 : decode cX10_cardAt 24 = .ok (.goto 4, 3) := by decide +kernel
theorem dX10_cardAt_27 : decode cX10_cardAt 27 = .ok (.aconst_null, 1) := by decide +kernel
theorem dX10_cardAt_28 : decode cX10_cardAt 28 = .ok (.areturn, 1) := by decide +kernel
theorem dX10_addCard_0 : decode cX10_addCard 0 = .ok (.aload_n 0, 1) := by decide +kernel
theorem dX10_addCard_1 : decode cX10_addCard 1 = .ok (.getfield 41, 3) := by decide +kernel
theorem dX10_addCard_4 : decode cX10_addCard 4 = .ok (.ifCond .lt 12, 3) := by decide +kernel
theorem dX10_addCard_7 : decode cX10_addCard 7 = .ok (.aload_n 0, 1) := by decide +kernel
theorem dX10_addCard_8 : decode cX10_addCard 8 = .ok (.getfield 41, 3) := by decide +kernel
theorem dX10_addCard_11 : decode cX10_addCard 11 = .ok (.bipush 6, 2) := by decide +kernel
theorem dX10_addCard_13 : decode cX10_addCard 13 = .ok (.if_icmp .lt 5, 3) := by decide +kernel
theorem dX10_addCard_16 : decode cX10_addCard 16 = .ok (.iconst 0, 1) := by decide +kernel
theorem dX10_addCard_17 : decode cX10_addCard 17 = .ok (.ireturn, 1) := by decide +kernel
theorem dX10_addCard_18 : decode cX10_addCard 18 = .ok (.aload_n 0, 1) := by decide +kernel
theorem dX10_addCard_19 : decode cX10_addCard 19 = .ok (.getfield 11, 3) := by decide +kernel
theorem dX10_addCard_22 : decode cX10_addCard 22 = .ok (.aload_n 0, 1) := by decide +kernel
theorem dX10_addCard_23 : decode cX10_addCard 23 = .ok (.getfield 41, 3) := by decide +kernel
theorem dX10_addCard_26 : decode cX10_addCard 26 = .ok (.iload_n 1, 1) := by decide +kernel
theorem dX10_addCard_27 : decode cX10_addCard 27 = .ok (.aload_n 0, 1) := by decide +kernel
theorem dX10_addCard_28 : decode cX10_addCard 28 = .ok (.getfield 41, 3) := by decide +kernel
theorem dX10_addCard_31 : decode cX10_addCard 31 = .ok (.iload_n 2, 1) := by decide +kernel
theorem dX10_addCard_32 : decode cX10_addCard 32 = .ok (.iload_n 3, 1) := by decide +kernel
theorem dX10_addCard_33 : decode cX10_addCard 33 = .ok (.iload 4, 2) := by decide +kernel
theorem dX10_addCard_35 : decode cX10_addCard 35 = .ok (.invokestatic 52, 3) := by decide +kernel
theorem dX10_addCard_38 : decode cX10_addCard 38 = .ok (.aastore, 1) := by decide +kernel
theorem dX10_addCard_39 : decode cX10_addCard 39 = .ok (.aload_n 0, 1) := by decide +kernel
theorem dX10_addCard_40 : decode cX10_addCard 40 = .ok (.dup, 1) := by decide +kernel
theorem dX10_addCard_41 : decode cX10_addCard 41 = .ok (.getfield 41, 3) := by decide +kernel
theorem dX10_addCard_44 : decode cX10_addCard 44 = .ok (.iconst 1, 1) := by decide +kernel
theorem dX10_addCard_45 : decode cX10_addCard 45 = .ok (.iadd, 1) := by decide +kernel
theorem dX10_addCard_46 : decode cX10_addCard 46 = .ok (.putfield 41, 3) := by decide +kernel
theorem dX10_addCard_49 : decode cX10_addCard 49 = .ok (.iconst 1, 1) := by decide +kernel
theorem dX10_addCard_50 : decode cX10_addCard 50 = .ok (.ireturn, 1) := by decide +kernel
theorem dX10_allWeights_0 : decode cX10_allWeights 0 = .ok (.iconst 0, 1) := by decide +kernel
theorem dX10_allWeights_1 : decode cX10_allWeights 1 = .ok (.istore_n 1, 1) := by decide +kernel
theorem dX10_allWeights_2 : decode cX10_allWeights 2 = .ok (.iconst 0, 1) := by decide +kernel
theorem dX10_allWeights_3 : decode cX10_allWeights 3 = .ok (.istore_n 2, 1) := by decide +kernel
theorem dX10_allWeights_4 : decode cX10_allWeights 4 = .ok (.iload_n 2, 1) := by decide +kernel
theorem dX10_allWeights_5 : decode cX10_allWeights 5 = .ok (.iconst 5, 1) := by decide +kernel
theorem dX10_allWeights_6 : decode cX10_allWeights 6 = .ok (.if_icmp .ge 18, 3) := by decide +kernel
theorem dX10_allWeights_9 : decode cX10_allWeights 9 = .ok (.iload_n 1, 1) := by decide +kernel
theorem dX10_allWeights_10 : decode cX10_allWeights 10 = .ok (.aload_n 0, 1) := by decide +kernel
theorem dX10_allWeights_11 : decode cX10_allWeights 11 = .ok (.getfield 21, 3) := by decide +kernel
theorem dX10_allWeights_14 : decode cX10_allWeights 14 = .ok (.iload_n 2, 1) := by decide +kernel
theorem dX10_allWeights_15 : decode cX10_allWeights 15 = .ok (.iaload, 1) := by decide +kernel
theorem dX10_allWeights_16 : decode cX10_allWeights 16 = .ok (.iadd, 1) := by decide +kernel
theorem dX10_allWeights_17 : decode cX10_allWeights 17 = .ok (.istore_n 1, 1) := by decide +kernel
theorem dX10_allWeights_18 : decode cX10_allWeights 18 = .ok (.iinc 2 1, 3) := by decide +kernel
theorem dX10_allWeights_21 : decode cX10_allWeights 21 = .ok (.goto (-17), 3) := by decide +kernel
theorem dX10_allWeights_24 : decode cX10_allWeights 24 = .ok (.iload_n 1, 1) := by decide +kernel
theorem dX10_allWeights_25 : decode cX10_allWeights 25 = .ok (.ireturn, 1) := by decide +kernel
theorem dX10_thingOf_0 : decode cX10_thingOf 0 = .ok (.iload_n 0, 1) := by decide +kernel
theorem dX10_thingOf_1 : decode cX10_thingOf 1 = .ok (.tableswitch 100 1 5 #[35, 48, 61, 74, 87], 35) := by decide +kernel
theorem dX10_thingOf_36 : decode cX10_thingOf 36 = .ok (.new 56, 3) := by decide +kernel
theorem dX10_thingOf_39 : decode cX10_thingOf 39 = .ok (.dup, 1) := by decide +kernel
theorem dX10_thingOf_40 : decode cX10_thingOf 40 = .ok (.iload_n 1, 1) := by decide +kernel
theorem dX10_thingOf_41 : decode cX10_thingOf 41 = .ok (.iload_n 2, 1) := by decide +kernel
theorem dX10_thingOf_42 : decode cX10_thingOf 42 = .ok (.iload_n 3, 1) := by decide +kernel
theorem dX10_thingOf_43 : decode cX10_thingOf 43 = .ok (.iload 4, 2) := by decide +kernel
theorem dX10_thingOf_45 : decode cX10_thingOf 45 = .ok (.invokespecial 58, 3) := by decide +kernel
theorem dX10_thingOf_48 : decode cX10_thingOf 48 = .ok (.areturn, 1) := by decide +kernel
theorem dX10_thingOf_49 : decode cX10_thingOf 49 = .ok (.new 61, 3) := by decide +kernel
theorem dX10_thingOf_52 : decode cX10_thingOf 52 = .ok (.dup, 1) := by decide +kernel
theorem dX10_thingOf_53 : decode cX10_thingOf 53 = .ok (.iload_n 1, 1) := by decide +kernel
theorem dX10_thingOf_54 : decode cX10_thingOf 54 = .ok (.iload_n 2, 1) := by decide +kernel
theorem dX10_thingOf_55 : decode cX10_thingOf 55 = .ok (.iload_n 3, 1) := by decide +kernel
theorem dX10_thingOf_56 : decode cX10_thingOf 56 = .ok (.iload 4, 2) := by decide +kernel
theorem dX10_thingOf_58 : decode cX10_thingOf 58 = .ok (.invokespecial 63, 3) := by decide +kernel
theorem dX10_thingOf_61 : decode cX10_thingOf 61 = .ok (.areturn, 1) := by decide +kernel
theorem dX10_thingOf_62 : decode cX10_thingOf 62 = .ok (.new 64, 3) := by decide +kernel
theorem dX10_thingOf_65 : decode cX10_thingOf 65 = .ok (.dup, 1) := by decide +kernel
theorem dX10_thingOf_66 : decode cX10_thingOf 66 = .ok (.iload_n 1, 1) := by decide +kernel
theorem dX10_thingOf_67 : decode cX10_thingOf 67 = .ok (.iload_n 2, 1) := by decide +kernel
theorem dX10_thingOf_68 : decode cX10_thingOf 68 = .ok (.iload_n 3, 1) := by decide +kernel
theorem dX10_thingOf_69 : decode cX10_thingOf 69 = .ok (.iload 4, 2) := by decide +kernel
theorem dX10_thingOf_71 : decode cX10_thingOf 71 = .ok (.invokespecial 66, 3) := by decide +kernel
theorem dX10_thingOf_74 : decode cX10_thingOf 74 = .ok (.areturn, 1) := by decide +kernel
theorem dX10_thingOf_75 : decode cX10_thingOf 75 = .ok (.new 67, 3) := by decide +kernel
theorem dX10_thingOf_78 : decode cX10_thingOf 78 = .ok (.dup, 1) := by decide +kernel
theorem dX10_thingOf_79 : decode cX10_thingOf 79 = .ok (.iload_n 1, 1) := by decide +kernel
theorem dX10_thingOf_80 : decode cX10_thingOf 80 = .ok (.iload_n 2, 1) := by decide +kernel
theorem dX10_thingOf_81 : decode cX10_thingOf 81 = .ok (.iload_n 3, 1) := by decide +kernel
theorem dX10_thingOf_82 : decode cX10_thingOf 82 = .ok (.iload 4, 2) := by decide +kernel
theorem dX10_thingOf_84 : decode cX10_thingOf 84 = .ok (.invokespecial 69, 3) := by decide +kernel
theorem dX10_thingOf_87 : decode cX10_thingOf 87 = .ok (.areturn, 1) := by decide +kernel
theorem dX10_thingOf_88 : decode cX10_thingOf 88 = .ok (.new 70, 3) := by decide +kernel
theorem dX10_thingOf_91 : decode cX10_thingOf 91 = .ok (.dup, 1) := by decide +kernel
theorem dX10_thingOf_92 : decode cX10_thingOf 92 = .ok (.iload_n 1, 1) := by decide +kernel
theorem dX10_thingOf_93 : decode cX10_thingOf 93 = .ok (.iload_n 2, 1) := by decide +kernel
theorem dX10_thingOf_94 : decode cX10_thingOf 94 = .ok (.iload_n 3, 1) := by decide +kernel
theorem dX10_thingOf_95 : decode cX10_thingOf 95 = .ok (.iload 4, 2) := by decide +kernel
theorem dX10_thingOf_97 : decode cX10_thingOf 97 = .ok (.invokespecial 72, 3) := by decide +kernel
theorem dX10_thingOf_100 : decode cX10_thingOf 100 = .ok (.areturn, 1) := by decide +kernel
theorem dX10_thingOf_101 : decode cX10_thingOf 101 = .ok (.new 9, 3) := by decide +kernel
theorem dX10_thingOf_104 : decode cX10_thingOf 104 = .ok (.dup, 1) := by decide +kernel
theorem dX10_thingOf_105 : decode cX10_thingOf 105 = .ok (.iload_n 1, 1) := by decide +kernel
theorem dX10_thingOf_106 : decode cX10_thingOf 106 = .ok (.iload_n 2, 1) := by decide +kernel
theorem dX10_thingOf_107 : decode cX10_thingOf 107 = .ok (.iload_n 3, 1) := by decide +kernel
theorem dX10_thingOf_108 : decode cX10_thingOf 108 = .ok (.iload 4, 2) := by decide +kernel
theorem dX10_thingOf_110 : decode cX10_thingOf 110 = .ok (.invokespecial 73, 3) := by decide +kernel
theorem dX10_thingOf_113 : decode cX10_thingOf 113 = .ok (.areturn, 1) := by decide +kernel
theorem dJ9_floorDiv_7cf53_0 : decode cJ9_floorDiv_7cf53 0 = .ok (.iload_n 0, 1) := by decide +kernel
theorem dJ9_floorDiv_7cf53_1 : decode cJ9_floorDiv_7cf53 1 = .ok (.iload_n 1, 1) := by decide +kernel
theorem dJ9_floorDiv_7cf53_2 : decode cJ9_floorDiv_7cf53 2 = .ok (.idiv, 1) := by decide +kernel
theorem dJ9_floorDiv_7cf53_3 : decode cJ9_floorDiv_7cf53 3 = .ok (.istore_n 2, 1) := by decide +kernel
theorem dJ9_floorDiv_7cf53_4 : decode cJ9_floorDiv_7cf53 4 = .ok (.iload_n 0, 1) := by decide +kernel
theorem dJ9_floorDiv_7cf53_5 : decode cJ9_floorDiv_7cf53 5 = .ok (.iload_n 1, 1) := by decide +kernel
theorem dJ9_floorDiv_7cf53_6 : decode cJ9_floorDiv_7cf53 6 = .ok (.ixor, 1) := by decide +kernel
theorem dJ9_floorDiv_7cf53_7 : decode cJ9_floorDiv_7cf53 7 = .ok (.ifCond .ge 14, 3) := by decide +kernel
theorem dJ9_floorDiv_7cf53_10 : decode cJ9_floorDiv_7cf53 10 = .ok (.iload_n 2, 1) := by decide +kernel
theorem dJ9_floorDiv_7cf53_11 : decode cJ9_floorDiv_7cf53 11 = .ok (.iload_n 1, 1) := by decide +kernel
theorem dJ9_floorDiv_7cf53_12 : decode cJ9_floorDiv_7cf53 12 = .ok (.imul, 1) := by decide +kernel
theorem dJ9_floorDiv_7cf53_13 : decode cJ9_floorDiv_7cf53 13 = .ok (.iload_n 0, 1) := by decide +kernel
theorem dJ9_floorDiv_7cf53_14 : decode cJ9_floorDiv_7cf53 14 = .ok (.if_icmp .eq 7, 3) := by decide +kernel
theorem dJ9_floorDiv_7cf53_17 : decode cJ9_floorDiv_7cf53 17 = .ok (.iload_n 2, 1) := by decide +kernel
theorem dJ9_floorDiv_7cf53_18 : decode cJ9_floorDiv_7cf53 18 = .ok (.iconst 1, 1) := by decide +kernel
theorem dJ9_floorDiv_7cf53_19 : decode cJ9_floorDiv_7cf53 19 = .ok (.isub, 1) := by decide +kernel
theorem dJ9_floorDiv_7cf53_20 : decode cJ9_floorDiv_7cf53 20 = .ok (.ireturn, 1) := by decide +kernel
theorem dJ9_floorDiv_7cf53_21 : decode cJ9_floorDiv_7cf53 21 = .ok (.iload_n 2, 1) := by decide +kernel
theorem dJ9_floorDiv_7cf53_22 : decode cJ9_floorDiv_7cf53 22 = .ok (.ireturn, 1) := by decide +kernel
theorem dJ9_floorMod_7cf53_0 : decode cJ9_floorMod_7cf53 0 = .ok (.iload_n 0, 1) := by decide +kernel
theorem dJ9_floorMod_7cf53_1 : decode cJ9_floorMod_7cf53 1 = .ok (.iload_n 1, 1) := by decide +kernel
theorem dJ9_floorMod_7cf53_2 : decode cJ9_floorMod_7cf53 2 = .ok (.irem, 1) := by decide +kernel
theorem dJ9_floorMod_7cf53_3 : decode cJ9_floorMod_7cf53 3 = .ok (.istore_n 2, 1) := by decide +kernel
theorem dJ9_floorMod_7cf53_4 : decode cJ9_floorMod_7cf53 4 = .ok (.iload_n 0, 1) := by decide +kernel
theorem dJ9_floorMod_7cf53_5 : decode cJ9_floorMod_7cf53 5 = .ok (.iload_n 1, 1) := by decide +kernel
theorem dJ9_floorMod_7cf53_6 : decode cJ9_floorMod_7cf53 6 = .ok (.ixor, 1) := by decide +kernel
theorem dJ9_floorMod_7cf53_7 : decode cJ9_floorMod_7cf53 7 = .ok (.ifCond .ge 11, 3) := by decide +kernel
theorem dJ9_floorMod_7cf53_10 : decode cJ9_floorMod_7cf53 10 = .ok (.iload_n 2, 1) := by decide +kernel
theorem dJ9_floorMod_7cf53_11 : decode cJ9_floorMod_7cf53 11 = .ok (.ifCond .eq 7, 3) := by decide +kernel
theorem dJ9_floorMod_7cf53_14 : decode cJ9_floorMod_7cf53 14 = .ok (.iload_n 2, 1) := by decide +kernel
theorem dJ9_floorMod_7cf53_15 : decode cJ9_floorMod_7cf53 15 = .ok (.iload_n 1, 1) := by decide +kernel
theorem dJ9_floorMod_7cf53_16 : decode cJ9_floorMod_7cf53 16 = .ok (.iadd, 1) := by decide +kernel
theorem dJ9_floorMod_7cf53_17 : decode cJ9_floorMod_7cf53 17 = .ok (.ireturn, 1) := by decide +kernel
theorem dJ9_floorMod_7cf53_18 : decode cJ9_floorMod_7cf53 18 = .ok (.iload_n 2, 1) := by decide +kernel
theorem dJ9_floorMod_7cf53_19 : decode cJ9_floorMod_7cf53 19 = .ok (.ireturn, 1) := by decide +kernel
theorem dJ9_abs_0f7a4_0 : decode cJ9_abs_0f7a4 0 = .ok (.iload_n 0, 1) := by decide +kernel
theorem dJ9_abs_0f7a4_1 : decode cJ9_abs_0f7a4 1 = .ok (.ifCond .ge 8, 3) := by decide +kernel
theorem dJ9_abs_0f7a4_4 : decode cJ9_abs_0f7a4 4 = .ok (.iload_n 0, 1) := by decide +kernel
theorem dJ9_abs_0f7a4_5 : decode cJ9_abs_0f7a4 5 = .ok (.ineg, 1) := by decide +kernel
theorem dJ9_abs_0f7a4_6 : decode cJ9_abs_0f7a4 6 = .ok (.goto 4, 3) := by decide +kernel
theorem dJ9_abs_0f7a4_9 : decode cJ9_abs_0f7a4 9 = .ok (.iload_n 0, 1) := by decide +kernel
theorem dJ9_abs_0f7a4_10 : decode cJ9_abs_0f7a4 10 = .ok (.ireturn, 1) := by decide +kernel
theorem dJ9_abs_067f4_0 : decode cJ9_abs_067f4 0 = .ok (.lload_n 0, 1) := by decide +kernel
theorem dJ9_abs_067f4_1 : decode cJ9_abs_067f4 1 = .ok (.lconst 0, 1) := by decide +kernel
theorem dJ9_abs_067f4_2 : decode cJ9_abs_067f4 2 = .ok (.lcmp, 1) := by decide +kernel
theorem dJ9_abs_067f4_3 : decode cJ9_abs_067f4 3 = .ok (.ifCond .ge 8, 3) := by decide +kernel
theorem dJ9_abs_067f4_6 : decode cJ9_abs_067f4 6 = .ok (.lload_n 0, 1) := by decide +kernel
theorem dJ9_abs_067f4_7 : decode cJ9_abs_067f4 7 = .ok (.lneg, 1) := by decide +kernel
theorem dJ9_abs_067f4_8 : decode cJ9_abs_067f4 8 = .ok (.goto 4, 3) := by decide +kernel
theorem dJ9_abs_067f4_11 : decode cJ9_abs_067f4 11 = .ok (.lload_n 0, 1) := by decide +kernel
theorem dJ9_abs_067f4_12 : decode cJ9_abs_067f4 12 = .ok (.lreturn, 1) := by decide +kernel
theorem dJ9_max_7cf53_0 : decode cJ9_max_7cf53 0 = .ok (.iload_n 0, 1) := by decide +kernel
theorem dJ9_max_7cf53_1 : decode cJ9_max_7cf53 1 = .ok (.iload_n 1, 1) := by decide +kernel
theorem dJ9_max_7cf53_2 : decode cJ9_max_7cf53 2 = .ok (.if_icmp .lt 7, 3) := by decide +kernel
theorem dJ9_max_7cf53_5 : decode cJ9_max_7cf53 5 = .ok (.iload_n 0, 1) := by decide +kernel
theorem dJ9_max_7cf53_6 : decode cJ9_max_7cf53 6 = .ok (.goto 4, 3) := by decide +kernel
theorem dJ9_max_7cf53_9 : decode cJ9_max_7cf53 9 = .ok (.iload_n 1, 1) := by decide +kernel
theorem dJ9_max_7cf53_10 : decode cJ9_max_7cf53 10 = .ok (.ireturn, 1) := by decide +kernel
theorem dJ9_min_7cf53_0 : decode cJ9_min_7cf53 0 = .ok (.iload_n 0, 1) := by decide +kernel
theorem dJ9_min_7cf53_1 : decode cJ9_min_7cf53 1 = .ok (.iload_n 1, 1) := by decide +kernel
theorem dJ9_min_7cf53_2 : decode cJ9_min_7cf53 2 = .ok (.if_icmp .gt 7, 3) := by decide +kernel
theorem dJ9_min_7cf53_5 : decode cJ9_min_7cf53 5 = .ok (.iload_n 0, 1) := by decide +kernel
theorem dJ9_min_7cf53_6 : decode cJ9_min_7cf53 6 = .ok (.goto 4, 3) := by decide +kernel
theorem dJ9_min_7cf53_9 : decode cJ9_min_7cf53 9 = .ok (.iload_n 1, 1) := by decide +kernel
theorem dJ9_min_7cf53_10 : decode cJ9_min_7cf53 10 = .ok (.ireturn, 1) := by decide +kernel
theorem dJ9_min_f86c9_0 : decode cJ9_min_f86c9 0 = .ok (.lload_n 0, 1) := by decide +kernel
theorem dJ9_min_f86c9_1 : decode cJ9_min_f86c9 1 = .ok (.lload_n 2, 1) := by decide +kernel
theorem dJ9_min_f86c9_2 : decode cJ9_min_f86c9 2 = .ok (.lcmp, 1) := by decide +kernel
theorem dJ9_min_f86c9_3 : decode cJ9_min_f86c9 3 = .ok (.ifCond .gt 7, 3) := by decide +kernel
theorem dJ9_min_f86c9_6 : decode cJ9_min_f86c9 6 = .ok (.lload_n 0, 1) := by decide +kernel
theorem dJ9_min_f86c9_7 : decode cJ9_min_f86c9 7 = .ok (.goto 4, 3) := by decide +kernel
theorem dJ9_min_f86c9_10 : decode cJ9_min_f86c9 10 = .ok (.lload_n 2, 1) := by decide +kernel
theorem dJ9_min_f86c9_11 : decode cJ9_min_f86c9 11 = .ok (.lreturn, 1) := by decide +kernel
theorem dJ0_length_8abf5_0 : decode cJ0_length_8abf5 0 = .ok (.aload_n 0, 1) := by decide +kernel
theorem dJ0_length_8abf5_1 : decode cJ0_length_8abf5 1 = .ok (.getfield 9, 3) := by decide +kernel
theorem dJ0_length_8abf5_4 : decode cJ0_length_8abf5 4 = .ok (.arraylength, 1) := by decide +kernel
theorem dJ0_length_8abf5_5 : decode cJ0_length_8abf5 5 = .ok (.aload_n 0, 1) := by decide +kernel
theorem dJ0_length_8abf5_6 : decode cJ0_length_8abf5 6 = .ok (.invokevirtual 335, 3) := by decide +kernel
theorem dJ0_length_8abf5_9 : decode cJ0_length_8abf5 9 = .ok (.ishr, 1) := by decide +kernel
theorem dJ0_length_8abf5_10 : decode cJ0_length_8abf5 10 = .ok (.ireturn, 1) := by decide +kernel
theorem dJ0_charAt_5068e_0 : decode cJ0_charAt_5068e 0 = .ok (.aload_n 0, 1) := by decide +kernel
theorem dJ0_charAt_5068e_1 : decode cJ0_charAt_5068e 1 = .ok (.invokevirtual 492, 3) := by decide +kernel
theorem dJ0_charAt_5068e_4 : decode cJ0_charAt_5068e 4 = .ok (.ifCond .eq 12, 3) := by decide +kernel
theorem dJ0_charAt_5068e_7 : decode cJ0_charAt_5068e 7 = .ok (.aload_n 0, 1) := by decide +kernel
theorem dJ0_charAt_5068e_8 : decode cJ0_charAt_5068e 8 = .ok (.getfield 9, 3) := by decide +kernel
theorem dJ0_charAt_5068e_11 : decode cJ0_charAt_5068e 11 = .ok (.iload_n 1, 1) := by decide +kernel
theorem dJ0_charAt_5068e_12 : decode cJ0_charAt_5068e 12 = .ok (.invokestatic 495, 3) := by decide +kernel
theorem dJ0_charAt_5068e_15 : decode cJ0_charAt_5068e 15 = .ok (.ireturn, 1) := by decide +kernel
theorem dJ0_charAt_5068e_16 : decode cJ0_charAt_5068e 16 = .ok (.aload_n 0, 1) := by decide +kernel
theorem dJ0_charAt_5068e_17 : decode cJ0_charAt_5068e 17 = .ok (.getfield 9, 3) := by decide +kernel
theorem dJ0_charAt_5068e_20 : decode cJ0_charAt_5068e 20 = .ok (.iload_n 1, 1) := by decide +kernel
theorem dJ0_charAt_5068e_21 : decode cJ0_charAt_5068e 21 = .ok (.invokestatic 498, 3) := by decide +kernel
theorem dJ0_charAt_5068e_24 : decode cJ0_charAt_5068e 24 = .ok (.ireturn, 1) := by decide +kernel
theorem dJ0_coder_7d493_0 : decode cJ0_coder_7d493 0 = .ok (.getstatic 38, 3) := by decide +kernel
theorem dJ0_coder_7d493_3 : decode cJ0_coder_7d493 3 = .ok (.ifCond .eq 10, 3) := by decide +kernel
theorem dJ0_coder_7d493_6 : decode cJ0_coder_7d493 6 = .ok (.aload_n 0, 1) := by decide +kernel
theorem dJ0_coder_7d493_7 : decode cJ0_coder_7d493 7 = .ok (.getfield 15, 3) := by decide +kernel
theorem dJ0_coder_7d493_10 : decode cJ0_coder_7d493 10 = .ok (.goto 4, 3) := by decide +kernel
theorem dJ0_coder_7d493_13 : decode cJ0_coder_7d493 13 = .ok (.iconst 1, 1) := by decide +kernel
theorem dJ0_coder_7d493_14 : decode cJ0_coder_7d493 14 = .ok (.ireturn, 1) := by decide +kernel
theorem dJ0_isLatin1_aae02_0 : decode cJ0_isLatin1_aae02 0 = .ok (.getstatic 38, 3) := by decide +kernel
theorem dJ0_isLatin1_aae02_3 : decode cJ0_isLatin1_aae02 3 = .ok (.ifCond .eq 14, 3) := by decide +kernel
theorem dJ0_isLatin1_aae02_6 : decode cJ0_isLatin1_aae02 6 = .ok (.aload_n 0, 1) := by decide +kernel
theorem dJ0_isLatin1_aae02_7 : decode cJ0_isLatin1_aae02 7 = .ok (.getfield 15, 3) := by decide +kernel
theorem dJ0_isLatin1_aae02_10 : decode cJ0_isLatin1_aae02 10 = .ok (.ifCond .ne 7, 3) := by decide +kernel
theorem dJ0_isLatin1_aae02_13 : decode cJ0_isLatin1_aae02 13 = .ok (.iconst 1, 1) := by decide +kernel
theorem dJ0_isLatin1_aae02_14 : decode cJ0_isLatin1_aae02 14 = .ok (.goto 4, 3) := by decide +kernel
theorem dJ0_isLatin1_aae02_17 : decode cJ0_isLatin1_aae02 17 = .ok (.iconst 0, 1) := by decide +kernel
theorem dJ0_isLatin1_aae02_18 : decode cJ0_isLatin1_aae02 18 = .ok (.ireturn, 1) := by decide +kernel
theorem dJ0_checkIndex_df160_0 : decode cJ0_checkIndex_df160 0 = .ok (.iload_n 0, 1) := by decide +kernel
theorem dJ0_checkIndex_df160_1 : decode cJ0_checkIndex_df160 1 = .ok (.iload_n 1, 1) := by decide +kernel
theorem dJ0_checkIndex_df160_2 : decode cJ0_checkIndex_df160 2 = .ok (.getstatic 1053, 3) := by decide +kernel
theorem dJ0_checkIndex_df160_5 : decode cJ0_checkIndex_df160 5 = .ok (.invokestatic 1059, 3) := by decide +kernel
theorem dJ0_checkIndex_df160_8 : decode cJ0_checkIndex_df160 8 = .ok (.pop, 1) := by decide +kernel
theorem dJ0_checkIndex_df160_9 : decode cJ0_checkIndex_df160 9 = .ok (.return_, 1) := by decide +kernel
theorem dJ1_charAt_3b067_0 : decode cJ1_charAt_3b067 0 = .ok (.iload_n 1, 1) := by decide +kernel
theorem dJ1_charAt_3b067_1 : decode cJ1_charAt_3b067 1 = .ok (.aload_n 0, 1) := by decide +kernel
theorem dJ1_charAt_3b067_2 : decode cJ1_charAt_3b067 2 = .ok (.arraylength, 1) := by decide +kernel
theorem dJ1_charAt_3b067_3 : decode cJ1_charAt_3b067 3 = .ok (.invokestatic 9, 3) := by decide +kernel
theorem dJ1_charAt_3b067_6 : decode cJ1_charAt_3b067 6 = .ok (.aload_n 0, 1) := by decide +kernel
theorem dJ1_charAt_3b067_7 : decode cJ1_charAt_3b067 7 = .ok (.iload_n 1, 1) := by decide +kernel
theorem dJ1_charAt_3b067_8 : decode cJ1_charAt_3b067 8 = .ok (.baload, 1) := by decide +kernel
theorem dJ1_charAt_3b067_9 : decode cJ1_charAt_3b067 9 = .ok (.sipush 255, 3) := by decide +kernel
theorem dJ1_charAt_3b067_12 : decode cJ1_charAt_3b067 12 = .ok (.iand, 1) := by decide +kernel
theorem dJ1_charAt_3b067_13 : decode cJ1_charAt_3b067 13 = .ok (.i2c, 1) := by decide +kernel
theorem dJ1_charAt_3b067_14 : decode cJ1_charAt_3b067 14 = .ok (.ireturn, 1) := by decide +kernel
theorem dJ2_getChar_3b067_0 : decode cJ2_getChar_3b067 0 = .ok (.getstatic 44, 3) := by decide +kernel
theorem dJ2_getChar_3b067_3 : decode cJ2_getChar_3b067 3 = .ok (.ifCond .ne 25, 3) := by decide +kernel
theorem dJ2_getChar_3b067_6 : decode cJ2_getChar_3b067 6 = .ok (.iload_n 1, 1) := by decide +kernel
theorem dJ2_getChar_3b067_7 : decode cJ2_getChar_3b067 7 = .ok (.ifCond .lt 11, 3) := by decide +kernel
theorem dJ2_getChar_3b067_10 : decode cJ2_getChar_3b067 10 = .ok (.iload_n 1, 1) := by decide +kernel
theorem dJ2_getChar_3b067_11 : decode cJ2_getChar_3b067 11 = .ok (.aload_n 0, 1) := by decide +kernel
theorem dJ2_getChar_3b067_12 : decode cJ2_getChar_3b067 12 = .ok (.invokestatic 48, 3) := by decide +kernel
theorem dJ2_getChar_3b067_15 : decode cJ2_getChar_3b067 15 = .ok (.if_icmp .lt 13, 3) := by decide +kernel
theorem dJ2_getChar_3b067_18 : decode cJ2_getChar_3b067 18 = .ok (.new 52, 3) := by decide +kernel
theorem dJ2_getChar_3b067_21 : decode cJ2_getChar_3b067 21 = .ok (.dup, 1) := by decide +kernel
theorem dJ2_getChar_3b067_22 : decode cJ2_getChar_3b067 22 = .ok (.ldc 54, 2) := by decide +kernel
theorem dJ2_getChar_3b067_24 : decode cJ2_getChar_3b067 24 = .ok (.invokespecial 56, 3) := by decide +kernel
theorem dJ2_getChar_3b067_27 : decode cJ2_getChar_3b067 27 = .ok (.athrow, 1) := by decide +kernel
theorem dJ2_getChar_3b067_28 : decode cJ2_getChar_3b067 28 = .ok (.iload_n 1, 1) := by decide +kernel
theorem dJ2_getChar_3b067_29 : decode cJ2_getChar_3b067 29 = .ok (.iconst 1, 1) := by decide +kernel
theorem dJ2_getChar_3b067_30 : decode cJ2_getChar_3b067 30 = .ok (.ishl, 1) := by decide +kernel
theorem dJ2_getChar_3b067_31 : decode cJ2_getChar_3b067 31 = .ok (.istore_n 1, 1) := by decide +kernel
theorem dJ2_getChar_3b067_32 : decode cJ2_getChar_3b067 32 = .ok (.aload_n 0, 1) := by decide +kernel
theorem dJ2_getChar_3b067_33 : decode cJ2_getChar_3b067 33 = .ok (.iload_n 1, 1) := by decide +kernel
theorem dJ2_getChar_3b067_34 : decode cJ2_getChar_3b067 34 = .ok (.iinc 1 1, 3) := by decide +kernel
theorem dJ2_getChar_3b067_37 : decode cJ2_getChar_3b067 37 = .ok (.baload, 1) := by decide +kernel
theorem dJ2_getChar_3b067_38 : decode cJ2_getChar_3b067 38 = .ok (.sipush 255, 3) := by decide +kernel
theorem dJ2_getChar_3b067_41 : decode cJ2_getChar_3b067 41 = .ok (.iand, 1) := by decide +kernel
theorem dJ2_getChar_3b067_42 : decode cJ2_getChar_3b067 42 = .ok (.getstatic 59, 3) := by decide +kernel
theorem dJ2_getChar_3b067_45 : decode cJ2_getChar_3b067 45 = .ok (.ishl, 1) := by decide +kernel
theorem dJ2_getChar_3b067_46 : decode cJ2_getChar_3b067 46 = .ok (.aload_n 0, 1) := by decide +kernel
theorem dJ2_getChar_3b067_47 : decode cJ2_getChar_3b067 47 = .ok (.iload_n 1, 1) := by decide +kernel
theorem dJ2_getChar_3b067_48 : decode cJ2_getChar_3b067 48 = .ok (.baload, 1) := by decide +kernel
theorem dJ2_getChar_3b067_49 : decode cJ2_getChar_3b067 49 = .ok (.sipush 255, 3) := by decide +kernel
theorem dJ2_getChar_3b067_52 : decode cJ2_getChar_3b067 52 = .ok (.iand, 1) := by decide +kernel
theorem dJ2_getChar_3b067_53 : decode cJ2_getChar_3b067 53 = .ok (.getstatic 63, 3) := by decide +kernel
theorem dJ2_getChar_3b067_56 : decode cJ2_getChar_3b067 56 = .ok (.ishl, 1) := by decide +kernel
theorem dJ2_getChar_3b067_57 : decode cJ2_getChar_3b067 57 = .ok (.ior, 1) := by decide +kernel
theorem dJ2_getChar_3b067_58 : decode cJ2_getChar_3b067 58 = .ok (.i2c, 1) := by decide +kernel
theorem dJ2_getChar_3b067_59 : decode cJ2_getChar_3b067 59 = .ok (.ireturn, 1) := by decide +kernel
theorem dJ2_length_9d52b_0 : decode cJ2_length_9d52b 0 = .ok (.aload_n 0, 1) := by decide +kernel
theorem dJ2_length_9d52b_1 : decode cJ2_length_9d52b 1 = .ok (.arraylength, 1) := by decide +kernel
theorem dJ2_length_9d52b_2 : decode cJ2_length_9d52b 2 = .ok (.iconst 1, 1) := by decide +kernel
theorem dJ2_length_9d52b_3 : decode cJ2_length_9d52b 3 = .ok (.ishr, 1) := by decide +kernel
theorem dJ2_length_9d52b_4 : decode cJ2_length_9d52b 4 = .ok (.ireturn, 1) := by decide +kernel
theorem dJ2_charAt_3b067_0 : decode cJ2_charAt_3b067 0 = .ok (.iload_n 1, 1) := by decide +kernel
theorem dJ2_charAt_3b067_1 : decode cJ2_charAt_3b067 1 = .ok (.aload_n 0, 1) := by decide +kernel
theorem dJ2_charAt_3b067_2 : decode cJ2_charAt_3b067 2 = .ok (.invokestatic 67, 3) := by decide +kernel
theorem dJ2_charAt_3b067_5 : decode cJ2_charAt_3b067 5 = .ok (.aload_n 0, 1) := by decide +kernel
theorem dJ2_charAt_3b067_6 : decode cJ2_charAt_3b067 6 = .ok (.iload_n 1, 1) := by decide +kernel
theorem dJ2_charAt_3b067_7 : decode cJ2_charAt_3b067 7 = .ok (.invokestatic 71, 3) := by decide +kernel
theorem dJ2_charAt_3b067_10 : decode cJ2_charAt_3b067 10 = .ok (.ireturn, 1) := by decide +kernel
theorem dJ2_checkIndex_2214a_0 : decode cJ2_checkIndex_2214a 0 = .ok (.iload_n 0, 1) := by decide +kernel
theorem dJ2_checkIndex_2214a_1 : decode cJ2_checkIndex_2214a 1 = .ok (.aload_n 1, 1) := by decide +kernel
theorem dJ2_checkIndex_2214a_2 : decode cJ2_checkIndex_2214a 2 = .ok (.invokestatic 48, 3) := by decide +kernel
theorem dJ2_checkIndex_2214a_5 : decode cJ2_checkIndex_2214a 5 = .ok (.invokestatic 414, 3) := by decide +kernel
theorem dJ2_checkIndex_2214a_8 : decode cJ2_checkIndex_2214a 8 = .ok (.return_, 1) := by decide +kernel
theorem dJ3_checkIndex_8e157_0 : decode cJ3_checkIndex_8e157 0 = .ok (.iload_n 0, 1) := by decide +kernel
theorem dJ3_checkIndex_8e157_1 : decode cJ3_checkIndex_8e157 1 = .ok (.ifCond .lt 8, 3) := by decide +kernel
theorem dJ3_checkIndex_8e157_4 : decode cJ3_checkIndex_8e157 4 = .ok (.iload_n 0, 1) := by decide +kernel
theorem dJ3_checkIndex_8e157_5 : decode cJ3_checkIndex_8e157 5 = .ok (.iload_n 1, 1) := by decide +kernel
theorem dJ3_checkIndex_8e157_6 : decode cJ3_checkIndex_8e157 6 = .ok (.if_icmp .lt 10, 3) := by decide +kernel
theorem dJ3_checkIndex_8e157_9 : decode cJ3_checkIndex_8e157 9 = .ok (.aload_n 2, 1) := by decide +kernel
theorem dJ3_checkIndex_8e157_10 : decode cJ3_checkIndex_8e157 10 = .ok (.iload_n 0, 1) := by decide +kernel
theorem dJ3_checkIndex_8e157_11 : decode cJ3_checkIndex_8e157 11 = .ok (.iload_n 1, 1) := by decide +kernel
theorem dJ3_checkIndex_8e157_12 : decode cJ3_checkIndex_8e157 12 = .ok (.invokestatic 95, 3) := by decide +kernel
theorem dJ3_checkIndex_8e157_15 : decode cJ3_checkIndex_8e157 15 = .ok (.athrow, 1) := by decide +kernel
theorem dJ3_checkIndex_8e157_16 : decode cJ3_checkIndex_8e157 16 = .ok (.iload_n 0, 1) := by decide +kernel
theorem dJ3_checkIndex_8e157_17 : decode cJ3_checkIndex_8e157 17 = .ok (.ireturn, 1) := by decide +kernel
