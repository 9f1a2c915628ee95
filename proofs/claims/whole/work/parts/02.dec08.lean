theorem dX11_steps_0 : decode cX11_steps 0 = .ok (.aload_n 0, 1) := by decide +kernel
theorem dX11_steps_1 : decode cX11_steps 1 = .ok (.iconst 0, 1) := by decide +kernel
theorem dX11_steps_2 : decode cX11_steps 2 = .ok (.putfield 3, 3) := by decide +kernel
theorem dX11_steps_5 : decode cX11_steps 5 = .ok (.iload_n 1, 1) := by decide +kernel
theorem dX11_steps_6 : decode cX11_steps 6 = .ok (.i2l, 1) := by decide +kernel
theorem dX11_steps_7 : decode cX11_steps 7 = .ok (.lconst 0, 1) := by decide +kernel
theorem dX11_steps_8 : decode cX11_steps 8 = .ok (.ldc2_w 282, 3) := by decide +kernel
theorem dX11_steps_11 : decode cX11_steps 11 = .ok (.invokestatic 118, 3) := by decide +kernel
theorem dX11_steps_14 : decode cX11_steps 14 = .ok (.ifCond .ne 5, 3) := by decide +kernel
theorem dX11_steps_17 : decode cX11_steps 17 = .ok (.iconst (-1), 1) := by decide +kernel
theorem dX11_steps_18 : decode cX11_steps 18 = .ok (.ireturn, 1) := by decide +kernel
theorem dX11_steps_19 : decode cX11_steps 19 = .ok (.aload_n 0, 1) := by decide +kernel
theorem dX11_steps_20 : decode cX11_steps 20 = .ok (.invokevirtual 284, 3) := by decide +kernel
theorem dX11_steps_23 : decode cX11_steps 23 = .ok (.aload_n 0, 1) := by decide +kernel
theorem dX11_steps_24 : decode cX11_steps 24 = .ok (.getfield 41, 3) := by decide +kernel
theorem dX11_steps_27 : decode cX11_steps 27 = .ok (.bipush 75, 2) := by decide +kernel
theorem dX11_steps_29 : decode cX11_steps 29 = .ok (.iaload, 1) := by decide +kernel
theorem dX11_steps_30 : decode cX11_steps 30 = .ok (.istore_n 2, 1) := by decide +kernel
theorem dX11_steps_31 : decode cX11_steps 31 = .ok (.aload_n 0, 1) := by decide +kernel
theorem dX11_steps_32 : decode cX11_steps 32 = .ok (.getfield 41, 3) := by decide +kernel
theorem dX11_steps_35 : decode cX11_steps 35 = .ok (.bipush 77, 2) := by decide +kernel
theorem dX11_steps_37 : decode cX11_steps 37 = .ok (.iaload, 1) := by decide +kernel
theorem dX11_steps_38 : decode cX11_steps 38 = .ok (.istore_n 3, 1) := by decide +kernel
theorem dX11_steps_39 : decode cX11_steps 39 = .ok (.aload_n 0, 1) := by decide +kernel
theorem dX11_steps_40 : decode cX11_steps 40 = .ok (.aload_n 0, 1) := by decide +kernel
theorem dX11_steps_41 : decode cX11_steps 41 = .ok (.getfield 41, 3) := by decide +kernel
theorem dX11_steps_44 : decode cX11_steps 44 = .ok (.iload_n 1, 1) := by decide +kernel
theorem dX11_steps_45 : decode cX11_steps 45 = .ok (.invokevirtual 287, 3) := by decide +kernel
theorem dX11_steps_48 : decode cX11_steps 48 = .ok (.istore 4, 2) := by decide +kernel
theorem dX11_steps_50 : decode cX11_steps 50 = .ok (.aload_n 0, 1) := by decide +kernel
theorem dX11_steps_51 : decode cX11_steps 51 = .ok (.iconst 0, 1) := by decide +kernel
theorem dX11_steps_52 : decode cX11_steps 52 = .ok (.putfield 15, 3) := by decide +kernel
theorem dX11_steps_55 : decode cX11_steps 55 = .ok (.aload_n 0, 1) := by decide +kernel
theorem dX11_steps_56 : decode cX11_steps 56 = .ok (.aload_n 0, 1) := by decide +kernel
theorem dX11_steps_57 : decode cX11_steps 57 = .ok (.getfield 41, 3) := by decide +kernel
theorem dX11_steps_60 : decode cX11_steps 60 = .ok (.bipush 75, 2) := by decide +kernel
theorem dX11_steps_62 : decode cX11_steps 62 = .ok (.iaload, 1) := by decide +kernel
theorem dX11_steps_63 : decode cX11_steps 63 = .ok (.iload_n 2, 1) := by decide +kernel
theorem dX11_steps_64 : decode cX11_steps 64 = .ok (.isub, 1) := by decide +kernel
theorem dX11_steps_65 : decode cX11_steps 65 = .ok (.i2l, 1) := by decide +kernel
theorem dX11_steps_66 : decode cX11_steps 66 = .ok (.invokevirtual 18, 3) := by decide +kernel
theorem dX11_steps_69 : decode cX11_steps 69 = .ok (.aload_n 0, 1) := by decide +kernel
theorem dX11_steps_70 : decode cX11_steps 70 = .ok (.aload_n 0, 1) := by decide +kernel
theorem dX11_steps_71 : decode cX11_steps 71 = .ok (.getfield 41, 3) := by decide +kernel
theorem dX11_steps_74 : decode cX11_steps 74 = .ok (.bipush 77, 2) := by decide +kernel
theorem dX11_steps_76 : decode cX11_steps 76 = .ok (.iaload, 1) := by decide +kernel
theorem dX11_steps_77 : decode cX11_steps 77 = .ok (.iload_n 3, 1) := by decide +kernel
theorem dX11_steps_78 : decode cX11_steps 78 = .ok (.isub, 1) := by decide +kernel
theorem dX11_steps_79 : decode cX11_steps 79 = .ok (.i2l, 1) := by decide +kernel
theorem dX11_steps_80 : decode cX11_steps 80 = .ok (.invokevirtual 18, 3) := by decide +kernel
theorem dX11_steps_83 : decode cX11_steps 83 = .ok (.aload_n 0, 1) := by decide +kernel
theorem dX11_steps_84 : decode cX11_steps 84 = .ok (.iload 4, 2) := by decide +kernel
theorem dX11_steps_86 : decode cX11_steps 86 = .ok (.invokevirtual 259, 3) := by decide +kernel
theorem dX11_steps_89 : decode cX11_steps 89 = .ok (.ireturn, 1) := by decide +kernel
theorem dX11_turn_0 : decode cX11_turn 0 = .ok (.aload_n 0, 1) := by decide +kernel
theorem dX11_turn_1 : decode cX11_turn 1 = .ok (.iconst 0, 1) := by decide +kernel
theorem dX11_turn_2 : decode cX11_turn 2 = .ok (.putfield 3, 3) := by decide +kernel
theorem dX11_turn_5 : decode cX11_turn 5 = .ok (.iload_n 1, 1) := by decide +kernel
theorem dX11_turn_6 : decode cX11_turn 6 = .ok (.i2l, 1) := by decide +kernel
theorem dX11_turn_7 : decode cX11_turn 7 = .ok (.lconst 0, 1) := by decide +kernel
theorem dX11_turn_8 : decode cX11_turn 8 = .ok (.ldc2_w 254, 3) := by decide +kernel
theorem dX11_turn_11 : decode cX11_turn 11 = .ok (.invokestatic 118, 3) := by decide +kernel
theorem dX11_turn_14 : decode cX11_turn 14 = .ok (.ifCond .ne 5, 3) := by decide +kernel
theorem dX11_turn_17 : decode cX11_turn 17 = .ok (.iconst (-1), 1) := by decide +kernel
theorem dX11_turn_18 : decode cX11_turn 18 = .ok (.ireturn, 1) := by decide +kernel
theorem dX11_turn_19 : decode cX11_turn 19 = .ok (.aload_n 0, 1) := by decide +kernel
theorem dX11_turn_20 : decode cX11_turn 20 = .ok (.invokevirtual 284, 3) := by decide +kernel
theorem dX11_turn_23 : decode cX11_turn 23 = .ok (.aload_n 0, 1) := by decide +kernel
theorem dX11_turn_24 : decode cX11_turn 24 = .ok (.getfield 41, 3) := by decide +kernel
theorem dX11_turn_27 : decode cX11_turn 27 = .ok (.bipush 73, 2) := by decide +kernel
theorem dX11_turn_29 : decode cX11_turn 29 = .ok (.aload_n 0, 1) := by decide +kernel
theorem dX11_turn_30 : decode cX11_turn 30 = .ok (.getfield 41, 3) := by decide +kernel
theorem dX11_turn_33 : decode cX11_turn 33 = .ok (.bipush 73, 2) := by decide +kernel
theorem dX11_turn_35 : decode cX11_turn 35 = .ok (.iaload, 1) := by decide +kernel
theorem dX11_turn_36 : decode cX11_turn 36 = .ok (.iload_n 1, 1) := by decide +kernel
theorem dX11_turn_37 : decode cX11_turn 37 = .ok (.iadd, 1) := by decide +kernel
theorem dX11_turn_38 : decode cX11_turn 38 = .ok (.iconst 4, 1) := by decide +kernel
theorem dX11_turn_39 : decode cX11_turn 39 = .ok (.irem, 1) := by decide +kernel
theorem dX11_turn_40 : decode cX11_turn 40 = .ok (.iastore, 1) := by decide +kernel
theorem dX11_turn_41 : decode cX11_turn 41 = .ok (.aload_n 0, 1) := by decide +kernel
theorem dX11_turn_42 : decode cX11_turn 42 = .ok (.aload_n 0, 1) := by decide +kernel
theorem dX11_turn_43 : decode cX11_turn 43 = .ok (.getfield 41, 3) := by decide +kernel
theorem dX11_turn_46 : decode cX11_turn 46 = .ok (.bipush 73, 2) := by decide +kernel
theorem dX11_turn_48 : decode cX11_turn 48 = .ok (.iaload, 1) := by decide +kernel
theorem dX11_turn_49 : decode cX11_turn 49 = .ok (.invokevirtual 259, 3) := by decide +kernel
theorem dX11_turn_52 : decode cX11_turn 52 = .ok (.ireturn, 1) := by decide +kernel
theorem dX11_days_0 : decode cX11_days 0 = .ok (.aload_n 0, 1) := by decide +kernel
theorem dX11_days_1 : decode cX11_days 1 = .ok (.iconst 0, 1) := by decide +kernel
theorem dX11_days_2 : decode cX11_days 2 = .ok (.putfield 3, 3) := by decide +kernel
theorem dX11_days_5 : decode cX11_days 5 = .ok (.aload_n 0, 1) := by decide +kernel
theorem dX11_days_6 : decode cX11_days 6 = .ok (.invokevirtual 284, 3) := by decide +kernel
theorem dX11_days_9 : decode cX11_days 9 = .ok (.aload_n 0, 1) := by decide +kernel
theorem dX11_days_10 : decode cX11_days 10 = .ok (.aload_n 0, 1) := by decide +kernel
theorem dX11_days_11 : decode cX11_days 11 = .ok (.iload_n 1, 1) := by decide +kernel
theorem dX11_days_12 : decode cX11_days 12 = .ok (.invokevirtual 291, 3) := by decide +kernel
theorem dX11_days_15 : decode cX11_days 15 = .ok (.invokevirtual 294, 3) := by decide +kernel
theorem dX11_days_18 : decode cX11_days 18 = .ok (.ireturn, 1) := by decide +kernel
theorem dX11_chair_0 : decode cX11_chair 0 = .ok (.aload_n 0, 1) := by decide +kernel
theorem dX11_chair_1 : decode cX11_chair 1 = .ok (.iconst 0, 1) := by decide +kernel
theorem dX11_chair_2 : decode cX11_chair 2 = .ok (.putfield 3, 3) := by decide +kernel
theorem dX11_chair_5 : decode cX11_chair 5 = .ok (.aload_n 0, 1) := by decide +kernel
theorem dX11_chair_6 : decode cX11_chair 6 = .ok (.invokevirtual 284, 3) := by decide +kernel
theorem dX11_chair_9 : decode cX11_chair 9 = .ok (.aload_n 0, 1) := by decide +kernel
theorem dX11_chair_10 : decode cX11_chair 10 = .ok (.aload_n 0, 1) := by decide +kernel
theorem dX11_chair_11 : decode cX11_chair 11 = .ok (.iload_n 1, 1) := by decide +kernel
theorem dX11_chair_12 : decode cX11_chair 12 = .ok (.invokevirtual 297, 3) := by decide +kernel
theorem dX11_chair_15 : decode cX11_chair 15 = .ok (.invokevirtual 294, 3) := by decide +kernel
theorem dX11_chair_18 : decode cX11_chair 18 = .ok (.ireturn, 1) := by decide +kernel
theorem dX11_carry_0 : decode cX11_carry 0 = .ok (.aload_n 0, 1) := by decide +kernel
theorem dX11_carry_1 : decode cX11_carry 1 = .ok (.iconst 0, 1) := by decide +kernel
theorem dX11_carry_2 : decode cX11_carry 2 = .ok (.putfield 3, 3) := by decide +kernel
theorem dX11_carry_5 : decode cX11_carry 5 = .ok (.aload_n 0, 1) := by decide +kernel
theorem dX11_carry_6 : decode cX11_carry 6 = .ok (.iload_n 1, 1) := by decide +kernel
theorem dX11_carry_7 : decode cX11_carry 7 = .ok (.invokevirtual 233, 3) := by decide +kernel
theorem dX11_carry_10 : decode cX11_carry 10 = .ok (.ifCond .eq 15, 3) := by decide +kernel
theorem dX11_carry_13 : decode cX11_carry 13 = .ok (.iload_n 2, 1) := by decide +kernel
theorem dX11_carry_14 : decode cX11_carry 14 = .ok (.i2l, 1) := by decide +kernel
theorem dX11_carry_15 : decode cX11_carry 15 = .ok (.lconst 0, 1) := by decide +kernel
theorem dX11_carry_16 : decode cX11_carry 16 = .ok (.ldc2_w 254, 3) := by decide +kernel
theorem dX11_carry_19 : decode cX11_carry 19 = .ok (.invokestatic 118, 3) := by decide +kernel
theorem dX11_carry_22 : decode cX11_carry 22 = .ok (.ifCond .ne 5, 3) := by decide +kernel
theorem dX11_carry_25 : decode cX11_carry 25 = .ok (.iconst (-1), 1) := by decide +kernel
theorem dX11_carry_26 : decode cX11_carry 26 = .ok (.ireturn, 1) := by decide +kernel
theorem dX11_carry_27 : decode cX11_carry 27 = .ok (.aload_n 0, 1) := by decide +kernel
theorem dX11_carry_28 : decode cX11_carry 28 = .ok (.aload_n 0, 1) := by decide +kernel
theorem dX11_carry_29 : decode cX11_carry 29 = .ok (.getfield 41, 3) := by decide +kernel
theorem dX11_carry_32 : decode cX11_carry 32 = .ok (.iload_n 1, 1) := by decide +kernel
theorem dX11_carry_33 : decode cX11_carry 33 = .ok (.invokevirtual 241, 3) := by decide +kernel
theorem dX11_carry_36 : decode cX11_carry 36 = .ok (.ifCond .ne 6, 3) := by decide +kernel
theorem dX11_carry_39 : decode cX11_carry 39 = .ok (.bipush (-2), 2) := by decide +kernel
theorem dX11_carry_41 : decode cX11_carry 41 = .ok (.ireturn, 1) := by decide +kernel
theorem dX11_carry_42 : decode cX11_carry 42 = .ok (.aload_n 0, 1) := by decide +kernel
theorem dX11_carry_43 : decode cX11_carry 43 = .ok (.invokevirtual 284, 3) := by decide +kernel
theorem dX11_carry_46 : decode cX11_carry 46 = .ok (.aload_n 0, 1) := by decide +kernel
theorem dX11_carry_47 : decode cX11_carry 47 = .ok (.getfield 41, 3) := by decide +kernel
theorem dX11_carry_50 : decode cX11_carry 50 = .ok (.bipush 72, 2) := by decide +kernel
theorem dX11_carry_52 : decode cX11_carry 52 = .ok (.iaload, 1) := by decide +kernel
theorem dX11_carry_53 : decode cX11_carry 53 = .ok (.istore_n 3, 1) := by decide +kernel
theorem dX11_carry_54 : decode cX11_carry 54 = .ok (.aload_n 0, 1) := by decide +kernel
theorem dX11_carry_55 : decode cX11_carry 55 = .ok (.getfield 41, 3) := by decide +kernel
theorem dX11_carry_58 : decode cX11_carry 58 = .ok (.bipush 72, 2) := by decide +kernel
theorem dX11_carry_60 : decode cX11_carry 60 = .ok (.iload_n 1, 1) := by decide +kernel
theorem dX11_carry_61 : decode cX11_carry 61 = .ok (.iastore, 1) := by decide +kernel
theorem dX11_carry_62 : decode cX11_carry 62 = .ok (.aload_n 0, 1) := by decide +kernel
theorem dX11_carry_63 : decode cX11_carry 63 = .ok (.getfield 41, 3) := by decide +kernel
theorem dX11_carry_66 : decode cX11_carry 66 = .ok (.bipush 73, 2) := by decide +kernel
theorem dX11_carry_68 : decode cX11_carry 68 = .ok (.iload_n 2, 1) := by decide +kernel
theorem dX11_carry_69 : decode cX11_carry 69 = .ok (.iastore, 1) := by decide +kernel
theorem dX11_carry_70 : decode cX11_carry 70 = .ok (.aload_n 0, 1) := by decide +kernel
theorem dX11_carry_71 : decode cX11_carry 71 = .ok (.iload_n 3, 1) := by decide +kernel
theorem dX11_carry_72 : decode cX11_carry 72 = .ok (.invokevirtual 259, 3) := by decide +kernel
theorem dX11_carry_75 : decode cX11_carry 75 = .ok (.ireturn, 1) := by decide +kernel
theorem dX11_load_0 : decode cX11_load 0 = .ok (.aload_n 0, 1) := by decide +kernel
theorem dX11_load_1 : decode cX11_load 1 = .ok (.iconst 0, 1) := by decide +kernel
theorem dX11_load_2 : decode cX11_load 2 = .ok (.putfield 3, 3) := by decide +kernel
theorem dX11_load_5 : decode cX11_load 5 = .ok (.aload_n 0, 1) := by decide +kernel
theorem dX11_load_6 : decode cX11_load 6 = .ok (.invokevirtual 284, 3) := by decide +kernel
theorem dX11_load_9 : decode cX11_load 9 = .ok (.aload_n 0, 1) := by decide +kernel
theorem dX11_load_10 : decode cX11_load 10 = .ok (.aload_n 0, 1) := by decide +kernel
theorem dX11_load_11 : decode cX11_load 11 = .ok (.iload_n 1, 1) := by decide +kernel
theorem dX11_load_12 : decode cX11_load 12 = .ok (.invokevirtual 300, 3) := by decide +kernel
theorem dX11_load_15 : decode cX11_load 15 = .ok (.invokevirtual 294, 3) := by decide +kernel
theorem dX11_load_18 : decode cX11_load 18 = .ok (.ireturn, 1) := by decide +kernel
theorem dX11_readsAct_0 : decode cX11_readsAct 0 = .ok (.aload_n 0, 1) := by decide +kernel
theorem dX11_readsAct_1 : decode cX11_readsAct 1 = .ok (.getfield 303, 3) := by decide +kernel
theorem dX11_readsAct_4 : decode cX11_readsAct 4 = .ok (.istore_n 1, 1) := by decide +kernel
theorem dX11_readsAct_5 : decode cX11_readsAct 5 = .ok (.aload_n 0, 1) := by decide +kernel
theorem dX11_readsAct_6 : decode cX11_readsAct 6 = .ok (.getfield 71, 3) := by decide +kernel
theorem dX11_readsAct_9 : decode cX11_readsAct 9 = .ok (.iload_n 1, 1) := by decide +kernel
theorem dX11_readsAct_10 : decode cX11_readsAct 10 = .ok (.aload_n 0, 1) := by decide +kernel
theorem dX11_readsAct_11 : decode cX11_readsAct 11 = .ok (.ldc_w 306, 3) := by decide +kernel
theorem dX11_readsAct_14 : decode cX11_readsAct 14 = .ok (.invokevirtual 207, 3) := by decide +kernel
theorem dX11_readsAct_17 : decode cX11_readsAct 17 = .ok (.iastore, 1) := by decide +kernel
theorem dX11_readsAct_18 : decode cX11_readsAct 18 = .ok (.aload_n 0, 1) := by decide +kernel
theorem dX11_readsAct_19 : decode cX11_readsAct 19 = .ok (.dup, 1) := by decide +kernel
theorem dX11_readsAct_20 : decode cX11_readsAct 20 = .ok (.getfield 303, 3) := by decide +kernel
theorem dX11_readsAct_23 : decode cX11_readsAct 23 = .ok (.iconst 1, 1) := by decide +kernel
theorem dX11_readsAct_24 : decode cX11_readsAct 24 = .ok (.iadd, 1) := by decide +kernel
theorem dX11_readsAct_25 : decode cX11_readsAct 25 = .ok (.putfield 303, 3) := by decide +kernel
theorem dX11_readsAct_28 : decode cX11_readsAct 28 = .ok (.aload_n 0, 1) := by decide +kernel
theorem dX11_readsAct_29 : decode cX11_readsAct 29 = .ok (.getfield 71, 3) := by decide +kernel
theorem dX11_readsAct_32 : decode cX11_readsAct 32 = .ok (.iload_n 1, 1) := by decide +kernel
theorem dX11_readsAct_33 : decode cX11_readsAct 33 = .ok (.iaload, 1) := by decide +kernel
theorem dX11_readsAct_34 : decode cX11_readsAct 34 = .ok (.ifCond .ge 5, 3) := by decide +kernel
theorem dX11_readsAct_37 : decode cX11_readsAct 37 = .ok (.iconst 0, 1) := by decide +kernel
theorem dX11_readsAct_38 : decode cX11_readsAct 38 = .ok (.ireturn, 1) := by decide +kernel
theorem dX11_readsAct_39 : decode cX11_readsAct 39 = .ok (.aload_n 0, 1) := by decide +kernel
theorem dX11_readsAct_40 : decode cX11_readsAct 40 = .ok (.getfield 71, 3) := by decide +kernel
theorem dX11_readsAct_43 : decode cX11_readsAct 43 = .ok (.iload_n 1, 1) := by decide +kernel
theorem dX11_readsAct_44 : decode cX11_readsAct 44 = .ok (.iaload, 1) := by decide +kernel
theorem dX11_readsAct_45 : decode cX11_readsAct 45 = .ok (.iconst 3, 1) := by decide +kernel
theorem dX11_readsAct_46 : decode cX11_readsAct 46 = .ok (.if_icmp .ge 68, 3) := by decide +kernel
theorem dX11_readsAct_49 : decode cX11_readsAct 49 = .ok (.aload_n 0, 1) := by decide +kernel
theorem dX11_readsAct_50 : decode cX11_readsAct 50 = .ok (.getfield 74, 3) := by decide +kernel
theorem dX11_readsAct_53 : decode cX11_readsAct 53 = .ok (.iload_n 1, 1) := by decide +kernel
theorem dX11_readsAct_54 : decode cX11_readsAct 54 = .ok (.aload_n 0, 1) := by decide +kernel
theorem dX11_readsAct_55 : decode cX11_readsAct 55 = .ok (.getfield 71, 3) := by decide +kernel
theorem dX11_readsAct_58 : decode cX11_readsAct 58 = .ok (.iload_n 1, 1) := by decide +kernel
theorem dX11_readsAct_59 : decode cX11_readsAct 59 = .ok (.iaload, 1) := by decide +kernel
theorem dX11_readsAct_60 : decode cX11_readsAct 60 = .ok (.iconst 1, 1) := by decide +kernel
theorem dX11_readsAct_61 : decode cX11_readsAct 61 = .ok (.if_icmp .ne 14, 3) := by decide +kernel
theorem dX11_readsAct_64 : decode cX11_readsAct 64 = .ok (.aload_n 0, 1) := by decide +kernel
theorem dX11_readsAct_65 : decode cX11_readsAct 65 = .ok (.bipush 48, 2) := by decide +kernel
theorem dX11_readsAct_67 : decode cX11_readsAct 67 = .ok (.iconst 0, 1) := by decide +kernel
theorem dX11_readsAct_68 : decode cX11_readsAct 68 = .ok (.iconst 3, 1) := by decide +kernel
theorem dX11_readsAct_69 : decode cX11_readsAct 69 = .ok (.invokevirtual 308, 3) := by decide +kernel
theorem dX11_readsAct_72 : decode cX11_readsAct 72 = .ok (.goto 26, 3) := by decide +kernel
theorem dX11_readsAct_75 : decode cX11_readsAct 75 = .ok (.aload_n 0, 1) := by decide +kernel
theorem dX11_readsAct_76 : decode cX11_readsAct 76 = .ok (.bipush 48, 2) := by decide +kernel
theorem dX11_readsAct_78 : decode cX11_readsAct 78 = .ok (.aload_n 0, 1) := by decide +kernel
theorem dX11_readsAct_79 : decode cX11_readsAct 79 = .ok (.getfield 71, 3) := by decide +kernel
theorem dX11_readsAct_82 : decode cX11_readsAct 82 = .ok (.iload_n 1, 1) := by decide +kernel
theorem dX11_readsAct_83 : decode cX11_readsAct 83 = .ok (.iaload, 1) := by decide +kernel
theorem dX11_readsAct_84 : decode cX11_readsAct 84 = .ok (.iconst 2, 1) := by decide +kernel
theorem dX11_readsAct_85 : decode cX11_readsAct 85 = .ok (.if_icmp .ne 7, 3) := by decide +kernel
theorem dX11_readsAct_88 : decode cX11_readsAct 88 = .ok (.iconst 1, 1) := by decide +kernel
theorem dX11_readsAct_89 : decode cX11_readsAct 89 = .ok (.goto 4, 3) := by decide +kernel
theorem dX11_readsAct_92 : decode cX11_readsAct 92 = .ok (.iconst 0, 1) := by decide +kernel
theorem dX11_readsAct_93 : decode cX11_readsAct 93 = .ok (.bipush 9, 2) := by decide +kernel
theorem dX11_readsAct_95 : decode cX11_readsAct 95 = .ok (.invokevirtual 308, 3) := by decide +kernel
theorem dX11_readsAct_98 : decode cX11_readsAct 98 = .ok (.iastore, 1) := by decide +kernel
theorem dX11_readsAct_99 : decode cX11_readsAct 99 = .ok (.aload_n 0, 1) := by decide +kernel
theorem dX11_readsAct_100 : decode cX11_readsAct 100 = .ok (.getfield 74, 3) := by decide +kernel
theorem dX11_readsAct_103 : decode cX11_readsAct 103 = .ok (.iload_n 1, 1) := by decide +kernel
theorem dX11_readsAct_104 : decode cX11_readsAct 104 = .ok (.iaload, 1) := by decide +kernel
theorem dX11_readsAct_105 : decode cX11_readsAct 105 = .ok (.ifCond .lt 7, 3) := by decide +kernel
theorem dX11_readsAct_108 : decode cX11_readsAct 108 = .ok (.iconst 1, 1) := by decide +kernel
theorem dX11_readsAct_109 : decode cX11_readsAct 109 = .ok (.goto 4, 3) := by decide +kernel
theorem dX11_readsAct_112 : decode cX11_readsAct 112 = .ok (.iconst 0, 1) := by decide +kernel
theorem dX11_readsAct_113 : decode cX11_readsAct 113 = .ok (.ireturn, 1) := by decide +kernel
theorem dX11_readsAct_114 : decode cX11_readsAct 114 = .ok (.aload_n 0, 1) := by decide +kernel
theorem dX11_readsAct_115 : decode cX11_readsAct 115 = .ok (.iconst 1, 1) := by decide +kernel
theorem dX11_readsAct_116 : decode cX11_readsAct 116 = .ok (.invokevirtual 202, 3) := by decide +kernel
theorem dX11_readsAct_119 : decode cX11_readsAct 119 = .ok (.istore_n 2, 1) := by decide +kernel
theorem dX11_readsAct_120 : decode cX11_readsAct 120 = .ok (.iload_n 2, 1) := by decide +kernel
theorem dX11_readsAct_121 : decode cX11_readsAct 121 = .ok (.ifCond .ge 7, 3) := by decide +kernel
theorem dX11_readsAct_124 : decode cX11_readsAct 124 = .ok (.iconst (-1), 1) := by decide +kernel
theorem dX11_readsAct_125 : decode cX11_readsAct 125 = .ok (.goto 8, 3) := by decide +kernel
theorem dX11_readsAct_128 : decode cX11_readsAct 128 = .ok (.aload_n 0, 1) := by decide +kernel
theorem dX11_readsAct_129 : decode cX11_readsAct 129 = .ok (.iconst 1, 1) := by decide +kernel
theorem dX11_readsAct_130 : decode cX11_readsAct 130 = .ok (.invokevirtual 202, 3) := by decide +kernel
theorem dX11_readsAct_133 : decode cX11_readsAct 133 = .ok (.istore_n 3, 1) := by decide +kernel
theorem dX11_readsAct_134 : decode cX11_readsAct 134 = .ok (.aload_n 0, 1) := by decide +kernel
theorem dX11_readsAct_135 : decode cX11_readsAct 135 = .ok (.getfield 74, 3) := by decide +kernel
theorem dX11_readsAct_138 : decode cX11_readsAct 138 = .ok (.iload_n 1, 1) := by decide +kernel
theorem dX11_readsAct_139 : decode cX11_readsAct 139 = .ok (.bipush 10, 2) := by decide +kernel
theorem dX11_readsAct_141 : decode cX11_readsAct 141 = .ok (.iload_n 2, 1) := by decide +kernel
theorem dX11_readsAct_142 : decode cX11_readsAct 142 = .ok (.imul, 1) := by decide +kernel
theorem dX11_readsAct_143 : decode cX11_readsAct 143 = .ok (.iload_n 3, 1) := by decide +kernel
theorem dX11_readsAct_144 : decode cX11_readsAct 144 = .ok (.iadd, 1) := by decide +kernel
theorem dX11_readsAct_145 : decode cX11_readsAct 145 = .ok (.iastore, 1) := by decide +kernel
theorem dX11_readsAct_146 : decode cX11_readsAct 146 = .ok (.iload_n 3, 1) := by decide +kernel
theorem dX11_readsAct_147 : decode cX11_readsAct 147 = .ok (.ifCond .lt 7, 3) := by decide +kernel
theorem dX11_readsAct_150 : decode cX11_readsAct 150 = .ok (.iconst 1, 1) := by decide +kernel
theorem dX11_readsAct_151 : decode cX11_readsAct 151 = .ok (.goto 4, 3) := by decide +kernel
theorem dX11_readsAct_154 : decode cX11_readsAct 154 = .ok (.iconst 0, 1) := by decide +kernel
theorem dX11_readsAct_155 : decode cX11_readsAct 155 = .ok (.ireturn, 1) := by decide +kernel
theorem dX11_does_0 : decode cX11_does 0 = .ok (.aload_n 0, 1) := by decide +kernel
theorem dX11_does_1 : decode cX11_does 1 = .ok (.getfield 74, 3) := by decide +kernel
theorem dX11_does_4 : decode cX11_does 4 = .ok (.iload_n 1, 1) := by decide +kernel
theorem dX11_does_5 : decode cX11_does 5 = .ok (.iaload, 1) := by decide +kernel
theorem dX11_does_6 : decode cX11_does 6 = .ok (.istore_n 2, 1) := by decide +kernel
theorem dX11_does_7 : decode cX11_does 7 = .ok (.aload_n 0, 1) := by decide +kernel
theorem dX11_does_8 : decode cX11_does 8 = .ok (.getfield 71, 3) := by decide +kernel
theorem dX11_does_11 : decode cX11_does 11 = .ok (.iload_n 1, 1) := by decide +kernel
theorem dX11_does_12 : decode cX11_does 12 = .ok (.iaload, 1) := by decide +kernel
theorem dX11_does_13 : decode cX11_does 13 = .ok (.tableswitch 101 0 3 #[31, 53, 73, 87], 31) := by decide +kernel
theorem dX11_does_44 : decode cX11_does 44 = .ok (.aload_n 0, 1) := by decide +kernel
theorem dX11_does_45 : decode cX11_does 45 = .ok (.aload_n 0, 1) := by decide +kernel
theorem dX11_does_46 : decode cX11_does 46 = .ok (.getfield 41, 3) := by decide +kernel
theorem dX11_does_49 : decode cX11_does 49 = .ok (.iload_n 2, 1) := by decide +kernel
theorem dX11_does_50 : decode cX11_does 50 = .ok (.invokevirtual 287, 3) := by decide +kernel
theorem dX11_does_53 : decode cX11_does 53 = .ok (.ifCond .gt 7, 3) := by decide +kernel
theorem dX11_does_56 : decode cX11_does 56 = .ok (.iload_n 2, 1) := by decide +kernel
theorem dX11_does_57 : decode cX11_does 57 = .ok (.ifCond .ne 7, 3) := by decide +kernel
theorem dX11_does_60 : decode cX11_does 60 = .ok (.iconst 1, 1) := by decide +kernel
theorem dX11_does_61 : decode cX11_does 61 = .ok (.goto 4, 3) := by decide +kernel
theorem dX11_does_64 : decode cX11_does 64 = .ok (.iconst 0, 1) := by decide +kernel
theorem dX11_does_65 : decode cX11_does 65 = .ok (.ireturn, 1) := by decide +kernel
theorem dX11_does_66 : decode cX11_does 66 = .ok (.aload_n 0, 1) := by decide +kernel
theorem dX11_does_67 : decode cX11_does 67 = .ok (.getfield 41, 3) := by decide +kernel
theorem dX11_does_70 : decode cX11_does 70 = .ok (.bipush 73, 2) := by decide +kernel
theorem dX11_does_72 : decode cX11_does 72 = .ok (.aload_n 0, 1) := by decide +kernel
theorem dX11_does_73 : decode cX11_does 73 = .ok (.getfield 41, 3) := by decide +kernel
theorem dX11_does_76 : decode cX11_does 76 = .ok (.bipush 73, 2) := by decide +kernel
theorem dX11_does_78 : decode cX11_does 78 = .ok (.iaload, 1) := by decide +kernel
theorem dX11_does_79 : decode cX11_does 79 = .ok (.iload_n 2, 1) := by decide +kernel
theorem dX11_does_80 : decode cX11_does 80 = .ok (.iadd, 1) := by decide +kernel
theorem dX11_does_81 : decode cX11_does 81 = .ok (.iconst 4, 1) := by decide +kernel
theorem dX11_does_82 : decode cX11_does 82 = .ok (.irem, 1) := by decide +kernel
theorem dX11_does_83 : decode cX11_does 83 = .ok (.iastore, 1) := by decide +kernel
theorem dX11_does_84 : decode cX11_does 84 = .ok (.iconst 1, 1) := by decide +kernel
theorem dX11_does_85 : decode cX11_does 85 = .ok (.ireturn, 1) := by decide +kernel
theorem dX11_does_86 : decode cX11_does 86 = .ok (.aload_n 0, 1) := by decide +kernel
theorem dX11_does_87 : decode cX11_does 87 = .ok (.iload_n 2, 1) := by decide +kernel
theorem dX11_does_88 : decode cX11_does 88 = .ok (.invokevirtual 291, 3) := by decide +kernel
theorem dX11_does_91 : decode cX11_does 91 = .ok (.ifCond .lt 7, 3) := by decide +kernel
theorem dX11_does_94 : decode cX11_does 94 = .ok (.iconst 1, 1) := by decide +kernel
theorem dX11_does_95 : decode cX11_does 95 = .ok (.goto 4, 3) := by decide +kernel
theorem dX11_does_98 : decode cX11_does 98 = .ok (.iconst 0, 1) := by decide +kernel
theorem dX11_does_99 : decode cX11_does 99 = .ok (.ireturn, 1) := by decide +kernel
theorem dX11_does_100 : decode cX11_does 100 = .ok (.aload_n 0, 1) := by decide +kernel
theorem dX11_does_101 : decode cX11_does 101 = .ok (.iload_n 2, 1) := by decide +kernel
theorem dX11_does_102 : decode cX11_does 102 = .ok (.invokevirtual 297, 3) := by decide +kernel
theorem dX11_does_105 : decode cX11_does 105 = .ok (.ifCond .lt 7, 3) := by decide +kernel
theorem dX11_does_108 : decode cX11_does 108 = .ok (.iconst 1, 1) := by decide +kernel
theorem dX11_does_109 : decode cX11_does 109 = .ok (.goto 4, 3) := by decide +kernel
theorem dX11_does_112 : decode cX11_does 112 = .ok (.iconst 0, 1) := by decide +kernel
theorem dX11_does_113 : decode cX11_does 113 = .ok (.ireturn, 1) := by decide +kernel
theorem dX11_does_114 : decode cX11_does 114 = .ok (.aload_n 0, 1) := by decide +kernel
theorem dX11_does_115 : decode cX11_does 115 = .ok (.bipush 10, 2) := by decide +kernel
theorem dX11_does_117 : decode cX11_does 117 = .ok (.iload_n 2, 1) := by decide +kernel
theorem dX11_does_118 : decode cX11_does 118 = .ok (.imul, 1) := by decide +kernel
theorem dX11_does_119 : decode cX11_does 119 = .ok (.invokevirtual 300, 3) := by decide +kernel
theorem dX11_does_122 : decode cX11_does 122 = .ok (.ifCond .lt 7, 3) := by decide +kernel
theorem dX11_does_125 : decode cX11_does 125 = .ok (.iconst 1, 1) := by decide +kernel
theorem dX11_does_126 : decode cX11_does 126 = .ok (.goto 4, 3) := by decide +kernel
theorem dX11_does_129 : decode cX11_does 129 = .ok (.iconst 0, 1) := by decide +kernel
theorem dX11_does_130 : decode cX11_does 130 = .ok (.ireturn, 1) := by decide +kernel
theorem dX11_run_0 : decode cX11_run 0 = .ok (.aload_n 0, 1) := by decide +kernel
theorem dX11_run_1 : decode cX11_run 1 = .ok (.iconst 0, 1) := by decide +kernel
theorem dX11_run_2 : decode cX11_run 2 = .ok (.putfield 3, 3) := by decide +kernel
theorem dX11_run_5 : decode cX11_run 5 = .ok (.aload_n 0, 1) := by decide +kernel
theorem dX11_run_6 : decode cX11_run 6 = .ok (.bipush 60, 2) := by decide +kernel
theorem dX11_run_8 : decode cX11_run 8 = .ok (.invokevirtual 175, 3) := by decide +kernel
theorem dX11_run_11 : decode cX11_run 11 = .ok (.istore_n 1, 1) := by decide +kernel
theorem dX11_run_12 : decode cX11_run 12 = .ok (.aload_n 0, 1) := by decide +kernel
theorem dX11_run_13 : decode cX11_run 13 = .ok (.iconst 0, 1) := by decide +kernel
theorem dX11_run_14 : decode cX11_run 14 = .ok (.putfield 303, 3) := by decide +kernel
theorem dX11_run_17 : decode cX11_run 17 = .ok (.iconst 1, 1) := by decide +kernel
theorem dX11_run_18 : decode cX11_run 18 = .ok (.istore_n 2, 1) := by decide +kernel
theorem dX11_run_19 : decode cX11_run 19 = .ok (.iload_n 2, 1) := by decide +kernel
theorem dX11_run_20 : decode cX11_run 20 = .ok (.ifCond .eq 22, 3) := by decide +kernel
theorem dX11_run_23 : decode cX11_run 23 = .ok (.aload_n 0, 1) := by decide +kernel
theorem dX11_run_24 : decode cX11_run 24 = .ok (.getfield 129, 3) := by decide +kernel
theorem dX11_run_27 : decode cX11_run 27 = .ok (.aload_n 0, 1) := by decide +kernel
theorem dX11_run_28 : decode cX11_run 28 = .ok (.getfield 141, 3) := by decide +kernel
theorem dX11_run_31 : decode cX11_run 31 = .ok (.if_icmp .ge 11, 3) := by decide +kernel
theorem dX11_run_34 : decode cX11_run 34 = .ok (.aload_n 0, 1) := by decide +kernel
theorem dX11_run_35 : decode cX11_run 35 = .ok (.invokevirtual 311, 3) := by decide +kernel
theorem dX11_run_38 : decode cX11_run 38 = .ok (.istore_n 2, 1) := by decide +kernel
theorem dX11_run_39 : decode cX11_run 39 = .ok (.goto (-20), 3) := by decide +kernel
theorem dX11_run_42 : decode cX11_run 42 = .ok (.aload_n 0, 1) := by decide +kernel
theorem dX11_run_43 : decode cX11_run 43 = .ok (.iload_n 1, 1) := by decide +kernel
theorem dX11_run_44 : decode cX11_run 44 = .ok (.bipush 60, 2) := by decide +kernel
theorem dX11_run_46 : decode cX11_run 46 = .ok (.iload_n 2, 1) := by decide +kernel
theorem dX11_run_47 : decode cX11_run 47 = .ok (.invokevirtual 219, 3) := by decide +kernel
theorem dX11_run_50 : decode cX11_run 50 = .ok (.istore_n 3, 1) := by decide +kernel
theorem dX11_run_51 : decode cX11_run 51 = .ok (.iload_n 3, 1) := by decide +kernel
theorem dX11_run_52 : decode cX11_run 52 = .ok (.ifCond .ge 5, 3) := by decide +kernel
theorem dX11_run_55 : decode cX11_run 55 = .ok (.iload_n 3, 1) := by decide +kernel
theorem dX11_run_56 : decode cX11_run 56 = .ok (.ireturn, 1) := by decide +kernel
theorem dX11_run_57 : decode cX11_run 57 = .ok (.aload_n 0, 1) := by decide +kernel
theorem dX11_run_58 : decode cX11_run 58 = .ok (.invokevirtual 284, 3) := by decide +kernel
theorem dX11_run_61 : decode cX11_run 61 = .ok (.iconst 0, 1) := by decide +kernel
theorem dX11_run_62 : decode cX11_run 62 = .ok (.istore 4, 2) := by decide +kernel
theorem dX11_run_64 : decode cX11_run 64 = .ok (.iload 4, 2) := by decide +kernel
theorem dX11_run_66 : decode cX11_run 66 = .ok (.aload_n 0, 1) := by decide +kernel
theorem dX11_run_67 : decode cX11_run 67 = .ok (.getfield 303, 3) := by decide +kernel
theorem dX11_run_70 : decode cX11_run 70 = .ok (.if_icmp .ge 18, 3) := by decide +kernel
theorem dX11_run_73 : decode cX11_run 73 = .ok (.aload_n 0, 1) := by decide +kernel
theorem dX11_run_74 : decode cX11_run 74 = .ok (.iload 4, 2) := by decide +kernel
theorem dX11_run_76 : decode cX11_run 76 = .ok (.invokevirtual 314, 3) := by decide +kernel
theorem dX11_run_79 : decode cX11_run 79 = .ok (.ifCond .eq 9, 3) := by decide +kernel
theorem dX11_run_82 : decode cX11_run 82 = .ok (.iinc 4 1, 3) := by decide +kernel
theorem dX11_run_85 : decode cX11_run 85 = .ok (.goto (-21), 3) := by decide +kernel
theorem dX11_run_88 : decode cX11_run 88 = .ok (.aload_n 0, 1) := by decide +kernel
theorem dX11_run_89 : decode cX11_run 89 = .ok (.iconst 0, 1) := by decide +kernel
theorem dX11_run_90 : decode cX11_run 90 = .ok (.putfield 15, 3) := by decide +kernel
theorem dX11_run_93 : decode cX11_run 93 = .ok (.aload_n 0, 1) := by decide +kernel
theorem dX11_run_94 : decode cX11_run 94 = .ok (.iload 4, 2) := by decide +kernel
theorem dX11_run_96 : decode cX11_run 96 = .ok (.aload_n 0, 1) := by decide +kernel
theorem dX11_run_97 : decode cX11_run 97 = .ok (.getfield 303, 3) := by decide +kernel
theorem dX11_run_100 : decode cX11_run 100 = .ok (.if_icmp .ge 7, 3) := by decide +kernel
theorem dX11_run_103 : decode cX11_run 103 = .ok (.iconst 1, 1) := by decide +kernel
theorem dX11_run_104 : decode cX11_run 104 = .ok (.goto 4, 3) := by decide +kernel
theorem dX11_run_107 : decode cX11_run 107 = .ok (.iconst 0, 1) := by decide +kernel
theorem dX11_run_108 : decode cX11_run 108 = .ok (.invokestatic 122, 3) := by decide +kernel
theorem dX11_run_111 : decode cX11_run 111 = .ok (.i2l, 1) := by decide +kernel
theorem dX11_run_112 : decode cX11_run 112 = .ok (.invokevirtual 18, 3) := by decide +kernel
theorem dX11_run_115 : decode cX11_run 115 = .ok (.aload_n 0, 1) := by decide +kernel
theorem dX11_run_116 : decode cX11_run 116 = .ok (.aload_n 0, 1) := by decide +kernel
theorem dX11_run_117 : decode cX11_run 117 = .ok (.getfield 41, 3) := by decide +kernel
theorem dX11_run_120 : decode cX11_run 120 = .ok (.bipush 75, 2) := by decide +kernel
theorem dX11_run_122 : decode cX11_run 122 = .ok (.iaload, 1) := by decide +kernel
theorem dX11_run_123 : decode cX11_run 123 = .ok (.i2l, 1) := by decide +kernel
theorem dX11_run_124 : decode cX11_run 124 = .ok (.invokevirtual 18, 3) := by decide +kernel
theorem dX11_run_127 : decode cX11_run 127 = .ok (.iload 4, 2) := by decide +kernel
theorem dX11_run_129 : decode cX11_run 129 = .ok (.ifCond .le 12, 3) := by decide +kernel
theorem dX11_run_132 : decode cX11_run 132 = .ok (.aload_n 0, 1) := by decide +kernel
theorem dX11_run_133 : decode cX11_run 133 = .ok (.iload 4, 2) := by decide +kernel
theorem dX11_run_135 : decode cX11_run 135 = .ok (.invokevirtual 259, 3) := by decide +kernel
theorem dX11_run_138 : decode cX11_run 138 = .ok (.goto 4, 3) := by decide +kernel
theorem dX11_run_141 : decode cX11_run 141 = .ok (.iconst 0, 1) := by decide +kernel
theorem dX11_run_142 : decode cX11_run 142 = .ok (.ireturn, 1) := by decide +kernel
theorem dX11_puts_0 : decode cX11_puts 0 = .ok (.iconst 0, 1) := by decide +kernel
theorem dX11_puts_1 : decode cX11_puts 1 = .ok (.istore_n 1, 1) := by decide +kernel
theorem dX11_puts_2 : decode cX11_puts 2 = .ok (.iload_n 1, 1) := by decide +kernel
theorem dX11_puts_3 : decode cX11_puts 3 = .ok (.bipush 79, 2) := by decide +kernel
theorem dX11_puts_5 : decode cX11_puts 5 = .ok (.if_icmp .ge 21, 3) := by decide +kernel
theorem dX11_puts_8 : decode cX11_puts 8 = .ok (.aload_n 0, 1) := by decide +kernel
theorem dX11_puts_9 : decode cX11_puts 9 = .ok (.getfield 44, 3) := by decide +kernel
theorem dX11_puts_12 : decode cX11_puts 12 = .ok (.iload_n 1, 1) := by decide +kernel
theorem dX11_puts_13 : decode cX11_puts 13 = .ok (.aload_n 0, 1) := by decide +kernel
theorem dX11_puts_14 : decode cX11_puts 14 = .ok (.getfield 41, 3) := by decide +kernel
theorem dX11_puts_17 : decode cX11_puts 17 = .ok (.iload_n 1, 1) := by decide +kernel
theorem dX11_puts_18 : decode cX11_puts 18 = .ok (.iaload, 1) := by decide +kernel
theorem dX11_puts_19 : decode cX11_puts 19 = .ok (.iastore, 1) := by decide +kernel
theorem dX11_puts_20 : decode cX11_puts 20 = .ok (.iinc 1 1, 3) := by decide +kernel
theorem dX11_puts_23 : decode cX11_puts 23 = .ok (.goto (-21), 3) := by decide +kernel
theorem dX11_puts_26 : decode cX11_puts 26 = .ok (.return_, 1) := by decide +kernel
theorem dX11_been_0 : decode cX11_been 0 = .ok (.aload_n 0, 1) := by decide +kernel
theorem dX11_been_1 : decode cX11_been 1 = .ok (.iconst 0, 1) := by decide +kernel
theorem dX11_been_2 : decode cX11_been 2 = .ok (.putfield 3, 3) := by decide +kernel
theorem dX11_been_5 : decode cX11_been 5 = .ok (.iload_n 1, 1) := by decide +kernel
theorem dX11_been_6 : decode cX11_been 6 = .ok (.i2l, 1) := by decide +kernel
theorem dX11_been_7 : decode cX11_been 7 = .ok (.lconst 0, 1) := by decide +kernel
theorem dX11_been_8 : decode cX11_been 8 = .ok (.ldc2_w 282, 3) := by decide +kernel
theorem dX11_been_11 : decode cX11_been 11 = .ok (.invokestatic 118, 3) := by decide +kernel
theorem dX11_been_14 : decode cX11_been 14 = .ok (.ifCond .ne 5, 3) := by decide +kernel
theorem dX11_been_17 : decode cX11_been 17 = .ok (.iconst (-1), 1) := by decide +kernel
theorem dX11_been_18 : decode cX11_been 18 = .ok (.ireturn, 1) := by decide +kernel
theorem dX11_been_19 : decode cX11_been 19 = .ok (.aload_n 0, 1) := by decide +kernel
theorem dX11_been_20 : decode cX11_been 20 = .ok (.invokevirtual 317, 3) := by decide +kernel
theorem dX11_been_23 : decode cX11_been 23 = .ok (.lconst 1, 1) := by decide +kernel
theorem dX11_been_24 : decode cX11_been 24 = .ok (.aload_n 0, 1) := by decide +kernel
theorem dX11_been_25 : decode cX11_been 25 = .ok (.getfield 44, 3) := by decide +kernel
theorem dX11_been_28 : decode cX11_been 28 = .ok (.bipush 72, 2) := by decide +kernel
theorem dX11_been_30 : decode cX11_been 30 = .ok (.iaload, 1) := by decide +kernel
theorem dX11_been_31 : decode cX11_been 31 = .ok (.lshl, 1) := by decide +kernel
theorem dX11_been_32 : decode cX11_been 32 = .ok (.lstore_n 2, 1) := by decide +kernel
theorem dX11_been_33 : decode cX11_been 33 = .ok (.iconst 0, 1) := by decide +kernel
theorem dX11_been_34 : decode cX11_been 34 = .ok (.istore 4, 2) := by decide +kernel
theorem dX11_been_36 : decode cX11_been 36 = .ok (.iload 4, 2) := by decide +kernel
theorem dX11_been_38 : decode cX11_been 38 = .ok (.iload_n 1, 1) := by decide +kernel
theorem dX11_been_39 : decode cX11_been 39 = .ok (.if_icmp .ge 43, 3) := by decide +kernel
theorem dX11_been_42 : decode cX11_been 42 = .ok (.aload_n 0, 1) := by decide +kernel
theorem dX11_been_43 : decode cX11_been 43 = .ok (.aload_n 0, 1) := by decide +kernel
theorem dX11_been_44 : decode cX11_been 44 = .ok (.getfield 44, 3) := by decide +kernel
theorem dX11_been_47 : decode cX11_been 47 = .ok (.aload_n 0, 1) := by decide +kernel
theorem dX11_been_48 : decode cX11_been 48 = .ok (.aload_n 0, 1) := by decide +kernel
theorem dX11_been_49 : decode cX11_been 49 = .ok (.getfield 44, 3) := by decide +kernel
theorem dX11_been_52 : decode cX11_been 52 = .ok (.bipush 72, 2) := by decide +kernel
theorem dX11_been_54 : decode cX11_been 54 = .ok (.iaload, 1) := by decide +kernel
theorem dX11_been_55 : decode cX11_been 55 = .ok (.invokevirtual 262, 3) := by decide +kernel
theorem dX11_been_58 : decode cX11_been 58 = .ok (.invokevirtual 265, 3) := by decide +kernel
theorem dX11_been_61 : decode cX11_been 61 = .ok (.ifCond .eq 21, 3) := by decide +kernel
theorem dX11_been_64 : decode cX11_been 64 = .ok (.lload_n 2, 1) := by decide +kernel
theorem dX11_been_65 : decode cX11_been 65 = .ok (.lconst 1, 1) := by decide +kernel
theorem dX11_been_66 : decode cX11_been 66 = .ok (.aload_n 0, 1) := by decide +kernel
theorem dX11_been_67 : decode cX11_been 67 = .ok (.getfield 44, 3) := by decide +kernel
theorem dX11_been_70 : decode cX11_been 70 = .ok (.bipush 72, 2) := by decide +kernel
theorem dX11_been_72 : decode cX11_been 72 = .ok (.iaload, 1) := by decide +kernel
theorem dX11_been_73 : decode cX11_been 73 = .ok (.lshl, 1) := by decide +kernel
theorem dX11_been_74 : decode cX11_been 74 = .ok (.lor, 1) := by decide +kernel
theorem dX11_been_75 : decode cX11_been 75 = .ok (.lstore_n 2, 1) := by decide +kernel
theorem dX11_been_76 : decode cX11_been 76 = .ok (.iinc 4 1, 3) := by decide +kernel
theorem dX11_been_79 : decode cX11_been 79 = .ok (.goto (-43), 3) := by decide +kernel
theorem dX11_been_82 : decode cX11_been 82 = .ok (.aload_n 0, 1) := by decide +kernel
theorem dX11_been_83 : decode cX11_been 83 = .ok (.iconst 0, 1) := by decide +kernel
theorem dX11_been_84 : decode cX11_been 84 = .ok (.putfield 15, 3) := by decide +kernel
theorem dX11_been_87 : decode cX11_been 87 = .ok (.aload_n 0, 1) := by decide +kernel
theorem dX11_been_88 : decode cX11_been 88 = .ok (.lload_n 2, 1) := by decide +kernel
theorem dX11_been_89 : decode cX11_been 89 = .ok (.invokevirtual 18, 3) := by decide +kernel
theorem dX11_been_92 : decode cX11_been 92 = .ok (.aload_n 0, 1) := by decide +kernel
theorem dX11_been_93 : decode cX11_been 93 = .ok (.aload_n 0, 1) := by decide +kernel
theorem dX11_been_94 : decode cX11_been 94 = .ok (.getfield 44, 3) := by decide +kernel
theorem dX11_been_97 : decode cX11_been 97 = .ok (.bipush 72, 2) := by decide +kernel
theorem dX11_been_99 : decode cX11_been 99 = .ok (.iaload, 1) := by decide +kernel
theorem dX11_been_100 : decode cX11_been 100 = .ok (.i2l, 1) := by decide +kernel
theorem dX11_been_101 : decode cX11_been 101 = .ok (.invokevirtual 18, 3) := by decide +kernel
theorem dX11_been_104 : decode cX11_been 104 = .ok (.aload_n 0, 1) := by decide +kernel
theorem dX11_been_105 : decode cX11_been 105 = .ok (.aload_n 0, 1) := by decide +kernel
theorem dX11_been_106 : decode cX11_been 106 = .ok (.getfield 44, 3) := by decide +kernel
theorem dX11_been_109 : decode cX11_been 109 = .ok (.bipush 74, 2) := by decide +kernel
theorem dX11_been_111 : decode cX11_been 111 = .ok (.iaload, 1) := by decide +kernel
theorem dX11_been_112 : decode cX11_been 112 = .ok (.i2l, 1) := by decide +kernel
theorem dX11_been_113 : decode cX11_been 113 = .ok (.invokevirtual 18, 3) := by decide +kernel
theorem dX11_been_116 : decode cX11_been 116 = .ok (.lload_n 2, 1) := by decide +kernel
theorem dX11_been_117 : decode cX11_been 117 = .ok (.invokestatic 320, 3) := by decide +kernel
theorem dX11_been_120 : decode cX11_been 120 = .ok (.ireturn, 1) := by decide +kernel
theorem dX11_reachedFrom_0 : decode cX11_reachedFrom 0 = .ok (.lconst 1, 1) := by decide +kernel
theorem dX11_reachedFrom_1 : decode cX11_reachedFrom 1 = .ok (.iload_n 2, 1) := by decide +kernel
theorem dX11_reachedFrom_2 : decode cX11_reachedFrom 2 = .ok (.lshl, 1) := by decide +kernel
theorem dX11_reachedFrom_3 : decode cX11_reachedFrom 3 = .ok (.lstore 4, 2) := by decide +kernel
theorem dX11_reachedFrom_5 : decode cX11_reachedFrom 5 = .ok (.iconst 1, 1) := by decide +kernel
theorem dX11_reachedFrom_6 : decode cX11_reachedFrom 6 = .ok (.istore 6, 2) := by decide +kernel
theorem dX11_reachedFrom_8 : decode cX11_reachedFrom 8 = .ok (.iload 6, 2) := by decide +kernel
theorem dX11_reachedFrom_10 : decode cX11_reachedFrom 10 = .ok (.ifCond .eq 109, 3) := by decide +kernel
theorem dX11_reachedFrom_13 : decode cX11_reachedFrom 13 = .ok (.lload 4, 2) := by decide +kernel
theorem dX11_reachedFrom_15 : decode cX11_reachedFrom 15 = .ok (.lstore 7, 2) := by decide +kernel
theorem dX11_reachedFrom_17 : decode cX11_reachedFrom 17 = .ok (.iconst 0, 1) := by decide +kernel
theorem dX11_reachedFrom_18 : decode cX11_reachedFrom 18 = .ok (.istore 9, 2) := by decide +kernel
theorem dX11_reachedFrom_20 : decode cX11_reachedFrom 20 = .ok (.iload 9, 2) := by decide +kernel
theorem dX11_reachedFrom_22 : decode cX11_reachedFrom 22 = .ok (.aload_n 0, 1) := by decide +kernel
theorem dX11_reachedFrom_23 : decode cX11_reachedFrom 23 = .ok (.invokevirtual 114, 3) := by decide +kernel
theorem dX11_reachedFrom_26 : decode cX11_reachedFrom 26 = .ok (.if_icmp .ge 75, 3) := by decide +kernel
theorem dX11_reachedFrom_29 : decode cX11_reachedFrom 29 = .ok (.iconst 0, 1) := by decide +kernel
theorem dX11_reachedFrom_30 : decode cX11_reachedFrom 30 = .ok (.istore 10, 2) := by decide +kernel
theorem dX11_reachedFrom_32 : decode cX11_reachedFrom 32 = .ok (.iload 10, 2) := by decide +kernel
theorem dX11_reachedFrom_34 : decode cX11_reachedFrom 34 = .ok (.iconst 4, 1) := by decide +kernel
theorem dX11_reachedFrom_35 : decode cX11_reachedFrom 35 = .ok (.if_icmp .ge 60, 3) := by decide +kernel
theorem dX11_reachedFrom_38 : decode cX11_reachedFrom 38 = .ok (.lload 4, 2) := by decide +kernel
theorem dX11_reachedFrom_40 : decode cX11_reachedFrom 40 = .ok (.iload 9, 2) := by decide +kernel
theorem dX11_reachedFrom_42 : decode cX11_reachedFrom 42 = .ok (.lshr, 1) := by decide +kernel
theorem dX11_reachedFrom_43 : decode cX11_reachedFrom 43 = .ok (.lconst 1, 1) := by decide +kernel
theorem dX11_reachedFrom_44 : decode cX11_reachedFrom 44 = .ok (.land, 1) := by decide +kernel
theorem dX11_reachedFrom_45 : decode cX11_reachedFrom 45 = .ok (.lconst 1, 1) := by decide +kernel
theorem dX11_reachedFrom_46 : decode cX11_reachedFrom 46 = .ok (.lcmp, 1) := by decide +kernel
theorem dX11_reachedFrom_47 : decode cX11_reachedFrom 47 = .ok (.ifCond .ne 48, 3) := by decide +kernel
theorem dX11_reachedFrom_50 : decode cX11_reachedFrom 50 = .ok (.aload_n 0, 1) := by decide +kernel
theorem dX11_reachedFrom_51 : decode cX11_reachedFrom 51 = .ok (.iload 9, 2) := by decide +kernel
theorem dX11_reachedFrom_53 : decode cX11_reachedFrom 53 = .ok (.iload 10, 2) := by decide +kernel
theorem dX11_reachedFrom_55 : decode cX11_reachedFrom 55 = .ok (.invokevirtual 251, 3) := by decide +kernel
theorem dX11_reachedFrom_58 : decode cX11_reachedFrom 58 = .ok (.istore 11, 2) := by decide +kernel
theorem dX11_reachedFrom_60 : decode cX11_reachedFrom 60 = .ok (.lload 4, 2) := by decide +kernel
theorem dX11_reachedFrom_62 : decode cX11_reachedFrom 62 = .ok (.iload 11, 2) := by decide +kernel
theorem dX11_reachedFrom_64 : decode cX11_reachedFrom 64 = .ok (.iload_n 3, 1) := by decide +kernel
theorem dX11_reachedFrom_65 : decode cX11_reachedFrom 65 = .ok (.if_icmp .eq 20, 3) := by decide +kernel
theorem dX11_reachedFrom_68 : decode cX11_reachedFrom 68 = .ok (.aload_n 0, 1) := by decide +kernel
theorem dX11_reachedFrom_69 : decode cX11_reachedFrom 69 = .ok (.aload_n 1, 1) := by decide +kernel
theorem dX11_reachedFrom_70 : decode cX11_reachedFrom 70 = .ok (.iload 11, 2) := by decide +kernel
theorem dX11_reachedFrom_72 : decode cX11_reachedFrom 72 = .ok (.invokevirtual 241, 3) := by decide +kernel
theorem dX11_reachedFrom_75 : decode cX11_reachedFrom 75 = .ok (.ifCond .eq 10, 3) := by decide +kernel
theorem dX11_reachedFrom_78 : decode cX11_reachedFrom 78 = .ok (.lconst 1, 1) := by decide +kernel
theorem dX11_reachedFrom_79 : decode cX11_reachedFrom 79 = .ok (.iload 11, 2) := by decide +kernel
theorem dX11_reachedFrom_81 : decode cX11_reachedFrom 81 = .ok (.lshl, 1) := by decide +kernel
theorem dX11_reachedFrom_82 : decode cX11_reachedFrom 82 = .ok (.goto 4, 3) := by decide +kernel
theorem dX11_reachedFrom_85 : decode cX11_reachedFrom 85 = .ok (.lconst 0, 1) := by decide +kernel
theorem dX11_reachedFrom_86 : decode cX11_reachedFrom 86 = .ok (.lor, 1) := by decide +kernel
theorem dX11_reachedFrom_87 : decode cX11_reachedFrom 87 = .ok (.lstore 4, 2) := by decide +kernel
theorem dX11_reachedFrom_89 : decode cX11_reachedFrom 89 = .ok (.iinc 10 1, 3) := by decide +kernel
theorem dX11_reachedFrom_92 : decode cX11_reachedFrom 92 = .ok (.goto (-60), 3) := by decide +kernel
theorem dX11_reachedFrom_95 : decode cX11_reachedFrom 95 = .ok (.iinc 9 1, 3) := by decide +kernel
theorem dX11_reachedFrom_98 : decode cX11_reachedFrom 98 = .ok (.goto (-78), 3) := by decide +kernel
theorem dX11_reachedFrom_101 : decode cX11_reachedFrom 101 = .ok (.lload 4, 2) := by decide +kernel
theorem dX11_reachedFrom_103 : decode cX11_reachedFrom 103 = .ok (.lload 7, 2) := by decide +kernel
theorem dX11_reachedFrom_105 : decode cX11_reachedFrom 105 = .ok (.lcmp, 1) := by decide +kernel
theorem dX11_reachedFrom_106 : decode cX11_reachedFrom 106 = .ok (.ifCond .eq 7, 3) := by decide +kernel
theorem dX11_reachedFrom_109 : decode cX11_reachedFrom 109 = .ok (.iconst 1, 1) := by decide +kernel
theorem dX11_reachedFrom_110 : decode cX11_reachedFrom 110 = .ok (.goto 4, 3) := by decide +kernel
theorem dX11_reachedFrom_113 : decode cX11_reachedFrom 113 = .ok (.iconst 0, 1) := by decide +kernel
theorem dX11_reachedFrom_114 : decode cX11_reachedFrom 114 = .ok (.istore 6, 2) := by decide +kernel
theorem dX11_reachedFrom_116 : decode cX11_reachedFrom 116 = .ok (.goto (-108), 3) := by decide +kernel
theorem dX11_reachedFrom_119 : decode cX11_reachedFrom 119 = .ok (.lload 4, 2) := by decide +kernel
theorem dX11_reachedFrom_121 : decode cX11_reachedFrom 121 = .ok (.lreturn, 1) := by decide +kernel
theorem dX11_sweeps_0 : decode cX11_sweeps 0 = .ok (.aload_n 0, 1) := by decide +kernel
theorem dX11_sweeps_1 : decode cX11_sweeps 1 = .ok (.invokevirtual 317, 3) := by decide +kernel
theorem dX11_sweeps_4 : decode cX11_sweeps 4 = .ok (.aload_n 0, 1) := by decide +kernel
theorem dX11_sweeps_5 : decode cX11_sweeps 5 = .ok (.lload_n 1, 1) := by decide +kernel
theorem dX11_sweeps_6 : decode cX11_sweeps 6 = .ok (.lconst 1, 1) := by decide +kernel
theorem dX11_sweeps_7 : decode cX11_sweeps 7 = .ok (.aload_n 0, 1) := by decide +kernel
theorem dX11_sweeps_8 : decode cX11_sweeps 8 = .ok (.getfield 44, 3) := by decide +kernel
theorem dX11_sweeps_11 : decode cX11_sweeps 11 = .ok (.bipush 72, 2) := by decide +kernel
theorem dX11_sweeps_13 : decode cX11_sweeps 13 = .ok (.iaload, 1) := by decide +kernel
theorem dX11_sweeps_14 : decode cX11_sweeps 14 = .ok (.lshl, 1) := by decide +kernel
theorem dX11_sweeps_15 : decode cX11_sweeps 15 = .ok (.ldc2_w 326, 3) := by decide +kernel
theorem dX11_sweeps_18 : decode cX11_sweeps 18 = .ok (.lxor, 1) := by decide +kernel
theorem dX11_sweeps_19 : decode cX11_sweeps 19 = .ok (.land, 1) := by decide +kernel
theorem dX11_sweeps_20 : decode cX11_sweeps 20 = .ok (.putfield 328, 3) := by decide +kernel
theorem dX11_sweeps_23 : decode cX11_sweeps 23 = .ok (.iconst 0, 1) := by decide +kernel
theorem dX11_sweeps_24 : decode cX11_sweeps 24 = .ok (.istore_n 3, 1) := by decide +kernel
theorem dX11_sweeps_25 : decode cX11_sweeps 25 = .ok (.iload_n 3, 1) := by decide +kernel
theorem dX11_sweeps_26 : decode cX11_sweeps 26 = .ok (.sipush 999, 3) := by decide +kernel
theorem dX11_sweeps_29 : decode cX11_sweeps 29 = .ok (.if_icmp .gt 59, 3) := by decide +kernel
theorem dX11_sweeps_32 : decode cX11_sweeps 32 = .ok (.aload_n 0, 1) := by decide +kernel
theorem dX11_sweeps_33 : decode cX11_sweeps 33 = .ok (.getfield 328, 3) := by decide +kernel
theorem dX11_sweeps_36 : decode cX11_sweeps 36 = .ok (.lconst 0, 1) := by decide +kernel
theorem dX11_sweeps_37 : decode cX11_sweeps 37 = .ok (.lcmp, 1) := by decide +kernel
theorem dX11_sweeps_38 : decode cX11_sweeps 38 = .ok (.ifCond .ne 5, 3) := by decide +kernel
theorem dX11_sweeps_41 : decode cX11_sweeps 41 = .ok (.iload_n 3, 1) := by decide +kernel
theorem dX11_sweeps_42 : decode cX11_sweeps 42 = .ok (.ireturn, 1) := by decide +kernel
theorem dX11_sweeps_43 : decode cX11_sweeps 43 = .ok (.iload_n 3, 1) := by decide +kernel
theorem dX11_sweeps_44 : decode cX11_sweeps 44 = .ok (.sipush 999, 3) := by decide +kernel
theorem dX11_sweeps_47 : decode cX11_sweeps 47 = .ok (.if_icmp .ge 35, 3) := by decide +kernel
theorem dX11_sweeps_50 : decode cX11_sweeps 50 = .ok (.aload_n 0, 1) := by decide +kernel
theorem dX11_sweeps_51 : decode cX11_sweeps 51 = .ok (.aload_n 0, 1) := by decide +kernel
theorem dX11_sweeps_52 : decode cX11_sweeps 52 = .ok (.getfield 44, 3) := by decide +kernel
theorem dX11_sweeps_55 : decode cX11_sweeps 55 = .ok (.iconst 0, 1) := by decide +kernel
theorem dX11_sweeps_56 : decode cX11_sweeps 56 = .ok (.invokevirtual 265, 3) := by decide +kernel
theorem dX11_sweeps_59 : decode cX11_sweeps 59 = .ok (.pop, 1) := by decide +kernel
theorem dX11_sweeps_60 : decode cX11_sweeps 60 = .ok (.aload_n 0, 1) := by decide +kernel
theorem dX11_sweeps_61 : decode cX11_sweeps 61 = .ok (.dup, 1) := by decide +kernel
theorem dX11_sweeps_62 : decode cX11_sweeps 62 = .ok (.getfield 328, 3) := by decide +kernel
theorem dX11_sweeps_65 : decode cX11_sweeps 65 = .ok (.lconst 1, 1) := by decide +kernel
theorem dX11_sweeps_66 : decode cX11_sweeps 66 = .ok (.aload_n 0, 1) := by decide +kernel
theorem dX11_sweeps_67 : decode cX11_sweeps 67 = .ok (.getfield 44, 3) := by decide +kernel
theorem dX11_sweeps_70 : decode cX11_sweeps 70 = .ok (.bipush 72, 2) := by decide +kernel
theorem dX11_sweeps_72 : decode cX11_sweeps 72 = .ok (.iaload, 1) := by decide +kernel
theorem dX11_sweeps_73 : decode cX11_sweeps 73 = .ok (.lshl, 1) := by decide +kernel
theorem dX11_sweeps_74 : decode cX11_sweeps 74 = .ok (.ldc2_w 326, 3) := by decide +kernel
theorem dX11_sweeps_77 : decode cX11_sweeps 77 = .ok (.lxor, 1) := by decide +kernel
theorem dX11_sweeps_78 : decode cX11_sweeps 78 = .ok (.land, 1) := by decide +kernel
theorem dX11_sweeps_79 : decode cX11_sweeps 79 = .ok (.putfield 328, 3) := by decide +kernel
theorem dX11_sweeps_82 : decode cX11_sweeps 82 = .ok (.iinc 3 1, 3) := by decide +kernel
theorem dX11_sweeps_85 : decode cX11_sweeps 85 = .ok (.goto (-60), 3) := by decide +kernel
theorem dX11_sweeps_88 : decode cX11_sweeps 88 = .ok (.sipush 1000, 3) := by decide +kernel
theorem dX11_sweeps_91 : decode cX11_sweeps 91 = .ok (.ireturn, 1) := by decide +kernel
theorem dX11_all_0 : decode cX11_all 0 = .ok (.aload_n 0, 1) := by decide +kernel
theorem dX11_all_1 : decode cX11_all 1 = .ok (.iconst 0, 1) := by decide +kernel
theorem dX11_all_2 : decode cX11_all 2 = .ok (.putfield 3, 3) := by decide +kernel
theorem dX11_all_5 : decode cX11_all 5 = .ok (.aload_n 0, 1) := by decide +kernel
theorem dX11_all_6 : decode cX11_all 6 = .ok (.aload_n 0, 1) := by decide +kernel
theorem dX11_all_7 : decode cX11_all 7 = .ok (.getfield 41, 3) := by decide +kernel
theorem dX11_all_10 : decode cX11_all 10 = .ok (.aload_n 0, 1) := by decide +kernel
theorem dX11_all_11 : decode cX11_all 11 = .ok (.getfield 41, 3) := by decide +kernel
theorem dX11_all_14 : decode cX11_all 14 = .ok (.bipush 72, 2) := by decide +kernel
theorem dX11_all_16 : decode cX11_all 16 = .ok (.iaload, 1) := by decide +kernel
theorem dX11_all_17 : decode cX11_all 17 = .ok (.iconst (-1), 1) := by decide +kernel
theorem dX11_all_18 : decode cX11_all 18 = .ok (.invokevirtual 332, 3) := by decide +kernel
theorem dX11_all_21 : decode cX11_all 21 = .ok (.lstore_n 1, 1) := by decide +kernel
theorem dX11_all_22 : decode cX11_all 22 = .ok (.aload_n 0, 1) := by decide +kernel
theorem dX11_all_23 : decode cX11_all 23 = .ok (.lload_n 1, 1) := by decide +kernel
theorem dX11_all_24 : decode cX11_all 24 = .ok (.invokevirtual 336, 3) := by decide +kernel
theorem dX11_all_27 : decode cX11_all 27 = .ok (.istore_n 3, 1) := by decide +kernel
theorem dX11_all_28 : decode cX11_all 28 = .ok (.iload_n 3, 1) := by decide +kernel
theorem dX11_all_29 : decode cX11_all 29 = .ok (.sipush 999, 3) := by decide +kernel
theorem dX11_all_32 : decode cX11_all 32 = .ok (.if_icmp .le 6, 3) := by decide +kernel
theorem dX11_all_35 : decode cX11_all 35 = .ok (.bipush (-2), 2) := by decide +kernel
theorem dX11_all_37 : decode cX11_all 37 = .ok (.ireturn, 1) := by decide +kernel
theorem dX11_all_38 : decode cX11_all 38 = .ok (.aload_n 0, 1) := by decide +kernel
theorem dX11_all_39 : decode cX11_all 39 = .ok (.iconst 0, 1) := by decide +kernel
theorem dX11_all_40 : decode cX11_all 40 = .ok (.putfield 15, 3) := by decide +kernel
theorem dX11_all_43 : decode cX11_all 43 = .ok (.aload_n 0, 1) := by decide +kernel
theorem dX11_all_44 : decode cX11_all 44 = .ok (.lload_n 1, 1) := by decide +kernel
theorem dX11_all_45 : decode cX11_all 45 = .ok (.invokestatic 320, 3) := by decide +kernel
theorem dX11_all_48 : decode cX11_all 48 = .ok (.i2l, 1) := by decide +kernel
theorem dX11_all_49 : decode cX11_all 49 = .ok (.invokevirtual 18, 3) := by decide +kernel
theorem dX11_all_52 : decode cX11_all 52 = .ok (.iload_n 3, 1) := by decide +kernel
theorem dX11_all_53 : decode cX11_all 53 = .ok (.ireturn, 1) := by decide +kernel
theorem dX11_never_0 : decode cX11_never 0 = .ok (.aload_n 0, 1) := by decide +kernel
theorem dX11_never_1 : decode cX11_never 1 = .ok (.iconst 0, 1) := by decide +kernel
theorem dX11_never_2 : decode cX11_never 2 = .ok (.putfield 3, 3) := by decide +kernel
theorem dX11_never_5 : decode cX11_never 5 = .ok (.aload_n 0, 1) := by decide +kernel
theorem dX11_never_6 : decode cX11_never 6 = .ok (.aload_n 0, 1) := by decide +kernel
theorem dX11_never_7 : decode cX11_never 7 = .ok (.aload_n 0, 1) := by decide +kernel
theorem dX11_never_8 : decode cX11_never 8 = .ok (.getfield 41, 3) := by decide +kernel
theorem dX11_never_11 : decode cX11_never 11 = .ok (.aload_n 0, 1) := by decide +kernel
theorem dX11_never_12 : decode cX11_never 12 = .ok (.getfield 41, 3) := by decide +kernel
theorem dX11_never_15 : decode cX11_never 15 = .ok (.bipush 72, 2) := by decide +kernel
theorem dX11_never_17 : decode cX11_never 17 = .ok (.iaload, 1) := by decide +kernel
theorem dX11_never_18 : decode cX11_never 18 = .ok (.iconst (-1), 1) := by decide +kernel
theorem dX11_never_19 : decode cX11_never 19 = .ok (.invokevirtual 332, 3) := by decide +kernel
theorem dX11_never_22 : decode cX11_never 22 = .ok (.invokevirtual 336, 3) := by decide +kernel
theorem dX11_never_25 : decode cX11_never 25 = .ok (.pop, 1) := by decide +kernel
theorem dX11_never_26 : decode cX11_never 26 = .ok (.aload_n 0, 1) := by decide +kernel
theorem dX11_never_27 : decode cX11_never 27 = .ok (.iconst 0, 1) := by decide +kernel
theorem dX11_never_28 : decode cX11_never 28 = .ok (.putfield 15, 3) := by decide +kernel
theorem dX11_never_31 : decode cX11_never 31 = .ok (.aload_n 0, 1) := by decide +kernel
theorem dX11_never_32 : decode cX11_never 32 = .ok (.aload_n 0, 1) := by decide +kernel
theorem dX11_never_33 : decode cX11_never 33 = .ok (.getfield 328, 3) := by decide +kernel
theorem dX11_never_36 : decode cX11_never 36 = .ok (.invokevirtual 18, 3) := by decide +kernel
theorem dX11_never_39 : decode cX11_never 39 = .ok (.aload_n 0, 1) := by decide +kernel
theorem dX11_never_40 : decode cX11_never 40 = .ok (.getfield 328, 3) := by decide +kernel
theorem dX11_never_43 : decode cX11_never 43 = .ok (.invokestatic 320, 3) := by decide +kernel
theorem dX11_never_46 : decode cX11_never 46 = .ok (.ireturn, 1) := by decide +kernel
theorem dX11_angle_0 : decode cX11_angle 0 = .ok (.aload_n 0, 1) := by decide +kernel
theorem dX11_angle_1 : decode cX11_angle 1 = .ok (.iconst 0, 1) := by decide +kernel
theorem dX11_angle_2 : decode cX11_angle 2 = .ok (.putfield 3, 3) := by decide +kernel
theorem dX11_angle_5 : decode cX11_angle 5 = .ok (.aload_n 0, 1) := by decide +kernel
theorem dX11_angle_6 : decode cX11_angle 6 = .ok (.aload_n 0, 1) := by decide +kernel
theorem dX11_angle_7 : decode cX11_angle 7 = .ok (.getfield 41, 3) := by decide +kernel
theorem dX11_angle_10 : decode cX11_angle 10 = .ok (.aload_n 0, 1) := by decide +kernel
theorem dX11_angle_11 : decode cX11_angle 11 = .ok (.getfield 41, 3) := by decide +kernel
theorem dX11_angle_14 : decode cX11_angle 14 = .ok (.bipush 72, 2) := by decide +kernel
theorem dX11_angle_16 : decode cX11_angle 16 = .ok (.iaload, 1) := by decide +kernel
theorem dX11_angle_17 : decode cX11_angle 17 = .ok (.iconst (-1), 1) := by decide +kernel
theorem dX11_angle_18 : decode cX11_angle 18 = .ok (.invokevirtual 332, 3) := by decide +kernel
theorem dX11_angle_21 : decode cX11_angle 21 = .ok (.lstore_n 1, 1) := by decide +kernel
theorem dX11_angle_22 : decode cX11_angle 22 = .ok (.iconst 0, 1) := by decide +kernel
theorem dX11_angle_23 : decode cX11_angle 23 = .ok (.istore_n 3, 1) := by decide +kernel
theorem dX11_angle_24 : decode cX11_angle 24 = .ok (.ldc_w 339, 3) := by decide +kernel
theorem dX11_angle_27 : decode cX11_angle 27 = .ok (.istore 4, 2) := by decide +kernel
theorem dX11_angle_29 : decode cX11_angle 29 = .ok (.aload_n 0, 1) := by decide +kernel
theorem dX11_angle_30 : decode cX11_angle 30 = .ok (.iconst 1, 1) := by decide +kernel
theorem dX11_angle_31 : decode cX11_angle 31 = .ok (.putfield 15, 3) := by decide +kernel
theorem dX11_angle_34 : decode cX11_angle 34 = .ok (.iconst 1, 1) := by decide +kernel
theorem dX11_angle_35 : decode cX11_angle 35 = .ok (.istore 5, 2) := by decide +kernel
theorem dX11_angle_37 : decode cX11_angle 37 = .ok (.iload 5, 2) := by decide +kernel
theorem dX11_angle_39 : decode cX11_angle 39 = .ok (.iconst 3, 1) := by decide +kernel
theorem dX11_angle_40 : decode cX11_angle 40 = .ok (.if_icmp .gt 52, 3) := by decide +kernel
theorem dX11_angle_43 : decode cX11_angle 43 = .ok (.aload_n 0, 1) := by decide +kernel
theorem dX11_angle_44 : decode cX11_angle 44 = .ok (.iload 5, 2) := by decide +kernel
theorem dX11_angle_46 : decode cX11_angle 46 = .ok (.putfield 65, 3) := by decide +kernel
theorem dX11_angle_49 : decode cX11_angle 49 = .ok (.aload_n 0, 1) := by decide +kernel
theorem dX11_angle_50 : decode cX11_angle 50 = .ok (.lload_n 1, 1) := by decide +kernel
theorem dX11_angle_51 : decode cX11_angle 51 = .ok (.invokevirtual 336, 3) := by decide +kernel
theorem dX11_angle_54 : decode cX11_angle 54 = .ok (.istore 6, 2) := by decide +kernel
theorem dX11_angle_56 : decode cX11_angle 56 = .ok (.aload_n 0, 1) := by decide +kernel
theorem dX11_angle_57 : decode cX11_angle 57 = .ok (.iload 6, 2) := by decide +kernel
theorem dX11_angle_59 : decode cX11_angle 59 = .ok (.i2l, 1) := by decide +kernel
theorem dX11_angle_60 : decode cX11_angle 60 = .ok (.invokevirtual 18, 3) := by decide +kernel
theorem dX11_angle_63 : decode cX11_angle 63 = .ok (.iload 6, 2) := by decide +kernel
theorem dX11_angle_65 : decode cX11_angle 65 = .ok (.iload 4, 2) := by decide +kernel
theorem dX11_angle_67 : decode cX11_angle 67 = .ok (.if_icmp .ge 8, 3) := by decide +kernel
theorem dX11_angle_70 : decode cX11_angle 70 = .ok (.iload 5, 2) := by decide +kernel
theorem dX11_angle_72 : decode cX11_angle 72 = .ok (.goto 4, 3) := by decide +kernel
theorem dX11_angle_75 : decode cX11_angle 75 = .ok (.iload_n 3, 1) := by decide +kernel
theorem dX11_angle_76 : decode cX11_angle 76 = .ok (.istore_n 3, 1) := by decide +kernel
theorem dX11_angle_77 : decode cX11_angle 77 = .ok (.iload 4, 2) := by decide +kernel
theorem dX11_angle_79 : decode cX11_angle 79 = .ok (.iload 6, 2) := by decide +kernel
theorem dX11_angle_81 : decode cX11_angle 81 = .ok (.invokestatic 135, 3) := by decide +kernel
theorem dX11_angle_84 : decode cX11_angle 84 = .ok (.istore 4, 2) := by decide +kernel
theorem dX11_angle_86 : decode cX11_angle 86 = .ok (.iinc 5 1, 3) := by decide +kernel
theorem dX11_angle_89 : decode cX11_angle 89 = .ok (.goto (-52), 3) := by decide +kernel
theorem dX11_angle_92 : decode cX11_angle 92 = .ok (.aload_n 0, 1) := by decide +kernel
theorem dX11_angle_93 : decode cX11_angle 93 = .ok (.iconst (-1), 1) := by decide +kernel
theorem dX11_angle_94 : decode cX11_angle 94 = .ok (.putfield 65, 3) := by decide +kernel
theorem dX11_angle_97 : decode cX11_angle 97 = .ok (.aload_n 0, 1) := by decide +kernel
theorem dX11_angle_98 : decode cX11_angle 98 = .ok (.getfield 11, 3) := by decide +kernel
theorem dX11_angle_101 : decode cX11_angle 101 = .ok (.iconst 0, 1) := by decide +kernel
theorem dX11_angle_102 : decode cX11_angle 102 = .ok (.iload 4, 2) := by decide +kernel
theorem dX11_angle_104 : decode cX11_angle 104 = .ok (.i2l, 1) := by decide +kernel
theorem dX11_angle_105 : decode cX11_angle 105 = .ok (.lastore, 1) := by decide +kernel
theorem dX11_angle_106 : decode cX11_angle 106 = .ok (.iload_n 3, 1) := by decide +kernel
theorem dX11_angle_107 : decode cX11_angle 107 = .ok (.ireturn, 1) := by decide +kernel
theorem dX11_meets_0 : decode cX11_meets 0 = .ok (.aload_n 0, 1) := by decide +kernel
theorem dX11_meets_1 : decode cX11_meets 1 = .ok (.iconst 0, 1) := by decide +kernel
theorem dX11_meets_2 : decode cX11_meets 2 = .ok (.putfield 3, 3) := by decide +kernel
theorem dX11_meets_5 : decode cX11_meets 5 = .ok (.aload_n 0, 1) := by decide +kernel
theorem dX11_meets_6 : decode cX11_meets 6 = .ok (.invokevirtual 317, 3) := by decide +kernel
theorem dX11_meets_9 : decode cX11_meets 9 = .ok (.iconst 0, 1) := by decide +kernel
theorem dX11_meets_10 : decode cX11_meets 10 = .ok (.istore_n 1, 1) := by decide +kernel
theorem dX11_meets_11 : decode cX11_meets 11 = .ok (.iload_n 1, 1) := by decide +kernel
theorem dX11_meets_12 : decode cX11_meets 12 = .ok (.sipush 999, 3) := by decide +kernel
theorem dX11_meets_15 : decode cX11_meets 15 = .ok (.if_icmp .gt 42, 3) := by decide +kernel
theorem dX11_meets_18 : decode cX11_meets 18 = .ok (.aload_n 0, 1) := by decide +kernel
theorem dX11_meets_19 : decode cX11_meets 19 = .ok (.getfield 34, 3) := by decide +kernel
theorem dX11_meets_22 : decode cX11_meets 22 = .ok (.ifCond .lt 35, 3) := by decide +kernel
theorem dX11_meets_25 : decode cX11_meets 25 = .ok (.aload_n 0, 1) := by decide +kernel
theorem dX11_meets_26 : decode cX11_meets 26 = .ok (.getfield 44, 3) := by decide +kernel
theorem dX11_meets_29 : decode cX11_meets 29 = .ok (.bipush 72, 2) := by decide +kernel
theorem dX11_meets_31 : decode cX11_meets 31 = .ok (.iaload, 1) := by decide +kernel
theorem dX11_meets_32 : decode cX11_meets 32 = .ok (.aload_n 0, 1) := by decide +kernel
theorem dX11_meets_33 : decode cX11_meets 33 = .ok (.getfield 34, 3) := by decide +kernel
theorem dX11_meets_36 : decode cX11_meets 36 = .ok (.if_icmp .ne 5, 3) := by decide +kernel
theorem dX11_meets_39 : decode cX11_meets 39 = .ok (.iload_n 1, 1) := by decide +kernel
theorem dX11_meets_40 : decode cX11_meets 40 = .ok (.ireturn, 1) := by decide +kernel
theorem dX11_meets_41 : decode cX11_meets 41 = .ok (.aload_n 0, 1) := by decide +kernel
theorem dX11_meets_42 : decode cX11_meets 42 = .ok (.aload_n 0, 1) := by decide +kernel
theorem dX11_meets_43 : decode cX11_meets 43 = .ok (.getfield 44, 3) := by decide +kernel
theorem dX11_meets_46 : decode cX11_meets 46 = .ok (.iconst 0, 1) := by decide +kernel
theorem dX11_meets_47 : decode cX11_meets 47 = .ok (.invokevirtual 265, 3) := by decide +kernel
theorem dX11_meets_50 : decode cX11_meets 50 = .ok (.pop, 1) := by decide +kernel
theorem dX11_meets_51 : decode cX11_meets 51 = .ok (.iinc 1 1, 3) := by decide +kernel
theorem dX11_meets_54 : decode cX11_meets 54 = .ok (.goto (-43), 3) := by decide +kernel
theorem dX11_meets_57 : decode cX11_meets 57 = .ok (.bipush (-2), 2) := by decide +kernel
theorem dX11_meets_59 : decode cX11_meets 59 = .ok (.ireturn, 1) := by decide +kernel
theorem dX11_round_0 : decode cX11_round 0 = .ok (.aload_n 0, 1) := by decide +kernel
theorem dX11_round_1 : decode cX11_round 1 = .ok (.iconst 0, 1) := by decide +kernel
theorem dX11_round_2 : decode cX11_round 2 = .ok (.putfield 3, 3) := by decide +kernel
theorem dX11_round_5 : decode cX11_round 5 = .ok (.aload_n 0, 1) := by decide +kernel
theorem dX11_round_6 : decode cX11_round 6 = .ok (.invokevirtual 317, 3) := by decide +kernel
theorem dX11_round_9 : decode cX11_round 9 = .ok (.iconst 1, 1) := by decide +kernel
theorem dX11_round_10 : decode cX11_round 10 = .ok (.istore_n 1, 1) := by decide +kernel
theorem dX11_round_11 : decode cX11_round 11 = .ok (.iload_n 1, 1) := by decide +kernel
theorem dX11_round_12 : decode cX11_round 12 = .ok (.sipush 999, 3) := by decide +kernel
theorem dX11_round_15 : decode cX11_round 15 = .ok (.if_icmp .gt 80, 3) := by decide +kernel
theorem dX11_round_18 : decode cX11_round 18 = .ok (.aload_n 0, 1) := by decide +kernel
theorem dX11_round_19 : decode cX11_round 19 = .ok (.aload_n 0, 1) := by decide +kernel
theorem dX11_round_20 : decode cX11_round 20 = .ok (.getfield 44, 3) := by decide +kernel
theorem dX11_round_23 : decode cX11_round 23 = .ok (.iconst 0, 1) := by decide +kernel
theorem dX11_round_24 : decode cX11_round 24 = .ok (.invokevirtual 265, 3) := by decide +kernel
theorem dX11_round_27 : decode cX11_round 27 = .ok (.pop, 1) := by decide +kernel
theorem dX11_round_28 : decode cX11_round 28 = .ok (.aload_n 0, 1) := by decide +kernel
theorem dX11_round_29 : decode cX11_round 29 = .ok (.getfield 44, 3) := by decide +kernel
theorem dX11_round_32 : decode cX11_round 32 = .ok (.bipush 72, 2) := by decide +kernel
theorem dX11_round_34 : decode cX11_round 34 = .ok (.iaload, 1) := by decide +kernel
theorem dX11_round_35 : decode cX11_round 35 = .ok (.aload_n 0, 1) := by decide +kernel
theorem dX11_round_36 : decode cX11_round 36 = .ok (.getfield 41, 3) := by decide +kernel
theorem dX11_round_39 : decode cX11_round 39 = .ok (.bipush 72, 2) := by decide +kernel
theorem dX11_round_41 : decode cX11_round 41 = .ok (.iaload, 1) := by decide +kernel
theorem dX11_round_42 : decode cX11_round 42 = .ok (.if_icmp .ne 47, 3) := by decide +kernel
theorem dX11_round_45 : decode cX11_round 45 = .ok (.aload_n 0, 1) := by decide +kernel
theorem dX11_round_46 : decode cX11_round 46 = .ok (.getfield 44, 3) := by decide +kernel
theorem dX11_round_49 : decode cX11_round 49 = .ok (.bipush 73, 2) := by decide +kernel
theorem dX11_round_51 : decode cX11_round 51 = .ok (.iaload, 1) := by decide +kernel
theorem dX11_round_52 : decode cX11_round 52 = .ok (.aload_n 0, 1) := by decide +kernel
theorem dX11_round_53 : decode cX11_round 53 = .ok (.getfield 41, 3) := by decide +kernel
theorem dX11_round_56 : decode cX11_round 56 = .ok (.bipush 73, 2) := by decide +kernel
theorem dX11_round_58 : decode cX11_round 58 = .ok (.iaload, 1) := by decide +kernel
theorem dX11_round_59 : decode cX11_round 59 = .ok (.if_icmp .ne 30, 3) := by decide +kernel
theorem dX11_round_62 : decode cX11_round 62 = .ok (.aload_n 0, 1) := by decide +kernel
theorem dX11_round_63 : decode cX11_round 63 = .ok (.iconst 0, 1) := by decide +kernel
theorem dX11_round_64 : decode cX11_round 64 = .ok (.putfield 15, 3) := by decide +kernel
theorem dX11_round_67 : decode cX11_round 67 = .ok (.aload_n 0, 1) := by decide +kernel
theorem dX11_round_68 : decode cX11_round 68 = .ok (.aload_n 0, 1) := by decide +kernel
theorem dX11_round_69 : decode cX11_round 69 = .ok (.getfield 44, 3) := by decide +kernel
theorem dX11_round_72 : decode cX11_round 72 = .ok (.bipush 77, 2) := by decide +kernel
theorem dX11_round_74 : decode cX11_round 74 = .ok (.iaload, 1) := by decide +kernel
theorem dX11_round_75 : decode cX11_round 75 = .ok (.aload_n 0, 1) := by decide +kernel
theorem dX11_round_76 : decode cX11_round 76 = .ok (.getfield 41, 3) := by decide +kernel
theorem dX11_round_79 : decode cX11_round 79 = .ok (.bipush 77, 2) := by decide +kernel
theorem dX11_round_81 : decode cX11_round 81 = .ok (.iaload, 1) := by decide +kernel
theorem dX11_round_82 : decode cX11_round 82 = .ok (.isub, 1) := by decide +kernel
theorem dX11_round_83 : decode cX11_round 83 = .ok (.i2l, 1) := by decide +kernel
theorem dX11_round_84 : decode cX11_round 84 = .ok (.invokevirtual 18, 3) := by decide +kernel
theorem dX11_round_87 : decode cX11_round 87 = .ok (.iload_n 1, 1) := by decide +kernel
theorem dX11_round_88 : decode cX11_round 88 = .ok (.ireturn, 1) := by decide +kernel
theorem dX11_round_89 : decode cX11_round 89 = .ok (.iinc 1 1, 3) := by decide +kernel
theorem dX11_round_92 : decode cX11_round 92 = .ok (.goto (-81), 3) := by decide +kernel
theorem dX11_round_95 : decode cX11_round 95 = .ok (.bipush (-2), 2) := by decide +kernel
theorem dX11_round_97 : decode cX11_round 97 = .ok (.ireturn, 1) := by decide +kernel
theorem dX11_corner_0 : decode cX11_corner 0 = .ok (.aload_n 0, 1) := by decide +kernel
theorem dX11_corner_1 : decode cX11_corner 1 = .ok (.iconst 0, 1) := by decide +kernel
theorem dX11_corner_2 : decode cX11_corner 2 = .ok (.putfield 3, 3) := by decide +kernel
theorem dX11_corner_5 : decode cX11_corner 5 = .ok (.iload_n 1, 1) := by decide +kernel
theorem dX11_corner_6 : decode cX11_corner 6 = .ok (.i2l, 1) := by decide +kernel
theorem dX11_corner_7 : decode cX11_corner 7 = .ok (.lconst 1, 1) := by decide +kernel
theorem dX11_corner_8 : decode cX11_corner 8 = .ok (.ldc2_w 271, 3) := by decide +kernel
theorem dX11_corner_11 : decode cX11_corner 11 = .ok (.invokestatic 118, 3) := by decide +kernel
theorem dX11_corner_14 : decode cX11_corner 14 = .ok (.ifCond .ne 5, 3) := by decide +kernel
theorem dX11_corner_17 : decode cX11_corner 17 = .ok (.iconst (-1), 1) := by decide +kernel
theorem dX11_corner_18 : decode cX11_corner 18 = .ok (.ireturn, 1) := by decide +kernel
theorem dX11_corner_19 : decode cX11_corner 19 = .ok (.aload_n 0, 1) := by decide +kernel
theorem dX11_corner_20 : decode cX11_corner 20 = .ok (.invokevirtual 317, 3) := by decide +kernel
theorem dX11_corner_23 : decode cX11_corner 23 = .ok (.iconst 0, 1) := by decide +kernel
theorem dX11_corner_24 : decode cX11_corner 24 = .ok (.istore_n 2, 1) := by decide +kernel
theorem dX11_corner_25 : decode cX11_corner 25 = .ok (.iload_n 2, 1) := by decide +kernel
theorem dX11_corner_26 : decode cX11_corner 26 = .ok (.bipush 36, 2) := by decide +kernel
theorem dX11_corner_28 : decode cX11_corner 28 = .ok (.if_icmp .ge 16, 3) := by decide +kernel
theorem dX11_corner_31 : decode cX11_corner 31 = .ok (.aload_n 0, 1) := by decide +kernel
theorem dX11_corner_32 : decode cX11_corner 32 = .ok (.getfield 77, 3) := by decide +kernel
theorem dX11_corner_35 : decode cX11_corner 35 = .ok (.iload_n 2, 1) := by decide +kernel
theorem dX11_corner_36 : decode cX11_corner 36 = .ok (.iconst 0, 1) := by decide +kernel
theorem dX11_corner_37 : decode cX11_corner 37 = .ok (.iastore, 1) := by decide +kernel
theorem dX11_corner_38 : decode cX11_corner 38 = .ok (.iinc 2 1, 3) := by decide +kernel
theorem dX11_corner_41 : decode cX11_corner 41 = .ok (.goto (-16), 3) := by decide +kernel
theorem dX11_corner_44 : decode cX11_corner 44 = .ok (.iconst 0, 1) := by decide +kernel
theorem dX11_corner_45 : decode cX11_corner 45 = .ok (.istore_n 2, 1) := by decide +kernel
theorem dX11_corner_46 : decode cX11_corner 46 = .ok (.iload_n 2, 1) := by decide +kernel
theorem dX11_corner_47 : decode cX11_corner 47 = .ok (.iload_n 1, 1) := by decide +kernel
theorem dX11_corner_48 : decode cX11_corner 48 = .ok (.if_icmp .ge 35, 3) := by decide +kernel
theorem dX11_corner_51 : decode cX11_corner 51 = .ok (.aload_n 0, 1) := by decide +kernel
theorem dX11_corner_52 : decode cX11_corner 52 = .ok (.aload_n 0, 1) := by decide +kernel
theorem dX11_corner_53 : decode cX11_corner 53 = .ok (.getfield 44, 3) := by decide +kernel
theorem dX11_corner_56 : decode cX11_corner 56 = .ok (.iconst 0, 1) := by decide +kernel
theorem dX11_corner_57 : decode cX11_corner 57 = .ok (.invokevirtual 265, 3) := by decide +kernel
theorem dX11_corner_60 : decode cX11_corner 60 = .ok (.pop, 1) := by decide +kernel
theorem dX11_corner_61 : decode cX11_corner 61 = .ok (.aload_n 0, 1) := by decide +kernel
theorem dX11_corner_62 : decode cX11_corner 62 = .ok (.getfield 77, 3) := by decide +kernel
theorem dX11_corner_65 : decode cX11_corner 65 = .ok (.aload_n 0, 1) := by decide +kernel
theorem dX11_corner_66 : decode cX11_corner 66 = .ok (.getfield 44, 3) := by decide +kernel
theorem dX11_corner_69 : decode cX11_corner 69 = .ok (.bipush 72, 2) := by decide +kernel
theorem dX11_corner_71 : decode cX11_corner 71 = .ok (.iaload, 1) := by decide +kernel
theorem dX11_corner_72 : decode cX11_corner 72 = .ok (.dup2, 1) := by decide +kernel
theorem dX11_corner_73 : decode cX11_corner 73 = .ok (.iaload, 1) := by decide +kernel
theorem dX11_corner_74 : decode cX11_corner 74 = .ok (.iconst 1, 1) := by decide +kernel
theorem dX11_corner_75 : decode cX11_corner 75 = .ok (.iadd, 1) := by decide +kernel
theorem dX11_corner_76 : decode cX11_corner 76 = .ok (.iastore, 1) := by decide +kernel
theorem dX11_corner_77 : decode cX11_corner 77 = .ok (.iinc 2 1, 3) := by decide +kernel
theorem dX11_corner_80 : decode cX11_corner 80 = .ok (.goto (-34), 3) := by decide +kernel
theorem dX11_corner_83 : decode cX11_corner 83 = .ok (.iconst 0, 1) := by decide +kernel
theorem dX11_corner_84 : decode cX11_corner 84 = .ok (.istore_n 2, 1) := by decide +kernel
theorem dX11_corner_85 : decode cX11_corner 85 = .ok (.iconst 1, 1) := by decide +kernel
theorem dX11_corner_86 : decode cX11_corner 86 = .ok (.istore_n 3, 1) := by decide +kernel
theorem dX11_corner_87 : decode cX11_corner 87 = .ok (.iload_n 3, 1) := by decide +kernel
theorem dX11_corner_88 : decode cX11_corner 88 = .ok (.bipush 36, 2) := by decide +kernel
theorem dX11_corner_90 : decode cX11_corner 90 = .ok (.if_icmp .ge 30, 3) := by decide +kernel
theorem dX11_corner_93 : decode cX11_corner 93 = .ok (.aload_n 0, 1) := by decide +kernel
theorem dX11_corner_94 : decode cX11_corner 94 = .ok (.getfield 77, 3) := by decide +kernel
theorem dX11_corner_97 : decode cX11_corner 97 = .ok (.iload_n 3, 1) := by decide +kernel
theorem dX11_corner_98 : decode cX11_corner 98 = .ok (.iaload, 1) := by decide +kernel
theorem dX11_corner_99 : decode cX11_corner 99 = .ok (.aload_n 0, 1) := by decide +kernel
theorem dX11_corner_100 : decode cX11_corner 100 = .ok (.getfield 77, 3) := by decide +kernel
theorem dX11_corner_103 : decode cX11_corner 103 = .ok (.iload_n 2, 1) := by decide +kernel
theorem dX11_corner_104 : decode cX11_corner 104 = .ok (.iaload, 1) := by decide +kernel
theorem dX11_corner_105 : decode cX11_corner 105 = .ok (.if_icmp .le 7, 3) := by decide +kernel
theorem dX11_corner_108 : decode cX11_corner 108 = .ok (.iload_n 3, 1) := by decide +kernel
theorem dX11_corner_109 : decode cX11_corner 109 = .ok (.goto 4, 3) := by decide +kernel
theorem dX11_corner_112 : decode cX11_corner 112 = .ok (.iload_n 2, 1) := by decide +kernel
theorem dX11_corner_113 : decode cX11_corner 113 = .ok (.istore_n 2, 1) := by decide +kernel
theorem dX11_corner_114 : decode cX11_corner 114 = .ok (.iinc 3 1, 3) := by decide +kernel
theorem dX11_corner_117 : decode cX11_corner 117 = .ok (.goto (-30), 3) := by decide +kernel
theorem dX11_corner_120 : decode cX11_corner 120 = .ok (.aload_n 0, 1) := by decide +kernel
theorem dX11_corner_121 : decode cX11_corner 121 = .ok (.iconst 0, 1) := by decide +kernel
theorem dX11_corner_122 : decode cX11_corner 122 = .ok (.putfield 15, 3) := by decide +kernel
theorem dX11_corner_125 : decode cX11_corner 125 = .ok (.aload_n 0, 1) := by decide +kernel
theorem dX11_corner_126 : decode cX11_corner 126 = .ok (.aload_n 0, 1) := by decide +kernel
theorem dX11_corner_127 : decode cX11_corner 127 = .ok (.getfield 77, 3) := by decide +kernel
theorem dX11_corner_130 : decode cX11_corner 130 = .ok (.iload_n 2, 1) := by decide +kernel
theorem dX11_corner_131 : decode cX11_corner 131 = .ok (.iaload, 1) := by decide +kernel
theorem dX11_corner_132 : decode cX11_corner 132 = .ok (.i2l, 1) := by decide +kernel
theorem dX11_corner_133 : decode cX11_corner 133 = .ok (.invokevirtual 18, 3) := by decide +kernel
theorem dX11_corner_136 : decode cX11_corner 136 = .ok (.iload_n 2, 1) := by decide +kernel
theorem dX11_corner_137 : decode cX11_corner 137 = .ok (.ireturn, 1) := by decide +kernel
