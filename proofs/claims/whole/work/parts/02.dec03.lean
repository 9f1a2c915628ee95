theorem dX10_sheet_0 : decode cX10_sheet 0 = .ok (.iload_n 1, 1) := by decide +kernel
theorem dX10_sheet_1 : decode cX10_sheet 1 = .ok (.ifCond .lt 14, 3) := by decide +kernel
theorem dX10_sheet_4 : decode cX10_sheet 4 = .ok (.iload_n 1, 1) := by decide +kernel
theorem dX10_sheet_5 : decode cX10_sheet 5 = .ok (.iconst 3, 1) := by decide +kernel
theorem dX10_sheet_6 : decode cX10_sheet 6 = .ok (.if_icmp .gt 9, 3) := by decide +kernel
theorem dX10_sheet_9 : decode cX10_sheet 9 = .ok (.iload_n 2, 1) := by decide +kernel
theorem dX10_sheet_10 : decode cX10_sheet 10 = .ok (.bipush 36, 2) := by decide +kernel
theorem dX10_sheet_12 : decode cX10_sheet 12 = .ok (.if_icmp .le 5, 3) := by decide +kernel
theorem dX10_sheet_15 : decode cX10_sheet 15 = .ok (.iconst (-1), 1) := by decide +kernel
theorem dX10_sheet_16 : decode cX10_sheet 16 = .ok (.ireturn, 1) := by decide +kernel
theorem dX10_sheet_17 : decode cX10_sheet 17 = .ok (.iload_n 1, 1) := by decide +kernel
theorem dX10_sheet_18 : decode cX10_sheet 18 = .ok (.iconst 3, 1) := by decide +kernel
theorem dX10_sheet_19 : decode cX10_sheet 19 = .ok (.if_icmp .ne 13, 3) := by decide +kernel
theorem dX10_sheet_22 : decode cX10_sheet 22 = .ok (.aload_n 0, 1) := by decide +kernel
theorem dX10_sheet_23 : decode cX10_sheet 23 = .ok (.getfield 61, 3) := by decide +kernel
theorem dX10_sheet_26 : decode cX10_sheet 26 = .ok (.invokevirtual 217, 3) := by decide +kernel
theorem dX10_sheet_29 : decode cX10_sheet 29 = .ok (.bipush (-3), 2) := by decide +kernel
theorem dX10_sheet_31 : decode cX10_sheet 31 = .ok (.ireturn, 1) := by decide +kernel
theorem dX10_sheet_32 : decode cX10_sheet 32 = .ok (.iload_n 2, 1) := by decide +kernel
theorem dX10_sheet_33 : decode cX10_sheet 33 = .ok (.ifCond .ge 6, 3) := by decide +kernel
theorem dX10_sheet_36 : decode cX10_sheet 36 = .ok (.bipush (-2), 2) := by decide +kernel
theorem dX10_sheet_38 : decode cX10_sheet 38 = .ok (.ireturn, 1) := by decide +kernel
theorem dX10_sheet_39 : decode cX10_sheet 39 = .ok (.iconst 0, 1) := by decide +kernel
theorem dX10_sheet_40 : decode cX10_sheet 40 = .ok (.istore 5, 2) := by decide +kernel
theorem dX10_sheet_42 : decode cX10_sheet 42 = .ok (.iload 5, 2) := by decide +kernel
theorem dX10_sheet_44 : decode cX10_sheet 44 = .ok (.bipush 36, 2) := by decide +kernel
theorem dX10_sheet_46 : decode cX10_sheet 46 = .ok (.if_icmp .ge 66, 3) := by decide +kernel
theorem dX10_sheet_49 : decode cX10_sheet 49 = .ok (.iload 5, 2) := by decide +kernel
theorem dX10_sheet_51 : decode cX10_sheet 51 = .ok (.iload_n 2, 1) := by decide +kernel
theorem dX10_sheet_52 : decode cX10_sheet 52 = .ok (.if_icmp .ge 22, 3) := by decide +kernel
theorem dX10_sheet_55 : decode cX10_sheet 55 = .ok (.aload_n 0, 1) := by decide +kernel
theorem dX10_sheet_56 : decode cX10_sheet 56 = .ok (.getfield 92, 3) := by decide +kernel
theorem dX10_sheet_59 : decode cX10_sheet 59 = .ok (.getfield 128, 3) := by decide +kernel
theorem dX10_sheet_62 : decode cX10_sheet 62 = .ok (.iload 5, 2) := by decide +kernel
theorem dX10_sheet_64 : decode cX10_sheet 64 = .ok (.invokestatic 169, 3) := by decide +kernel
theorem dX10_sheet_67 : decode cX10_sheet 67 = .ok (.ifCond .eq 7, 3) := by decide +kernel
theorem dX10_sheet_70 : decode cX10_sheet 70 = .ok (.iconst 1, 1) := by decide +kernel
theorem dX10_sheet_71 : decode cX10_sheet 71 = .ok (.goto 4, 3) := by decide +kernel
theorem dX10_sheet_74 : decode cX10_sheet 74 = .ok (.iconst 0, 1) := by decide +kernel
theorem dX10_sheet_75 : decode cX10_sheet 75 = .ok (.istore 6, 2) := by decide +kernel
theorem dX10_sheet_77 : decode cX10_sheet 77 = .ok (.aload_n 0, 1) := by decide +kernel
theorem dX10_sheet_78 : decode cX10_sheet 78 = .ok (.getfield 61, 3) := by decide +kernel
theorem dX10_sheet_81 : decode cX10_sheet 81 = .ok (.iload 5, 2) := by decide +kernel
theorem dX10_sheet_83 : decode cX10_sheet 83 = .ok (.iload 6, 2) := by decide +kernel
theorem dX10_sheet_85 : decode cX10_sheet 85 = .ok (.ifCond .eq 17, 3) := by decide +kernel
theorem dX10_sheet_88 : decode cX10_sheet 88 = .ok (.iload_n 1, 1) := by decide +kernel
theorem dX10_sheet_89 : decode cX10_sheet 89 = .ok (.iload_n 3, 1) := by decide +kernel
theorem dX10_sheet_90 : decode cX10_sheet 90 = .ok (.iload 5, 2) := by decide +kernel
theorem dX10_sheet_92 : decode cX10_sheet 92 = .ok (.iload 4, 2) := by decide +kernel
theorem dX10_sheet_94 : decode cX10_sheet 94 = .ok (.imul, 1) := by decide +kernel
theorem dX10_sheet_95 : decode cX10_sheet 95 = .ok (.iadd, 1) := by decide +kernel
theorem dX10_sheet_96 : decode cX10_sheet 96 = .ok (.invokestatic 220, 3) := by decide +kernel
theorem dX10_sheet_99 : decode cX10_sheet 99 = .ok (.goto 4, 3) := by decide +kernel
theorem dX10_sheet_102 : decode cX10_sheet 102 = .ok (.iconst 0, 1) := by decide +kernel
theorem dX10_sheet_103 : decode cX10_sheet 103 = .ok (.invokevirtual 223, 3) := by decide +kernel
theorem dX10_sheet_106 : decode cX10_sheet 106 = .ok (.iinc 5 1, 3) := by decide +kernel
theorem dX10_sheet_109 : decode cX10_sheet 109 = .ok (.goto (-67), 3) := by decide +kernel
theorem dX10_sheet_112 : decode cX10_sheet 112 = .ok (.aload_n 0, 1) := by decide +kernel
theorem dX10_sheet_113 : decode cX10_sheet 113 = .ok (.getfield 61, 3) := by decide +kernel
theorem dX10_sheet_116 : decode cX10_sheet 116 = .ok (.invokevirtual 227, 3) := by decide +kernel
theorem dX10_sheet_119 : decode cX10_sheet 119 = .ok (.ireturn, 1) := by decide +kernel
theorem dX10_entryOf_0 : decode cX10_entryOf 0 = .ok (.iload_n 0, 1) := by decide +kernel
theorem dX10_entryOf_1 : decode cX10_entryOf 1 = .ok (.ifCond .ne 6, 3) := by decide +kernel
theorem dX10_entryOf_4 : decode cX10_entryOf 4 = .ok (.iload_n 1, 1) := by decide +kernel
theorem dX10_entryOf_5 : decode cX10_entryOf 5 = .ok (.i2b, 1) := by decide +kernel
theorem dX10_entryOf_6 : decode cX10_entryOf 6 = .ok (.ireturn, 1) := by decide +kernel
theorem dX10_entryOf_7 : decode cX10_entryOf 7 = .ok (.iload_n 0, 1) := by decide +kernel
theorem dX10_entryOf_8 : decode cX10_entryOf 8 = .ok (.iconst 1, 1) := by decide +kernel
theorem dX10_entryOf_9 : decode cX10_entryOf 9 = .ok (.if_icmp .ne 8, 3) := by decide +kernel
theorem dX10_entryOf_12 : decode cX10_entryOf 12 = .ok (.iload_n 1, 1) := by decide +kernel
theorem dX10_entryOf_13 : decode cX10_entryOf 13 = .ok (.i2s, 1) := by decide +kernel
theorem dX10_entryOf_14 : decode cX10_entryOf 14 = .ok (.goto 4, 3) := by decide +kernel
theorem dX10_entryOf_17 : decode cX10_entryOf 17 = .ok (.iload_n 1, 1) := by decide +kernel
theorem dX10_entryOf_18 : decode cX10_entryOf 18 = .ok (.ireturn, 1) := by decide +kernel
theorem dX10_steps_0 : decode cX10_steps 0 = .ok (.aload_n 0, 1) := by decide +kernel
theorem dX10_steps_1 : decode cX10_steps 1 = .ok (.getfield 65, 3) := by decide +kernel
theorem dX10_steps_4 : decode cX10_steps 4 = .ok (.aload_n 0, 1) := by decide +kernel
theorem dX10_steps_5 : decode cX10_steps 5 = .ok (.getfield 61, 3) := by decide +kernel
theorem dX10_steps_8 : decode cX10_steps 8 = .ok (.invokevirtual 230, 3) := by decide +kernel
theorem dX10_steps_11 : decode cX10_steps 11 = .ok (.aload_n 0, 1) := by decide +kernel
theorem dX10_steps_12 : decode cX10_steps 12 = .ok (.aload_n 0, 1) := by decide +kernel
theorem dX10_steps_13 : decode cX10_steps 13 = .ok (.iload_n 1, 1) := by decide +kernel
theorem dX10_steps_14 : decode cX10_steps 14 = .ok (.invokevirtual 234, 3) := by decide +kernel
theorem dX10_steps_17 : decode cX10_steps 17 = .ok (.invokevirtual 237, 3) := by decide +kernel
theorem dX10_steps_20 : decode cX10_steps 20 = .ok (.ireturn, 1) := by decide +kernel
theorem dX10_turn_0 : decode cX10_turn 0 = .ok (.aload_n 0, 1) := by decide +kernel
theorem dX10_turn_1 : decode cX10_turn 1 = .ok (.getfield 65, 3) := by decide +kernel
theorem dX10_turn_4 : decode cX10_turn 4 = .ok (.aload_n 0, 1) := by decide +kernel
theorem dX10_turn_5 : decode cX10_turn 5 = .ok (.getfield 61, 3) := by decide +kernel
theorem dX10_turn_8 : decode cX10_turn 8 = .ok (.invokevirtual 230, 3) := by decide +kernel
theorem dX10_turn_11 : decode cX10_turn 11 = .ok (.aload_n 0, 1) := by decide +kernel
theorem dX10_turn_12 : decode cX10_turn 12 = .ok (.aload_n 0, 1) := by decide +kernel
theorem dX10_turn_13 : decode cX10_turn 13 = .ok (.iload_n 1, 1) := by decide +kernel
theorem dX10_turn_14 : decode cX10_turn 14 = .ok (.invokevirtual 240, 3) := by decide +kernel
theorem dX10_turn_17 : decode cX10_turn 17 = .ok (.invokevirtual 237, 3) := by decide +kernel
theorem dX10_turn_20 : decode cX10_turn 20 = .ok (.ireturn, 1) := by decide +kernel
theorem dX10_days_0 : decode cX10_days 0 = .ok (.aload_n 0, 1) := by decide +kernel
theorem dX10_days_1 : decode cX10_days 1 = .ok (.getfield 65, 3) := by decide +kernel
theorem dX10_days_4 : decode cX10_days 4 = .ok (.aload_n 0, 1) := by decide +kernel
theorem dX10_days_5 : decode cX10_days 5 = .ok (.getfield 61, 3) := by decide +kernel
theorem dX10_days_8 : decode cX10_days 8 = .ok (.invokevirtual 230, 3) := by decide +kernel
theorem dX10_days_11 : decode cX10_days 11 = .ok (.aload_n 0, 1) := by decide +kernel
theorem dX10_days_12 : decode cX10_days 12 = .ok (.aload_n 0, 1) := by decide +kernel
theorem dX10_days_13 : decode cX10_days 13 = .ok (.iload_n 1, 1) := by decide +kernel
theorem dX10_days_14 : decode cX10_days 14 = .ok (.invokevirtual 243, 3) := by decide +kernel
theorem dX10_days_17 : decode cX10_days 17 = .ok (.invokevirtual 237, 3) := by decide +kernel
theorem dX10_days_20 : decode cX10_days 20 = .ok (.ireturn, 1) := by decide +kernel
theorem dX10_chair_0 : decode cX10_chair 0 = .ok (.aload_n 0, 1) := by decide +kernel
theorem dX10_chair_1 : decode cX10_chair 1 = .ok (.getfield 65, 3) := by decide +kernel
theorem dX10_chair_4 : decode cX10_chair 4 = .ok (.aload_n 0, 1) := by decide +kernel
theorem dX10_chair_5 : decode cX10_chair 5 = .ok (.getfield 61, 3) := by decide +kernel
theorem dX10_chair_8 : decode cX10_chair 8 = .ok (.invokevirtual 230, 3) := by decide +kernel
theorem dX10_chair_11 : decode cX10_chair 11 = .ok (.aload_n 0, 1) := by decide +kernel
theorem dX10_chair_12 : decode cX10_chair 12 = .ok (.aload_n 0, 1) := by decide +kernel
theorem dX10_chair_13 : decode cX10_chair 13 = .ok (.iload_n 1, 1) := by decide +kernel
theorem dX10_chair_14 : decode cX10_chair 14 = .ok (.invokevirtual 246, 3) := by decide +kernel
theorem dX10_chair_17 : decode cX10_chair 17 = .ok (.invokevirtual 237, 3) := by decide +kernel
theorem dX10_chair_20 : decode cX10_chair 20 = .ok (.ireturn, 1) := by decide +kernel
theorem dX10_carry_0 : decode cX10_carry 0 = .ok (.aload_n 0, 1) := by decide +kernel
theorem dX10_carry_1 : decode cX10_carry 1 = .ok (.getfield 92, 3) := by decide +kernel
theorem dX10_carry_4 : decode cX10_carry 4 = .ok (.iload_n 1, 1) := by decide +kernel
theorem dX10_carry_5 : decode cX10_carry 5 = .ok (.invokevirtual 152, 3) := by decide +kernel
theorem dX10_carry_8 : decode cX10_carry 8 = .ok (.ifCond .eq 12, 3) := by decide +kernel
theorem dX10_carry_11 : decode cX10_carry 11 = .ok (.iload_n 2, 1) := by decide +kernel
theorem dX10_carry_12 : decode cX10_carry 12 = .ok (.ifCond .lt 8, 3) := by decide +kernel
theorem dX10_carry_15 : decode cX10_carry 15 = .ok (.iload_n 2, 1) := by decide +kernel
theorem dX10_carry_16 : decode cX10_carry 16 = .ok (.iconst 4, 1) := by decide +kernel
theorem dX10_carry_17 : decode cX10_carry 17 = .ok (.if_icmp .lt 5, 3) := by decide +kernel
theorem dX10_carry_20 : decode cX10_carry 20 = .ok (.iconst (-1), 1) := by decide +kernel
theorem dX10_carry_21 : decode cX10_carry 21 = .ok (.ireturn, 1) := by decide +kernel
theorem dX10_carry_22 : decode cX10_carry 22 = .ok (.aload_n 0, 1) := by decide +kernel
theorem dX10_carry_23 : decode cX10_carry 23 = .ok (.invokevirtual 186, 3) := by decide +kernel
theorem dX10_carry_26 : decode cX10_carry 26 = .ok (.iload_n 1, 1) := by decide +kernel
theorem dX10_carry_27 : decode cX10_carry 27 = .ok (.invokestatic 169, 3) := by decide +kernel
theorem dX10_carry_30 : decode cX10_carry 30 = .ok (.ifCond .ne 6, 3) := by decide +kernel
theorem dX10_carry_33 : decode cX10_carry 33 = .ok (.bipush (-2), 2) := by decide +kernel
theorem dX10_carry_35 : decode cX10_carry 35 = .ok (.ireturn, 1) := by decide +kernel
theorem dX10_carry_36 : decode cX10_carry 36 = .ok (.aload_n 0, 1) := by decide +kernel
theorem dX10_carry_37 : decode cX10_carry 37 = .ok (.getfield 65, 3) := by decide +kernel
theorem dX10_carry_40 : decode cX10_carry 40 = .ok (.aload_n 0, 1) := by decide +kernel
theorem dX10_carry_41 : decode cX10_carry 41 = .ok (.getfield 61, 3) := by decide +kernel
theorem dX10_carry_44 : decode cX10_carry 44 = .ok (.invokevirtual 230, 3) := by decide +kernel
theorem dX10_carry_47 : decode cX10_carry 47 = .ok (.aload_n 0, 1) := by decide +kernel
theorem dX10_carry_48 : decode cX10_carry 48 = .ok (.getfield 61, 3) := by decide +kernel
theorem dX10_carry_51 : decode cX10_carry 51 = .ok (.getfield 183, 3) := by decide +kernel
theorem dX10_carry_54 : decode cX10_carry 54 = .ok (.istore_n 3, 1) := by decide +kernel
theorem dX10_carry_55 : decode cX10_carry 55 = .ok (.aload_n 0, 1) := by decide +kernel
theorem dX10_carry_56 : decode cX10_carry 56 = .ok (.getfield 61, 3) := by decide +kernel
theorem dX10_carry_59 : decode cX10_carry 59 = .ok (.iload_n 1, 1) := by decide +kernel
theorem dX10_carry_60 : decode cX10_carry 60 = .ok (.putfield 183, 3) := by decide +kernel
theorem dX10_carry_63 : decode cX10_carry 63 = .ok (.aload_n 0, 1) := by decide +kernel
theorem dX10_carry_64 : decode cX10_carry 64 = .ok (.getfield 61, 3) := by decide +kernel
theorem dX10_carry_67 : decode cX10_carry 67 = .ok (.iload_n 2, 1) := by decide +kernel
theorem dX10_carry_68 : decode cX10_carry 68 = .ok (.putfield 192, 3) := by decide +kernel
theorem dX10_carry_71 : decode cX10_carry 71 = .ok (.aload_n 0, 1) := by decide +kernel
theorem dX10_carry_72 : decode cX10_carry 72 = .ok (.iload_n 3, 1) := by decide +kernel
theorem dX10_carry_73 : decode cX10_carry 73 = .ok (.invokevirtual 237, 3) := by decide +kernel
theorem dX10_carry_76 : decode cX10_carry 76 = .ok (.ireturn, 1) := by decide +kernel
theorem dX10_load_0 : decode cX10_load 0 = .ok (.aload_n 0, 1) := by decide +kernel
theorem dX10_load_1 : decode cX10_load 1 = .ok (.getfield 65, 3) := by decide +kernel
theorem dX10_load_4 : decode cX10_load 4 = .ok (.aload_n 0, 1) := by decide +kernel
theorem dX10_load_5 : decode cX10_load 5 = .ok (.getfield 61, 3) := by decide +kernel
theorem dX10_load_8 : decode cX10_load 8 = .ok (.invokevirtual 230, 3) := by decide +kernel
theorem dX10_load_11 : decode cX10_load 11 = .ok (.aload_n 0, 1) := by decide +kernel
theorem dX10_load_12 : decode cX10_load 12 = .ok (.aload_n 0, 1) := by decide +kernel
theorem dX10_load_13 : decode cX10_load 13 = .ok (.iload_n 1, 1) := by decide +kernel
theorem dX10_load_14 : decode cX10_load 14 = .ok (.invokevirtual 249, 3) := by decide +kernel
theorem dX10_load_17 : decode cX10_load 17 = .ok (.invokevirtual 237, 3) := by decide +kernel
theorem dX10_load_20 : decode cX10_load 20 = .ok (.ireturn, 1) := by decide +kernel
theorem dX10_run_0 : decode cX10_run 0 = .ok (.aload_n 0, 1) := by decide +kernel
theorem dX10_run_1 : decode cX10_run 1 = .ok (.invokevirtual 252, 3) := by decide +kernel
theorem dX10_run_4 : decode cX10_run 4 = .ok (.istore_n 1, 1) := by decide +kernel
theorem dX10_run_5 : decode cX10_run 5 = .ok (.iload_n 1, 1) := by decide +kernel
theorem dX10_run_6 : decode cX10_run 6 = .ok (.iconst (-1), 1) := by decide +kernel
theorem dX10_run_7 : decode cX10_run 7 = .ok (.if_icmp .eq 16, 3) := by decide +kernel
theorem dX10_run_10 : decode cX10_run 10 = .ok (.aload_n 0, 1) := by decide +kernel
theorem dX10_run_11 : decode cX10_run 11 = .ok (.getfield 12, 3) := by decide +kernel
theorem dX10_run_14 : decode cX10_run 14 = .ok (.iconst 0, 1) := by decide +kernel
theorem dX10_run_15 : decode cX10_run 15 = .ok (.invokevirtual 121, 3) := by decide +kernel
theorem dX10_run_18 : decode cX10_run 18 = .ok (.pop, 1) := by decide +kernel
theorem dX10_run_19 : decode cX10_run 19 = .ok (.iconst (-1), 1) := by decide +kernel
theorem dX10_run_20 : decode cX10_run 20 = .ok (.iload_n 1, 1) := by decide +kernel
theorem dX10_run_21 : decode cX10_run 21 = .ok (.isub, 1) := by decide +kernel
theorem dX10_run_22 : decode cX10_run 22 = .ok (.ireturn, 1) := by decide +kernel
theorem dX10_run_23 : decode cX10_run 23 = .ok (.aload_n 0, 1) := by decide +kernel
theorem dX10_run_24 : decode cX10_run 24 = .ok (.getfield 65, 3) := by decide +kernel
theorem dX10_run_27 : decode cX10_run 27 = .ok (.aload_n 0, 1) := by decide +kernel
theorem dX10_run_28 : decode cX10_run 28 = .ok (.getfield 61, 3) := by decide +kernel
theorem dX10_run_31 : decode cX10_run 31 = .ok (.invokevirtual 230, 3) := by decide +kernel
theorem dX10_run_34 : decode cX10_run 34 = .ok (.iconst 0, 1) := by decide +kernel
theorem dX10_run_35 : decode cX10_run 35 = .ok (.istore_n 2, 1) := by decide +kernel
theorem dX10_run_36 : decode cX10_run 36 = .ok (.iconst 0, 1) := by decide +kernel
theorem dX10_run_37 : decode cX10_run 37 = .ok (.istore_n 3, 1) := by decide +kernel
theorem dX10_run_38 : decode cX10_run 38 = .ok (.iconst 0, 1) := by decide +kernel
theorem dX10_run_39 : decode cX10_run 39 = .ok (.istore 4, 2) := by decide +kernel
theorem dX10_run_41 : decode cX10_run 41 = .ok (.iconst 0, 1) := by decide +kernel
theorem dX10_run_42 : decode cX10_run 42 = .ok (.istore 5, 2) := by decide +kernel
theorem dX10_run_44 : decode cX10_run 44 = .ok (.iload 5, 2) := by decide +kernel
theorem dX10_run_46 : decode cX10_run 46 = .ok (.bipush 60, 2) := by decide +kernel
theorem dX10_run_48 : decode cX10_run 48 = .ok (.if_icmp .ge 69, 3) := by decide +kernel
theorem dX10_run_51 : decode cX10_run 51 = .ok (.iload_n 2, 1) := by decide +kernel
theorem dX10_run_52 : decode cX10_run 52 = .ok (.aload_n 0, 1) := by decide +kernel
theorem dX10_run_53 : decode cX10_run 53 = .ok (.getfield 12, 3) := by decide +kernel
theorem dX10_run_56 : decode cX10_run 56 = .ok (.invokevirtual 117, 3) := by decide +kernel
theorem dX10_run_59 : decode cX10_run 59 = .ok (.if_icmp .ge 58, 3) := by decide +kernel
theorem dX10_run_62 : decode cX10_run 62 = .ok (.iload 4, 2) := by decide +kernel
theorem dX10_run_64 : decode cX10_run 64 = .ok (.ifCond .ne 53, 3) := by decide +kernel
theorem dX10_run_67 : decode cX10_run 67 = .ok (.aload_n 0, 1) := by decide +kernel
theorem dX10_run_68 : decode cX10_run 68 = .ok (.iload_n 2, 1) := by decide +kernel
theorem dX10_run_69 : decode cX10_run 69 = .ok (.invokevirtual 255, 3) := by decide +kernel
theorem dX10_run_72 : decode cX10_run 72 = .ok (.ifCond .ne 7, 3) := by decide +kernel
theorem dX10_run_75 : decode cX10_run 75 = .ok (.iconst 1, 1) := by decide +kernel
theorem dX10_run_76 : decode cX10_run 76 = .ok (.goto 4, 3) := by decide +kernel
theorem dX10_run_79 : decode cX10_run 79 = .ok (.iconst 0, 1) := by decide +kernel
theorem dX10_run_80 : decode cX10_run 80 = .ok (.istore 4, 2) := by decide +kernel
theorem dX10_run_82 : decode cX10_run 82 = .ok (.iload_n 3, 1) := by decide +kernel
theorem dX10_run_83 : decode cX10_run 83 = .ok (.iload 4, 2) := by decide +kernel
theorem dX10_run_85 : decode cX10_run 85 = .ok (.ifCond .eq 7, 3) := by decide +kernel
theorem dX10_run_88 : decode cX10_run 88 = .ok (.iconst 0, 1) := by decide +kernel
theorem dX10_run_89 : decode cX10_run 89 = .ok (.goto 4, 3) := by decide +kernel
theorem dX10_run_92 : decode cX10_run 92 = .ok (.iconst 1, 1) := by decide +kernel
theorem dX10_run_93 : decode cX10_run 93 = .ok (.iadd, 1) := by decide +kernel
theorem dX10_run_94 : decode cX10_run 94 = .ok (.istore_n 3, 1) := by decide +kernel
theorem dX10_run_95 : decode cX10_run 95 = .ok (.iload_n 2, 1) := by decide +kernel
theorem dX10_run_96 : decode cX10_run 96 = .ok (.iconst 1, 1) := by decide +kernel
theorem dX10_run_97 : decode cX10_run 97 = .ok (.aload_n 0, 1) := by decide +kernel
theorem dX10_run_98 : decode cX10_run 98 = .ok (.getfield 12, 3) := by decide +kernel
theorem dX10_run_101 : decode cX10_run 101 = .ok (.iload_n 2, 1) := by decide +kernel
theorem dX10_run_102 : decode cX10_run 102 = .ok (.invokevirtual 258, 3) := by decide +kernel
theorem dX10_run_105 : decode cX10_run 105 = .ok (.invokestatic 261, 3) := by decide +kernel
theorem dX10_run_108 : decode cX10_run 108 = .ok (.iadd, 1) := by decide +kernel
theorem dX10_run_109 : decode cX10_run 109 = .ok (.iadd, 1) := by decide +kernel
theorem dX10_run_110 : decode cX10_run 110 = .ok (.istore_n 2, 1) := by decide +kernel
theorem dX10_run_111 : decode cX10_run 111 = .ok (.iinc 5 1, 3) := by decide +kernel
theorem dX10_run_114 : decode cX10_run 114 = .ok (.goto (-70), 3) := by decide +kernel
theorem dX10_run_117 : decode cX10_run 117 = .ok (.aload_n 0, 1) := by decide +kernel
theorem dX10_run_118 : decode cX10_run 118 = .ok (.getfield 12, 3) := by decide +kernel
theorem dX10_run_121 : decode cX10_run 121 = .ok (.iconst 0, 1) := by decide +kernel
theorem dX10_run_122 : decode cX10_run 122 = .ok (.invokevirtual 121, 3) := by decide +kernel
theorem dX10_run_125 : decode cX10_run 125 = .ok (.pop, 1) := by decide +kernel
theorem dX10_run_126 : decode cX10_run 126 = .ok (.iload_n 3, 1) := by decide +kernel
theorem dX10_run_127 : decode cX10_run 127 = .ok (.ifCond .le 14, 3) := by decide +kernel
theorem dX10_run_130 : decode cX10_run 130 = .ok (.aload_n 0, 1) := by decide +kernel
theorem dX10_run_131 : decode cX10_run 131 = .ok (.getfield 33, 3) := by decide +kernel
theorem dX10_run_134 : decode cX10_run 134 = .ok (.aload_n 0, 1) := by decide +kernel
theorem dX10_run_135 : decode cX10_run 135 = .ok (.getfield 65, 3) := by decide +kernel
theorem dX10_run_138 : decode cX10_run 138 = .ok (.invokevirtual 264, 3) := by decide +kernel
theorem dX10_run_141 : decode cX10_run 141 = .ok (.aload_n 0, 1) := by decide +kernel
theorem dX10_run_142 : decode cX10_run 142 = .ok (.getfield 19, 3) := by decide +kernel
theorem dX10_run_145 : decode cX10_run 145 = .ok (.invokevirtual 267, 3) := by decide +kernel
theorem dX10_run_148 : decode cX10_run 148 = .ok (.aload_n 0, 1) := by decide +kernel
theorem dX10_run_149 : decode cX10_run 149 = .ok (.getfield 19, 3) := by decide +kernel
theorem dX10_run_152 : decode cX10_run 152 = .ok (.iload 4, 2) := by decide +kernel
theorem dX10_run_154 : decode cX10_run 154 = .ok (.invokestatic 173, 3) := by decide +kernel
theorem dX10_run_157 : decode cX10_run 157 = .ok (.i2l, 1) := by decide +kernel
theorem dX10_run_158 : decode cX10_run 158 = .ok (.invokevirtual 269, 3) := by decide +kernel
theorem dX10_run_161 : decode cX10_run 161 = .ok (.aload_n 0, 1) := by decide +kernel
theorem dX10_run_162 : decode cX10_run 162 = .ok (.getfield 19, 3) := by decide +kernel
theorem dX10_run_165 : decode cX10_run 165 = .ok (.aload_n 0, 1) := by decide +kernel
theorem dX10_run_166 : decode cX10_run 166 = .ok (.getfield 61, 3) := by decide +kernel
theorem dX10_run_169 : decode cX10_run 169 = .ok (.getfield 198, 3) := by decide +kernel
theorem dX10_run_172 : decode cX10_run 172 = .ok (.i2l, 1) := by decide +kernel
theorem dX10_run_173 : decode cX10_run 173 = .ok (.invokevirtual 269, 3) := by decide +kernel
theorem dX10_run_176 : decode cX10_run 176 = .ok (.iload_n 3, 1) := by decide +kernel
theorem dX10_run_177 : decode cX10_run 177 = .ok (.ireturn, 1) := by decide +kernel
theorem dX10_undo_0 : decode cX10_undo 0 = .ok (.aload_n 0, 1) := by decide +kernel
theorem dX10_undo_1 : decode cX10_undo 1 = .ok (.getfield 33, 3) := by decide +kernel
theorem dX10_undo_4 : decode cX10_undo 4 = .ok (.aload_n 0, 1) := by decide +kernel
theorem dX10_undo_5 : decode cX10_undo 5 = .ok (.getfield 61, 3) := by decide +kernel
theorem dX10_undo_8 : decode cX10_undo 8 = .ok (.invokevirtual 273, 3) := by decide +kernel
theorem dX10_undo_11 : decode cX10_undo 11 = .ok (.ifCond .eq 13, 3) := by decide +kernel
theorem dX10_undo_14 : decode cX10_undo 14 = .ok (.aload_n 0, 1) := by decide +kernel
theorem dX10_undo_15 : decode cX10_undo 15 = .ok (.getfield 33, 3) := by decide +kernel
theorem dX10_undo_18 : decode cX10_undo 18 = .ok (.invokevirtual 277, 3) := by decide +kernel
theorem dX10_undo_21 : decode cX10_undo 21 = .ok (.goto 4, 3) := by decide +kernel
theorem dX10_undo_24 : decode cX10_undo 24 = .ok (.iconst (-1), 1) := by decide +kernel
theorem dX10_undo_25 : decode cX10_undo 25 = .ok (.ireturn, 1) := by decide +kernel
theorem dX10_remembered_0 : decode cX10_remembered 0 = .ok (.iload_n 1, 1) := by decide +kernel
theorem dX10_remembered_1 : decode cX10_remembered 1 = .ok (.ifCond .lt 14, 3) := by decide +kernel
theorem dX10_remembered_4 : decode cX10_remembered 4 = .ok (.aload_n 0, 1) := by decide +kernel
theorem dX10_remembered_5 : decode cX10_remembered 5 = .ok (.getfield 33, 3) := by decide +kernel
theorem dX10_remembered_8 : decode cX10_remembered 8 = .ok (.aload_n 0, 1) := by decide +kernel
theorem dX10_remembered_9 : decode cX10_remembered 9 = .ok (.getfield 65, 3) := by decide +kernel
theorem dX10_remembered_12 : decode cX10_remembered 12 = .ok (.invokevirtual 264, 3) := by decide +kernel
theorem dX10_remembered_15 : decode cX10_remembered 15 = .ok (.iload_n 1, 1) := by decide +kernel
theorem dX10_remembered_16 : decode cX10_remembered 16 = .ok (.ireturn, 1) := by decide +kernel
theorem dX10_takeSteps_0 : decode cX10_takeSteps 0 = .ok (.iload_n 1, 1) := by decide +kernel
theorem dX10_takeSteps_1 : decode cX10_takeSteps 1 = .ok (.ifCond .lt 10, 3) := by decide +kernel
theorem dX10_takeSteps_4 : decode cX10_takeSteps 4 = .ok (.iload_n 1, 1) := by decide +kernel
theorem dX10_takeSteps_5 : decode cX10_takeSteps 5 = .ok (.sipush 200, 3) := by decide +kernel
theorem dX10_takeSteps_8 : decode cX10_takeSteps 8 = .ok (.if_icmp .le 5, 3) := by decide +kernel
theorem dX10_takeSteps_11 : decode cX10_takeSteps 11 = .ok (.iconst (-1), 1) := by decide +kernel
theorem dX10_takeSteps_12 : decode cX10_takeSteps 12 = .ok (.ireturn, 1) := by decide +kernel
theorem dX10_takeSteps_13 : decode cX10_takeSteps 13 = .ok (.aload_n 0, 1) := by decide +kernel
theorem dX10_takeSteps_14 : decode cX10_takeSteps 14 = .ok (.getfield 61, 3) := by decide +kernel
theorem dX10_takeSteps_17 : decode cX10_takeSteps 17 = .ok (.getfield 198, 3) := by decide +kernel
theorem dX10_takeSteps_20 : decode cX10_takeSteps 20 = .ok (.istore_n 2, 1) := by decide +kernel
theorem dX10_takeSteps_21 : decode cX10_takeSteps 21 = .ok (.aload_n 0, 1) := by decide +kernel
theorem dX10_takeSteps_22 : decode cX10_takeSteps 22 = .ok (.getfield 61, 3) := by decide +kernel
theorem dX10_takeSteps_25 : decode cX10_takeSteps 25 = .ok (.getfield 204, 3) := by decide +kernel
theorem dX10_takeSteps_28 : decode cX10_takeSteps 28 = .ok (.istore_n 3, 1) := by decide +kernel
theorem dX10_takeSteps_29 : decode cX10_takeSteps 29 = .ok (.iconst 0, 1) := by decide +kernel
theorem dX10_takeSteps_30 : decode cX10_takeSteps 30 = .ok (.istore 4, 2) := by decide +kernel
theorem dX10_takeSteps_32 : decode cX10_takeSteps 32 = .ok (.iconst 0, 1) := by decide +kernel
theorem dX10_takeSteps_33 : decode cX10_takeSteps 33 = .ok (.istore 5, 2) := by decide +kernel
theorem dX10_takeSteps_35 : decode cX10_takeSteps 35 = .ok (.iload 5, 2) := by decide +kernel
theorem dX10_takeSteps_37 : decode cX10_takeSteps 37 = .ok (.iload_n 1, 1) := by decide +kernel
theorem dX10_takeSteps_38 : decode cX10_takeSteps 38 = .ok (.if_icmp .ge 25, 3) := by decide +kernel
theorem dX10_takeSteps_41 : decode cX10_takeSteps 41 = .ok (.aload_n 0, 1) := by decide +kernel
theorem dX10_takeSteps_42 : decode cX10_takeSteps 42 = .ok (.aload_n 0, 1) := by decide +kernel
theorem dX10_takeSteps_43 : decode cX10_takeSteps 43 = .ok (.getfield 61, 3) := by decide +kernel
theorem dX10_takeSteps_46 : decode cX10_takeSteps 46 = .ok (.iconst 1, 1) := by decide +kernel
theorem dX10_takeSteps_47 : decode cX10_takeSteps 47 = .ok (.iconst (-1), 1) := by decide +kernel
theorem dX10_takeSteps_48 : decode cX10_takeSteps 48 = .ok (.invokevirtual 278, 3) := by decide +kernel
theorem dX10_takeSteps_51 : decode cX10_takeSteps 51 = .ok (.ifCond .eq 12, 3) := by decide +kernel
theorem dX10_takeSteps_54 : decode cX10_takeSteps 54 = .ok (.iinc 4 1, 3) := by decide +kernel
theorem dX10_takeSteps_57 : decode cX10_takeSteps 57 = .ok (.iinc 5 1, 3) := by decide +kernel
theorem dX10_takeSteps_60 : decode cX10_takeSteps 60 = .ok (.goto (-25), 3) := by decide +kernel
theorem dX10_takeSteps_63 : decode cX10_takeSteps 63 = .ok (.aload_n 0, 1) := by decide +kernel
theorem dX10_takeSteps_64 : decode cX10_takeSteps 64 = .ok (.getfield 19, 3) := by decide +kernel
theorem dX10_takeSteps_67 : decode cX10_takeSteps 67 = .ok (.invokevirtual 267, 3) := by decide +kernel
theorem dX10_takeSteps_70 : decode cX10_takeSteps 70 = .ok (.aload_n 0, 1) := by decide +kernel
theorem dX10_takeSteps_71 : decode cX10_takeSteps 71 = .ok (.getfield 19, 3) := by decide +kernel
theorem dX10_takeSteps_74 : decode cX10_takeSteps 74 = .ok (.aload_n 0, 1) := by decide +kernel
theorem dX10_takeSteps_75 : decode cX10_takeSteps 75 = .ok (.getfield 61, 3) := by decide +kernel
theorem dX10_takeSteps_78 : decode cX10_takeSteps 78 = .ok (.getfield 198, 3) := by decide +kernel
theorem dX10_takeSteps_81 : decode cX10_takeSteps 81 = .ok (.iload_n 2, 1) := by decide +kernel
theorem dX10_takeSteps_82 : decode cX10_takeSteps 82 = .ok (.isub, 1) := by decide +kernel
theorem dX10_takeSteps_83 : decode cX10_takeSteps 83 = .ok (.i2l, 1) := by decide +kernel
theorem dX10_takeSteps_84 : decode cX10_takeSteps 84 = .ok (.invokevirtual 269, 3) := by decide +kernel
theorem dX10_takeSteps_87 : decode cX10_takeSteps 87 = .ok (.aload_n 0, 1) := by decide +kernel
theorem dX10_takeSteps_88 : decode cX10_takeSteps 88 = .ok (.getfield 19, 3) := by decide +kernel
theorem dX10_takeSteps_91 : decode cX10_takeSteps 91 = .ok (.aload_n 0, 1) := by decide +kernel
theorem dX10_takeSteps_92 : decode cX10_takeSteps 92 = .ok (.getfield 61, 3) := by decide +kernel
theorem dX10_takeSteps_95 : decode cX10_takeSteps 95 = .ok (.getfield 204, 3) := by decide +kernel
theorem dX10_takeSteps_98 : decode cX10_takeSteps 98 = .ok (.iload_n 3, 1) := by decide +kernel
theorem dX10_takeSteps_99 : decode cX10_takeSteps 99 = .ok (.isub, 1) := by decide +kernel
theorem dX10_takeSteps_100 : decode cX10_takeSteps 100 = .ok (.i2l, 1) := by decide +kernel
theorem dX10_takeSteps_101 : decode cX10_takeSteps 101 = .ok (.invokevirtual 269, 3) := by decide +kernel
theorem dX10_takeSteps_104 : decode cX10_takeSteps 104 = .ok (.iload 4, 2) := by decide +kernel
theorem dX10_takeSteps_106 : decode cX10_takeSteps 106 = .ok (.ireturn, 1) := by decide +kernel
theorem dX10_turnRight_0 : decode cX10_turnRight 0 = .ok (.iload_n 1, 1) := by decide +kernel
theorem dX10_turnRight_1 : decode cX10_turnRight 1 = .ok (.ifCond .lt 8, 3) := by decide +kernel
theorem dX10_turnRight_4 : decode cX10_turnRight 4 = .ok (.iload_n 1, 1) := by decide +kernel
theorem dX10_turnRight_5 : decode cX10_turnRight 5 = .ok (.iconst 4, 1) := by decide +kernel
theorem dX10_turnRight_6 : decode cX10_turnRight 6 = .ok (.if_icmp .lt 5, 3) := by decide +kernel
theorem dX10_turnRight_9 : decode cX10_turnRight 9 = .ok (.iconst (-1), 1) := by decide +kernel
theorem dX10_turnRight_10 : decode cX10_turnRight 10 = .ok (.ireturn, 1) := by decide +kernel
theorem dX10_turnRight_11 : decode cX10_turnRight 11 = .ok (.aload_n 0, 1) := by decide +kernel
theorem dX10_turnRight_12 : decode cX10_turnRight 12 = .ok (.getfield 61, 3) := by decide +kernel
theorem dX10_turnRight_15 : decode cX10_turnRight 15 = .ok (.iload_n 1, 1) := by decide +kernel
theorem dX10_turnRight_16 : decode cX10_turnRight 16 = .ok (.invokevirtual 282, 3) := by decide +kernel
theorem dX10_turnRight_19 : decode cX10_turnRight 19 = .ok (.aload_n 0, 1) := by decide +kernel
theorem dX10_turnRight_20 : decode cX10_turnRight 20 = .ok (.getfield 61, 3) := by decide +kernel
theorem dX10_turnRight_23 : decode cX10_turnRight 23 = .ok (.getfield 192, 3) := by decide +kernel
theorem dX10_turnRight_26 : decode cX10_turnRight 26 = .ok (.ireturn, 1) := by decide +kernel
theorem dX10_passDays_0 : decode cX10_passDays 0 = .ok (.iload_n 1, 1) := by decide +kernel
theorem dX10_passDays_1 : decode cX10_passDays 1 = .ok (.iconst 1, 1) := by decide +kernel
theorem dX10_passDays_2 : decode cX10_passDays 2 = .ok (.if_icmp .lt 9, 3) := by decide +kernel
theorem dX10_passDays_5 : decode cX10_passDays 5 = .ok (.iload_n 1, 1) := by decide +kernel
theorem dX10_passDays_6 : decode cX10_passDays 6 = .ok (.bipush 30, 2) := by decide +kernel
theorem dX10_passDays_8 : decode cX10_passDays 8 = .ok (.if_icmp .le 5, 3) := by decide +kernel
theorem dX10_passDays_11 : decode cX10_passDays 11 = .ok (.iconst (-1), 1) := by decide +kernel
theorem dX10_passDays_12 : decode cX10_passDays 12 = .ok (.ireturn, 1) := by decide +kernel
theorem dX10_passDays_13 : decode cX10_passDays 13 = .ok (.iconst 0, 1) := by decide +kernel
theorem dX10_passDays_14 : decode cX10_passDays 14 = .ok (.istore_n 2, 1) := by decide +kernel
theorem dX10_passDays_15 : decode cX10_passDays 15 = .ok (.iload_n 2, 1) := by decide +kernel
theorem dX10_passDays_16 : decode cX10_passDays 16 = .ok (.iload_n 1, 1) := by decide +kernel
theorem dX10_passDays_17 : decode cX10_passDays 17 = .ok (.if_icmp .ge 20, 3) := by decide +kernel
theorem dX10_passDays_20 : decode cX10_passDays 20 = .ok (.aload_n 0, 1) := by decide +kernel
theorem dX10_passDays_21 : decode cX10_passDays 21 = .ok (.getfield 61, 3) := by decide +kernel
theorem dX10_passDays_24 : decode cX10_passDays 24 = .ok (.aload_n 0, 1) := by decide +kernel
theorem dX10_passDays_25 : decode cX10_passDays 25 = .ok (.getfield 92, 3) := by decide +kernel
theorem dX10_passDays_28 : decode cX10_passDays 28 = .ok (.invokevirtual 285, 3) := by decide +kernel
theorem dX10_passDays_31 : decode cX10_passDays 31 = .ok (.iinc 2 1, 3) := by decide +kernel
theorem dX10_passDays_34 : decode cX10_passDays 34 = .ok (.goto (-19), 3) := by decide +kernel
theorem dX10_passDays_37 : decode cX10_passDays 37 = .ok (.aload_n 0, 1) := by decide +kernel
theorem dX10_passDays_38 : decode cX10_passDays 38 = .ok (.getfield 61, 3) := by decide +kernel
theorem dX10_passDays_41 : decode cX10_passDays 41 = .ok (.invokevirtual 227, 3) := by decide +kernel
theorem dX10_passDays_44 : decode cX10_passDays 44 = .ok (.ireturn, 1) := by decide +kernel
theorem dX10_moveChair_0 : decode cX10_moveChair 0 = .ok (.aload_n 0, 1) := by decide +kernel
theorem dX10_moveChair_1 : decode cX10_moveChair 1 = .ok (.getfield 92, 3) := by decide +kernel
theorem dX10_moveChair_4 : decode cX10_moveChair 4 = .ok (.iload_n 1, 1) := by decide +kernel
theorem dX10_moveChair_5 : decode cX10_moveChair 5 = .ok (.invokevirtual 152, 3) := by decide +kernel
theorem dX10_moveChair_8 : decode cX10_moveChair 8 = .ok (.ifCond .ne 5, 3) := by decide +kernel
theorem dX10_moveChair_11 : decode cX10_moveChair 11 = .ok (.iconst (-1), 1) := by decide +kernel
theorem dX10_moveChair_12 : decode cX10_moveChair 12 = .ok (.ireturn, 1) := by decide +kernel
theorem dX10_moveChair_13 : decode cX10_moveChair 13 = .ok (.aload_n 0, 1) := by decide +kernel
theorem dX10_moveChair_14 : decode cX10_moveChair 14 = .ok (.getfield 92, 3) := by decide +kernel
theorem dX10_moveChair_17 : decode cX10_moveChair 17 = .ok (.getfield 128, 3) := by decide +kernel
theorem dX10_moveChair_20 : decode cX10_moveChair 20 = .ok (.iload_n 1, 1) := by decide +kernel
theorem dX10_moveChair_21 : decode cX10_moveChair 21 = .ok (.invokestatic 169, 3) := by decide +kernel
theorem dX10_moveChair_24 : decode cX10_moveChair 24 = .ok (.ifCond .eq 14, 3) := by decide +kernel
theorem dX10_moveChair_27 : decode cX10_moveChair 27 = .ok (.iload_n 1, 1) := by decide +kernel
theorem dX10_moveChair_28 : decode cX10_moveChair 28 = .ok (.aload_n 0, 1) := by decide +kernel
theorem dX10_moveChair_29 : decode cX10_moveChair 29 = .ok (.getfield 61, 3) := by decide +kernel
theorem dX10_moveChair_32 : decode cX10_moveChair 32 = .ok (.getfield 183, 3) := by decide +kernel
theorem dX10_moveChair_35 : decode cX10_moveChair 35 = .ok (.if_icmp .ne 6, 3) := by decide +kernel
theorem dX10_moveChair_38 : decode cX10_moveChair 38 = .ok (.bipush (-2), 2) := by decide +kernel
theorem dX10_moveChair_40 : decode cX10_moveChair 40 = .ok (.ireturn, 1) := by decide +kernel
theorem dX10_moveChair_41 : decode cX10_moveChair 41 = .ok (.aload_n 0, 1) := by decide +kernel
theorem dX10_moveChair_42 : decode cX10_moveChair 42 = .ok (.getfield 61, 3) := by decide +kernel
theorem dX10_moveChair_45 : decode cX10_moveChair 45 = .ok (.dup, 1) := by decide +kernel
theorem dX10_moveChair_46 : decode cX10_moveChair 46 = .ok (.getfield 166, 3) := by decide +kernel
theorem dX10_moveChair_49 : decode cX10_moveChair 49 = .ok (.iload_n 1, 1) := by decide +kernel
theorem dX10_moveChair_50 : decode cX10_moveChair 50 = .ok (.invokestatic 289, 3) := by decide +kernel
theorem dX10_moveChair_53 : decode cX10_moveChair 53 = .ok (.lxor, 1) := by decide +kernel
theorem dX10_moveChair_54 : decode cX10_moveChair 54 = .ok (.putfield 166, 3) := by decide +kernel
theorem dX10_moveChair_57 : decode cX10_moveChair 57 = .ok (.aload_n 0, 1) := by decide +kernel
theorem dX10_moveChair_58 : decode cX10_moveChair 58 = .ok (.getfield 61, 3) := by decide +kernel
theorem dX10_moveChair_61 : decode cX10_moveChair 61 = .ok (.getfield 166, 3) := by decide +kernel
theorem dX10_moveChair_64 : decode cX10_moveChair 64 = .ok (.invokestatic 143, 3) := by decide +kernel
theorem dX10_moveChair_67 : decode cX10_moveChair 67 = .ok (.ireturn, 1) := by decide +kernel
theorem dX10_loadUp_0 : decode cX10_loadUp 0 = .ok (.iload_n 1, 1) := by decide +kernel
theorem dX10_loadUp_1 : decode cX10_loadUp 1 = .ok (.iconst 1, 1) := by decide +kernel
theorem dX10_loadUp_2 : decode cX10_loadUp 2 = .ok (.if_icmp .lt 10, 3) := by decide +kernel
theorem dX10_loadUp_5 : decode cX10_loadUp 5 = .ok (.iload_n 1, 1) := by decide +kernel
theorem dX10_loadUp_6 : decode cX10_loadUp 6 = .ok (.sipush 999, 3) := by decide +kernel
theorem dX10_loadUp_9 : decode cX10_loadUp 9 = .ok (.if_icmp .le 5, 3) := by decide +kernel
theorem dX10_loadUp_12 : decode cX10_loadUp 12 = .ok (.iconst (-1), 1) := by decide +kernel
theorem dX10_loadUp_13 : decode cX10_loadUp 13 = .ok (.ireturn, 1) := by decide +kernel
theorem dX10_loadUp_14 : decode cX10_loadUp 14 = .ok (.aload_n 0, 1) := by decide +kernel
theorem dX10_loadUp_15 : decode cX10_loadUp 15 = .ok (.getfield 61, 3) := by decide +kernel
theorem dX10_loadUp_18 : decode cX10_loadUp 18 = .ok (.getfield 183, 3) := by decide +kernel
theorem dX10_loadUp_21 : decode cX10_loadUp 21 = .ok (.aload_n 0, 1) := by decide +kernel
theorem dX10_loadUp_22 : decode cX10_loadUp 22 = .ok (.getfield 92, 3) := by decide +kernel
theorem dX10_loadUp_25 : decode cX10_loadUp 25 = .ok (.getfield 180, 3) := by decide +kernel
theorem dX10_loadUp_28 : decode cX10_loadUp 28 = .ok (.if_icmp .eq 6, 3) := by decide +kernel
theorem dX10_loadUp_31 : decode cX10_loadUp 31 = .ok (.bipush (-2), 2) := by decide +kernel
theorem dX10_loadUp_33 : decode cX10_loadUp 33 = .ok (.ireturn, 1) := by decide +kernel
theorem dX10_loadUp_34 : decode cX10_loadUp 34 = .ok (.aload_n 0, 1) := by decide +kernel
theorem dX10_loadUp_35 : decode cX10_loadUp 35 = .ok (.getfield 61, 3) := by decide +kernel
theorem dX10_loadUp_38 : decode cX10_loadUp 38 = .ok (.getfield 198, 3) := by decide +kernel
theorem dX10_loadUp_41 : decode cX10_loadUp 41 = .ok (.istore_n 2, 1) := by decide +kernel
theorem dX10_loadUp_42 : decode cX10_loadUp 42 = .ok (.aload_n 0, 1) := by decide +kernel
theorem dX10_loadUp_43 : decode cX10_loadUp 43 = .ok (.getfield 61, 3) := by decide +kernel
theorem dX10_loadUp_46 : decode cX10_loadUp 46 = .ok (.iload_n 1, 1) := by decide +kernel
theorem dX10_loadUp_47 : decode cX10_loadUp 47 = .ok (.putfield 195, 3) := by decide +kernel
theorem dX10_loadUp_50 : decode cX10_loadUp 50 = .ok (.aload_n 0, 1) := by decide +kernel
theorem dX10_loadUp_51 : decode cX10_loadUp 51 = .ok (.getfield 61, 3) := by decide +kernel
theorem dX10_loadUp_54 : decode cX10_loadUp 54 = .ok (.iconst 0, 1) := by decide +kernel
theorem dX10_loadUp_55 : decode cX10_loadUp 55 = .ok (.putfield 198, 3) := by decide +kernel
theorem dX10_loadUp_58 : decode cX10_loadUp 58 = .ok (.iload_n 2, 1) := by decide +kernel
theorem dX10_loadUp_59 : decode cX10_loadUp 59 = .ok (.ireturn, 1) := by decide +kernel
theorem dX10_wrongSignOfRun_0 : decode cX10_wrongSignOfRun 0 = .ok (.aload_n 0, 1) := by decide +kernel
theorem dX10_wrongSignOfRun_1 : decode cX10_wrongSignOfRun 1 = .ok (.getfield 12, 3) := by decide +kernel
theorem dX10_wrongSignOfRun_4 : decode cX10_wrongSignOfRun 4 = .ok (.invokevirtual 117, 3) := by decide +kernel
theorem dX10_wrongSignOfRun_7 : decode cX10_wrongSignOfRun 7 = .ok (.bipush 60, 2) := by decide +kernel
theorem dX10_wrongSignOfRun_9 : decode cX10_wrongSignOfRun 9 = .ok (.invokestatic 293, 3) := by decide +kernel
theorem dX10_wrongSignOfRun_12 : decode cX10_wrongSignOfRun 12 = .ok (.istore_n 1, 1) := by decide +kernel
theorem dX10_wrongSignOfRun_13 : decode cX10_wrongSignOfRun 13 = .ok (.iconst (-1), 1) := by decide +kernel
theorem dX10_wrongSignOfRun_14 : decode cX10_wrongSignOfRun 14 = .ok (.istore_n 2, 1) := by decide +kernel
theorem dX10_wrongSignOfRun_15 : decode cX10_wrongSignOfRun 15 = .ok (.iconst 0, 1) := by decide +kernel
theorem dX10_wrongSignOfRun_16 : decode cX10_wrongSignOfRun 16 = .ok (.istore_n 3, 1) := by decide +kernel
theorem dX10_wrongSignOfRun_17 : decode cX10_wrongSignOfRun 17 = .ok (.iconst 0, 1) := by decide +kernel
theorem dX10_wrongSignOfRun_18 : decode cX10_wrongSignOfRun 18 = .ok (.istore 4, 2) := by decide +kernel
theorem dX10_wrongSignOfRun_20 : decode cX10_wrongSignOfRun 20 = .ok (.iload 4, 2) := by decide +kernel
theorem dX10_wrongSignOfRun_22 : decode cX10_wrongSignOfRun 22 = .ok (.iload_n 1, 1) := by decide +kernel
theorem dX10_wrongSignOfRun_23 : decode cX10_wrongSignOfRun 23 = .ok (.if_icmp .ge 58, 3) := by decide +kernel
theorem dX10_wrongSignOfRun_26 : decode cX10_wrongSignOfRun 26 = .ok (.aload_n 0, 1) := by decide +kernel
theorem dX10_wrongSignOfRun_27 : decode cX10_wrongSignOfRun 27 = .ok (.getfield 12, 3) := by decide +kernel
theorem dX10_wrongSignOfRun_30 : decode cX10_wrongSignOfRun 30 = .ok (.iload 4, 2) := by decide +kernel
theorem dX10_wrongSignOfRun_32 : decode cX10_wrongSignOfRun 32 = .ok (.invokevirtual 258, 3) := by decide +kernel
theorem dX10_wrongSignOfRun_35 : decode cX10_wrongSignOfRun 35 = .ok (.istore 5, 2) := by decide +kernel
theorem dX10_wrongSignOfRun_37 : decode cX10_wrongSignOfRun 37 = .ok (.iload_n 3, 1) := by decide +kernel
theorem dX10_wrongSignOfRun_38 : decode cX10_wrongSignOfRun 38 = .ok (.ifCond .ne 19, 3) := by decide +kernel
theorem dX10_wrongSignOfRun_41 : decode cX10_wrongSignOfRun 41 = .ok (.iload 5, 2) := by decide +kernel
theorem dX10_wrongSignOfRun_43 : decode cX10_wrongSignOfRun 43 = .ok (.istore_n 2, 1) := by decide +kernel
theorem dX10_wrongSignOfRun_44 : decode cX10_wrongSignOfRun 44 = .ok (.iload 5, 2) := by decide +kernel
theorem dX10_wrongSignOfRun_46 : decode cX10_wrongSignOfRun 46 = .ok (.invokestatic 261, 3) := by decide +kernel
theorem dX10_wrongSignOfRun_49 : decode cX10_wrongSignOfRun 49 = .ok (.istore_n 3, 1) := by decide +kernel
theorem dX10_wrongSignOfRun_50 : decode cX10_wrongSignOfRun 50 = .ok (.iload_n 3, 1) := by decide +kernel
theorem dX10_wrongSignOfRun_51 : decode cX10_wrongSignOfRun 51 = .ok (.ifCond .ne 24, 3) := by decide +kernel
theorem dX10_wrongSignOfRun_54 : decode cX10_wrongSignOfRun 54 = .ok (.iload 4, 2) := by decide +kernel
theorem dX10_wrongSignOfRun_56 : decode cX10_wrongSignOfRun 56 = .ok (.ireturn, 1) := by decide +kernel
theorem dX10_wrongSignOfRun_57 : decode cX10_wrongSignOfRun 57 = .ok (.iload_n 2, 1) := by decide +kernel
theorem dX10_wrongSignOfRun_58 : decode cX10_wrongSignOfRun 58 = .ok (.iload 5, 2) := by decide +kernel
theorem dX10_wrongSignOfRun_60 : decode cX10_wrongSignOfRun 60 = .ok (.invokestatic 298, 3) := by decide +kernel
theorem dX10_wrongSignOfRun_63 : decode cX10_wrongSignOfRun 63 = .ok (.ifCond .eq 9, 3) := by decide +kernel
theorem dX10_wrongSignOfRun_66 : decode cX10_wrongSignOfRun 66 = .ok (.iinc 3 (-1), 3) := by decide +kernel
theorem dX10_wrongSignOfRun_69 : decode cX10_wrongSignOfRun 69 = .ok (.goto 6, 3) := by decide +kernel
theorem dX10_wrongSignOfRun_72 : decode cX10_wrongSignOfRun 72 = .ok (.iload 4, 2) := by decide +kernel
theorem dX10_wrongSignOfRun_74 : decode cX10_wrongSignOfRun 74 = .ok (.ireturn, 1) := by decide +kernel
theorem dX10_wrongSignOfRun_75 : decode cX10_wrongSignOfRun 75 = .ok (.iinc 4 1, 3) := by decide +kernel
theorem dX10_wrongSignOfRun_78 : decode cX10_wrongSignOfRun 78 = .ok (.goto (-58), 3) := by decide +kernel
theorem dX10_wrongSignOfRun_81 : decode cX10_wrongSignOfRun 81 = .ok (.iload_n 3, 1) := by decide +kernel
theorem dX10_wrongSignOfRun_82 : decode cX10_wrongSignOfRun 82 = .ok (.ifCond .gt 15, 3) := by decide +kernel
theorem dX10_wrongSignOfRun_85 : decode cX10_wrongSignOfRun 85 = .ok (.aload_n 0, 1) := by decide +kernel
theorem dX10_wrongSignOfRun_86 : decode cX10_wrongSignOfRun 86 = .ok (.getfield 12, 3) := by decide +kernel
theorem dX10_wrongSignOfRun_89 : decode cX10_wrongSignOfRun 89 = .ok (.invokevirtual 117, 3) := by decide +kernel
theorem dX10_wrongSignOfRun_92 : decode cX10_wrongSignOfRun 92 = .ok (.bipush 60, 2) := by decide +kernel
theorem dX10_wrongSignOfRun_94 : decode cX10_wrongSignOfRun 94 = .ok (.if_icmp .le 7, 3) := by decide +kernel
theorem dX10_wrongSignOfRun_97 : decode cX10_wrongSignOfRun 97 = .ok (.iload_n 1, 1) := by decide +kernel
theorem dX10_wrongSignOfRun_98 : decode cX10_wrongSignOfRun 98 = .ok (.goto 4, 3) := by decide +kernel
theorem dX10_wrongSignOfRun_101 : decode cX10_wrongSignOfRun 101 = .ok (.iconst (-1), 1) := by decide +kernel
theorem dX10_wrongSignOfRun_102 : decode cX10_wrongSignOfRun 102 = .ok (.ireturn, 1) := by decide +kernel
theorem dX10_digitsBehind_0 : decode cX10_digitsBehind 0 = .ok (.iload_n 0, 1) := by decide +kernel
theorem dX10_digitsBehind_1 : decode cX10_digitsBehind 1 = .ok (.lookupswitch 55 #[(99, 53), (100, 51), (108, 53), (115, 51), (116, 51)], 51) := by decide +kernel
theorem dX10_digitsBehind_52 : decode cX10_digitsBehind 52 = .ok (.iconst 1, 1) := by decide +kernel
theorem dX10_digitsBehind_53 : decode cX10_digitsBehind 53 = .ok (.ireturn, 1) := by decide +kernel
theorem dX10_digitsBehind_54 : decode cX10_digitsBehind 54 = .ok (.iconst 2, 1) := by decide +kernel
theorem dX10_digitsBehind_55 : decode cX10_digitsBehind 55 = .ok (.ireturn, 1) := by decide +kernel
theorem dX10_digitsBehind_56 : decode cX10_digitsBehind 56 = .ok (.iconst 0, 1) := by decide +kernel
theorem dX10_digitsBehind_57 : decode cX10_digitsBehind 57 = .ok (.ireturn, 1) := by decide +kernel
theorem dX10_canStandBehind_0 : decode cX10_canStandBehind 0 = .ok (.iload_n 0, 1) := by decide +kernel
theorem dX10_canStandBehind_1 : decode cX10_canStandBehind 1 = .ok (.bipush 116, 2) := by decide +kernel
theorem dX10_canStandBehind_3 : decode cX10_canStandBehind 3 = .ok (.if_icmp .ne 21, 3) := by decide +kernel
theorem dX10_canStandBehind_6 : decode cX10_canStandBehind 6 = .ok (.iload_n 1, 1) := by decide +kernel
theorem dX10_canStandBehind_7 : decode cX10_canStandBehind 7 = .ok (.bipush 48, 2) := by decide +kernel
theorem dX10_canStandBehind_9 : decode cX10_canStandBehind 9 = .ok (.if_icmp .lt 13, 3) := by decide +kernel
theorem dX10_canStandBehind_12 : decode cX10_canStandBehind 12 = .ok (.iload_n 1, 1) := by decide +kernel
theorem dX10_canStandBehind_13 : decode cX10_canStandBehind 13 = .ok (.bipush 51, 2) := by decide +kernel
theorem dX10_canStandBehind_15 : decode cX10_canStandBehind 15 = .ok (.if_icmp .gt 7, 3) := by decide +kernel
theorem dX10_canStandBehind_18 : decode cX10_canStandBehind 18 = .ok (.iconst 1, 1) := by decide +kernel
theorem dX10_canStandBehind_19 : decode cX10_canStandBehind 19 = .ok (.goto 4, 3) := by decide +kernel
theorem dX10_canStandBehind_22 : decode cX10_canStandBehind 22 = .ok (.iconst 0, 1) := by decide +kernel
theorem dX10_canStandBehind_23 : decode cX10_canStandBehind 23 = .ok (.ireturn, 1) := by decide +kernel
theorem dX10_canStandBehind_24 : decode cX10_canStandBehind 24 = .ok (.iload_n 1, 1) := by decide +kernel
theorem dX10_canStandBehind_25 : decode cX10_canStandBehind 25 = .ok (.iload_n 0, 1) := by decide +kernel
theorem dX10_canStandBehind_26 : decode cX10_canStandBehind 26 = .ok (.bipush 100, 2) := by decide +kernel
theorem dX10_canStandBehind_28 : decode cX10_canStandBehind 28 = .ok (.if_icmp .ne 8, 3) := by decide +kernel
theorem dX10_canStandBehind_31 : decode cX10_canStandBehind 31 = .ok (.bipush 49, 2) := by decide +kernel
theorem dX10_canStandBehind_33 : decode cX10_canStandBehind 33 = .ok (.goto 5, 3) := by decide +kernel
theorem dX10_canStandBehind_36 : decode cX10_canStandBehind 36 = .ok (.bipush 48, 2) := by decide +kernel
theorem dX10_canStandBehind_38 : decode cX10_canStandBehind 38 = .ok (.if_icmp .lt 13, 3) := by decide +kernel
theorem dX10_canStandBehind_41 : decode cX10_canStandBehind 41 = .ok (.iload_n 1, 1) := by decide +kernel
theorem dX10_canStandBehind_42 : decode cX10_canStandBehind 42 = .ok (.bipush 57, 2) := by decide +kernel
theorem dX10_canStandBehind_44 : decode cX10_canStandBehind 44 = .ok (.if_icmp .gt 7, 3) := by decide +kernel
theorem dX10_canStandBehind_47 : decode cX10_canStandBehind 47 = .ok (.iconst 1, 1) := by decide +kernel
theorem dX10_canStandBehind_48 : decode cX10_canStandBehind 48 = .ok (.goto 4, 3) := by decide +kernel
theorem dX10_canStandBehind_51 : decode cX10_canStandBehind 51 = .ok (.iconst 0, 1) := by decide +kernel
theorem dX10_canStandBehind_52 : decode cX10_canStandBehind 52 = .ok (.ireturn, 1) := by decide +kernel
theorem dX10_actOfRun_0 : decode cX10_actOfRun 0 = .ok (.aload_n 0, 1) := by decide +kernel
theorem dX10_actOfRun_1 : decode cX10_actOfRun 1 = .ok (.getfield 12, 3) := by decide +kernel
theorem dX10_actOfRun_4 : decode cX10_actOfRun 4 = .ok (.iload_n 1, 1) := by decide +kernel
theorem dX10_actOfRun_5 : decode cX10_actOfRun 5 = .ok (.iconst 1, 1) := by decide +kernel
theorem dX10_actOfRun_6 : decode cX10_actOfRun 6 = .ok (.iadd, 1) := by decide +kernel
theorem dX10_actOfRun_7 : decode cX10_actOfRun 7 = .ok (.invokevirtual 258, 3) := by decide +kernel
theorem dX10_actOfRun_10 : decode cX10_actOfRun 10 = .ok (.bipush 48, 2) := by decide +kernel
theorem dX10_actOfRun_12 : decode cX10_actOfRun 12 = .ok (.isub, 1) := by decide +kernel
theorem dX10_actOfRun_13 : decode cX10_actOfRun 13 = .ok (.istore_n 2, 1) := by decide +kernel
theorem dX10_actOfRun_14 : decode cX10_actOfRun 14 = .ok (.iload_n 2, 1) := by decide +kernel
theorem dX10_actOfRun_15 : decode cX10_actOfRun 15 = .ok (.bipush 10, 2) := by decide +kernel
theorem dX10_actOfRun_17 : decode cX10_actOfRun 17 = .ok (.imul, 1) := by decide +kernel
theorem dX10_actOfRun_18 : decode cX10_actOfRun 18 = .ok (.aload_n 0, 1) := by decide +kernel
theorem dX10_actOfRun_19 : decode cX10_actOfRun 19 = .ok (.getfield 12, 3) := by decide +kernel
theorem dX10_actOfRun_22 : decode cX10_actOfRun 22 = .ok (.iload_n 1, 1) := by decide +kernel
theorem dX10_actOfRun_23 : decode cX10_actOfRun 23 = .ok (.iconst 2, 1) := by decide +kernel
theorem dX10_actOfRun_24 : decode cX10_actOfRun 24 = .ok (.iadd, 1) := by decide +kernel
theorem dX10_actOfRun_25 : decode cX10_actOfRun 25 = .ok (.invokevirtual 258, 3) := by decide +kernel
theorem dX10_actOfRun_28 : decode cX10_actOfRun 28 = .ok (.iadd, 1) := by decide +kernel
theorem dX10_actOfRun_29 : decode cX10_actOfRun 29 = .ok (.bipush 48, 2) := by decide +kernel
theorem dX10_actOfRun_31 : decode cX10_actOfRun 31 = .ok (.isub, 1) := by decide +kernel
theorem dX10_actOfRun_32 : decode cX10_actOfRun 32 = .ok (.istore_n 3, 1) := by decide +kernel
theorem dX10_actOfRun_33 : decode cX10_actOfRun 33 = .ok (.aload_n 0, 1) := by decide +kernel
theorem dX10_actOfRun_34 : decode cX10_actOfRun 34 = .ok (.getfield 12, 3) := by decide +kernel
theorem dX10_actOfRun_37 : decode cX10_actOfRun 37 = .ok (.iload_n 1, 1) := by decide +kernel
theorem dX10_actOfRun_38 : decode cX10_actOfRun 38 = .ok (.invokevirtual 258, 3) := by decide +kernel
theorem dX10_actOfRun_41 : decode cX10_actOfRun 41 = .ok (.lookupswitch 128 #[(99, 97), (100, 83), (108, 111), (115, 51), (116, 69)], 51) := by decide +kernel
theorem dX10_actOfRun_92 : decode cX10_actOfRun 92 = .ok (.aload_n 0, 1) := by decide +kernel
theorem dX10_actOfRun_93 : decode cX10_actOfRun 93 = .ok (.iload_n 2, 1) := by decide +kernel
theorem dX10_actOfRun_94 : decode cX10_actOfRun 94 = .ok (.invokevirtual 234, 3) := by decide +kernel
theorem dX10_actOfRun_97 : decode cX10_actOfRun 97 = .ok (.ifCond .gt 7, 3) := by decide +kernel
theorem dX10_actOfRun_100 : decode cX10_actOfRun 100 = .ok (.iload_n 2, 1) := by decide +kernel
theorem dX10_actOfRun_101 : decode cX10_actOfRun 101 = .ok (.ifCond .ne 7, 3) := by decide +kernel
theorem dX10_actOfRun_104 : decode cX10_actOfRun 104 = .ok (.iconst 1, 1) := by decide +kernel
theorem dX10_actOfRun_105 : decode cX10_actOfRun 105 = .ok (.goto 4, 3) := by decide +kernel
theorem dX10_actOfRun_108 : decode cX10_actOfRun 108 = .ok (.iconst 0, 1) := by decide +kernel
theorem dX10_actOfRun_109 : decode cX10_actOfRun 109 = .ok (.ireturn, 1) := by decide +kernel
theorem dX10_actOfRun_110 : decode cX10_actOfRun 110 = .ok (.aload_n 0, 1) := by decide +kernel
theorem dX10_actOfRun_111 : decode cX10_actOfRun 111 = .ok (.iload_n 2, 1) := by decide +kernel
theorem dX10_actOfRun_112 : decode cX10_actOfRun 112 = .ok (.invokevirtual 240, 3) := by decide +kernel
theorem dX10_actOfRun_115 : decode cX10_actOfRun 115 = .ok (.ifCond .lt 7, 3) := by decide +kernel
theorem dX10_actOfRun_118 : decode cX10_actOfRun 118 = .ok (.iconst 1, 1) := by decide +kernel
theorem dX10_actOfRun_119 : decode cX10_actOfRun 119 = .ok (.goto 4, 3) := by decide +kernel
theorem dX10_actOfRun_122 : decode cX10_actOfRun 122 = .ok (.iconst 0, 1) := by decide +kernel
theorem dX10_actOfRun_123 : decode cX10_actOfRun 123 = .ok (.ireturn, 1) := by decide +kernel
theorem dX10_actOfRun_124 : decode cX10_actOfRun 124 = .ok (.aload_n 0, 1) := by decide +kernel
theorem dX10_actOfRun_125 : decode cX10_actOfRun 125 = .ok (.iload_n 2, 1) := by decide +kernel
theorem dX10_actOfRun_126 : decode cX10_actOfRun 126 = .ok (.invokevirtual 243, 3) := by decide +kernel
theorem dX10_actOfRun_129 : decode cX10_actOfRun 129 = .ok (.ifCond .lt 7, 3) := by decide +kernel
theorem dX10_actOfRun_132 : decode cX10_actOfRun 132 = .ok (.iconst 1, 1) := by decide +kernel
theorem dX10_actOfRun_133 : decode cX10_actOfRun 133 = .ok (.goto 4, 3) := by decide +kernel
theorem dX10_actOfRun_136 : decode cX10_actOfRun 136 = .ok (.iconst 0, 1) := by decide +kernel
theorem dX10_actOfRun_137 : decode cX10_actOfRun 137 = .ok (.ireturn, 1) := by decide +kernel
theorem dX10_actOfRun_138 : decode cX10_actOfRun 138 = .ok (.aload_n 0, 1) := by decide +kernel
theorem dX10_actOfRun_139 : decode cX10_actOfRun 139 = .ok (.iload_n 3, 1) := by decide +kernel
theorem dX10_actOfRun_140 : decode cX10_actOfRun 140 = .ok (.invokevirtual 246, 3) := by decide +kernel
theorem dX10_actOfRun_143 : decode cX10_actOfRun 143 = .ok (.ifCond .lt 7, 3) := by decide +kernel
theorem dX10_actOfRun_146 : decode cX10_actOfRun 146 = .ok (.iconst 1, 1) := by decide +kernel
theorem dX10_actOfRun_147 : decode cX10_actOfRun 147 = .ok (.goto 4, 3) := by decide +kernel
theorem dX10_actOfRun_150 : decode cX10_actOfRun 150 = .ok (.iconst 0, 1) := by decide +kernel
theorem dX10_actOfRun_151 : decode cX10_actOfRun 151 = .ok (.ireturn, 1) := by decide +kernel
theorem dX10_actOfRun_152 : decode cX10_actOfRun 152 = .ok (.aload_n 0, 1) := by decide +kernel
theorem dX10_actOfRun_153 : decode cX10_actOfRun 153 = .ok (.iload_n 3, 1) := by decide +kernel
theorem dX10_actOfRun_154 : decode cX10_actOfRun 154 = .ok (.bipush 10, 2) := by decide +kernel
theorem dX10_actOfRun_156 : decode cX10_actOfRun 156 = .ok (.imul, 1) := by decide +kernel
theorem dX10_actOfRun_157 : decode cX10_actOfRun 157 = .ok (.invokevirtual 249, 3) := by decide +kernel
theorem dX10_actOfRun_160 : decode cX10_actOfRun 160 = .ok (.ifCond .lt 7, 3) := by decide +kernel
theorem dX10_actOfRun_163 : decode cX10_actOfRun 163 = .ok (.iconst 1, 1) := by decide +kernel
theorem dX10_actOfRun_164 : decode cX10_actOfRun 164 = .ok (.goto 4, 3) := by decide +kernel
theorem dX10_actOfRun_167 : decode cX10_actOfRun 167 = .ok (.iconst 0, 1) := by decide +kernel
theorem dX10_actOfRun_168 : decode cX10_actOfRun 168 = .ok (.ireturn, 1) := by decide +kernel
theorem dX10_actOfRun_169 : decode cX10_actOfRun 169 = .ok (.iconst 0, 1) := by decide +kernel
theorem dX10_actOfRun_170 : decode cX10_actOfRun 170 = .ok (.ireturn, 1) := by decide +kernel
theorem dX10_goOn_0 : decode cX10_goOn 0 = .ok (.iload_n 2, 1) := by decide +kernel
theorem dX10_goOn_1 : decode cX10_goOn 1 = .ok (.ifCond .eq 17, 3) := by decide +kernel
theorem dX10_goOn_4 : decode cX10_goOn 4 = .ok (.aload_n 0, 1) := by decide +kernel
theorem dX10_goOn_5 : decode cX10_goOn 5 = .ok (.getfield 92, 3) := by decide +kernel
theorem dX10_goOn_8 : decode cX10_goOn 8 = .ok (.aload_n 1, 1) := by decide +kernel
theorem dX10_goOn_9 : decode cX10_goOn 9 = .ok (.getfield 183, 3) := by decide +kernel
theorem dX10_goOn_12 : decode cX10_goOn 12 = .ok (.invokevirtual 302, 3) := by decide +kernel
theorem dX10_goOn_15 : decode cX10_goOn 15 = .ok (.goto 4, 3) := by decide +kernel
theorem dX10_goOn_18 : decode cX10_goOn 18 = .ok (.iconst 0, 1) := by decide +kernel
theorem dX10_goOn_19 : decode cX10_goOn 19 = .ok (.istore 4, 2) := by decide +kernel
theorem dX10_goOn_21 : decode cX10_goOn 21 = .ok (.aload_n 1, 1) := by decide +kernel
theorem dX10_goOn_22 : decode cX10_goOn 22 = .ok (.getfield 195, 3) := by decide +kernel
theorem dX10_goOn_25 : decode cX10_goOn 25 = .ok (.iload 4, 2) := by decide +kernel
theorem dX10_goOn_27 : decode cX10_goOn 27 = .ok (.if_icmp .ge 5, 3) := by decide +kernel
theorem dX10_goOn_30 : decode cX10_goOn 30 = .ok (.iconst 0, 1) := by decide +kernel
theorem dX10_goOn_31 : decode cX10_goOn 31 = .ok (.ireturn, 1) := by decide +kernel
theorem dX10_goOn_32 : decode cX10_goOn 32 = .ok (.aload_n 1, 1) := by decide +kernel
theorem dX10_goOn_33 : decode cX10_goOn 33 = .ok (.dup, 1) := by decide +kernel
theorem dX10_goOn_34 : decode cX10_goOn 34 = .ok (.getfield 195, 3) := by decide +kernel
theorem dX10_goOn_37 : decode cX10_goOn 37 = .ok (.iload 4, 2) := by decide +kernel
theorem dX10_goOn_39 : decode cX10_goOn 39 = .ok (.isub, 1) := by decide +kernel
theorem dX10_goOn_40 : decode cX10_goOn 40 = .ok (.putfield 195, 3) := by decide +kernel
theorem dX10_goOn_43 : decode cX10_goOn 43 = .ok (.aload_n 1, 1) := by decide +kernel
theorem dX10_goOn_44 : decode cX10_goOn 44 = .ok (.dup, 1) := by decide +kernel
theorem dX10_goOn_45 : decode cX10_goOn 45 = .ok (.getfield 201, 3) := by decide +kernel
theorem dX10_goOn_48 : decode cX10_goOn 48 = .ok (.iconst 1, 1) := by decide +kernel
theorem dX10_goOn_49 : decode cX10_goOn 49 = .ok (.iadd, 1) := by decide +kernel
theorem dX10_goOn_50 : decode cX10_goOn 50 = .ok (.putfield 201, 3) := by decide +kernel
theorem dX10_goOn_53 : decode cX10_goOn 53 = .ok (.aload_n 0, 1) := by decide +kernel
theorem dX10_goOn_54 : decode cX10_goOn 54 = .ok (.getfield 92, 3) := by decide +kernel
theorem dX10_goOn_57 : decode cX10_goOn 57 = .ok (.aload_n 1, 1) := by decide +kernel
theorem dX10_goOn_58 : decode cX10_goOn 58 = .ok (.getfield 183, 3) := by decide +kernel
theorem dX10_goOn_61 : decode cX10_goOn 61 = .ok (.aload_n 1, 1) := by decide +kernel
theorem dX10_goOn_62 : decode cX10_goOn 62 = .ok (.getfield 192, 3) := by decide +kernel
theorem dX10_goOn_65 : decode cX10_goOn 65 = .ok (.invokevirtual 211, 3) := by decide +kernel
theorem dX10_goOn_68 : decode cX10_goOn 68 = .ok (.istore 5, 2) := by decide +kernel
theorem dX10_goOn_70 : decode cX10_goOn 70 = .ok (.aload_n 0, 1) := by decide +kernel
theorem dX10_goOn_71 : decode cX10_goOn 71 = .ok (.getfield 92, 3) := by decide +kernel
theorem dX10_goOn_74 : decode cX10_goOn 74 = .ok (.getfield 128, 3) := by decide +kernel
theorem dX10_goOn_77 : decode cX10_goOn 77 = .ok (.aload_n 1, 1) := by decide +kernel
theorem dX10_goOn_78 : decode cX10_goOn 78 = .ok (.getfield 166, 3) := by decide +kernel
theorem dX10_goOn_81 : decode cX10_goOn 81 = .ok (.ldc2_w 305, 3) := by decide +kernel
theorem dX10_goOn_84 : decode cX10_goOn 84 = .ok (.lxor, 1) := by decide +kernel
theorem dX10_goOn_85 : decode cX10_goOn 85 = .ok (.land, 1) := by decide +kernel
theorem dX10_goOn_86 : decode cX10_goOn 86 = .ok (.iload 5, 2) := by decide +kernel
theorem dX10_goOn_88 : decode cX10_goOn 88 = .ok (.invokestatic 169, 3) := by decide +kernel
theorem dX10_goOn_91 : decode cX10_goOn 91 = .ok (.ifCond .eq 12, 3) := by decide +kernel
theorem dX10_goOn_94 : decode cX10_goOn 94 = .ok (.aload_n 1, 1) := by decide +kernel
theorem dX10_goOn_95 : decode cX10_goOn 95 = .ok (.iload 5, 2) := by decide +kernel
theorem dX10_goOn_97 : decode cX10_goOn 97 = .ok (.invokevirtual 307, 3) := by decide +kernel
theorem dX10_goOn_100 : decode cX10_goOn 100 = .ok (.goto 28, 3) := by decide +kernel
theorem dX10_goOn_103 : decode cX10_goOn 103 = .ok (.aload_n 1, 1) := by decide +kernel
theorem dX10_goOn_104 : decode cX10_goOn 104 = .ok (.iload_n 3, 1) := by decide +kernel
theorem dX10_goOn_105 : decode cX10_goOn 105 = .ok (.iconst (-1), 1) := by decide +kernel
theorem dX10_goOn_106 : decode cX10_goOn 106 = .ok (.if_icmp .ne 18, 3) := by decide +kernel
theorem dX10_goOn_109 : decode cX10_goOn 109 = .ok (.aload_n 0, 1) := by decide +kernel
theorem dX10_goOn_110 : decode cX10_goOn 110 = .ok (.getfield 102, 3) := by decide +kernel
theorem dX10_goOn_113 : decode cX10_goOn 113 = .ok (.aload_n 1, 1) := by decide +kernel
theorem dX10_goOn_114 : decode cX10_goOn 114 = .ok (.aload_n 0, 1) := by decide +kernel
theorem dX10_goOn_115 : decode cX10_goOn 115 = .ok (.getfield 92, 3) := by decide +kernel
theorem dX10_goOn_118 : decode cX10_goOn 118 = .ok (.invokevirtual 207, 3) := by decide +kernel
theorem dX10_goOn_121 : decode cX10_goOn 121 = .ok (.goto 4, 3) := by decide +kernel
theorem dX10_goOn_124 : decode cX10_goOn 124 = .ok (.iload_n 3, 1) := by decide +kernel
theorem dX10_goOn_125 : decode cX10_goOn 125 = .ok (.invokevirtual 310, 3) := by decide +kernel
theorem dX10_goOn_128 : decode cX10_goOn 128 = .ok (.iconst 1, 1) := by decide +kernel
theorem dX10_goOn_129 : decode cX10_goOn 129 = .ok (.ireturn, 1) := by decide +kernel
theorem dX10_been_0 : decode cX10_been 0 = .ok (.iload_n 1, 1) := by decide +kernel
theorem dX10_been_1 : decode cX10_been 1 = .ok (.ifCond .lt 10, 3) := by decide +kernel
theorem dX10_been_4 : decode cX10_been 4 = .ok (.iload_n 1, 1) := by decide +kernel
theorem dX10_been_5 : decode cX10_been 5 = .ok (.sipush 200, 3) := by decide +kernel
theorem dX10_been_8 : decode cX10_been 8 = .ok (.if_icmp .le 5, 3) := by decide +kernel
theorem dX10_been_11 : decode cX10_been 11 = .ok (.iconst (-1), 1) := by decide +kernel
theorem dX10_been_12 : decode cX10_been 12 = .ok (.ireturn, 1) := by decide +kernel
theorem dX10_been_13 : decode cX10_been 13 = .ok (.aload_n 0, 1) := by decide +kernel
theorem dX10_been_14 : decode cX10_been 14 = .ok (.getfield 68, 3) := by decide +kernel
theorem dX10_been_17 : decode cX10_been 17 = .ok (.aload_n 0, 1) := by decide +kernel
theorem dX10_been_18 : decode cX10_been 18 = .ok (.getfield 61, 3) := by decide +kernel
theorem dX10_been_21 : decode cX10_been 21 = .ok (.invokevirtual 230, 3) := by decide +kernel
theorem dX10_been_24 : decode cX10_been 24 = .ok (.aload_n 0, 1) := by decide +kernel
theorem dX10_been_25 : decode cX10_been 25 = .ok (.getfield 68, 3) := by decide +kernel
theorem dX10_been_28 : decode cX10_been 28 = .ok (.getfield 183, 3) := by decide +kernel
theorem dX10_been_31 : decode cX10_been 31 = .ok (.invokestatic 289, 3) := by decide +kernel
theorem dX10_been_34 : decode cX10_been 34 = .ok (.lstore_n 2, 1) := by decide +kernel
theorem dX10_been_35 : decode cX10_been 35 = .ok (.iconst 0, 1) := by decide +kernel
theorem dX10_been_36 : decode cX10_been 36 = .ok (.istore 4, 2) := by decide +kernel
theorem dX10_been_38 : decode cX10_been 38 = .ok (.iload 4, 2) := by decide +kernel
theorem dX10_been_40 : decode cX10_been 40 = .ok (.iload_n 1, 1) := by decide +kernel
theorem dX10_been_41 : decode cX10_been 41 = .ok (.if_icmp .ge 35, 3) := by decide +kernel
theorem dX10_been_44 : decode cX10_been 44 = .ok (.aload_n 0, 1) := by decide +kernel
theorem dX10_been_45 : decode cX10_been 45 = .ok (.aload_n 0, 1) := by decide +kernel
theorem dX10_been_46 : decode cX10_been 46 = .ok (.getfield 68, 3) := by decide +kernel
theorem dX10_been_49 : decode cX10_been 49 = .ok (.iconst 1, 1) := by decide +kernel
theorem dX10_been_50 : decode cX10_been 50 = .ok (.iconst (-1), 1) := by decide +kernel
theorem dX10_been_51 : decode cX10_been 51 = .ok (.invokevirtual 278, 3) := by decide +kernel
theorem dX10_been_54 : decode cX10_been 54 = .ok (.ifCond .eq 22, 3) := by decide +kernel
theorem dX10_been_57 : decode cX10_been 57 = .ok (.lload_n 2, 1) := by decide +kernel
theorem dX10_been_58 : decode cX10_been 58 = .ok (.aload_n 0, 1) := by decide +kernel
theorem dX10_been_59 : decode cX10_been 59 = .ok (.getfield 68, 3) := by decide +kernel
theorem dX10_been_62 : decode cX10_been 62 = .ok (.getfield 183, 3) := by decide +kernel
theorem dX10_been_65 : decode cX10_been 65 = .ok (.invokestatic 289, 3) := by decide +kernel
theorem dX10_been_68 : decode cX10_been 68 = .ok (.lor, 1) := by decide +kernel
theorem dX10_been_69 : decode cX10_been 69 = .ok (.lstore_n 2, 1) := by decide +kernel
theorem dX10_been_70 : decode cX10_been 70 = .ok (.iinc 4 1, 3) := by decide +kernel
theorem dX10_been_73 : decode cX10_been 73 = .ok (.goto (-35), 3) := by decide +kernel
theorem dX10_been_76 : decode cX10_been 76 = .ok (.aload_n 0, 1) := by decide +kernel
theorem dX10_been_77 : decode cX10_been 77 = .ok (.getfield 19, 3) := by decide +kernel
theorem dX10_been_80 : decode cX10_been 80 = .ok (.invokevirtual 267, 3) := by decide +kernel
theorem dX10_been_83 : decode cX10_been 83 = .ok (.aload_n 0, 1) := by decide +kernel
theorem dX10_been_84 : decode cX10_been 84 = .ok (.getfield 19, 3) := by decide +kernel
theorem dX10_been_87 : decode cX10_been 87 = .ok (.lload_n 2, 1) := by decide +kernel
theorem dX10_been_88 : decode cX10_been 88 = .ok (.invokevirtual 269, 3) := by decide +kernel
theorem dX10_been_91 : decode cX10_been 91 = .ok (.aload_n 0, 1) := by decide +kernel
theorem dX10_been_92 : decode cX10_been 92 = .ok (.getfield 19, 3) := by decide +kernel
theorem dX10_been_95 : decode cX10_been 95 = .ok (.aload_n 0, 1) := by decide +kernel
theorem dX10_been_96 : decode cX10_been 96 = .ok (.getfield 68, 3) := by decide +kernel
theorem dX10_been_99 : decode cX10_been 99 = .ok (.getfield 183, 3) := by decide +kernel
theorem dX10_been_102 : decode cX10_been 102 = .ok (.i2l, 1) := by decide +kernel
theorem dX10_been_103 : decode cX10_been 103 = .ok (.invokevirtual 269, 3) := by decide +kernel
theorem dX10_been_106 : decode cX10_been 106 = .ok (.aload_n 0, 1) := by decide +kernel
theorem dX10_been_107 : decode cX10_been 107 = .ok (.getfield 19, 3) := by decide +kernel
theorem dX10_been_110 : decode cX10_been 110 = .ok (.aload_n 0, 1) := by decide +kernel
theorem dX10_been_111 : decode cX10_been 111 = .ok (.getfield 68, 3) := by decide +kernel
theorem dX10_been_114 : decode cX10_been 114 = .ok (.getfield 195, 3) := by decide +kernel
theorem dX10_been_117 : decode cX10_been 117 = .ok (.i2l, 1) := by decide +kernel
theorem dX10_been_118 : decode cX10_been 118 = .ok (.invokevirtual 269, 3) := by decide +kernel
theorem dX10_been_121 : decode cX10_been 121 = .ok (.lload_n 2, 1) := by decide +kernel
theorem dX10_been_122 : decode cX10_been 122 = .ok (.invokestatic 143, 3) := by decide +kernel
theorem dX10_been_125 : decode cX10_been 125 = .ok (.ireturn, 1) := by decide +kernel
theorem dX10_all_0 : decode cX10_all 0 = .ok (.aload_n 0, 1) := by decide +kernel
theorem dX10_all_1 : decode cX10_all 1 = .ok (.getfield 92, 3) := by decide +kernel
theorem dX10_all_4 : decode cX10_all 4 = .ok (.aload_n 0, 1) := by decide +kernel
theorem dX10_all_5 : decode cX10_all 5 = .ok (.invokevirtual 186, 3) := by decide +kernel
theorem dX10_all_8 : decode cX10_all 8 = .ok (.aload_n 0, 1) := by decide +kernel
theorem dX10_all_9 : decode cX10_all 9 = .ok (.getfield 61, 3) := by decide +kernel
theorem dX10_all_12 : decode cX10_all 12 = .ok (.getfield 183, 3) := by decide +kernel
theorem dX10_all_15 : decode cX10_all 15 = .ok (.invokevirtual 313, 3) := by decide +kernel
theorem dX10_all_18 : decode cX10_all 18 = .ok (.lstore_n 1, 1) := by decide +kernel
theorem dX10_all_19 : decode cX10_all 19 = .ok (.aload_n 0, 1) := by decide +kernel
theorem dX10_all_20 : decode cX10_all 20 = .ok (.lload_n 1, 1) := by decide +kernel
theorem dX10_all_21 : decode cX10_all 21 = .ok (.iconst (-1), 1) := by decide +kernel
theorem dX10_all_22 : decode cX10_all 22 = .ok (.invokevirtual 317, 3) := by decide +kernel
theorem dX10_all_25 : decode cX10_all 25 = .ok (.istore_n 3, 1) := by decide +kernel
theorem dX10_all_26 : decode cX10_all 26 = .ok (.iload_n 3, 1) := by decide +kernel
theorem dX10_all_27 : decode cX10_all 27 = .ok (.sipush 999, 3) := by decide +kernel
theorem dX10_all_30 : decode cX10_all 30 = .ok (.if_icmp .le 6, 3) := by decide +kernel
theorem dX10_all_33 : decode cX10_all 33 = .ok (.bipush (-2), 2) := by decide +kernel
theorem dX10_all_35 : decode cX10_all 35 = .ok (.ireturn, 1) := by decide +kernel
theorem dX10_all_36 : decode cX10_all 36 = .ok (.aload_n 0, 1) := by decide +kernel
theorem dX10_all_37 : decode cX10_all 37 = .ok (.getfield 19, 3) := by decide +kernel
theorem dX10_all_40 : decode cX10_all 40 = .ok (.invokevirtual 267, 3) := by decide +kernel
theorem dX10_all_43 : decode cX10_all 43 = .ok (.aload_n 0, 1) := by decide +kernel
theorem dX10_all_44 : decode cX10_all 44 = .ok (.getfield 19, 3) := by decide +kernel
theorem dX10_all_47 : decode cX10_all 47 = .ok (.lload_n 1, 1) := by decide +kernel
theorem dX10_all_48 : decode cX10_all 48 = .ok (.invokestatic 143, 3) := by decide +kernel
theorem dX10_all_51 : decode cX10_all 51 = .ok (.i2l, 1) := by decide +kernel
theorem dX10_all_52 : decode cX10_all 52 = .ok (.invokevirtual 269, 3) := by decide +kernel
theorem dX10_all_55 : decode cX10_all 55 = .ok (.iload_n 3, 1) := by decide +kernel
theorem dX10_all_56 : decode cX10_all 56 = .ok (.ireturn, 1) := by decide +kernel
theorem dX10_never_0 : decode cX10_never 0 = .ok (.aload_n 0, 1) := by decide +kernel
theorem dX10_never_1 : decode cX10_never 1 = .ok (.getfield 92, 3) := by decide +kernel
theorem dX10_never_4 : decode cX10_never 4 = .ok (.aload_n 0, 1) := by decide +kernel
theorem dX10_never_5 : decode cX10_never 5 = .ok (.invokevirtual 186, 3) := by decide +kernel
theorem dX10_never_8 : decode cX10_never 8 = .ok (.aload_n 0, 1) := by decide +kernel
theorem dX10_never_9 : decode cX10_never 9 = .ok (.getfield 61, 3) := by decide +kernel
theorem dX10_never_12 : decode cX10_never 12 = .ok (.getfield 183, 3) := by decide +kernel
theorem dX10_never_15 : decode cX10_never 15 = .ok (.invokevirtual 313, 3) := by decide +kernel
theorem dX10_never_18 : decode cX10_never 18 = .ok (.aload_n 0, 1) := by decide +kernel
theorem dX10_never_19 : decode cX10_never 19 = .ok (.getfield 61, 3) := by decide +kernel
theorem dX10_never_22 : decode cX10_never 22 = .ok (.getfield 183, 3) := by decide +kernel
theorem dX10_never_25 : decode cX10_never 25 = .ok (.invokestatic 289, 3) := by decide +kernel
theorem dX10_never_28 : decode cX10_never 28 = .ok (.ldc2_w 305, 3) := by decide +kernel
theorem dX10_never_31 : decode cX10_never 31 = .ok (.lxor, 1) := by decide +kernel
theorem dX10_never_32 : decode cX10_never 32 = .ok (.land, 1) := by decide +kernel
theorem dX10_never_33 : decode cX10_never 33 = .ok (.lstore_n 1, 1) := by decide +kernel
theorem dX10_never_34 : decode cX10_never 34 = .ok (.aload_n 0, 1) := by decide +kernel
theorem dX10_never_35 : decode cX10_never 35 = .ok (.getfield 68, 3) := by decide +kernel
theorem dX10_never_38 : decode cX10_never 38 = .ok (.aload_n 0, 1) := by decide +kernel
theorem dX10_never_39 : decode cX10_never 39 = .ok (.getfield 61, 3) := by decide +kernel
theorem dX10_never_42 : decode cX10_never 42 = .ok (.invokevirtual 230, 3) := by decide +kernel
theorem dX10_never_45 : decode cX10_never 45 = .ok (.iconst 0, 1) := by decide +kernel
theorem dX10_never_46 : decode cX10_never 46 = .ok (.istore_n 3, 1) := by decide +kernel
theorem dX10_never_47 : decode cX10_never 47 = .ok (.iload_n 3, 1) := by decide +kernel
theorem dX10_never_48 : decode cX10_never 48 = .ok (.sipush 999, 3) := by decide +kernel
theorem dX10_never_51 : decode cX10_never 51 = .ok (.if_icmp .ge 45, 3) := by decide +kernel
theorem dX10_never_54 : decode cX10_never 54 = .ok (.lload_n 1, 1) := by decide +kernel
theorem dX10_never_55 : decode cX10_never 55 = .ok (.lconst 0, 1) := by decide +kernel
theorem dX10_never_56 : decode cX10_never 56 = .ok (.lcmp, 1) := by decide +kernel
theorem dX10_never_57 : decode cX10_never 57 = .ok (.ifCond .eq 39, 3) := by decide +kernel
theorem dX10_never_60 : decode cX10_never 60 = .ok (.aload_n 0, 1) := by decide +kernel
theorem dX10_never_61 : decode cX10_never 61 = .ok (.aload_n 0, 1) := by decide +kernel
theorem dX10_never_62 : decode cX10_never 62 = .ok (.getfield 68, 3) := by decide +kernel
theorem dX10_never_65 : decode cX10_never 65 = .ok (.iconst 0, 1) := by decide +kernel
theorem dX10_never_66 : decode cX10_never 66 = .ok (.iconst (-1), 1) := by decide +kernel
theorem dX10_never_67 : decode cX10_never 67 = .ok (.invokevirtual 278, 3) := by decide +kernel
theorem dX10_never_70 : decode cX10_never 70 = .ok (.ifCond .eq 26, 3) := by decide +kernel
theorem dX10_never_73 : decode cX10_never 73 = .ok (.lload_n 1, 1) := by decide +kernel
theorem dX10_never_74 : decode cX10_never 74 = .ok (.aload_n 0, 1) := by decide +kernel
theorem dX10_never_75 : decode cX10_never 75 = .ok (.getfield 68, 3) := by decide +kernel
theorem dX10_never_78 : decode cX10_never 78 = .ok (.getfield 183, 3) := by decide +kernel
theorem dX10_never_81 : decode cX10_never 81 = .ok (.invokestatic 289, 3) := by decide +kernel
theorem dX10_never_84 : decode cX10_never 84 = .ok (.ldc2_w 305, 3) := by decide +kernel
theorem dX10_never_87 : decode cX10_never 87 = .ok (.lxor, 1) := by decide +kernel
theorem dX10_never_88 : decode cX10_never 88 = .ok (.land, 1) := by decide +kernel
theorem dX10_never_89 : decode cX10_never 89 = .ok (.lstore_n 1, 1) := by decide +kernel
theorem dX10_never_90 : decode cX10_never 90 = .ok (.iinc 3 1, 3) := by decide +kernel
theorem dX10_never_93 : decode cX10_never 93 = .ok (.goto (-46), 3) := by decide +kernel
theorem dX10_never_96 : decode cX10_never 96 = .ok (.aload_n 0, 1) := by decide +kernel
theorem dX10_never_97 : decode cX10_never 97 = .ok (.getfield 19, 3) := by decide +kernel
theorem dX10_never_100 : decode cX10_never 100 = .ok (.invokevirtual 267, 3) := by decide +kernel
theorem dX10_never_103 : decode cX10_never 103 = .ok (.aload_n 0, 1) := by decide +kernel
theorem dX10_never_104 : decode cX10_never 104 = .ok (.getfield 19, 3) := by decide +kernel
theorem dX10_never_107 : decode cX10_never 107 = .ok (.lload_n 1, 1) := by decide +kernel
theorem dX10_never_108 : decode cX10_never 108 = .ok (.invokevirtual 269, 3) := by decide +kernel
theorem dX10_never_111 : decode cX10_never 111 = .ok (.lload_n 1, 1) := by decide +kernel
theorem dX10_never_112 : decode cX10_never 112 = .ok (.invokestatic 143, 3) := by decide +kernel
theorem dX10_never_115 : decode cX10_never 115 = .ok (.ireturn, 1) := by decide +kernel
theorem dX10_angle_0 : decode cX10_angle 0 = .ok (.aload_n 0, 1) := by decide +kernel
theorem dX10_angle_1 : decode cX10_angle 1 = .ok (.getfield 92, 3) := by decide +kernel
theorem dX10_angle_4 : decode cX10_angle 4 = .ok (.aload_n 0, 1) := by decide +kernel
theorem dX10_angle_5 : decode cX10_angle 5 = .ok (.invokevirtual 186, 3) := by decide +kernel
theorem dX10_angle_8 : decode cX10_angle 8 = .ok (.aload_n 0, 1) := by decide +kernel
theorem dX10_angle_9 : decode cX10_angle 9 = .ok (.getfield 61, 3) := by decide +kernel
theorem dX10_angle_12 : decode cX10_angle 12 = .ok (.getfield 183, 3) := by decide +kernel
theorem dX10_angle_15 : decode cX10_angle 15 = .ok (.invokevirtual 313, 3) := by decide +kernel
theorem dX10_angle_18 : decode cX10_angle 18 = .ok (.lstore_n 1, 1) := by decide +kernel
theorem dX10_angle_19 : decode cX10_angle 19 = .ok (.aload_n 0, 1) := by decide +kernel
theorem dX10_angle_20 : decode cX10_angle 20 = .ok (.lload_n 1, 1) := by decide +kernel
theorem dX10_angle_21 : decode cX10_angle 21 = .ok (.iconst 1, 1) := by decide +kernel
theorem dX10_angle_22 : decode cX10_angle 22 = .ok (.invokevirtual 317, 3) := by decide +kernel
theorem dX10_angle_25 : decode cX10_angle 25 = .ok (.istore_n 3, 1) := by decide +kernel
theorem dX10_angle_26 : decode cX10_angle 26 = .ok (.aload_n 0, 1) := by decide +kernel
theorem dX10_angle_27 : decode cX10_angle 27 = .ok (.lload_n 1, 1) := by decide +kernel
theorem dX10_angle_28 : decode cX10_angle 28 = .ok (.iconst 2, 1) := by decide +kernel
theorem dX10_angle_29 : decode cX10_angle 29 = .ok (.invokevirtual 317, 3) := by decide +kernel
theorem dX10_angle_32 : decode cX10_angle 32 = .ok (.istore 4, 2) := by decide +kernel
theorem dX10_angle_34 : decode cX10_angle 34 = .ok (.aload_n 0, 1) := by decide +kernel
theorem dX10_angle_35 : decode cX10_angle 35 = .ok (.lload_n 1, 1) := by decide +kernel
theorem dX10_angle_36 : decode cX10_angle 36 = .ok (.iconst 3, 1) := by decide +kernel
theorem dX10_angle_37 : decode cX10_angle 37 = .ok (.invokevirtual 317, 3) := by decide +kernel
theorem dX10_angle_40 : decode cX10_angle 40 = .ok (.istore 5, 2) := by decide +kernel
theorem dX10_angle_42 : decode cX10_angle 42 = .ok (.iload_n 3, 1) := by decide +kernel
theorem dX10_angle_43 : decode cX10_angle 43 = .ok (.iload 4, 2) := by decide +kernel
theorem dX10_angle_45 : decode cX10_angle 45 = .ok (.iload 5, 2) := by decide +kernel
theorem dX10_angle_47 : decode cX10_angle 47 = .ok (.invokestatic 293, 3) := by decide +kernel
theorem dX10_angle_50 : decode cX10_angle 50 = .ok (.invokestatic 293, 3) := by decide +kernel
theorem dX10_angle_53 : decode cX10_angle 53 = .ok (.istore 6, 2) := by decide +kernel
theorem dX10_angle_55 : decode cX10_angle 55 = .ok (.aload_n 0, 1) := by decide +kernel
theorem dX10_angle_56 : decode cX10_angle 56 = .ok (.getfield 19, 3) := by decide +kernel
theorem dX10_angle_59 : decode cX10_angle 59 = .ok (.invokevirtual 267, 3) := by decide +kernel
theorem dX10_angle_62 : decode cX10_angle 62 = .ok (.aload_n 0, 1) := by decide +kernel
theorem dX10_angle_63 : decode cX10_angle 63 = .ok (.getfield 19, 3) := by decide +kernel
theorem dX10_angle_66 : decode cX10_angle 66 = .ok (.iload 6, 2) := by decide +kernel
theorem dX10_angle_68 : decode cX10_angle 68 = .ok (.i2l, 1) := by decide +kernel
theorem dX10_angle_69 : decode cX10_angle 69 = .ok (.invokevirtual 269, 3) := by decide +kernel
theorem dX10_angle_72 : decode cX10_angle 72 = .ok (.aload_n 0, 1) := by decide +kernel
theorem dX10_angle_73 : decode cX10_angle 73 = .ok (.getfield 19, 3) := by decide +kernel
theorem dX10_angle_76 : decode cX10_angle 76 = .ok (.iload_n 3, 1) := by decide +kernel
theorem dX10_angle_77 : decode cX10_angle 77 = .ok (.i2l, 1) := by decide +kernel
theorem dX10_angle_78 : decode cX10_angle 78 = .ok (.invokevirtual 269, 3) := by decide +kernel
theorem dX10_angle_81 : decode cX10_angle 81 = .ok (.aload_n 0, 1) := by decide +kernel
theorem dX10_angle_82 : decode cX10_angle 82 = .ok (.getfield 19, 3) := by decide +kernel
theorem dX10_angle_85 : decode cX10_angle 85 = .ok (.iload 4, 2) := by decide +kernel
theorem dX10_angle_87 : decode cX10_angle 87 = .ok (.i2l, 1) := by decide +kernel
theorem dX10_angle_88 : decode cX10_angle 88 = .ok (.invokevirtual 269, 3) := by decide +kernel
theorem dX10_angle_91 : decode cX10_angle 91 = .ok (.aload_n 0, 1) := by decide +kernel
theorem dX10_angle_92 : decode cX10_angle 92 = .ok (.getfield 19, 3) := by decide +kernel
theorem dX10_angle_95 : decode cX10_angle 95 = .ok (.iload 5, 2) := by decide +kernel
theorem dX10_angle_97 : decode cX10_angle 97 = .ok (.i2l, 1) := by decide +kernel
theorem dX10_angle_98 : decode cX10_angle 98 = .ok (.invokevirtual 269, 3) := by decide +kernel
theorem dX10_angle_101 : decode cX10_angle 101 = .ok (.iload_n 3, 1) := by decide +kernel
theorem dX10_angle_102 : decode cX10_angle 102 = .ok (.iload 6, 2) := by decide +kernel
theorem dX10_angle_104 : decode cX10_angle 104 = .ok (.if_icmp .ne 5, 3) := by decide +kernel
theorem dX10_angle_107 : decode cX10_angle 107 = .ok (.iconst 1, 1) := by decide +kernel
theorem dX10_angle_108 : decode cX10_angle 108 = .ok (.ireturn, 1) := by decide +kernel
theorem dX10_angle_109 : decode cX10_angle 109 = .ok (.iload 4, 2) := by decide +kernel
theorem dX10_angle_111 : decode cX10_angle 111 = .ok (.iload 6, 2) := by decide +kernel
theorem dX10_angle_113 : decode cX10_angle 113 = .ok (.if_icmp .ne 7, 3) := by decide +kernel
theorem dX10_angle_116 : decode cX10_angle 116 = .ok (.iconst 2, 1) := by decide +kernel
theorem dX10_angle_117 : decode cX10_angle 117 = .ok (.goto 4, 3) := by decide +kernel
theorem dX10_angle_120 : decode cX10_angle 120 = .ok (.iconst 3, 1) := by decide +kernel
theorem dX10_angle_121 : decode cX10_angle 121 = .ok (.ireturn, 1) := by decide +kernel
