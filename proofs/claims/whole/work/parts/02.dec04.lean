theorem dX10_meets_0 : decode cX10_meets 0 = .ok (.aload_n 0, 1) := by decide +kernel
theorem dX10_meets_1 : decode cX10_meets 1 = .ok (.getfield 92, 3) := by decide +kernel
theorem dX10_meets_4 : decode cX10_meets 4 = .ok (.getfield 180, 3) := by decide +kernel
theorem dX10_meets_7 : decode cX10_meets 7 = .ok (.iconst (-1), 1) := by decide +kernel
theorem dX10_meets_8 : decode cX10_meets 8 = .ok (.if_icmp .ne 6, 3) := by decide +kernel
theorem dX10_meets_11 : decode cX10_meets 11 = .ok (.bipush (-2), 2) := by decide +kernel
theorem dX10_meets_13 : decode cX10_meets 13 = .ok (.ireturn, 1) := by decide +kernel
theorem dX10_meets_14 : decode cX10_meets 14 = .ok (.aload_n 0, 1) := by decide +kernel
theorem dX10_meets_15 : decode cX10_meets 15 = .ok (.aload_n 0, 1) := by decide +kernel
theorem dX10_meets_16 : decode cX10_meets 16 = .ok (.getfield 92, 3) := by decide +kernel
theorem dX10_meets_19 : decode cX10_meets 19 = .ok (.getfield 180, 3) := by decide +kernel
theorem dX10_meets_22 : decode cX10_meets 22 = .ok (.invokestatic 289, 3) := by decide +kernel
theorem dX10_meets_25 : decode cX10_meets 25 = .ok (.iconst (-1), 1) := by decide +kernel
theorem dX10_meets_26 : decode cX10_meets 26 = .ok (.invokevirtual 317, 3) := by decide +kernel
theorem dX10_meets_29 : decode cX10_meets 29 = .ok (.istore_n 1, 1) := by decide +kernel
theorem dX10_meets_30 : decode cX10_meets 30 = .ok (.iload_n 1, 1) := by decide +kernel
theorem dX10_meets_31 : decode cX10_meets 31 = .ok (.sipush 999, 3) := by decide +kernel
theorem dX10_meets_34 : decode cX10_meets 34 = .ok (.if_icmp .le 8, 3) := by decide +kernel
theorem dX10_meets_37 : decode cX10_meets 37 = .ok (.bipush (-2), 2) := by decide +kernel
theorem dX10_meets_39 : decode cX10_meets 39 = .ok (.goto 4, 3) := by decide +kernel
theorem dX10_meets_42 : decode cX10_meets 42 = .ok (.iload_n 1, 1) := by decide +kernel
theorem dX10_meets_43 : decode cX10_meets 43 = .ok (.ireturn, 1) := by decide +kernel
theorem dX10_round_0 : decode cX10_round 0 = .ok (.aload_n 0, 1) := by decide +kernel
theorem dX10_round_1 : decode cX10_round 1 = .ok (.getfield 68, 3) := by decide +kernel
theorem dX10_round_4 : decode cX10_round 4 = .ok (.aload_n 0, 1) := by decide +kernel
theorem dX10_round_5 : decode cX10_round 5 = .ok (.getfield 61, 3) := by decide +kernel
theorem dX10_round_8 : decode cX10_round 8 = .ok (.invokevirtual 230, 3) := by decide +kernel
theorem dX10_round_11 : decode cX10_round 11 = .ok (.iconst 1, 1) := by decide +kernel
theorem dX10_round_12 : decode cX10_round 12 = .ok (.istore_n 1, 1) := by decide +kernel
theorem dX10_round_13 : decode cX10_round 13 = .ok (.iload_n 1, 1) := by decide +kernel
theorem dX10_round_14 : decode cX10_round 14 = .ok (.sipush 999, 3) := by decide +kernel
theorem dX10_round_17 : decode cX10_round 17 = .ok (.if_icmp .gt 88, 3) := by decide +kernel
theorem dX10_round_20 : decode cX10_round 20 = .ok (.aload_n 0, 1) := by decide +kernel
theorem dX10_round_21 : decode cX10_round 21 = .ok (.aload_n 0, 1) := by decide +kernel
theorem dX10_round_22 : decode cX10_round 22 = .ok (.getfield 68, 3) := by decide +kernel
theorem dX10_round_25 : decode cX10_round 25 = .ok (.iconst 0, 1) := by decide +kernel
theorem dX10_round_26 : decode cX10_round 26 = .ok (.iconst (-1), 1) := by decide +kernel
theorem dX10_round_27 : decode cX10_round 27 = .ok (.invokevirtual 278, 3) := by decide +kernel
theorem dX10_round_30 : decode cX10_round 30 = .ok (.ifCond .eq 75, 3) := by decide +kernel
theorem dX10_round_33 : decode cX10_round 33 = .ok (.aload_n 0, 1) := by decide +kernel
theorem dX10_round_34 : decode cX10_round 34 = .ok (.getfield 68, 3) := by decide +kernel
theorem dX10_round_37 : decode cX10_round 37 = .ok (.getfield 183, 3) := by decide +kernel
theorem dX10_round_40 : decode cX10_round 40 = .ok (.aload_n 0, 1) := by decide +kernel
theorem dX10_round_41 : decode cX10_round 41 = .ok (.getfield 61, 3) := by decide +kernel
theorem dX10_round_44 : decode cX10_round 44 = .ok (.getfield 183, 3) := by decide +kernel
theorem dX10_round_47 : decode cX10_round 47 = .ok (.if_icmp .ne 52, 3) := by decide +kernel
theorem dX10_round_50 : decode cX10_round 50 = .ok (.aload_n 0, 1) := by decide +kernel
theorem dX10_round_51 : decode cX10_round 51 = .ok (.getfield 68, 3) := by decide +kernel
theorem dX10_round_54 : decode cX10_round 54 = .ok (.getfield 192, 3) := by decide +kernel
theorem dX10_round_57 : decode cX10_round 57 = .ok (.aload_n 0, 1) := by decide +kernel
theorem dX10_round_58 : decode cX10_round 58 = .ok (.getfield 61, 3) := by decide +kernel
theorem dX10_round_61 : decode cX10_round 61 = .ok (.getfield 192, 3) := by decide +kernel
theorem dX10_round_64 : decode cX10_round 64 = .ok (.if_icmp .ne 35, 3) := by decide +kernel
theorem dX10_round_67 : decode cX10_round 67 = .ok (.aload_n 0, 1) := by decide +kernel
theorem dX10_round_68 : decode cX10_round 68 = .ok (.getfield 19, 3) := by decide +kernel
theorem dX10_round_71 : decode cX10_round 71 = .ok (.invokevirtual 267, 3) := by decide +kernel
theorem dX10_round_74 : decode cX10_round 74 = .ok (.aload_n 0, 1) := by decide +kernel
theorem dX10_round_75 : decode cX10_round 75 = .ok (.getfield 19, 3) := by decide +kernel
theorem dX10_round_78 : decode cX10_round 78 = .ok (.aload_n 0, 1) := by decide +kernel
theorem dX10_round_79 : decode cX10_round 79 = .ok (.getfield 68, 3) := by decide +kernel
theorem dX10_round_82 : decode cX10_round 82 = .ok (.getfield 204, 3) := by decide +kernel
theorem dX10_round_85 : decode cX10_round 85 = .ok (.aload_n 0, 1) := by decide +kernel
theorem dX10_round_86 : decode cX10_round 86 = .ok (.getfield 61, 3) := by decide +kernel
theorem dX10_round_89 : decode cX10_round 89 = .ok (.getfield 204, 3) := by decide +kernel
theorem dX10_round_92 : decode cX10_round 92 = .ok (.isub, 1) := by decide +kernel
theorem dX10_round_93 : decode cX10_round 93 = .ok (.i2l, 1) := by decide +kernel
theorem dX10_round_94 : decode cX10_round 94 = .ok (.invokevirtual 269, 3) := by decide +kernel
theorem dX10_round_97 : decode cX10_round 97 = .ok (.iload_n 1, 1) := by decide +kernel
theorem dX10_round_98 : decode cX10_round 98 = .ok (.ireturn, 1) := by decide +kernel
theorem dX10_round_99 : decode cX10_round 99 = .ok (.iinc 1 1, 3) := by decide +kernel
theorem dX10_round_102 : decode cX10_round 102 = .ok (.goto (-89), 3) := by decide +kernel
theorem dX10_round_105 : decode cX10_round 105 = .ok (.bipush (-2), 2) := by decide +kernel
theorem dX10_round_107 : decode cX10_round 107 = .ok (.ireturn, 1) := by decide +kernel
theorem dX10_corner_0 : decode cX10_corner 0 = .ok (.iload_n 1, 1) := by decide +kernel
theorem dX10_corner_1 : decode cX10_corner 1 = .ok (.iconst 1, 1) := by decide +kernel
theorem dX10_corner_2 : decode cX10_corner 2 = .ok (.if_icmp .lt 10, 3) := by decide +kernel
theorem dX10_corner_5 : decode cX10_corner 5 = .ok (.iload_n 1, 1) := by decide +kernel
theorem dX10_corner_6 : decode cX10_corner 6 = .ok (.sipush 999, 3) := by decide +kernel
theorem dX10_corner_9 : decode cX10_corner 9 = .ok (.if_icmp .le 5, 3) := by decide +kernel
theorem dX10_corner_12 : decode cX10_corner 12 = .ok (.iconst (-1), 1) := by decide +kernel
theorem dX10_corner_13 : decode cX10_corner 13 = .ok (.ireturn, 1) := by decide +kernel
theorem dX10_corner_14 : decode cX10_corner 14 = .ok (.aload_n 0, 1) := by decide +kernel
theorem dX10_corner_15 : decode cX10_corner 15 = .ok (.getfield 79, 3) := by decide +kernel
theorem dX10_corner_18 : decode cX10_corner 18 = .ok (.iconst 0, 1) := by decide +kernel
theorem dX10_corner_19 : decode cX10_corner 19 = .ok (.invokestatic 321, 3) := by decide +kernel
theorem dX10_corner_22 : decode cX10_corner 22 = .ok (.aload_n 0, 1) := by decide +kernel
theorem dX10_corner_23 : decode cX10_corner 23 = .ok (.getfield 68, 3) := by decide +kernel
theorem dX10_corner_26 : decode cX10_corner 26 = .ok (.aload_n 0, 1) := by decide +kernel
theorem dX10_corner_27 : decode cX10_corner 27 = .ok (.getfield 61, 3) := by decide +kernel
theorem dX10_corner_30 : decode cX10_corner 30 = .ok (.invokevirtual 230, 3) := by decide +kernel
theorem dX10_corner_33 : decode cX10_corner 33 = .ok (.iconst 0, 1) := by decide +kernel
theorem dX10_corner_34 : decode cX10_corner 34 = .ok (.istore_n 2, 1) := by decide +kernel
theorem dX10_corner_35 : decode cX10_corner 35 = .ok (.iload_n 2, 1) := by decide +kernel
theorem dX10_corner_36 : decode cX10_corner 36 = .ok (.iload_n 1, 1) := by decide +kernel
theorem dX10_corner_37 : decode cX10_corner 37 = .ok (.if_icmp .ge 60, 3) := by decide +kernel
theorem dX10_corner_40 : decode cX10_corner 40 = .ok (.aload_n 0, 1) := by decide +kernel
theorem dX10_corner_41 : decode cX10_corner 41 = .ok (.aload_n 0, 1) := by decide +kernel
theorem dX10_corner_42 : decode cX10_corner 42 = .ok (.getfield 68, 3) := by decide +kernel
theorem dX10_corner_45 : decode cX10_corner 45 = .ok (.iconst 0, 1) := by decide +kernel
theorem dX10_corner_46 : decode cX10_corner 46 = .ok (.iconst (-1), 1) := by decide +kernel
theorem dX10_corner_47 : decode cX10_corner 47 = .ok (.invokevirtual 278, 3) := by decide +kernel
theorem dX10_corner_50 : decode cX10_corner 50 = .ok (.ifCond .eq 47, 3) := by decide +kernel
theorem dX10_corner_53 : decode cX10_corner 53 = .ok (.aload_n 0, 1) := by decide +kernel
theorem dX10_corner_54 : decode cX10_corner 54 = .ok (.getfield 68, 3) := by decide +kernel
theorem dX10_corner_57 : decode cX10_corner 57 = .ok (.getfield 183, 3) := by decide +kernel
theorem dX10_corner_60 : decode cX10_corner 60 = .ok (.ifCond .lt 31, 3) := by decide +kernel
theorem dX10_corner_63 : decode cX10_corner 63 = .ok (.aload_n 0, 1) := by decide +kernel
theorem dX10_corner_64 : decode cX10_corner 64 = .ok (.getfield 68, 3) := by decide +kernel
theorem dX10_corner_67 : decode cX10_corner 67 = .ok (.getfield 183, 3) := by decide +kernel
theorem dX10_corner_70 : decode cX10_corner 70 = .ok (.bipush 36, 2) := by decide +kernel
theorem dX10_corner_72 : decode cX10_corner 72 = .ok (.if_icmp .ge 19, 3) := by decide +kernel
theorem dX10_corner_75 : decode cX10_corner 75 = .ok (.aload_n 0, 1) := by decide +kernel
theorem dX10_corner_76 : decode cX10_corner 76 = .ok (.getfield 79, 3) := by decide +kernel
theorem dX10_corner_79 : decode cX10_corner 79 = .ok (.aload_n 0, 1) := by decide +kernel
theorem dX10_corner_80 : decode cX10_corner 80 = .ok (.getfield 68, 3) := by decide +kernel
theorem dX10_corner_83 : decode cX10_corner 83 = .ok (.getfield 183, 3) := by decide +kernel
theorem dX10_corner_86 : decode cX10_corner 86 = .ok (.dup2, 1) := by decide +kernel
theorem dX10_corner_87 : decode cX10_corner 87 = .ok (.iaload, 1) := by decide +kernel
theorem dX10_corner_88 : decode cX10_corner 88 = .ok (.iconst 1, 1) := by decide +kernel
theorem dX10_corner_89 : decode cX10_corner 89 = .ok (.iadd, 1) := by decide +kernel
theorem dX10_corner_90 : decode cX10_corner 90 = .ok (.iastore, 1) := by decide +kernel
theorem dX10_corner_91 : decode cX10_corner 91 = .ok (.iinc 2 1, 3) := by decide +kernel
theorem dX10_corner_94 : decode cX10_corner 94 = .ok (.goto (-59), 3) := by decide +kernel
theorem dX10_corner_97 : decode cX10_corner 97 = .ok (.iconst 0, 1) := by decide +kernel
theorem dX10_corner_98 : decode cX10_corner 98 = .ok (.istore_n 2, 1) := by decide +kernel
theorem dX10_corner_99 : decode cX10_corner 99 = .ok (.iconst 1, 1) := by decide +kernel
theorem dX10_corner_100 : decode cX10_corner 100 = .ok (.istore_n 3, 1) := by decide +kernel
theorem dX10_corner_101 : decode cX10_corner 101 = .ok (.iload_n 3, 1) := by decide +kernel
theorem dX10_corner_102 : decode cX10_corner 102 = .ok (.bipush 36, 2) := by decide +kernel
theorem dX10_corner_104 : decode cX10_corner 104 = .ok (.if_icmp .ge 26, 3) := by decide +kernel
theorem dX10_corner_107 : decode cX10_corner 107 = .ok (.aload_n 0, 1) := by decide +kernel
theorem dX10_corner_108 : decode cX10_corner 108 = .ok (.getfield 79, 3) := by decide +kernel
theorem dX10_corner_111 : decode cX10_corner 111 = .ok (.iload_n 3, 1) := by decide +kernel
theorem dX10_corner_112 : decode cX10_corner 112 = .ok (.iaload, 1) := by decide +kernel
theorem dX10_corner_113 : decode cX10_corner 113 = .ok (.aload_n 0, 1) := by decide +kernel
theorem dX10_corner_114 : decode cX10_corner 114 = .ok (.getfield 79, 3) := by decide +kernel
theorem dX10_corner_117 : decode cX10_corner 117 = .ok (.iload_n 2, 1) := by decide +kernel
theorem dX10_corner_118 : decode cX10_corner 118 = .ok (.iaload, 1) := by decide +kernel
theorem dX10_corner_119 : decode cX10_corner 119 = .ok (.if_icmp .le 5, 3) := by decide +kernel
theorem dX10_corner_122 : decode cX10_corner 122 = .ok (.iload_n 3, 1) := by decide +kernel
theorem dX10_corner_123 : decode cX10_corner 123 = .ok (.istore_n 2, 1) := by decide +kernel
theorem dX10_corner_124 : decode cX10_corner 124 = .ok (.iinc 3 1, 3) := by decide +kernel
theorem dX10_corner_127 : decode cX10_corner 127 = .ok (.goto (-26), 3) := by decide +kernel
theorem dX10_corner_130 : decode cX10_corner 130 = .ok (.aload_n 0, 1) := by decide +kernel
theorem dX10_corner_131 : decode cX10_corner 131 = .ok (.getfield 19, 3) := by decide +kernel
theorem dX10_corner_134 : decode cX10_corner 134 = .ok (.invokevirtual 267, 3) := by decide +kernel
theorem dX10_corner_137 : decode cX10_corner 137 = .ok (.aload_n 0, 1) := by decide +kernel
theorem dX10_corner_138 : decode cX10_corner 138 = .ok (.getfield 19, 3) := by decide +kernel
theorem dX10_corner_141 : decode cX10_corner 141 = .ok (.aload_n 0, 1) := by decide +kernel
theorem dX10_corner_142 : decode cX10_corner 142 = .ok (.getfield 79, 3) := by decide +kernel
theorem dX10_corner_145 : decode cX10_corner 145 = .ok (.iload_n 2, 1) := by decide +kernel
theorem dX10_corner_146 : decode cX10_corner 146 = .ok (.iaload, 1) := by decide +kernel
theorem dX10_corner_147 : decode cX10_corner 147 = .ok (.i2l, 1) := by decide +kernel
theorem dX10_corner_148 : decode cX10_corner 148 = .ok (.invokevirtual 269, 3) := by decide +kernel
theorem dX10_corner_151 : decode cX10_corner 151 = .ok (.iload_n 2, 1) := by decide +kernel
theorem dX10_corner_152 : decode cX10_corner 152 = .ok (.ireturn, 1) := by decide +kernel
theorem dX10_stepsToSee_0 : decode cX10_stepsToSee 0 = .ok (.aload_n 0, 1) := by decide +kernel
theorem dX10_stepsToSee_1 : decode cX10_stepsToSee 1 = .ok (.getfield 68, 3) := by decide +kernel
theorem dX10_stepsToSee_4 : decode cX10_stepsToSee 4 = .ok (.aload_n 0, 1) := by decide +kernel
theorem dX10_stepsToSee_5 : decode cX10_stepsToSee 5 = .ok (.getfield 61, 3) := by decide +kernel
theorem dX10_stepsToSee_8 : decode cX10_stepsToSee 8 = .ok (.invokevirtual 230, 3) := by decide +kernel
theorem dX10_stepsToSee_11 : decode cX10_stepsToSee 11 = .ok (.lload_n 1, 1) := by decide +kernel
theorem dX10_stepsToSee_12 : decode cX10_stepsToSee 12 = .ok (.aload_n 0, 1) := by decide +kernel
theorem dX10_stepsToSee_13 : decode cX10_stepsToSee 13 = .ok (.getfield 68, 3) := by decide +kernel
theorem dX10_stepsToSee_16 : decode cX10_stepsToSee 16 = .ok (.getfield 183, 3) := by decide +kernel
theorem dX10_stepsToSee_19 : decode cX10_stepsToSee 19 = .ok (.invokestatic 289, 3) := by decide +kernel
theorem dX10_stepsToSee_22 : decode cX10_stepsToSee 22 = .ok (.ldc2_w 305, 3) := by decide +kernel
theorem dX10_stepsToSee_25 : decode cX10_stepsToSee 25 = .ok (.lxor, 1) := by decide +kernel
theorem dX10_stepsToSee_26 : decode cX10_stepsToSee 26 = .ok (.land, 1) := by decide +kernel
theorem dX10_stepsToSee_27 : decode cX10_stepsToSee 27 = .ok (.lstore 4, 2) := by decide +kernel
theorem dX10_stepsToSee_29 : decode cX10_stepsToSee 29 = .ok (.iconst 0, 1) := by decide +kernel
theorem dX10_stepsToSee_30 : decode cX10_stepsToSee 30 = .ok (.istore 6, 2) := by decide +kernel
theorem dX10_stepsToSee_32 : decode cX10_stepsToSee 32 = .ok (.iload 6, 2) := by decide +kernel
theorem dX10_stepsToSee_34 : decode cX10_stepsToSee 34 = .ok (.sipush 999, 3) := by decide +kernel
theorem dX10_stepsToSee_37 : decode cX10_stepsToSee 37 = .ok (.if_icmp .ge 46, 3) := by decide +kernel
theorem dX10_stepsToSee_40 : decode cX10_stepsToSee 40 = .ok (.lload 4, 2) := by decide +kernel
theorem dX10_stepsToSee_42 : decode cX10_stepsToSee 42 = .ok (.lconst 0, 1) := by decide +kernel
theorem dX10_stepsToSee_43 : decode cX10_stepsToSee 43 = .ok (.lcmp, 1) := by decide +kernel
theorem dX10_stepsToSee_44 : decode cX10_stepsToSee 44 = .ok (.ifCond .eq 39, 3) := by decide +kernel
theorem dX10_stepsToSee_47 : decode cX10_stepsToSee 47 = .ok (.aload_n 0, 1) := by decide +kernel
theorem dX10_stepsToSee_48 : decode cX10_stepsToSee 48 = .ok (.aload_n 0, 1) := by decide +kernel
theorem dX10_stepsToSee_49 : decode cX10_stepsToSee 49 = .ok (.getfield 68, 3) := by decide +kernel
theorem dX10_stepsToSee_52 : decode cX10_stepsToSee 52 = .ok (.iconst 0, 1) := by decide +kernel
theorem dX10_stepsToSee_53 : decode cX10_stepsToSee 53 = .ok (.iload_n 3, 1) := by decide +kernel
theorem dX10_stepsToSee_54 : decode cX10_stepsToSee 54 = .ok (.invokevirtual 278, 3) := by decide +kernel
theorem dX10_stepsToSee_57 : decode cX10_stepsToSee 57 = .ok (.pop, 1) := by decide +kernel
theorem dX10_stepsToSee_58 : decode cX10_stepsToSee 58 = .ok (.lload 4, 2) := by decide +kernel
theorem dX10_stepsToSee_60 : decode cX10_stepsToSee 60 = .ok (.aload_n 0, 1) := by decide +kernel
theorem dX10_stepsToSee_61 : decode cX10_stepsToSee 61 = .ok (.getfield 68, 3) := by decide +kernel
theorem dX10_stepsToSee_64 : decode cX10_stepsToSee 64 = .ok (.getfield 183, 3) := by decide +kernel
theorem dX10_stepsToSee_67 : decode cX10_stepsToSee 67 = .ok (.invokestatic 289, 3) := by decide +kernel
theorem dX10_stepsToSee_70 : decode cX10_stepsToSee 70 = .ok (.ldc2_w 305, 3) := by decide +kernel
theorem dX10_stepsToSee_73 : decode cX10_stepsToSee 73 = .ok (.lxor, 1) := by decide +kernel
theorem dX10_stepsToSee_74 : decode cX10_stepsToSee 74 = .ok (.land, 1) := by decide +kernel
theorem dX10_stepsToSee_75 : decode cX10_stepsToSee 75 = .ok (.lstore 4, 2) := by decide +kernel
theorem dX10_stepsToSee_77 : decode cX10_stepsToSee 77 = .ok (.iinc 6 1, 3) := by decide +kernel
theorem dX10_stepsToSee_80 : decode cX10_stepsToSee 80 = .ok (.goto (-48), 3) := by decide +kernel
theorem dX10_stepsToSee_83 : decode cX10_stepsToSee 83 = .ok (.lload 4, 2) := by decide +kernel
theorem dX10_stepsToSee_85 : decode cX10_stepsToSee 85 = .ok (.lconst 0, 1) := by decide +kernel
theorem dX10_stepsToSee_86 : decode cX10_stepsToSee 86 = .ok (.lcmp, 1) := by decide +kernel
theorem dX10_stepsToSee_87 : decode cX10_stepsToSee 87 = .ok (.ifCond .ne 8, 3) := by decide +kernel
theorem dX10_stepsToSee_90 : decode cX10_stepsToSee 90 = .ok (.iload 6, 2) := by decide +kernel
theorem dX10_stepsToSee_92 : decode cX10_stepsToSee 92 = .ok (.goto 6, 3) := by decide +kernel
theorem dX10_stepsToSee_95 : decode cX10_stepsToSee 95 = .ok (.sipush 1000, 3) := by decide +kernel
theorem dX10_stepsToSee_98 : decode cX10_stepsToSee 98 = .ok (.ireturn, 1) := by decide +kernel
theorem dX10_way_0 : decode cX10_way 0 = .ok (.aload_n 0, 1) := by decide +kernel
theorem dX10_way_1 : decode cX10_way 1 = .ok (.getfield 92, 3) := by decide +kernel
theorem dX10_way_4 : decode cX10_way 4 = .ok (.iload_n 1, 1) := by decide +kernel
theorem dX10_way_5 : decode cX10_way 5 = .ok (.invokevirtual 152, 3) := by decide +kernel
theorem dX10_way_8 : decode cX10_way 8 = .ok (.ifCond .eq 14, 3) := by decide +kernel
theorem dX10_way_11 : decode cX10_way 11 = .ok (.aload_n 0, 1) := by decide +kernel
theorem dX10_way_12 : decode cX10_way 12 = .ok (.getfield 92, 3) := by decide +kernel
theorem dX10_way_15 : decode cX10_way 15 = .ok (.iload_n 2, 1) := by decide +kernel
theorem dX10_way_16 : decode cX10_way 16 = .ok (.invokevirtual 152, 3) := by decide +kernel
theorem dX10_way_19 : decode cX10_way 19 = .ok (.ifCond .ne 5, 3) := by decide +kernel
theorem dX10_way_22 : decode cX10_way 22 = .ok (.iconst (-1), 1) := by decide +kernel
theorem dX10_way_23 : decode cX10_way 23 = .ok (.ireturn, 1) := by decide +kernel
theorem dX10_way_24 : decode cX10_way 24 = .ok (.aload_n 0, 1) := by decide +kernel
theorem dX10_way_25 : decode cX10_way 25 = .ok (.invokevirtual 186, 3) := by decide +kernel
theorem dX10_way_28 : decode cX10_way 28 = .ok (.lstore_n 3, 1) := by decide +kernel
theorem dX10_way_29 : decode cX10_way 29 = .ok (.lload_n 3, 1) := by decide +kernel
theorem dX10_way_30 : decode cX10_way 30 = .ok (.iload_n 1, 1) := by decide +kernel
theorem dX10_way_31 : decode cX10_way 31 = .ok (.invokestatic 169, 3) := by decide +kernel
theorem dX10_way_34 : decode cX10_way 34 = .ok (.ifCond .eq 11, 3) := by decide +kernel
theorem dX10_way_37 : decode cX10_way 37 = .ok (.lload_n 3, 1) := by decide +kernel
theorem dX10_way_38 : decode cX10_way 38 = .ok (.iload_n 2, 1) := by decide +kernel
theorem dX10_way_39 : decode cX10_way 39 = .ok (.invokestatic 169, 3) := by decide +kernel
theorem dX10_way_42 : decode cX10_way 42 = .ok (.ifCond .ne 6, 3) := by decide +kernel
theorem dX10_way_45 : decode cX10_way 45 = .ok (.bipush (-2), 2) := by decide +kernel
theorem dX10_way_47 : decode cX10_way 47 = .ok (.ireturn, 1) := by decide +kernel
theorem dX10_way_48 : decode cX10_way 48 = .ok (.aload_n 0, 1) := by decide +kernel
theorem dX10_way_49 : decode cX10_way 49 = .ok (.getfield 40, 3) := by decide +kernel
theorem dX10_way_52 : decode cX10_way 52 = .ok (.aload_n 0, 1) := by decide +kernel
theorem dX10_way_53 : decode cX10_way 53 = .ok (.getfield 92, 3) := by decide +kernel
theorem dX10_way_56 : decode cX10_way 56 = .ok (.lload_n 3, 1) := by decide +kernel
theorem dX10_way_57 : decode cX10_way 57 = .ok (.iload_n 2, 1) := by decide +kernel
theorem dX10_way_58 : decode cX10_way 58 = .ok (.invokevirtual 327, 3) := by decide +kernel
theorem dX10_way_61 : decode cX10_way 61 = .ok (.aload_n 0, 1) := by decide +kernel
theorem dX10_way_62 : decode cX10_way 62 = .ok (.getfield 40, 3) := by decide +kernel
theorem dX10_way_65 : decode cX10_way 65 = .ok (.iload_n 1, 1) := by decide +kernel
theorem dX10_way_66 : decode cX10_way 66 = .ok (.invokevirtual 331, 3) := by decide +kernel
theorem dX10_way_69 : decode cX10_way 69 = .ok (.istore 5, 2) := by decide +kernel
theorem dX10_way_71 : decode cX10_way 71 = .ok (.iload 5, 2) := by decide +kernel
theorem dX10_way_73 : decode cX10_way 73 = .ok (.sipush 500, 3) := by decide +kernel
theorem dX10_way_76 : decode cX10_way 76 = .ok (.if_icmp .ne 6, 3) := by decide +kernel
theorem dX10_way_79 : decode cX10_way 79 = .ok (.bipush (-2), 2) := by decide +kernel
theorem dX10_way_81 : decode cX10_way 81 = .ok (.ireturn, 1) := by decide +kernel
theorem dX10_way_82 : decode cX10_way 82 = .ok (.aload_n 0, 1) := by decide +kernel
theorem dX10_way_83 : decode cX10_way 83 = .ok (.getfield 19, 3) := by decide +kernel
theorem dX10_way_86 : decode cX10_way 86 = .ok (.invokevirtual 267, 3) := by decide +kernel
theorem dX10_way_89 : decode cX10_way 89 = .ok (.aload_n 0, 1) := by decide +kernel
theorem dX10_way_90 : decode cX10_way 90 = .ok (.getfield 19, 3) := by decide +kernel
theorem dX10_way_93 : decode cX10_way 93 = .ok (.iload_n 1, 1) := by decide +kernel
theorem dX10_way_94 : decode cX10_way 94 = .ok (.i2l, 1) := by decide +kernel
theorem dX10_way_95 : decode cX10_way 95 = .ok (.invokevirtual 269, 3) := by decide +kernel
theorem dX10_way_98 : decode cX10_way 98 = .ok (.iload_n 1, 1) := by decide +kernel
theorem dX10_way_99 : decode cX10_way 99 = .ok (.istore 6, 2) := by decide +kernel
theorem dX10_way_101 : decode cX10_way 101 = .ok (.iload 5, 2) := by decide +kernel
theorem dX10_way_103 : decode cX10_way 103 = .ok (.istore 7, 2) := by decide +kernel
theorem dX10_way_105 : decode cX10_way 105 = .ok (.iconst 0, 1) := by decide +kernel
theorem dX10_way_106 : decode cX10_way 106 = .ok (.istore 8, 2) := by decide +kernel
theorem dX10_way_108 : decode cX10_way 108 = .ok (.iload 8, 2) := by decide +kernel
theorem dX10_way_110 : decode cX10_way 110 = .ok (.bipush 36, 2) := by decide +kernel
theorem dX10_way_112 : decode cX10_way 112 = .ok (.if_icmp .ge 62, 3) := by decide +kernel
theorem dX10_way_115 : decode cX10_way 115 = .ok (.iload 6, 2) := by decide +kernel
theorem dX10_way_117 : decode cX10_way 117 = .ok (.iload_n 2, 1) := by decide +kernel
theorem dX10_way_118 : decode cX10_way 118 = .ok (.if_icmp .eq 56, 3) := by decide +kernel
theorem dX10_way_121 : decode cX10_way 121 = .ok (.iload 7, 2) := by decide +kernel
theorem dX10_way_123 : decode cX10_way 123 = .ok (.aload_n 0, 1) := by decide +kernel
theorem dX10_way_124 : decode cX10_way 124 = .ok (.getfield 92, 3) := by decide +kernel
theorem dX10_way_127 : decode cX10_way 127 = .ok (.iload 6, 2) := by decide +kernel
theorem dX10_way_129 : decode cX10_way 129 = .ok (.invokevirtual 302, 3) := by decide +kernel
theorem dX10_way_132 : decode cX10_way 132 = .ok (.isub, 1) := by decide +kernel
theorem dX10_way_133 : decode cX10_way 133 = .ok (.istore 7, 2) := by decide +kernel
theorem dX10_way_135 : decode cX10_way 135 = .ok (.aload_n 0, 1) := by decide +kernel
theorem dX10_way_136 : decode cX10_way 136 = .ok (.getfield 40, 3) := by decide +kernel
theorem dX10_way_139 : decode cX10_way 139 = .ok (.iload 7, 2) := by decide +kernel
theorem dX10_way_141 : decode cX10_way 141 = .ok (.aload_n 0, 1) := by decide +kernel
theorem dX10_way_142 : decode cX10_way 142 = .ok (.getfield 92, 3) := by decide +kernel
theorem dX10_way_145 : decode cX10_way 145 = .ok (.iload 6, 2) := by decide +kernel
theorem dX10_way_147 : decode cX10_way 147 = .ok (.invokestatic 289, 3) := by decide +kernel
theorem dX10_way_150 : decode cX10_way 150 = .ok (.invokevirtual 332, 3) := by decide +kernel
theorem dX10_way_153 : decode cX10_way 153 = .ok (.invokevirtual 336, 3) := by decide +kernel
theorem dX10_way_156 : decode cX10_way 156 = .ok (.istore 6, 2) := by decide +kernel
theorem dX10_way_158 : decode cX10_way 158 = .ok (.aload_n 0, 1) := by decide +kernel
theorem dX10_way_159 : decode cX10_way 159 = .ok (.getfield 19, 3) := by decide +kernel
theorem dX10_way_162 : decode cX10_way 162 = .ok (.iload 6, 2) := by decide +kernel
theorem dX10_way_164 : decode cX10_way 164 = .ok (.i2l, 1) := by decide +kernel
theorem dX10_way_165 : decode cX10_way 165 = .ok (.invokevirtual 269, 3) := by decide +kernel
theorem dX10_way_168 : decode cX10_way 168 = .ok (.iinc 8 1, 3) := by decide +kernel
theorem dX10_way_171 : decode cX10_way 171 = .ok (.goto (-63), 3) := by decide +kernel
theorem dX10_way_174 : decode cX10_way 174 = .ok (.iload 5, 2) := by decide +kernel
theorem dX10_way_176 : decode cX10_way 176 = .ok (.ireturn, 1) := by decide +kernel
theorem dX10_back_0 : decode cX10_back 0 = .ok (.aload_n 0, 1) := by decide +kernel
theorem dX10_back_1 : decode cX10_back 1 = .ok (.getfield 92, 3) := by decide +kernel
theorem dX10_back_4 : decode cX10_back 4 = .ok (.getfield 180, 3) := by decide +kernel
theorem dX10_back_7 : decode cX10_back 7 = .ok (.iconst (-1), 1) := by decide +kernel
theorem dX10_back_8 : decode cX10_back 8 = .ok (.if_icmp .ne 6, 3) := by decide +kernel
theorem dX10_back_11 : decode cX10_back 11 = .ok (.bipush (-2), 2) := by decide +kernel
theorem dX10_back_13 : decode cX10_back 13 = .ok (.ireturn, 1) := by decide +kernel
theorem dX10_back_14 : decode cX10_back 14 = .ok (.aload_n 0, 1) := by decide +kernel
theorem dX10_back_15 : decode cX10_back 15 = .ok (.getfield 40, 3) := by decide +kernel
theorem dX10_back_18 : decode cX10_back 18 = .ok (.aload_n 0, 1) := by decide +kernel
theorem dX10_back_19 : decode cX10_back 19 = .ok (.getfield 92, 3) := by decide +kernel
theorem dX10_back_22 : decode cX10_back 22 = .ok (.aload_n 0, 1) := by decide +kernel
theorem dX10_back_23 : decode cX10_back 23 = .ok (.invokevirtual 186, 3) := by decide +kernel
theorem dX10_back_26 : decode cX10_back 26 = .ok (.aload_n 0, 1) := by decide +kernel
theorem dX10_back_27 : decode cX10_back 27 = .ok (.getfield 92, 3) := by decide +kernel
theorem dX10_back_30 : decode cX10_back 30 = .ok (.getfield 180, 3) := by decide +kernel
theorem dX10_back_33 : decode cX10_back 33 = .ok (.invokevirtual 327, 3) := by decide +kernel
theorem dX10_back_36 : decode cX10_back 36 = .ok (.bipush (-2), 2) := by decide +kernel
theorem dX10_back_38 : decode cX10_back 38 = .ok (.istore_n 1, 1) := by decide +kernel
theorem dX10_back_39 : decode cX10_back 39 = .ok (.aload_n 0, 1) := by decide +kernel
theorem dX10_back_40 : decode cX10_back 40 = .ok (.getfield 68, 3) := by decide +kernel
theorem dX10_back_43 : decode cX10_back 43 = .ok (.aload_n 0, 1) := by decide +kernel
theorem dX10_back_44 : decode cX10_back 44 = .ok (.getfield 61, 3) := by decide +kernel
theorem dX10_back_47 : decode cX10_back 47 = .ok (.invokevirtual 230, 3) := by decide +kernel
theorem dX10_back_50 : decode cX10_back 50 = .ok (.iconst 0, 1) := by decide +kernel
theorem dX10_back_51 : decode cX10_back 51 = .ok (.istore_n 2, 1) := by decide +kernel
theorem dX10_back_52 : decode cX10_back 52 = .ok (.iload_n 2, 1) := by decide +kernel
theorem dX10_back_53 : decode cX10_back 53 = .ok (.sipush 200, 3) := by decide +kernel
theorem dX10_back_56 : decode cX10_back 56 = .ok (.if_icmp .gt 60, 3) := by decide +kernel
theorem dX10_back_59 : decode cX10_back 59 = .ok (.aload_n 0, 1) := by decide +kernel
theorem dX10_back_60 : decode cX10_back 60 = .ok (.getfield 40, 3) := by decide +kernel
theorem dX10_back_63 : decode cX10_back 63 = .ok (.aload_n 0, 1) := by decide +kernel
theorem dX10_back_64 : decode cX10_back 64 = .ok (.getfield 68, 3) := by decide +kernel
theorem dX10_back_67 : decode cX10_back 67 = .ok (.getfield 183, 3) := by decide +kernel
theorem dX10_back_70 : decode cX10_back 70 = .ok (.invokevirtual 331, 3) := by decide +kernel
theorem dX10_back_73 : decode cX10_back 73 = .ok (.istore_n 3, 1) := by decide +kernel
theorem dX10_back_74 : decode cX10_back 74 = .ok (.iload_n 3, 1) := by decide +kernel
theorem dX10_back_75 : decode cX10_back 75 = .ok (.sipush 500, 3) := by decide +kernel
theorem dX10_back_78 : decode cX10_back 78 = .ok (.if_icmp .eq 16, 3) := by decide +kernel
theorem dX10_back_81 : decode cX10_back 81 = .ok (.aload_n 0, 1) := by decide +kernel
theorem dX10_back_82 : decode cX10_back 82 = .ok (.getfield 68, 3) := by decide +kernel
theorem dX10_back_85 : decode cX10_back 85 = .ok (.getfield 195, 3) := by decide +kernel
theorem dX10_back_88 : decode cX10_back 88 = .ok (.iload_n 3, 1) := by decide +kernel
theorem dX10_back_89 : decode cX10_back 89 = .ok (.if_icmp .lt 5, 3) := by decide +kernel
theorem dX10_back_92 : decode cX10_back 92 = .ok (.iload_n 2, 1) := by decide +kernel
theorem dX10_back_93 : decode cX10_back 93 = .ok (.istore_n 1, 1) := by decide +kernel
theorem dX10_back_94 : decode cX10_back 94 = .ok (.aload_n 0, 1) := by decide +kernel
theorem dX10_back_95 : decode cX10_back 95 = .ok (.aload_n 0, 1) := by decide +kernel
theorem dX10_back_96 : decode cX10_back 96 = .ok (.getfield 68, 3) := by decide +kernel
theorem dX10_back_99 : decode cX10_back 99 = .ok (.iconst 1, 1) := by decide +kernel
theorem dX10_back_100 : decode cX10_back 100 = .ok (.iconst (-1), 1) := by decide +kernel
theorem dX10_back_101 : decode cX10_back 101 = .ok (.invokevirtual 278, 3) := by decide +kernel
theorem dX10_back_104 : decode cX10_back 104 = .ok (.ifCond .ne 6, 3) := by decide +kernel
theorem dX10_back_107 : decode cX10_back 107 = .ok (.goto 9, 3) := by decide +kernel
theorem dX10_back_110 : decode cX10_back 110 = .ok (.iinc 2 1, 3) := by decide +kernel
theorem dX10_back_113 : decode cX10_back 113 = .ok (.goto (-61), 3) := by decide +kernel
theorem dX10_back_116 : decode cX10_back 116 = .ok (.iload_n 1, 1) := by decide +kernel
theorem dX10_back_117 : decode cX10_back 117 = .ok (.ireturn, 1) := by decide +kernel
theorem dX10_plug_0 : decode cX10_plug 0 = .ok (.aload_n 0, 1) := by decide +kernel
theorem dX10_plug_1 : decode cX10_plug 1 = .ok (.invokevirtual 186, 3) := by decide +kernel
theorem dX10_plug_4 : decode cX10_plug 4 = .ok (.lstore_n 1, 1) := by decide +kernel
theorem dX10_plug_5 : decode cX10_plug 5 = .ok (.iconst (-1), 1) := by decide +kernel
theorem dX10_plug_6 : decode cX10_plug 6 = .ok (.istore_n 3, 1) := by decide +kernel
theorem dX10_plug_7 : decode cX10_plug 7 = .ok (.sipush 501, 3) := by decide +kernel
theorem dX10_plug_10 : decode cX10_plug 10 = .ok (.istore 4, 2) := by decide +kernel
theorem dX10_plug_12 : decode cX10_plug 12 = .ok (.iconst 0, 1) := by decide +kernel
theorem dX10_plug_13 : decode cX10_plug 13 = .ok (.istore 5, 2) := by decide +kernel
theorem dX10_plug_15 : decode cX10_plug 15 = .ok (.iload 5, 2) := by decide +kernel
theorem dX10_plug_17 : decode cX10_plug 17 = .ok (.bipush 36, 2) := by decide +kernel
theorem dX10_plug_19 : decode cX10_plug 19 = .ok (.if_icmp .ge 59, 3) := by decide +kernel
theorem dX10_plug_22 : decode cX10_plug 22 = .ok (.lload_n 1, 1) := by decide +kernel
theorem dX10_plug_23 : decode cX10_plug 23 = .ok (.iload 5, 2) := by decide +kernel
theorem dX10_plug_25 : decode cX10_plug 25 = .ok (.invokestatic 169, 3) := by decide +kernel
theorem dX10_plug_28 : decode cX10_plug 28 = .ok (.ifCond .ne 6, 3) := by decide +kernel
theorem dX10_plug_31 : decode cX10_plug 31 = .ok (.goto 41, 3) := by decide +kernel
theorem dX10_plug_34 : decode cX10_plug 34 = .ok (.aload_n 0, 1) := by decide +kernel
theorem dX10_plug_35 : decode cX10_plug 35 = .ok (.getfield 40, 3) := by decide +kernel
theorem dX10_plug_38 : decode cX10_plug 38 = .ok (.aload_n 0, 1) := by decide +kernel
theorem dX10_plug_39 : decode cX10_plug 39 = .ok (.getfield 92, 3) := by decide +kernel
theorem dX10_plug_42 : decode cX10_plug 42 = .ok (.lload_n 1, 1) := by decide +kernel
theorem dX10_plug_43 : decode cX10_plug 43 = .ok (.iload 5, 2) := by decide +kernel
theorem dX10_plug_45 : decode cX10_plug 45 = .ok (.invokevirtual 327, 3) := by decide +kernel
theorem dX10_plug_48 : decode cX10_plug 48 = .ok (.aload_n 0, 1) := by decide +kernel
theorem dX10_plug_49 : decode cX10_plug 49 = .ok (.getfield 40, 3) := by decide +kernel
theorem dX10_plug_52 : decode cX10_plug 52 = .ok (.lload_n 1, 1) := by decide +kernel
theorem dX10_plug_53 : decode cX10_plug 53 = .ok (.invokevirtual 340, 3) := by decide +kernel
theorem dX10_plug_56 : decode cX10_plug 56 = .ok (.istore 6, 2) := by decide +kernel
theorem dX10_plug_58 : decode cX10_plug 58 = .ok (.iload 6, 2) := by decide +kernel
theorem dX10_plug_60 : decode cX10_plug 60 = .ok (.iload 4, 2) := by decide +kernel
theorem dX10_plug_62 : decode cX10_plug 62 = .ok (.if_icmp .ge 10, 3) := by decide +kernel
theorem dX10_plug_65 : decode cX10_plug 65 = .ok (.iload 6, 2) := by decide +kernel
theorem dX10_plug_67 : decode cX10_plug 67 = .ok (.istore 4, 2) := by decide +kernel
theorem dX10_plug_69 : decode cX10_plug 69 = .ok (.iload 5, 2) := by decide +kernel
theorem dX10_plug_71 : decode cX10_plug 71 = .ok (.istore_n 3, 1) := by decide +kernel
theorem dX10_plug_72 : decode cX10_plug 72 = .ok (.iinc 5 1, 3) := by decide +kernel
theorem dX10_plug_75 : decode cX10_plug 75 = .ok (.goto (-60), 3) := by decide +kernel
theorem dX10_plug_78 : decode cX10_plug 78 = .ok (.aload_n 0, 1) := by decide +kernel
theorem dX10_plug_79 : decode cX10_plug 79 = .ok (.getfield 19, 3) := by decide +kernel
theorem dX10_plug_82 : decode cX10_plug 82 = .ok (.invokevirtual 267, 3) := by decide +kernel
theorem dX10_plug_85 : decode cX10_plug 85 = .ok (.aload_n 0, 1) := by decide +kernel
theorem dX10_plug_86 : decode cX10_plug 86 = .ok (.getfield 19, 3) := by decide +kernel
theorem dX10_plug_89 : decode cX10_plug 89 = .ok (.iload 4, 2) := by decide +kernel
theorem dX10_plug_91 : decode cX10_plug 91 = .ok (.i2l, 1) := by decide +kernel
theorem dX10_plug_92 : decode cX10_plug 92 = .ok (.invokevirtual 269, 3) := by decide +kernel
theorem dX10_plug_95 : decode cX10_plug 95 = .ok (.iload_n 3, 1) := by decide +kernel
theorem dX10_plug_96 : decode cX10_plug 96 = .ok (.ireturn, 1) := by decide +kernel
theorem dX10_doors_0 : decode cX10_doors 0 = .ok (.aload_n 0, 1) := by decide +kernel
theorem dX10_doors_1 : decode cX10_doors 1 = .ok (.invokevirtual 186, 3) := by decide +kernel
theorem dX10_doors_4 : decode cX10_doors 4 = .ok (.lstore_n 1, 1) := by decide +kernel
theorem dX10_doors_5 : decode cX10_doors 5 = .ok (.aload_n 0, 1) := by decide +kernel
theorem dX10_doors_6 : decode cX10_doors 6 = .ok (.getfield 92, 3) := by decide +kernel
theorem dX10_doors_9 : decode cX10_doors 9 = .ok (.lload_n 1, 1) := by decide +kernel
theorem dX10_doors_10 : decode cX10_doors 10 = .ok (.aload_n 0, 1) := by decide +kernel
theorem dX10_doors_11 : decode cX10_doors 11 = .ok (.getfield 61, 3) := by decide +kernel
theorem dX10_doors_14 : decode cX10_doors 14 = .ok (.getfield 183, 3) := by decide +kernel
theorem dX10_doors_17 : decode cX10_doors 17 = .ok (.invokevirtual 313, 3) := by decide +kernel
theorem dX10_doors_20 : decode cX10_doors 20 = .ok (.aload_n 0, 1) := by decide +kernel
theorem dX10_doors_21 : decode cX10_doors 21 = .ok (.getfield 92, 3) := by decide +kernel
theorem dX10_doors_24 : decode cX10_doors 24 = .ok (.getfield 180, 3) := by decide +kernel
theorem dX10_doors_27 : decode cX10_doors 27 = .ok (.invokestatic 169, 3) := by decide +kernel
theorem dX10_doors_30 : decode cX10_doors 30 = .ok (.ifCond .ne 6, 3) := by decide +kernel
theorem dX10_doors_33 : decode cX10_doors 33 = .ok (.bipush (-2), 2) := by decide +kernel
theorem dX10_doors_35 : decode cX10_doors 35 = .ok (.ireturn, 1) := by decide +kernel
theorem dX10_doors_36 : decode cX10_doors 36 = .ok (.lload_n 1, 1) := by decide +kernel
theorem dX10_doors_37 : decode cX10_doors 37 = .ok (.aload_n 0, 1) := by decide +kernel
theorem dX10_doors_38 : decode cX10_doors 38 = .ok (.getfield 61, 3) := by decide +kernel
theorem dX10_doors_41 : decode cX10_doors 41 = .ok (.getfield 183, 3) := by decide +kernel
theorem dX10_doors_44 : decode cX10_doors 44 = .ok (.invokestatic 289, 3) := by decide +kernel
theorem dX10_doors_47 : decode cX10_doors 47 = .ok (.ldc2_w 305, 3) := by decide +kernel
theorem dX10_doors_50 : decode cX10_doors 50 = .ok (.lxor, 1) := by decide +kernel
theorem dX10_doors_51 : decode cX10_doors 51 = .ok (.land, 1) := by decide +kernel
theorem dX10_doors_52 : decode cX10_doors 52 = .ok (.aload_n 0, 1) := by decide +kernel
theorem dX10_doors_53 : decode cX10_doors 53 = .ok (.getfield 92, 3) := by decide +kernel
theorem dX10_doors_56 : decode cX10_doors 56 = .ok (.getfield 180, 3) := by decide +kernel
theorem dX10_doors_59 : decode cX10_doors 59 = .ok (.invokestatic 289, 3) := by decide +kernel
theorem dX10_doors_62 : decode cX10_doors 62 = .ok (.ldc2_w 305, 3) := by decide +kernel
theorem dX10_doors_65 : decode cX10_doors 65 = .ok (.lxor, 1) := by decide +kernel
theorem dX10_doors_66 : decode cX10_doors 66 = .ok (.land, 1) := by decide +kernel
theorem dX10_doors_67 : decode cX10_doors 67 = .ok (.lstore_n 3, 1) := by decide +kernel
theorem dX10_doors_68 : decode cX10_doors 68 = .ok (.lconst 0, 1) := by decide +kernel
theorem dX10_doors_69 : decode cX10_doors 69 = .ok (.lstore 5, 2) := by decide +kernel
theorem dX10_doors_71 : decode cX10_doors 71 = .ok (.iconst 0, 1) := by decide +kernel
theorem dX10_doors_72 : decode cX10_doors 72 = .ok (.istore 7, 2) := by decide +kernel
theorem dX10_doors_74 : decode cX10_doors 74 = .ok (.iload 7, 2) := by decide +kernel
theorem dX10_doors_76 : decode cX10_doors 76 = .ok (.bipush 36, 2) := by decide +kernel
theorem dX10_doors_78 : decode cX10_doors 78 = .ok (.if_icmp .ge 66, 3) := by decide +kernel
theorem dX10_doors_81 : decode cX10_doors 81 = .ok (.lload_n 3, 1) := by decide +kernel
theorem dX10_doors_82 : decode cX10_doors 82 = .ok (.iload 7, 2) := by decide +kernel
theorem dX10_doors_84 : decode cX10_doors 84 = .ok (.invokestatic 169, 3) := by decide +kernel
theorem dX10_doors_87 : decode cX10_doors 87 = .ok (.ifCond .eq 51, 3) := by decide +kernel
theorem dX10_doors_90 : decode cX10_doors 90 = .ok (.aload_n 0, 1) := by decide +kernel
theorem dX10_doors_91 : decode cX10_doors 91 = .ok (.getfield 92, 3) := by decide +kernel
theorem dX10_doors_94 : decode cX10_doors 94 = .ok (.lload_n 1, 1) := by decide +kernel
theorem dX10_doors_95 : decode cX10_doors 95 = .ok (.iload 7, 2) := by decide +kernel
theorem dX10_doors_97 : decode cX10_doors 97 = .ok (.invokestatic 289, 3) := by decide +kernel
theorem dX10_doors_100 : decode cX10_doors 100 = .ok (.ldc2_w 305, 3) := by decide +kernel
theorem dX10_doors_103 : decode cX10_doors 103 = .ok (.lxor, 1) := by decide +kernel
theorem dX10_doors_104 : decode cX10_doors 104 = .ok (.land, 1) := by decide +kernel
theorem dX10_doors_105 : decode cX10_doors 105 = .ok (.aload_n 0, 1) := by decide +kernel
theorem dX10_doors_106 : decode cX10_doors 106 = .ok (.getfield 61, 3) := by decide +kernel
theorem dX10_doors_109 : decode cX10_doors 109 = .ok (.getfield 183, 3) := by decide +kernel
theorem dX10_doors_112 : decode cX10_doors 112 = .ok (.invokevirtual 313, 3) := by decide +kernel
theorem dX10_doors_115 : decode cX10_doors 115 = .ok (.aload_n 0, 1) := by decide +kernel
theorem dX10_doors_116 : decode cX10_doors 116 = .ok (.getfield 92, 3) := by decide +kernel
theorem dX10_doors_119 : decode cX10_doors 119 = .ok (.getfield 180, 3) := by decide +kernel
theorem dX10_doors_122 : decode cX10_doors 122 = .ok (.invokestatic 169, 3) := by decide +kernel
theorem dX10_doors_125 : decode cX10_doors 125 = .ok (.ifCond .ne 13, 3) := by decide +kernel
theorem dX10_doors_128 : decode cX10_doors 128 = .ok (.lload 5, 2) := by decide +kernel
theorem dX10_doors_130 : decode cX10_doors 130 = .ok (.iload 7, 2) := by decide +kernel
theorem dX10_doors_132 : decode cX10_doors 132 = .ok (.invokestatic 289, 3) := by decide +kernel
theorem dX10_doors_135 : decode cX10_doors 135 = .ok (.lor, 1) := by decide +kernel
theorem dX10_doors_136 : decode cX10_doors 136 = .ok (.lstore 5, 2) := by decide +kernel
theorem dX10_doors_138 : decode cX10_doors 138 = .ok (.iinc 7 1, 3) := by decide +kernel
theorem dX10_doors_141 : decode cX10_doors 141 = .ok (.goto (-67), 3) := by decide +kernel
theorem dX10_doors_144 : decode cX10_doors 144 = .ok (.aload_n 0, 1) := by decide +kernel
theorem dX10_doors_145 : decode cX10_doors 145 = .ok (.getfield 19, 3) := by decide +kernel
theorem dX10_doors_148 : decode cX10_doors 148 = .ok (.invokevirtual 267, 3) := by decide +kernel
theorem dX10_doors_151 : decode cX10_doors 151 = .ok (.aload_n 0, 1) := by decide +kernel
theorem dX10_doors_152 : decode cX10_doors 152 = .ok (.getfield 19, 3) := by decide +kernel
theorem dX10_doors_155 : decode cX10_doors 155 = .ok (.lload 5, 2) := by decide +kernel
theorem dX10_doors_157 : decode cX10_doors 157 = .ok (.invokevirtual 269, 3) := by decide +kernel
theorem dX10_doors_160 : decode cX10_doors 160 = .ok (.lload 5, 2) := by decide +kernel
theorem dX10_doors_162 : decode cX10_doors 162 = .ok (.invokestatic 143, 3) := by decide +kernel
theorem dX10_doors_165 : decode cX10_doors 165 = .ok (.ireturn, 1) := by decide +kernel
theorem dX10_chairs_0 : decode cX10_chairs 0 = .ok (.aload_n 0, 1) := by decide +kernel
theorem dX10_chairs_1 : decode cX10_chairs 1 = .ok (.getfield 61, 3) := by decide +kernel
theorem dX10_chairs_4 : decode cX10_chairs 4 = .ok (.getfield 166, 3) := by decide +kernel
theorem dX10_chairs_7 : decode cX10_chairs 7 = .ok (.lconst 0, 1) := by decide +kernel
theorem dX10_chairs_8 : decode cX10_chairs 8 = .ok (.lcmp, 1) := by decide +kernel
theorem dX10_chairs_9 : decode cX10_chairs 9 = .ok (.ifCond .ne 6, 3) := by decide +kernel
theorem dX10_chairs_12 : decode cX10_chairs 12 = .ok (.bipush (-2), 2) := by decide +kernel
theorem dX10_chairs_14 : decode cX10_chairs 14 = .ok (.ireturn, 1) := by decide +kernel
theorem dX10_chairs_15 : decode cX10_chairs 15 = .ok (.aload_n 0, 1) := by decide +kernel
theorem dX10_chairs_16 : decode cX10_chairs 16 = .ok (.invokevirtual 186, 3) := by decide +kernel
theorem dX10_chairs_19 : decode cX10_chairs 19 = .ok (.lstore_n 1, 1) := by decide +kernel
theorem dX10_chairs_20 : decode cX10_chairs 20 = .ok (.aload_n 0, 1) := by decide +kernel
theorem dX10_chairs_21 : decode cX10_chairs 21 = .ok (.getfield 92, 3) := by decide +kernel
theorem dX10_chairs_24 : decode cX10_chairs 24 = .ok (.lload_n 1, 1) := by decide +kernel
theorem dX10_chairs_25 : decode cX10_chairs 25 = .ok (.aload_n 0, 1) := by decide +kernel
theorem dX10_chairs_26 : decode cX10_chairs 26 = .ok (.getfield 61, 3) := by decide +kernel
theorem dX10_chairs_29 : decode cX10_chairs 29 = .ok (.getfield 183, 3) := by decide +kernel
theorem dX10_chairs_32 : decode cX10_chairs 32 = .ok (.invokevirtual 313, 3) := by decide +kernel
theorem dX10_chairs_35 : decode cX10_chairs 35 = .ok (.invokestatic 143, 3) := by decide +kernel
theorem dX10_chairs_38 : decode cX10_chairs 38 = .ok (.istore_n 3, 1) := by decide +kernel
theorem dX10_chairs_39 : decode cX10_chairs 39 = .ok (.iconst (-1), 1) := by decide +kernel
theorem dX10_chairs_40 : decode cX10_chairs 40 = .ok (.istore 4, 2) := by decide +kernel
theorem dX10_chairs_42 : decode cX10_chairs 42 = .ok (.iconst (-1), 1) := by decide +kernel
theorem dX10_chairs_43 : decode cX10_chairs 43 = .ok (.istore 5, 2) := by decide +kernel
theorem dX10_chairs_45 : decode cX10_chairs 45 = .ok (.iconst 0, 1) := by decide +kernel
theorem dX10_chairs_46 : decode cX10_chairs 46 = .ok (.istore 6, 2) := by decide +kernel
theorem dX10_chairs_48 : decode cX10_chairs 48 = .ok (.iload 6, 2) := by decide +kernel
theorem dX10_chairs_50 : decode cX10_chairs 50 = .ok (.bipush 36, 2) := by decide +kernel
theorem dX10_chairs_52 : decode cX10_chairs 52 = .ok (.if_icmp .ge 70, 3) := by decide +kernel
theorem dX10_chairs_55 : decode cX10_chairs 55 = .ok (.aload_n 0, 1) := by decide +kernel
theorem dX10_chairs_56 : decode cX10_chairs 56 = .ok (.getfield 61, 3) := by decide +kernel
theorem dX10_chairs_59 : decode cX10_chairs 59 = .ok (.getfield 166, 3) := by decide +kernel
theorem dX10_chairs_62 : decode cX10_chairs 62 = .ok (.iload 6, 2) := by decide +kernel
theorem dX10_chairs_64 : decode cX10_chairs 64 = .ok (.invokestatic 169, 3) := by decide +kernel
theorem dX10_chairs_67 : decode cX10_chairs 67 = .ok (.ifCond .ne 6, 3) := by decide +kernel
theorem dX10_chairs_70 : decode cX10_chairs 70 = .ok (.goto 46, 3) := by decide +kernel
theorem dX10_chairs_73 : decode cX10_chairs 73 = .ok (.aload_n 0, 1) := by decide +kernel
theorem dX10_chairs_74 : decode cX10_chairs 74 = .ok (.getfield 92, 3) := by decide +kernel
theorem dX10_chairs_77 : decode cX10_chairs 77 = .ok (.lload_n 1, 1) := by decide +kernel
theorem dX10_chairs_78 : decode cX10_chairs 78 = .ok (.iload 6, 2) := by decide +kernel
theorem dX10_chairs_80 : decode cX10_chairs 80 = .ok (.invokestatic 289, 3) := by decide +kernel
theorem dX10_chairs_83 : decode cX10_chairs 83 = .ok (.lor, 1) := by decide +kernel
theorem dX10_chairs_84 : decode cX10_chairs 84 = .ok (.aload_n 0, 1) := by decide +kernel
theorem dX10_chairs_85 : decode cX10_chairs 85 = .ok (.getfield 61, 3) := by decide +kernel
theorem dX10_chairs_88 : decode cX10_chairs 88 = .ok (.getfield 183, 3) := by decide +kernel
theorem dX10_chairs_91 : decode cX10_chairs 91 = .ok (.invokevirtual 313, 3) := by decide +kernel
theorem dX10_chairs_94 : decode cX10_chairs 94 = .ok (.invokestatic 143, 3) := by decide +kernel
theorem dX10_chairs_97 : decode cX10_chairs 97 = .ok (.iload_n 3, 1) := by decide +kernel
theorem dX10_chairs_98 : decode cX10_chairs 98 = .ok (.isub, 1) := by decide +kernel
theorem dX10_chairs_99 : decode cX10_chairs 99 = .ok (.istore 7, 2) := by decide +kernel
theorem dX10_chairs_101 : decode cX10_chairs 101 = .ok (.iload 7, 2) := by decide +kernel
theorem dX10_chairs_103 : decode cX10_chairs 103 = .ok (.iload 5, 2) := by decide +kernel
theorem dX10_chairs_105 : decode cX10_chairs 105 = .ok (.if_icmp .le 11, 3) := by decide +kernel
theorem dX10_chairs_108 : decode cX10_chairs 108 = .ok (.iload 7, 2) := by decide +kernel
theorem dX10_chairs_110 : decode cX10_chairs 110 = .ok (.istore 5, 2) := by decide +kernel
theorem dX10_chairs_112 : decode cX10_chairs 112 = .ok (.iload 6, 2) := by decide +kernel
theorem dX10_chairs_114 : decode cX10_chairs 114 = .ok (.istore 4, 2) := by decide +kernel
theorem dX10_chairs_116 : decode cX10_chairs 116 = .ok (.iinc 6 1, 3) := by decide +kernel
theorem dX10_chairs_119 : decode cX10_chairs 119 = .ok (.goto (-71), 3) := by decide +kernel
theorem dX10_chairs_122 : decode cX10_chairs 122 = .ok (.aload_n 0, 1) := by decide +kernel
theorem dX10_chairs_123 : decode cX10_chairs 123 = .ok (.getfield 19, 3) := by decide +kernel
theorem dX10_chairs_126 : decode cX10_chairs 126 = .ok (.invokevirtual 267, 3) := by decide +kernel
theorem dX10_chairs_129 : decode cX10_chairs 129 = .ok (.aload_n 0, 1) := by decide +kernel
theorem dX10_chairs_130 : decode cX10_chairs 130 = .ok (.getfield 19, 3) := by decide +kernel
theorem dX10_chairs_133 : decode cX10_chairs 133 = .ok (.iload 5, 2) := by decide +kernel
theorem dX10_chairs_135 : decode cX10_chairs 135 = .ok (.i2l, 1) := by decide +kernel
theorem dX10_chairs_136 : decode cX10_chairs 136 = .ok (.invokevirtual 269, 3) := by decide +kernel
theorem dX10_chairs_139 : decode cX10_chairs 139 = .ok (.iload 4, 2) := by decide +kernel
theorem dX10_chairs_141 : decode cX10_chairs 141 = .ok (.ireturn, 1) := by decide +kernel
theorem dX10_best_0 : decode cX10_best 0 = .ok (.iload_n 1, 1) := by decide +kernel
theorem dX10_best_1 : decode cX10_best 1 = .ok (.ifCond .lt 9, 3) := by decide +kernel
theorem dX10_best_4 : decode cX10_best 4 = .ok (.iload_n 1, 1) := by decide +kernel
theorem dX10_best_5 : decode cX10_best 5 = .ok (.bipush 6, 2) := by decide +kernel
theorem dX10_best_7 : decode cX10_best 7 = .ok (.if_icmp .le 5, 3) := by decide +kernel
theorem dX10_best_10 : decode cX10_best 10 = .ok (.iconst (-1), 1) := by decide +kernel
theorem dX10_best_11 : decode cX10_best 11 = .ok (.ireturn, 1) := by decide +kernel
theorem dX10_best_12 : decode cX10_best 12 = .ok (.aload_n 0, 1) := by decide +kernel
theorem dX10_best_13 : decode cX10_best 13 = .ok (.getfield 54, 3) := by decide +kernel
theorem dX10_best_16 : decode cX10_best 16 = .ok (.aload_n 0, 1) := by decide +kernel
theorem dX10_best_17 : decode cX10_best 17 = .ok (.getfield 92, 3) := by decide +kernel
theorem dX10_best_20 : decode cX10_best 20 = .ok (.aload_n 0, 1) := by decide +kernel
theorem dX10_best_21 : decode cX10_best 21 = .ok (.getfield 61, 3) := by decide +kernel
theorem dX10_best_24 : decode cX10_best 24 = .ok (.iload_n 1, 1) := by decide +kernel
theorem dX10_best_25 : decode cX10_best 25 = .ok (.invokevirtual 343, 3) := by decide +kernel
theorem dX10_best_28 : decode cX10_best 28 = .ok (.aload_n 0, 1) := by decide +kernel
theorem dX10_best_29 : decode cX10_best 29 = .ok (.getfield 19, 3) := by decide +kernel
theorem dX10_best_32 : decode cX10_best 32 = .ok (.invokevirtual 267, 3) := by decide +kernel
theorem dX10_best_35 : decode cX10_best 35 = .ok (.iconst 0, 1) := by decide +kernel
theorem dX10_best_36 : decode cX10_best 36 = .ok (.istore_n 2, 1) := by decide +kernel
theorem dX10_best_37 : decode cX10_best 37 = .ok (.iload_n 2, 1) := by decide +kernel
theorem dX10_best_38 : decode cX10_best 38 = .ok (.aload_n 0, 1) := by decide +kernel
theorem dX10_best_39 : decode cX10_best 39 = .ok (.getfield 54, 3) := by decide +kernel
theorem dX10_best_42 : decode cX10_best 42 = .ok (.getfield 347, 3) := by decide +kernel
theorem dX10_best_45 : decode cX10_best 45 = .ok (.if_icmp .ge 25, 3) := by decide +kernel
theorem dX10_best_48 : decode cX10_best 48 = .ok (.aload_n 0, 1) := by decide +kernel
theorem dX10_best_49 : decode cX10_best 49 = .ok (.getfield 19, 3) := by decide +kernel
theorem dX10_best_52 : decode cX10_best 52 = .ok (.aload_n 0, 1) := by decide +kernel
theorem dX10_best_53 : decode cX10_best 53 = .ok (.getfield 54, 3) := by decide +kernel
theorem dX10_best_56 : decode cX10_best 56 = .ok (.iload_n 2, 1) := by decide +kernel
theorem dX10_best_57 : decode cX10_best 57 = .ok (.invokevirtual 350, 3) := by decide +kernel
theorem dX10_best_60 : decode cX10_best 60 = .ok (.i2l, 1) := by decide +kernel
theorem dX10_best_61 : decode cX10_best 61 = .ok (.invokevirtual 269, 3) := by decide +kernel
theorem dX10_best_64 : decode cX10_best 64 = .ok (.iinc 2 1, 3) := by decide +kernel
theorem dX10_best_67 : decode cX10_best 67 = .ok (.goto (-30), 3) := by decide +kernel
theorem dX10_best_70 : decode cX10_best 70 = .ok (.aload_n 0, 1) := by decide +kernel
theorem dX10_best_71 : decode cX10_best 71 = .ok (.getfield 54, 3) := by decide +kernel
theorem dX10_best_74 : decode cX10_best 74 = .ok (.getfield 353, 3) := by decide +kernel
theorem dX10_best_77 : decode cX10_best 77 = .ok (.ireturn, 1) := by decide +kernel
theorem dX10_felt_0 : decode cX10_felt 0 = .ok (.iload_n 1, 1) := by decide +kernel
theorem dX10_felt_1 : decode cX10_felt 1 = .ok (.ifCond .eq 10, 3) := by decide +kernel
theorem dX10_felt_4 : decode cX10_felt 4 = .ok (.iload_n 1, 1) := by decide +kernel
theorem dX10_felt_5 : decode cX10_felt 5 = .ok (.iconst 1, 1) := by decide +kernel
theorem dX10_felt_6 : decode cX10_felt 6 = .ok (.if_icmp .eq 5, 3) := by decide +kernel
theorem dX10_felt_9 : decode cX10_felt 9 = .ok (.iconst (-1), 1) := by decide +kernel
theorem dX10_felt_10 : decode cX10_felt 10 = .ok (.ireturn, 1) := by decide +kernel
theorem dX10_felt_11 : decode cX10_felt 11 = .ok (.aload_n 0, 1) := by decide +kernel
theorem dX10_felt_12 : decode cX10_felt 12 = .ok (.iload_n 1, 1) := by decide +kernel
theorem dX10_felt_13 : decode cX10_felt 13 = .ok (.iconst 1, 1) := by decide +kernel
theorem dX10_felt_14 : decode cX10_felt 14 = .ok (.if_icmp .ne 7, 3) := by decide +kernel
theorem dX10_felt_17 : decode cX10_felt 17 = .ok (.iconst 4, 1) := by decide +kernel
theorem dX10_felt_18 : decode cX10_felt 18 = .ok (.goto 4, 3) := by decide +kernel
theorem dX10_felt_21 : decode cX10_felt 21 = .ok (.iconst 0, 1) := by decide +kernel
theorem dX10_felt_22 : decode cX10_felt 22 = .ok (.invokevirtual 356, 3) := by decide +kernel
theorem dX10_felt_25 : decode cX10_felt 25 = .ok (.ireturn, 1) := by decide +kernel
theorem dX10_swung_0 : decode cX10_swung 0 = .ok (.iload_n 1, 1) := by decide +kernel
theorem dX10_swung_1 : decode cX10_swung 1 = .ok (.iconst 1, 1) := by decide +kernel
theorem dX10_swung_2 : decode cX10_swung 2 = .ok (.if_icmp .lt 8, 3) := by decide +kernel
theorem dX10_swung_5 : decode cX10_swung 5 = .ok (.iload_n 1, 1) := by decide +kernel
theorem dX10_swung_6 : decode cX10_swung 6 = .ok (.iconst 4, 1) := by decide +kernel
theorem dX10_swung_7 : decode cX10_swung 7 = .ok (.if_icmp .lt 5, 3) := by decide +kernel
theorem dX10_swung_10 : decode cX10_swung 10 = .ok (.iconst (-1), 1) := by decide +kernel
theorem dX10_swung_11 : decode cX10_swung 11 = .ok (.ireturn, 1) := by decide +kernel
theorem dX10_swung_12 : decode cX10_swung 12 = .ok (.aload_n 0, 1) := by decide +kernel
theorem dX10_swung_13 : decode cX10_swung 13 = .ok (.iload_n 1, 1) := by decide +kernel
theorem dX10_swung_14 : decode cX10_swung 14 = .ok (.invokevirtual 356, 3) := by decide +kernel
theorem dX10_swung_17 : decode cX10_swung 17 = .ok (.ireturn, 1) := by decide +kernel
theorem dX10_forget_0 : decode cX10_forget 0 = .ok (.aload_n 0, 1) := by decide +kernel
theorem dX10_forget_1 : decode cX10_forget 1 = .ok (.getfield 47, 3) := by decide +kernel
theorem dX10_forget_4 : decode cX10_forget 4 = .ok (.invokevirtual 359, 3) := by decide +kernel
theorem dX10_forget_7 : decode cX10_forget 7 = .ok (.istore_n 1, 1) := by decide +kernel
theorem dX10_forget_8 : decode cX10_forget 8 = .ok (.aload_n 0, 1) := by decide +kernel
theorem dX10_forget_9 : decode cX10_forget 9 = .ok (.getfield 47, 3) := by decide +kernel
theorem dX10_forget_12 : decode cX10_forget 12 = .ok (.invokevirtual 139, 3) := by decide +kernel
theorem dX10_forget_15 : decode cX10_forget 15 = .ok (.iload_n 1, 1) := by decide +kernel
theorem dX10_forget_16 : decode cX10_forget 16 = .ok (.ireturn, 1) := by decide +kernel
theorem dX10_held_0 : decode cX10_held 0 = .ok (.aload_n 0, 1) := by decide +kernel
theorem dX10_held_1 : decode cX10_held 1 = .ok (.getfield 47, 3) := by decide +kernel
theorem dX10_held_4 : decode cX10_held 4 = .ok (.aload_n 0, 1) := by decide +kernel
theorem dX10_held_5 : decode cX10_held 5 = .ok (.getfield 92, 3) := by decide +kernel
theorem dX10_held_8 : decode cX10_held 8 = .ok (.aload_n 0, 1) := by decide +kernel
theorem dX10_held_9 : decode cX10_held 9 = .ok (.invokevirtual 186, 3) := by decide +kernel
theorem dX10_held_12 : decode cX10_held 12 = .ok (.invokevirtual 360, 3) := by decide +kernel
theorem dX10_held_15 : decode cX10_held 15 = .ok (.aload_n 0, 1) := by decide +kernel
theorem dX10_held_16 : decode cX10_held 16 = .ok (.getfield 19, 3) := by decide +kernel
theorem dX10_held_19 : decode cX10_held 19 = .ok (.invokevirtual 267, 3) := by decide +kernel
theorem dX10_held_22 : decode cX10_held 22 = .ok (.aload_n 0, 1) := by decide +kernel
theorem dX10_held_23 : decode cX10_held 23 = .ok (.getfield 19, 3) := by decide +kernel
theorem dX10_held_26 : decode cX10_held 26 = .ok (.aload_n 0, 1) := by decide +kernel
theorem dX10_held_27 : decode cX10_held 27 = .ok (.getfield 47, 3) := by decide +kernel
theorem dX10_held_30 : decode cX10_held 30 = .ok (.invokevirtual 364, 3) := by decide +kernel
theorem dX10_held_33 : decode cX10_held 33 = .ok (.invokevirtual 269, 3) := by decide +kernel
theorem dX10_held_36 : decode cX10_held 36 = .ok (.aload_n 0, 1) := by decide +kernel
theorem dX10_held_37 : decode cX10_held 37 = .ok (.getfield 19, 3) := by decide +kernel
theorem dX10_held_40 : decode cX10_held 40 = .ok (.aload_n 0, 1) := by decide +kernel
theorem dX10_held_41 : decode cX10_held 41 = .ok (.getfield 47, 3) := by decide +kernel
theorem dX10_held_44 : decode cX10_held 44 = .ok (.invokevirtual 367, 3) := by decide +kernel
theorem dX10_held_47 : decode cX10_held 47 = .ok (.i2l, 1) := by decide +kernel
theorem dX10_held_48 : decode cX10_held 48 = .ok (.invokevirtual 269, 3) := by decide +kernel
theorem dX10_held_51 : decode cX10_held 51 = .ok (.aload_n 0, 1) := by decide +kernel
theorem dX10_held_52 : decode cX10_held 52 = .ok (.getfield 47, 3) := by decide +kernel
theorem dX10_held_55 : decode cX10_held 55 = .ok (.invokevirtual 364, 3) := by decide +kernel
theorem dX10_held_58 : decode cX10_held 58 = .ok (.invokestatic 143, 3) := by decide +kernel
theorem dX10_held_61 : decode cX10_held 61 = .ok (.ireturn, 1) := by decide +kernel
theorem dX10_feel_0 : decode cX10_feel 0 = .ok (.aload_n 0, 1) := by decide +kernel
theorem dX10_feel_1 : decode cX10_feel 1 = .ok (.invokevirtual 186, 3) := by decide +kernel
theorem dX10_feel_4 : decode cX10_feel 4 = .ok (.lstore_n 1, 1) := by decide +kernel
theorem dX10_feel_5 : decode cX10_feel 5 = .ok (.aload_n 0, 1) := by decide +kernel
theorem dX10_feel_6 : decode cX10_feel 6 = .ok (.getfield 47, 3) := by decide +kernel
theorem dX10_feel_9 : decode cX10_feel 9 = .ok (.aload_n 0, 1) := by decide +kernel
theorem dX10_feel_10 : decode cX10_feel 10 = .ok (.getfield 92, 3) := by decide +kernel
theorem dX10_feel_13 : decode cX10_feel 13 = .ok (.lload_n 1, 1) := by decide +kernel
theorem dX10_feel_14 : decode cX10_feel 14 = .ok (.invokevirtual 360, 3) := by decide +kernel
theorem dX10_feel_17 : decode cX10_feel 17 = .ok (.aload_n 0, 1) := by decide +kernel
theorem dX10_feel_18 : decode cX10_feel 18 = .ok (.getfield 47, 3) := by decide +kernel
theorem dX10_feel_21 : decode cX10_feel 21 = .ok (.invokevirtual 367, 3) := by decide +kernel
theorem dX10_feel_24 : decode cX10_feel 24 = .ok (.istore_n 3, 1) := by decide +kernel
theorem dX10_feel_25 : decode cX10_feel 25 = .ok (.iload_n 3, 1) := by decide +kernel
theorem dX10_feel_26 : decode cX10_feel 26 = .ok (.ifCond .ne 6, 3) := by decide +kernel
theorem dX10_feel_29 : decode cX10_feel 29 = .ok (.bipush (-2), 2) := by decide +kernel
theorem dX10_feel_31 : decode cX10_feel 31 = .ok (.ireturn, 1) := by decide +kernel
theorem dX10_feel_32 : decode cX10_feel 32 = .ok (.iconst 0, 1) := by decide +kernel
theorem dX10_feel_33 : decode cX10_feel 33 = .ok (.istore 4, 2) := by decide +kernel
theorem dX10_feel_35 : decode cX10_feel 35 = .ok (.iload_n 3, 1) := by decide +kernel
theorem dX10_feel_36 : decode cX10_feel 36 = .ok (.iconst 1, 1) := by decide +kernel
theorem dX10_feel_37 : decode cX10_feel 37 = .ok (.iadd, 1) := by decide +kernel
theorem dX10_feel_38 : decode cX10_feel 38 = .ok (.istore 5, 2) := by decide +kernel
theorem dX10_feel_40 : decode cX10_feel 40 = .ok (.iconst 0, 1) := by decide +kernel
theorem dX10_feel_41 : decode cX10_feel 41 = .ok (.istore 6, 2) := by decide +kernel
theorem dX10_feel_43 : decode cX10_feel 43 = .ok (.iload 6, 2) := by decide +kernel
theorem dX10_feel_45 : decode cX10_feel 45 = .ok (.iconst 4, 1) := by decide +kernel
theorem dX10_feel_46 : decode cX10_feel 46 = .ok (.if_icmp .ge 51, 3) := by decide +kernel
theorem dX10_feel_49 : decode cX10_feel 49 = .ok (.aload_n 0, 1) := by decide +kernel
theorem dX10_feel_50 : decode cX10_feel 50 = .ok (.getfield 47, 3) := by decide +kernel
theorem dX10_feel_53 : decode cX10_feel 53 = .ok (.aload_n 0, 1) := by decide +kernel
theorem dX10_feel_54 : decode cX10_feel 54 = .ok (.getfield 92, 3) := by decide +kernel
theorem dX10_feel_57 : decode cX10_feel 57 = .ok (.lload_n 1, 1) := by decide +kernel
theorem dX10_feel_58 : decode cX10_feel 58 = .ok (.iload 6, 2) := by decide +kernel
theorem dX10_feel_60 : decode cX10_feel 60 = .ok (.invokevirtual 370, 3) := by decide +kernel
theorem dX10_feel_63 : decode cX10_feel 63 = .ok (.istore 7, 2) := by decide +kernel
theorem dX10_feel_65 : decode cX10_feel 65 = .ok (.iload 7, 2) := by decide +kernel
theorem dX10_feel_67 : decode cX10_feel 67 = .ok (.iload_n 3, 1) := by decide +kernel
theorem dX10_feel_68 : decode cX10_feel 68 = .ok (.iload 7, 2) := by decide +kernel
theorem dX10_feel_70 : decode cX10_feel 70 = .ok (.isub, 1) := by decide +kernel
theorem dX10_feel_71 : decode cX10_feel 71 = .ok (.invokestatic 374, 3) := by decide +kernel
theorem dX10_feel_74 : decode cX10_feel 74 = .ok (.istore 8, 2) := by decide +kernel
theorem dX10_feel_76 : decode cX10_feel 76 = .ok (.iload 8, 2) := by decide +kernel
theorem dX10_feel_78 : decode cX10_feel 78 = .ok (.iload 5, 2) := by decide +kernel
theorem dX10_feel_80 : decode cX10_feel 80 = .ok (.if_icmp .ge 11, 3) := by decide +kernel
theorem dX10_feel_83 : decode cX10_feel 83 = .ok (.iload 8, 2) := by decide +kernel
theorem dX10_feel_85 : decode cX10_feel 85 = .ok (.istore 5, 2) := by decide +kernel
theorem dX10_feel_87 : decode cX10_feel 87 = .ok (.iload 6, 2) := by decide +kernel
theorem dX10_feel_89 : decode cX10_feel 89 = .ok (.istore 4, 2) := by decide +kernel
theorem dX10_feel_91 : decode cX10_feel 91 = .ok (.iinc 6 1, 3) := by decide +kernel
theorem dX10_feel_94 : decode cX10_feel 94 = .ok (.goto (-51), 3) := by decide +kernel
theorem dX10_feel_97 : decode cX10_feel 97 = .ok (.aload_n 0, 1) := by decide +kernel
theorem dX10_feel_98 : decode cX10_feel 98 = .ok (.getfield 19, 3) := by decide +kernel
theorem dX10_feel_101 : decode cX10_feel 101 = .ok (.invokevirtual 267, 3) := by decide +kernel
theorem dX10_feel_104 : decode cX10_feel 104 = .ok (.aload_n 0, 1) := by decide +kernel
theorem dX10_feel_105 : decode cX10_feel 105 = .ok (.getfield 19, 3) := by decide +kernel
theorem dX10_feel_108 : decode cX10_feel 108 = .ok (.iload 5, 2) := by decide +kernel
theorem dX10_feel_110 : decode cX10_feel 110 = .ok (.i2l, 1) := by decide +kernel
theorem dX10_feel_111 : decode cX10_feel 111 = .ok (.invokevirtual 269, 3) := by decide +kernel
theorem dX10_feel_114 : decode cX10_feel 114 = .ok (.iload 4, 2) := by decide +kernel
theorem dX10_feel_116 : decode cX10_feel 116 = .ok (.ireturn, 1) := by decide +kernel
theorem dX10_heardOf_0 : decode cX10_heardOf 0 = .ok (.aload_n 0, 1) := by decide +kernel
theorem dX10_heardOf_1 : decode cX10_heardOf 1 = .ok (.getfield 47, 3) := by decide +kernel
theorem dX10_heardOf_4 : decode cX10_heardOf 4 = .ok (.iload_n 1, 1) := by decide +kernel
theorem dX10_heardOf_5 : decode cX10_heardOf 5 = .ok (.invokevirtual 377, 3) := by decide +kernel
theorem dX10_heardOf_8 : decode cX10_heardOf 8 = .ok (.ifCond .ne 5, 3) := by decide +kernel
theorem dX10_heardOf_11 : decode cX10_heardOf 11 = .ok (.iconst (-1), 1) := by decide +kernel
theorem dX10_heardOf_12 : decode cX10_heardOf 12 = .ok (.ireturn, 1) := by decide +kernel
theorem dX10_heardOf_13 : decode cX10_heardOf 13 = .ok (.aload_n 0, 1) := by decide +kernel
theorem dX10_heardOf_14 : decode cX10_heardOf 14 = .ok (.getfield 47, 3) := by decide +kernel
theorem dX10_heardOf_17 : decode cX10_heardOf 17 = .ok (.aload_n 0, 1) := by decide +kernel
theorem dX10_heardOf_18 : decode cX10_heardOf 18 = .ok (.getfield 92, 3) := by decide +kernel
theorem dX10_heardOf_21 : decode cX10_heardOf 21 = .ok (.aload_n 0, 1) := by decide +kernel
theorem dX10_heardOf_22 : decode cX10_heardOf 22 = .ok (.invokevirtual 186, 3) := by decide +kernel
theorem dX10_heardOf_25 : decode cX10_heardOf 25 = .ok (.invokevirtual 360, 3) := by decide +kernel
theorem dX10_heardOf_28 : decode cX10_heardOf 28 = .ok (.aload_n 0, 1) := by decide +kernel
theorem dX10_heardOf_29 : decode cX10_heardOf 29 = .ok (.getfield 47, 3) := by decide +kernel
theorem dX10_heardOf_32 : decode cX10_heardOf 32 = .ok (.invokevirtual 367, 3) := by decide +kernel
theorem dX10_heardOf_35 : decode cX10_heardOf 35 = .ok (.ireturn, 1) := by decide +kernel
theorem dX10_likely_0 : decode cX10_likely 0 = .ok (.iload_n 1, 1) := by decide +kernel
theorem dX10_likely_1 : decode cX10_likely 1 = .ok (.ifCond .lt 20, 3) := by decide +kernel
theorem dX10_likely_4 : decode cX10_likely 4 = .ok (.iload_n 1, 1) := by decide +kernel
theorem dX10_likely_5 : decode cX10_likely 5 = .ok (.bipush 10, 2) := by decide +kernel
theorem dX10_likely_7 : decode cX10_likely 7 = .ok (.if_icmp .gt 14, 3) := by decide +kernel
theorem dX10_likely_10 : decode cX10_likely 10 = .ok (.aload_n 0, 1) := by decide +kernel
theorem dX10_likely_11 : decode cX10_likely 11 = .ok (.getfield 92, 3) := by decide +kernel
theorem dX10_likely_14 : decode cX10_likely 14 = .ok (.iload_n 2, 1) := by decide +kernel
theorem dX10_likely_15 : decode cX10_likely 15 = .ok (.invokevirtual 152, 3) := by decide +kernel
theorem dX10_likely_18 : decode cX10_likely 18 = .ok (.ifCond .ne 5, 3) := by decide +kernel
theorem dX10_likely_21 : decode cX10_likely 21 = .ok (.iconst (-1), 1) := by decide +kernel
theorem dX10_likely_22 : decode cX10_likely 22 = .ok (.ireturn, 1) := by decide +kernel
theorem dX10_likely_23 : decode cX10_likely 23 = .ok (.aload_n 0, 1) := by decide +kernel
theorem dX10_likely_24 : decode cX10_likely 24 = .ok (.getfield 82, 3) := by decide +kernel
theorem dX10_likely_27 : decode cX10_likely 27 = .ok (.lconst 0, 1) := by decide +kernel
theorem dX10_likely_28 : decode cX10_likely 28 = .ok (.invokestatic 379, 3) := by decide +kernel
theorem dX10_likely_31 : decode cX10_likely 31 = .ok (.aload_n 0, 1) := by decide +kernel
theorem dX10_likely_32 : decode cX10_likely 32 = .ok (.getfield 61, 3) := by decide +kernel
theorem dX10_likely_35 : decode cX10_likely 35 = .ok (.getfield 183, 3) := by decide +kernel
theorem dX10_likely_38 : decode cX10_likely 38 = .ok (.ifCond .lt 28, 3) := by decide +kernel
theorem dX10_likely_41 : decode cX10_likely 41 = .ok (.aload_n 0, 1) := by decide +kernel
theorem dX10_likely_42 : decode cX10_likely 42 = .ok (.getfield 61, 3) := by decide +kernel
theorem dX10_likely_45 : decode cX10_likely 45 = .ok (.getfield 183, 3) := by decide +kernel
theorem dX10_likely_48 : decode cX10_likely 48 = .ok (.bipush 36, 2) := by decide +kernel
theorem dX10_likely_50 : decode cX10_likely 50 = .ok (.if_icmp .ge 16, 3) := by decide +kernel
theorem dX10_likely_53 : decode cX10_likely 53 = .ok (.aload_n 0, 1) := by decide +kernel
theorem dX10_likely_54 : decode cX10_likely 54 = .ok (.getfield 82, 3) := by decide +kernel
theorem dX10_likely_57 : decode cX10_likely 57 = .ok (.aload_n 0, 1) := by decide +kernel
theorem dX10_likely_58 : decode cX10_likely 58 = .ok (.getfield 61, 3) := by decide +kernel
theorem dX10_likely_61 : decode cX10_likely 61 = .ok (.getfield 183, 3) := by decide +kernel
theorem dX10_likely_64 : decode cX10_likely 64 = .ok (.lconst 1, 1) := by decide +kernel
theorem dX10_likely_65 : decode cX10_likely 65 = .ok (.lastore, 1) := by decide +kernel
theorem dX10_likely_66 : decode cX10_likely 66 = .ok (.lconst 1, 1) := by decide +kernel
theorem dX10_likely_67 : decode cX10_likely 67 = .ok (.lstore_n 3, 1) := by decide +kernel
theorem dX10_likely_68 : decode cX10_likely 68 = .ok (.iconst 0, 1) := by decide +kernel
theorem dX10_likely_69 : decode cX10_likely 69 = .ok (.istore 5, 2) := by decide +kernel
theorem dX10_likely_71 : decode cX10_likely 71 = .ok (.iload 5, 2) := by decide +kernel
theorem dX10_likely_73 : decode cX10_likely 73 = .ok (.iload_n 1, 1) := by decide +kernel
theorem dX10_likely_74 : decode cX10_likely 74 = .ok (.if_icmp .ge 19, 3) := by decide +kernel
theorem dX10_likely_77 : decode cX10_likely 77 = .ok (.aload_n 0, 1) := by decide +kernel
theorem dX10_likely_78 : decode cX10_likely 78 = .ok (.invokevirtual 382, 3) := by decide +kernel
theorem dX10_likely_81 : decode cX10_likely 81 = .ok (.lload_n 3, 1) := by decide +kernel
theorem dX10_likely_82 : decode cX10_likely 82 = .ok (.ldc2_w 385, 3) := by decide +kernel
theorem dX10_likely_85 : decode cX10_likely 85 = .ok (.lmul, 1) := by decide +kernel
theorem dX10_likely_86 : decode cX10_likely 86 = .ok (.lstore_n 3, 1) := by decide +kernel
theorem dX10_likely_87 : decode cX10_likely 87 = .ok (.iinc 5 1, 3) := by decide +kernel
theorem dX10_likely_90 : decode cX10_likely 90 = .ok (.goto (-19), 3) := by decide +kernel
theorem dX10_likely_93 : decode cX10_likely 93 = .ok (.aload_n 0, 1) := by decide +kernel
theorem dX10_likely_94 : decode cX10_likely 94 = .ok (.aload_n 0, 1) := by decide +kernel
theorem dX10_likely_95 : decode cX10_likely 95 = .ok (.getfield 82, 3) := by decide +kernel
theorem dX10_likely_98 : decode cX10_likely 98 = .ok (.iload_n 2, 1) := by decide +kernel
theorem dX10_likely_99 : decode cX10_likely 99 = .ok (.laload, 1) := by decide +kernel
theorem dX10_likely_100 : decode cX10_likely 100 = .ok (.lload_n 3, 1) := by decide +kernel
theorem dX10_likely_101 : decode cX10_likely 101 = .ok (.invokevirtual 387, 3) := by decide +kernel
theorem dX10_likely_104 : decode cX10_likely 104 = .ok (.iconst 0, 1) := by decide +kernel
theorem dX10_likely_105 : decode cX10_likely 105 = .ok (.ireturn, 1) := by decide +kernel
theorem dX10_week_0 : decode cX10_week 0 = .ok (.iload_n 1, 1) := by decide +kernel
theorem dX10_week_1 : decode cX10_week 1 = .ok (.ifCond .lt 20, 3) := by decide +kernel
theorem dX10_week_4 : decode cX10_week 4 = .ok (.iload_n 1, 1) := by decide +kernel
theorem dX10_week_5 : decode cX10_week 5 = .ok (.bipush 7, 2) := by decide +kernel
theorem dX10_week_7 : decode cX10_week 7 = .ok (.if_icmp .gt 14, 3) := by decide +kernel
theorem dX10_week_10 : decode cX10_week 10 = .ok (.iload_n 2, 1) := by decide +kernel
theorem dX10_week_11 : decode cX10_week 11 = .ok (.iconst 1, 1) := by decide +kernel
theorem dX10_week_12 : decode cX10_week 12 = .ok (.if_icmp .lt 9, 3) := by decide +kernel
theorem dX10_week_15 : decode cX10_week 15 = .ok (.iload_n 2, 1) := by decide +kernel
theorem dX10_week_16 : decode cX10_week 16 = .ok (.bipush 9, 2) := by decide +kernel
theorem dX10_week_18 : decode cX10_week 18 = .ok (.if_icmp .le 5, 3) := by decide +kernel
theorem dX10_week_21 : decode cX10_week 21 = .ok (.iconst (-1), 1) := by decide +kernel
theorem dX10_week_22 : decode cX10_week 22 = .ok (.ireturn, 1) := by decide +kernel
theorem dX10_week_23 : decode cX10_week 23 = .ok (.iconst (-1), 1) := by decide +kernel
theorem dX10_week_24 : decode cX10_week 24 = .ok (.istore_n 3, 1) := by decide +kernel
theorem dX10_week_25 : decode cX10_week 25 = .ok (.iconst 0, 1) := by decide +kernel
theorem dX10_week_26 : decode cX10_week 26 = .ok (.istore 4, 2) := by decide +kernel
theorem dX10_week_28 : decode cX10_week 28 = .ok (.iconst 0, 1) := by decide +kernel
theorem dX10_week_29 : decode cX10_week 29 = .ok (.istore 5, 2) := by decide +kernel
theorem dX10_week_31 : decode cX10_week 31 = .ok (.iload 5, 2) := by decide +kernel
theorem dX10_week_33 : decode cX10_week 33 = .ok (.sipush 128, 3) := by decide +kernel
theorem dX10_week_36 : decode cX10_week 36 = .ok (.if_icmp .ge 48, 3) := by decide +kernel
theorem dX10_week_39 : decode cX10_week 39 = .ok (.iload 5, 2) := by decide +kernel
theorem dX10_week_41 : decode cX10_week 41 = .ok (.invokestatic 391, 3) := by decide +kernel
theorem dX10_week_44 : decode cX10_week 44 = .ok (.iload_n 1, 1) := by decide +kernel
theorem dX10_week_45 : decode cX10_week 45 = .ok (.if_icmp .eq 6, 3) := by decide +kernel
theorem dX10_week_48 : decode cX10_week 48 = .ok (.goto 30, 3) := by decide +kernel
theorem dX10_week_51 : decode cX10_week 51 = .ok (.iload 5, 2) := by decide +kernel
theorem dX10_week_53 : decode cX10_week 53 = .ok (.iload_n 2, 1) := by decide +kernel
theorem dX10_week_54 : decode cX10_week 54 = .ok (.invokestatic 395, 3) := by decide +kernel
theorem dX10_week_57 : decode cX10_week 57 = .ok (.istore 6, 2) := by decide +kernel
theorem dX10_week_59 : decode cX10_week 59 = .ok (.iload_n 3, 1) := by decide +kernel
theorem dX10_week_60 : decode cX10_week 60 = .ok (.iconst (-1), 1) := by decide +kernel
theorem dX10_week_61 : decode cX10_week 61 = .ok (.if_icmp .eq 10, 3) := by decide +kernel
theorem dX10_week_64 : decode cX10_week 64 = .ok (.iload 6, 2) := by decide +kernel
theorem dX10_week_66 : decode cX10_week 66 = .ok (.iload 4, 2) := by decide +kernel
theorem dX10_week_68 : decode cX10_week 68 = .ok (.if_icmp .ge 10, 3) := by decide +kernel
theorem dX10_week_71 : decode cX10_week 71 = .ok (.iload 6, 2) := by decide +kernel
theorem dX10_week_73 : decode cX10_week 73 = .ok (.istore 4, 2) := by decide +kernel
theorem dX10_week_75 : decode cX10_week 75 = .ok (.iload 5, 2) := by decide +kernel
theorem dX10_week_77 : decode cX10_week 77 = .ok (.istore_n 3, 1) := by decide +kernel
theorem dX10_week_78 : decode cX10_week 78 = .ok (.iinc 5 1, 3) := by decide +kernel
theorem dX10_week_81 : decode cX10_week 81 = .ok (.goto (-50), 3) := by decide +kernel
theorem dX10_week_84 : decode cX10_week 84 = .ok (.aload_n 0, 1) := by decide +kernel
theorem dX10_week_85 : decode cX10_week 85 = .ok (.getfield 19, 3) := by decide +kernel
theorem dX10_week_88 : decode cX10_week 88 = .ok (.invokevirtual 267, 3) := by decide +kernel
theorem dX10_week_91 : decode cX10_week 91 = .ok (.aload_n 0, 1) := by decide +kernel
theorem dX10_week_92 : decode cX10_week 92 = .ok (.getfield 19, 3) := by decide +kernel
theorem dX10_week_95 : decode cX10_week 95 = .ok (.iload_n 3, 1) := by decide +kernel
theorem dX10_week_96 : decode cX10_week 96 = .ok (.i2l, 1) := by decide +kernel
theorem dX10_week_97 : decode cX10_week 97 = .ok (.invokevirtual 269, 3) := by decide +kernel
theorem dX10_week_100 : decode cX10_week 100 = .ok (.iload 4, 2) := by decide +kernel
theorem dX10_week_102 : decode cX10_week 102 = .ok (.ireturn, 1) := by decide +kernel
theorem dX10_looks_0 : decode cX10_looks 0 = .ok (.iconst 0, 1) := by decide +kernel
theorem dX10_looks_1 : decode cX10_looks 1 = .ok (.istore_n 1, 1) := by decide +kernel
theorem dX10_looks_2 : decode cX10_looks 2 = .ok (.iconst 1, 1) := by decide +kernel
theorem dX10_looks_3 : decode cX10_looks 3 = .ok (.istore_n 2, 1) := by decide +kernel
theorem dX10_looks_4 : decode cX10_looks 4 = .ok (.iload_n 2, 1) := by decide +kernel
theorem dX10_looks_5 : decode cX10_looks 5 = .ok (.iconst 4, 1) := by decide +kernel
theorem dX10_looks_6 : decode cX10_looks 6 = .ok (.if_icmp .ge 26, 3) := by decide +kernel
theorem dX10_looks_9 : decode cX10_looks 9 = .ok (.aload_n 0, 1) := by decide +kernel
theorem dX10_looks_10 : decode cX10_looks 10 = .ok (.getfield 92, 3) := by decide +kernel
theorem dX10_looks_13 : decode cX10_looks 13 = .ok (.iload_n 2, 1) := by decide +kernel
theorem dX10_looks_14 : decode cX10_looks 14 = .ok (.invokevirtual 398, 3) := by decide +kernel
theorem dX10_looks_17 : decode cX10_looks 17 = .ok (.ifCond .eq 9, 3) := by decide +kernel
theorem dX10_looks_20 : decode cX10_looks 20 = .ok (.iload_n 1, 1) := by decide +kernel
theorem dX10_looks_21 : decode cX10_looks 21 = .ok (.iconst 1, 1) := by decide +kernel
theorem dX10_looks_22 : decode cX10_looks 22 = .ok (.iload_n 2, 1) := by decide +kernel
theorem dX10_looks_23 : decode cX10_looks 23 = .ok (.ishl, 1) := by decide +kernel
theorem dX10_looks_24 : decode cX10_looks 24 = .ok (.ior, 1) := by decide +kernel
theorem dX10_looks_25 : decode cX10_looks 25 = .ok (.istore_n 1, 1) := by decide +kernel
theorem dX10_looks_26 : decode cX10_looks 26 = .ok (.iinc 2 1, 3) := by decide +kernel
theorem dX10_looks_29 : decode cX10_looks 29 = .ok (.goto (-25), 3) := by decide +kernel
theorem dX10_looks_32 : decode cX10_looks 32 = .ok (.aload_n 0, 1) := by decide +kernel
theorem dX10_looks_33 : decode cX10_looks 33 = .ok (.getfield 19, 3) := by decide +kernel
theorem dX10_looks_36 : decode cX10_looks 36 = .ok (.invokevirtual 267, 3) := by decide +kernel
theorem dX10_looks_39 : decode cX10_looks 39 = .ok (.aload_n 0, 1) := by decide +kernel
theorem dX10_looks_40 : decode cX10_looks 40 = .ok (.getfield 19, 3) := by decide +kernel
theorem dX10_looks_43 : decode cX10_looks 43 = .ok (.iload_n 1, 1) := by decide +kernel
theorem dX10_looks_44 : decode cX10_looks 44 = .ok (.invokestatic 391, 3) := by decide +kernel
theorem dX10_looks_47 : decode cX10_looks 47 = .ok (.i2l, 1) := by decide +kernel
theorem dX10_looks_48 : decode cX10_looks 48 = .ok (.invokevirtual 269, 3) := by decide +kernel
theorem dX10_looks_51 : decode cX10_looks 51 = .ok (.aload_n 0, 1) := by decide +kernel
theorem dX10_looks_52 : decode cX10_looks 52 = .ok (.getfield 19, 3) := by decide +kernel
theorem dX10_looks_55 : decode cX10_looks 55 = .ok (.aload_n 0, 1) := by decide +kernel
theorem dX10_looks_56 : decode cX10_looks 56 = .ok (.getfield 92, 3) := by decide +kernel
theorem dX10_looks_59 : decode cX10_looks 59 = .ok (.invokevirtual 401, 3) := by decide +kernel
theorem dX10_looks_62 : decode cX10_looks 62 = .ok (.invokestatic 173, 3) := by decide +kernel
theorem dX10_looks_65 : decode cX10_looks 65 = .ok (.i2l, 1) := by decide +kernel
theorem dX10_looks_66 : decode cX10_looks 66 = .ok (.invokevirtual 269, 3) := by decide +kernel
theorem dX10_looks_69 : decode cX10_looks 69 = .ok (.iload_n 1, 1) := by decide +kernel
theorem dX10_looks_70 : decode cX10_looks 70 = .ok (.ireturn, 1) := by decide +kernel
