theorem dX10_box_0 : decode cX10_box 0 = .ok (.iload_n 1, 1) := by decide +kernel
theorem dX10_box_1 : decode cX10_box 1 = .ok (.ifCond .lt 10, 3) := by decide +kernel
theorem dX10_box_4 : decode cX10_box 4 = .ok (.iload_n 1, 1) := by decide +kernel
theorem dX10_box_5 : decode cX10_box 5 = .ok (.sipush 999, 3) := by decide +kernel
theorem dX10_box_8 : decode cX10_box 8 = .ok (.if_icmp .le 5, 3) := by decide +kernel
theorem dX10_box_11 : decode cX10_box 11 = .ok (.iconst (-1), 1) := by decide +kernel
theorem dX10_box_12 : decode cX10_box 12 = .ok (.ireturn, 1) := by decide +kernel
theorem dX10_box_13 : decode cX10_box 13 = .ok (.aload_n 0, 1) := by decide +kernel
theorem dX10_box_14 : decode cX10_box 14 = .ok (.getfield 61, 3) := by decide +kernel
theorem dX10_box_17 : decode cX10_box 17 = .ok (.invokevirtual 405, 3) := by decide +kernel
theorem dX10_box_20 : decode cX10_box 20 = .ok (.lstore_n 2, 1) := by decide +kernel
theorem dX10_box_21 : decode cX10_box 21 = .ok (.lload_n 2, 1) := by decide +kernel
theorem dX10_box_22 : decode cX10_box 22 = .ok (.invokestatic 143, 3) := by decide +kernel
theorem dX10_box_25 : decode cX10_box 25 = .ok (.bipush 20, 2) := by decide +kernel
theorem dX10_box_27 : decode cX10_box 27 = .ok (.if_icmp .le 6, 3) := by decide +kernel
theorem dX10_box_30 : decode cX10_box 30 = .ok (.bipush (-2), 2) := by decide +kernel
theorem dX10_box_32 : decode cX10_box 32 = .ok (.ireturn, 1) := by decide +kernel
theorem dX10_box_33 : decode cX10_box 33 = .ok (.aload_n 0, 1) := by decide +kernel
theorem dX10_box_34 : decode cX10_box 34 = .ok (.lload_n 2, 1) := by decide +kernel
theorem dX10_box_35 : decode cX10_box 35 = .ok (.iload_n 1, 1) := by decide +kernel
theorem dX10_box_36 : decode cX10_box 36 = .ok (.invokevirtual 408, 3) := by decide +kernel
theorem dX10_box_39 : decode cX10_box 39 = .ok (.lconst 0, 1) := by decide +kernel
theorem dX10_box_40 : decode cX10_box 40 = .ok (.lstore 4, 2) := by decide +kernel
theorem dX10_box_42 : decode cX10_box 42 = .ok (.iconst 0, 1) := by decide +kernel
theorem dX10_box_43 : decode cX10_box 43 = .ok (.istore 6, 2) := by decide +kernel
theorem dX10_box_45 : decode cX10_box 45 = .ok (.iload 6, 2) := by decide +kernel
theorem dX10_box_47 : decode cX10_box 47 = .ok (.bipush 36, 2) := by decide +kernel
theorem dX10_box_49 : decode cX10_box 49 = .ok (.if_icmp .ge 54, 3) := by decide +kernel
theorem dX10_box_52 : decode cX10_box 52 = .ok (.aload_n 0, 1) := by decide +kernel
theorem dX10_box_53 : decode cX10_box 53 = .ok (.getfield 75, 3) := by decide +kernel
theorem dX10_box_56 : decode cX10_box 56 = .ok (.iload_n 1, 1) := by decide +kernel
theorem dX10_box_57 : decode cX10_box 57 = .ok (.iaload, 1) := by decide +kernel
theorem dX10_box_58 : decode cX10_box 58 = .ok (.ifCond .le 45, 3) := by decide +kernel
theorem dX10_box_61 : decode cX10_box 61 = .ok (.lload_n 2, 1) := by decide +kernel
theorem dX10_box_62 : decode cX10_box 62 = .ok (.iload 6, 2) := by decide +kernel
theorem dX10_box_64 : decode cX10_box 64 = .ok (.invokestatic 169, 3) := by decide +kernel
theorem dX10_box_67 : decode cX10_box 67 = .ok (.ifCond .eq 30, 3) := by decide +kernel
theorem dX10_box_70 : decode cX10_box 70 = .ok (.aload_n 0, 1) := by decide +kernel
theorem dX10_box_71 : decode cX10_box 71 = .ok (.aload_n 0, 1) := by decide +kernel
theorem dX10_box_72 : decode cX10_box 72 = .ok (.getfield 61, 3) := by decide +kernel
theorem dX10_box_75 : decode cX10_box 75 = .ok (.iload 6, 2) := by decide +kernel
theorem dX10_box_77 : decode cX10_box 77 = .ok (.invokevirtual 177, 3) := by decide +kernel
theorem dX10_box_80 : decode cX10_box 80 = .ok (.iload_n 1, 1) := by decide +kernel
theorem dX10_box_81 : decode cX10_box 81 = .ok (.invokevirtual 412, 3) := by decide +kernel
theorem dX10_box_84 : decode cX10_box 84 = .ok (.ifCond .ne 13, 3) := by decide +kernel
theorem dX10_box_87 : decode cX10_box 87 = .ok (.lload 4, 2) := by decide +kernel
theorem dX10_box_89 : decode cX10_box 89 = .ok (.iload 6, 2) := by decide +kernel
theorem dX10_box_91 : decode cX10_box 91 = .ok (.invokestatic 289, 3) := by decide +kernel
theorem dX10_box_94 : decode cX10_box 94 = .ok (.lor, 1) := by decide +kernel
theorem dX10_box_95 : decode cX10_box 95 = .ok (.lstore 4, 2) := by decide +kernel
theorem dX10_box_97 : decode cX10_box 97 = .ok (.iinc 6 1, 3) := by decide +kernel
theorem dX10_box_100 : decode cX10_box 100 = .ok (.goto (-55), 3) := by decide +kernel
theorem dX10_box_103 : decode cX10_box 103 = .ok (.aload_n 0, 1) := by decide +kernel
theorem dX10_box_104 : decode cX10_box 104 = .ok (.getfield 19, 3) := by decide +kernel
theorem dX10_box_107 : decode cX10_box 107 = .ok (.invokevirtual 267, 3) := by decide +kernel
theorem dX10_box_110 : decode cX10_box 110 = .ok (.aload_n 0, 1) := by decide +kernel
theorem dX10_box_111 : decode cX10_box 111 = .ok (.getfield 19, 3) := by decide +kernel
theorem dX10_box_114 : decode cX10_box 114 = .ok (.lload 4, 2) := by decide +kernel
theorem dX10_box_116 : decode cX10_box 116 = .ok (.invokevirtual 269, 3) := by decide +kernel
theorem dX10_box_119 : decode cX10_box 119 = .ok (.aload_n 0, 1) := by decide +kernel
theorem dX10_box_120 : decode cX10_box 120 = .ok (.getfield 75, 3) := by decide +kernel
theorem dX10_box_123 : decode cX10_box 123 = .ok (.iload_n 1, 1) := by decide +kernel
theorem dX10_box_124 : decode cX10_box 124 = .ok (.iaload, 1) := by decide +kernel
theorem dX10_box_125 : decode cX10_box 125 = .ok (.ireturn, 1) := by decide +kernel
theorem dX10_clean_0 : decode cX10_clean 0 = .ok (.aload_n 0, 1) := by decide +kernel
theorem dX10_clean_1 : decode cX10_clean 1 = .ok (.getfield 92, 3) := by decide +kernel
theorem dX10_clean_4 : decode cX10_clean 4 = .ok (.getfield 128, 3) := by decide +kernel
theorem dX10_clean_7 : decode cX10_clean 7 = .ok (.invokestatic 143, 3) := by decide +kernel
theorem dX10_clean_10 : decode cX10_clean 10 = .ok (.istore_n 2, 1) := by decide +kernel
theorem dX10_clean_11 : decode cX10_clean 11 = .ok (.iload_n 1, 1) := by decide +kernel
theorem dX10_clean_12 : decode cX10_clean 12 = .ok (.iconst 1, 1) := by decide +kernel
theorem dX10_clean_13 : decode cX10_clean 13 = .ok (.if_icmp .lt 8, 3) := by decide +kernel
theorem dX10_clean_16 : decode cX10_clean 16 = .ok (.iload_n 1, 1) := by decide +kernel
theorem dX10_clean_17 : decode cX10_clean 17 = .ok (.iload_n 2, 1) := by decide +kernel
theorem dX10_clean_18 : decode cX10_clean 18 = .ok (.if_icmp .le 5, 3) := by decide +kernel
theorem dX10_clean_21 : decode cX10_clean 21 = .ok (.iconst (-1), 1) := by decide +kernel
theorem dX10_clean_22 : decode cX10_clean 22 = .ok (.ireturn, 1) := by decide +kernel
theorem dX10_clean_23 : decode cX10_clean 23 = .ok (.aload_n 0, 1) := by decide +kernel
theorem dX10_clean_24 : decode cX10_clean 24 = .ok (.iload_n 2, 1) := by decide +kernel
theorem dX10_clean_25 : decode cX10_clean 25 = .ok (.aload_n 0, 1) := by decide +kernel
theorem dX10_clean_26 : decode cX10_clean 26 = .ok (.getfield 61, 3) := by decide +kernel
theorem dX10_clean_29 : decode cX10_clean 29 = .ok (.invokevirtual 405, 3) := by decide +kernel
theorem dX10_clean_32 : decode cX10_clean 32 = .ok (.invokestatic 143, 3) := by decide +kernel
theorem dX10_clean_35 : decode cX10_clean 35 = .ok (.isub, 1) := by decide +kernel
theorem dX10_clean_36 : decode cX10_clean 36 = .ok (.iload_n 1, 1) := by decide +kernel
theorem dX10_clean_37 : decode cX10_clean 37 = .ok (.invokestatic 415, 3) := by decide +kernel
theorem dX10_clean_40 : decode cX10_clean 40 = .ok (.iload_n 2, 1) := by decide +kernel
theorem dX10_clean_41 : decode cX10_clean 41 = .ok (.iload_n 1, 1) := by decide +kernel
theorem dX10_clean_42 : decode cX10_clean 42 = .ok (.invokestatic 415, 3) := by decide +kernel
theorem dX10_clean_45 : decode cX10_clean 45 = .ok (.invokevirtual 387, 3) := by decide +kernel
theorem dX10_clean_48 : decode cX10_clean 48 = .ok (.iconst 0, 1) := by decide +kernel
theorem dX10_clean_49 : decode cX10_clean 49 = .ok (.ireturn, 1) := by decide +kernel
theorem dX10_rests_0 : decode cX10_rests 0 = .ok (.iload_n 1, 1) := by decide +kernel
theorem dX10_rests_1 : decode cX10_rests 1 = .ok (.iconst 1, 1) := by decide +kernel
theorem dX10_rests_2 : decode cX10_rests 2 = .ok (.if_icmp .lt 9, 3) := by decide +kernel
theorem dX10_rests_5 : decode cX10_rests 5 = .ok (.iload_n 1, 1) := by decide +kernel
theorem dX10_rests_6 : decode cX10_rests 6 = .ok (.bipush 99, 2) := by decide +kernel
theorem dX10_rests_8 : decode cX10_rests 8 = .ok (.if_icmp .le 5, 3) := by decide +kernel
theorem dX10_rests_11 : decode cX10_rests 11 = .ok (.iconst (-1), 1) := by decide +kernel
theorem dX10_rests_12 : decode cX10_rests 12 = .ok (.ireturn, 1) := by decide +kernel
theorem dX10_rests_13 : decode cX10_rests 13 = .ok (.iconst 0, 1) := by decide +kernel
theorem dX10_rests_14 : decode cX10_rests 14 = .ok (.istore_n 2, 1) := by decide +kernel
theorem dX10_rests_15 : decode cX10_rests 15 = .ok (.aload_n 0, 1) := by decide +kernel
theorem dX10_rests_16 : decode cX10_rests 16 = .ok (.getfield 19, 3) := by decide +kernel
theorem dX10_rests_19 : decode cX10_rests 19 = .ok (.invokevirtual 267, 3) := by decide +kernel
theorem dX10_rests_22 : decode cX10_rests 22 = .ok (.iconst 0, 1) := by decide +kernel
theorem dX10_rests_23 : decode cX10_rests 23 = .ok (.istore_n 3, 1) := by decide +kernel
theorem dX10_rests_24 : decode cX10_rests 24 = .ok (.iload_n 3, 1) := by decide +kernel
theorem dX10_rests_25 : decode cX10_rests 25 = .ok (.bipush 10, 2) := by decide +kernel
theorem dX10_rests_27 : decode cX10_rests 27 = .ok (.if_icmp .ge 74, 3) := by decide +kernel
theorem dX10_rests_30 : decode cX10_rests 30 = .ok (.iconst 0, 1) := by decide +kernel
theorem dX10_rests_31 : decode cX10_rests 31 = .ok (.istore 4, 2) := by decide +kernel
theorem dX10_rests_33 : decode cX10_rests 33 = .ok (.iload 4, 2) := by decide +kernel
theorem dX10_rests_35 : decode cX10_rests 35 = .ok (.bipush 10, 2) := by decide +kernel
theorem dX10_rests_37 : decode cX10_rests 37 = .ok (.if_icmp .ge 58, 3) := by decide +kernel
theorem dX10_rests_40 : decode cX10_rests 40 = .ok (.iload_n 3, 1) := by decide +kernel
theorem dX10_rests_41 : decode cX10_rests 41 = .ok (.iload 4, 2) := by decide +kernel
theorem dX10_rests_43 : decode cX10_rests 43 = .ok (.iload_n 1, 1) := by decide +kernel
theorem dX10_rests_44 : decode cX10_rests 44 = .ok (.invokestatic 419, 3) := by decide +kernel
theorem dX10_rests_47 : decode cX10_rests 47 = .ok (.ifCond .eq 42, 3) := by decide +kernel
theorem dX10_rests_50 : decode cX10_rests 50 = .ok (.iload 4, 2) := by decide +kernel
theorem dX10_rests_52 : decode cX10_rests 52 = .ok (.iload_n 3, 1) := by decide +kernel
theorem dX10_rests_53 : decode cX10_rests 53 = .ok (.iload_n 1, 1) := by decide +kernel
theorem dX10_rests_54 : decode cX10_rests 54 = .ok (.invokestatic 419, 3) := by decide +kernel
theorem dX10_rests_57 : decode cX10_rests 57 = .ok (.ifCond .ne 6, 3) := by decide +kernel
theorem dX10_rests_60 : decode cX10_rests 60 = .ok (.goto 29, 3) := by decide +kernel
theorem dX10_rests_63 : decode cX10_rests 63 = .ok (.iload_n 2, 1) := by decide +kernel
theorem dX10_rests_64 : decode cX10_rests 64 = .ok (.ifCond .ne 22, 3) := by decide +kernel
theorem dX10_rests_67 : decode cX10_rests 67 = .ok (.aload_n 0, 1) := by decide +kernel
theorem dX10_rests_68 : decode cX10_rests 68 = .ok (.getfield 19, 3) := by decide +kernel
theorem dX10_rests_71 : decode cX10_rests 71 = .ok (.iload_n 3, 1) := by decide +kernel
theorem dX10_rests_72 : decode cX10_rests 72 = .ok (.i2l, 1) := by decide +kernel
theorem dX10_rests_73 : decode cX10_rests 73 = .ok (.invokevirtual 269, 3) := by decide +kernel
theorem dX10_rests_76 : decode cX10_rests 76 = .ok (.aload_n 0, 1) := by decide +kernel
theorem dX10_rests_77 : decode cX10_rests 77 = .ok (.getfield 19, 3) := by decide +kernel
theorem dX10_rests_80 : decode cX10_rests 80 = .ok (.iload 4, 2) := by decide +kernel
theorem dX10_rests_82 : decode cX10_rests 82 = .ok (.i2l, 1) := by decide +kernel
theorem dX10_rests_83 : decode cX10_rests 83 = .ok (.invokevirtual 269, 3) := by decide +kernel
theorem dX10_rests_86 : decode cX10_rests 86 = .ok (.iinc 2 1, 3) := by decide +kernel
theorem dX10_rests_89 : decode cX10_rests 89 = .ok (.iinc 4 1, 3) := by decide +kernel
theorem dX10_rests_92 : decode cX10_rests 92 = .ok (.goto (-59), 3) := by decide +kernel
theorem dX10_rests_95 : decode cX10_rests 95 = .ok (.iinc 3 1, 3) := by decide +kernel
theorem dX10_rests_98 : decode cX10_rests 98 = .ok (.goto (-74), 3) := by decide +kernel
theorem dX10_rests_101 : decode cX10_rests 101 = .ok (.iload_n 2, 1) := by decide +kernel
theorem dX10_rests_102 : decode cX10_rests 102 = .ok (.ireturn, 1) := by decide +kernel
theorem dX10_stray_0 : decode cX10_stray 0 = .ok (.aload_n 0, 1) := by decide +kernel
theorem dX10_stray_1 : decode cX10_stray 1 = .ok (.invokevirtual 186, 3) := by decide +kernel
theorem dX10_stray_4 : decode cX10_stray 4 = .ok (.lstore_n 1, 1) := by decide +kernel
theorem dX10_stray_5 : decode cX10_stray 5 = .ok (.aload_n 0, 1) := by decide +kernel
theorem dX10_stray_6 : decode cX10_stray 6 = .ok (.getfield 86, 3) := by decide +kernel
theorem dX10_stray_9 : decode cX10_stray 9 = .ok (.lconst 0, 1) := by decide +kernel
theorem dX10_stray_10 : decode cX10_stray 10 = .ok (.invokestatic 379, 3) := by decide +kernel
theorem dX10_stray_13 : decode cX10_stray 13 = .ok (.iconst 0, 1) := by decide +kernel
theorem dX10_stray_14 : decode cX10_stray 14 = .ok (.istore_n 3, 1) := by decide +kernel
theorem dX10_stray_15 : decode cX10_stray 15 = .ok (.iload_n 3, 1) := by decide +kernel
theorem dX10_stray_16 : decode cX10_stray 16 = .ok (.bipush 36, 2) := by decide +kernel
theorem dX10_stray_18 : decode cX10_stray 18 = .ok (.if_icmp .ge 90, 3) := by decide +kernel
theorem dX10_stray_21 : decode cX10_stray 21 = .ok (.aload_n 0, 1) := by decide +kernel
theorem dX10_stray_22 : decode cX10_stray 22 = .ok (.getfield 82, 3) := by decide +kernel
theorem dX10_stray_25 : decode cX10_stray 25 = .ok (.iload_n 3, 1) := by decide +kernel
theorem dX10_stray_26 : decode cX10_stray 26 = .ok (.laload, 1) := by decide +kernel
theorem dX10_stray_27 : decode cX10_stray 27 = .ok (.lconst 0, 1) := by decide +kernel
theorem dX10_stray_28 : decode cX10_stray 28 = .ok (.lcmp, 1) := by decide +kernel
theorem dX10_stray_29 : decode cX10_stray 29 = .ok (.ifCond .ne 6, 3) := by decide +kernel
theorem dX10_stray_32 : decode cX10_stray 32 = .ok (.goto 70, 3) := by decide +kernel
theorem dX10_stray_35 : decode cX10_stray 35 = .ok (.iconst 0, 1) := by decide +kernel
theorem dX10_stray_36 : decode cX10_stray 36 = .ok (.istore 4, 2) := by decide +kernel
theorem dX10_stray_38 : decode cX10_stray 38 = .ok (.iload 4, 2) := by decide +kernel
theorem dX10_stray_40 : decode cX10_stray 40 = .ok (.iconst 4, 1) := by decide +kernel
theorem dX10_stray_41 : decode cX10_stray 41 = .ok (.if_icmp .ge 61, 3) := by decide +kernel
theorem dX10_stray_44 : decode cX10_stray 44 = .ok (.aload_n 0, 1) := by decide +kernel
theorem dX10_stray_45 : decode cX10_stray 45 = .ok (.getfield 92, 3) := by decide +kernel
theorem dX10_stray_48 : decode cX10_stray 48 = .ok (.iload_n 3, 1) := by decide +kernel
theorem dX10_stray_49 : decode cX10_stray 49 = .ok (.iload 4, 2) := by decide +kernel
theorem dX10_stray_51 : decode cX10_stray 51 = .ok (.invokevirtual 211, 3) := by decide +kernel
theorem dX10_stray_54 : decode cX10_stray 54 = .ok (.istore 5, 2) := by decide +kernel
theorem dX10_stray_56 : decode cX10_stray 56 = .ok (.lload_n 1, 1) := by decide +kernel
theorem dX10_stray_57 : decode cX10_stray 57 = .ok (.iload 5, 2) := by decide +kernel
theorem dX10_stray_59 : decode cX10_stray 59 = .ok (.invokestatic 169, 3) := by decide +kernel
theorem dX10_stray_62 : decode cX10_stray 62 = .ok (.ifCond .eq 15, 3) := by decide +kernel
theorem dX10_stray_65 : decode cX10_stray 65 = .ok (.iload 5, 2) := by decide +kernel
theorem dX10_stray_67 : decode cX10_stray 67 = .ok (.bipush 36, 2) := by decide +kernel
theorem dX10_stray_69 : decode cX10_stray 69 = .ok (.if_icmp .ge 8, 3) := by decide +kernel
theorem dX10_stray_72 : decode cX10_stray 72 = .ok (.iload 5, 2) := by decide +kernel
theorem dX10_stray_74 : decode cX10_stray 74 = .ok (.goto 4, 3) := by decide +kernel
theorem dX10_stray_77 : decode cX10_stray 77 = .ok (.iload_n 3, 1) := by decide +kernel
theorem dX10_stray_78 : decode cX10_stray 78 = .ok (.istore 6, 2) := by decide +kernel
theorem dX10_stray_80 : decode cX10_stray 80 = .ok (.aload_n 0, 1) := by decide +kernel
theorem dX10_stray_81 : decode cX10_stray 81 = .ok (.getfield 86, 3) := by decide +kernel
theorem dX10_stray_84 : decode cX10_stray 84 = .ok (.iload 6, 2) := by decide +kernel
theorem dX10_stray_86 : decode cX10_stray 86 = .ok (.dup2, 1) := by decide +kernel
theorem dX10_stray_87 : decode cX10_stray 87 = .ok (.laload, 1) := by decide +kernel
theorem dX10_stray_88 : decode cX10_stray 88 = .ok (.aload_n 0, 1) := by decide +kernel
theorem dX10_stray_89 : decode cX10_stray 89 = .ok (.getfield 82, 3) := by decide +kernel
theorem dX10_stray_92 : decode cX10_stray 92 = .ok (.iload_n 3, 1) := by decide +kernel
theorem dX10_stray_93 : decode cX10_stray 93 = .ok (.laload, 1) := by decide +kernel
theorem dX10_stray_94 : decode cX10_stray 94 = .ok (.ladd, 1) := by decide +kernel
theorem dX10_stray_95 : decode cX10_stray 95 = .ok (.lastore, 1) := by decide +kernel
theorem dX10_stray_96 : decode cX10_stray 96 = .ok (.iinc 4 1, 3) := by decide +kernel
theorem dX10_stray_99 : decode cX10_stray 99 = .ok (.goto (-61), 3) := by decide +kernel
theorem dX10_stray_102 : decode cX10_stray 102 = .ok (.iinc 3 1, 3) := by decide +kernel
theorem dX10_stray_105 : decode cX10_stray 105 = .ok (.goto (-90), 3) := by decide +kernel
theorem dX10_stray_108 : decode cX10_stray 108 = .ok (.aload_n 0, 1) := by decide +kernel
theorem dX10_stray_109 : decode cX10_stray 109 = .ok (.getfield 86, 3) := by decide +kernel
theorem dX10_stray_112 : decode cX10_stray 112 = .ok (.iconst 0, 1) := by decide +kernel
theorem dX10_stray_113 : decode cX10_stray 113 = .ok (.aload_n 0, 1) := by decide +kernel
theorem dX10_stray_114 : decode cX10_stray 114 = .ok (.getfield 82, 3) := by decide +kernel
theorem dX10_stray_117 : decode cX10_stray 117 = .ok (.iconst 0, 1) := by decide +kernel
theorem dX10_stray_118 : decode cX10_stray 118 = .ok (.bipush 36, 2) := by decide +kernel
theorem dX10_stray_120 : decode cX10_stray 120 = .ok (.invokestatic 423, 3) := by decide +kernel
theorem dX10_stray_123 : decode cX10_stray 123 = .ok (.return_, 1) := by decide +kernel
theorem dX10_dustOfWeek_0 : decode cX10_dustOfWeek 0 = .ok (.iconst 0, 1) := by decide +kernel
theorem dX10_dustOfWeek_1 : decode cX10_dustOfWeek 1 = .ok (.istore_n 2, 1) := by decide +kernel
theorem dX10_dustOfWeek_2 : decode cX10_dustOfWeek 2 = .ok (.iconst 0, 1) := by decide +kernel
theorem dX10_dustOfWeek_3 : decode cX10_dustOfWeek 3 = .ok (.istore_n 3, 1) := by decide +kernel
theorem dX10_dustOfWeek_4 : decode cX10_dustOfWeek 4 = .ok (.iconst 0, 1) := by decide +kernel
theorem dX10_dustOfWeek_5 : decode cX10_dustOfWeek 5 = .ok (.istore 4, 2) := by decide +kernel
theorem dX10_dustOfWeek_7 : decode cX10_dustOfWeek 7 = .ok (.iload 4, 2) := by decide +kernel
theorem dX10_dustOfWeek_9 : decode cX10_dustOfWeek 9 = .ok (.bipush 7, 2) := by decide +kernel
theorem dX10_dustOfWeek_11 : decode cX10_dustOfWeek 11 = .ok (.if_icmp .ge 31, 3) := by decide +kernel
theorem dX10_dustOfWeek_14 : decode cX10_dustOfWeek 14 = .ok (.iload_n 0, 1) := by decide +kernel
theorem dX10_dustOfWeek_15 : decode cX10_dustOfWeek 15 = .ok (.iload 4, 2) := by decide +kernel
theorem dX10_dustOfWeek_17 : decode cX10_dustOfWeek 17 = .ok (.ishr, 1) := by decide +kernel
theorem dX10_dustOfWeek_18 : decode cX10_dustOfWeek 18 = .ok (.iconst 1, 1) := by decide +kernel
theorem dX10_dustOfWeek_19 : decode cX10_dustOfWeek 19 = .ok (.iand, 1) := by decide +kernel
theorem dX10_dustOfWeek_20 : decode cX10_dustOfWeek 20 = .ok (.iconst 1, 1) := by decide +kernel
theorem dX10_dustOfWeek_21 : decode cX10_dustOfWeek 21 = .ok (.if_icmp .ne 7, 3) := by decide +kernel
theorem dX10_dustOfWeek_24 : decode cX10_dustOfWeek 24 = .ok (.iconst 0, 1) := by decide +kernel
theorem dX10_dustOfWeek_25 : decode cX10_dustOfWeek 25 = .ok (.goto 6, 3) := by decide +kernel
theorem dX10_dustOfWeek_28 : decode cX10_dustOfWeek 28 = .ok (.iload_n 2, 1) := by decide +kernel
theorem dX10_dustOfWeek_29 : decode cX10_dustOfWeek 29 = .ok (.iload_n 1, 1) := by decide +kernel
theorem dX10_dustOfWeek_30 : decode cX10_dustOfWeek 30 = .ok (.iadd, 1) := by decide +kernel
theorem dX10_dustOfWeek_31 : decode cX10_dustOfWeek 31 = .ok (.istore_n 2, 1) := by decide +kernel
theorem dX10_dustOfWeek_32 : decode cX10_dustOfWeek 32 = .ok (.iload_n 3, 1) := by decide +kernel
theorem dX10_dustOfWeek_33 : decode cX10_dustOfWeek 33 = .ok (.iload_n 2, 1) := by decide +kernel
theorem dX10_dustOfWeek_34 : decode cX10_dustOfWeek 34 = .ok (.iadd, 1) := by decide +kernel
theorem dX10_dustOfWeek_35 : decode cX10_dustOfWeek 35 = .ok (.istore_n 3, 1) := by decide +kernel
theorem dX10_dustOfWeek_36 : decode cX10_dustOfWeek 36 = .ok (.iinc 4 1, 3) := by decide +kernel
theorem dX10_dustOfWeek_39 : decode cX10_dustOfWeek 39 = .ok (.goto (-32), 3) := by decide +kernel
theorem dX10_dustOfWeek_42 : decode cX10_dustOfWeek 42 = .ok (.iload_n 3, 1) := by decide +kernel
theorem dX10_dustOfWeek_43 : decode cX10_dustOfWeek 43 = .ok (.ireturn, 1) := by decide +kernel
theorem dX10_countSums_0 : decode cX10_countSums 0 = .ok (.aload_n 0, 1) := by decide +kernel
theorem dX10_countSums_1 : decode cX10_countSums 1 = .ok (.getfield 75, 3) := by decide +kernel
theorem dX10_countSums_4 : decode cX10_countSums 4 = .ok (.iconst 0, 1) := by decide +kernel
theorem dX10_countSums_5 : decode cX10_countSums 5 = .ok (.invokestatic 321, 3) := by decide +kernel
theorem dX10_countSums_8 : decode cX10_countSums 8 = .ok (.aload_n 0, 1) := by decide +kernel
theorem dX10_countSums_9 : decode cX10_countSums 9 = .ok (.getfield 75, 3) := by decide +kernel
theorem dX10_countSums_12 : decode cX10_countSums 12 = .ok (.iconst 0, 1) := by decide +kernel
theorem dX10_countSums_13 : decode cX10_countSums 13 = .ok (.iconst 1, 1) := by decide +kernel
theorem dX10_countSums_14 : decode cX10_countSums 14 = .ok (.iastore, 1) := by decide +kernel
theorem dX10_countSums_15 : decode cX10_countSums 15 = .ok (.iconst 0, 1) := by decide +kernel
theorem dX10_countSums_16 : decode cX10_countSums 16 = .ok (.istore 4, 2) := by decide +kernel
theorem dX10_countSums_18 : decode cX10_countSums 18 = .ok (.iload 4, 2) := by decide +kernel
theorem dX10_countSums_20 : decode cX10_countSums 20 = .ok (.bipush 36, 2) := by decide +kernel
theorem dX10_countSums_22 : decode cX10_countSums 22 = .ok (.if_icmp .ge 79, 3) := by decide +kernel
theorem dX10_countSums_25 : decode cX10_countSums 25 = .ok (.lload_n 1, 1) := by decide +kernel
theorem dX10_countSums_26 : decode cX10_countSums 26 = .ok (.iload 4, 2) := by decide +kernel
theorem dX10_countSums_28 : decode cX10_countSums 28 = .ok (.invokestatic 169, 3) := by decide +kernel
theorem dX10_countSums_31 : decode cX10_countSums 31 = .ok (.ifCond .ne 6, 3) := by decide +kernel
theorem dX10_countSums_34 : decode cX10_countSums 34 = .ok (.goto 61, 3) := by decide +kernel
theorem dX10_countSums_37 : decode cX10_countSums 37 = .ok (.aload_n 0, 1) := by decide +kernel
theorem dX10_countSums_38 : decode cX10_countSums 38 = .ok (.getfield 61, 3) := by decide +kernel
theorem dX10_countSums_41 : decode cX10_countSums 41 = .ok (.iload 4, 2) := by decide +kernel
theorem dX10_countSums_43 : decode cX10_countSums 43 = .ok (.invokevirtual 177, 3) := by decide +kernel
theorem dX10_countSums_46 : decode cX10_countSums 46 = .ok (.istore 5, 2) := by decide +kernel
theorem dX10_countSums_48 : decode cX10_countSums 48 = .ok (.iload_n 3, 1) := by decide +kernel
theorem dX10_countSums_49 : decode cX10_countSums 49 = .ok (.sipush 999, 3) := by decide +kernel
theorem dX10_countSums_52 : decode cX10_countSums 52 = .ok (.invokestatic 293, 3) := by decide +kernel
theorem dX10_countSums_55 : decode cX10_countSums 55 = .ok (.istore 6, 2) := by decide +kernel
theorem dX10_countSums_57 : decode cX10_countSums 57 = .ok (.iload 6, 2) := by decide +kernel
theorem dX10_countSums_59 : decode cX10_countSums 59 = .ok (.iload 5, 2) := by decide +kernel
theorem dX10_countSums_61 : decode cX10_countSums 61 = .ok (.if_icmp .lt 34, 3) := by decide +kernel
theorem dX10_countSums_64 : decode cX10_countSums 64 = .ok (.iload 5, 2) := by decide +kernel
theorem dX10_countSums_66 : decode cX10_countSums 66 = .ok (.ifCond .le 29, 3) := by decide +kernel
theorem dX10_countSums_69 : decode cX10_countSums 69 = .ok (.aload_n 0, 1) := by decide +kernel
theorem dX10_countSums_70 : decode cX10_countSums 70 = .ok (.getfield 75, 3) := by decide +kernel
theorem dX10_countSums_73 : decode cX10_countSums 73 = .ok (.iload 6, 2) := by decide +kernel
theorem dX10_countSums_75 : decode cX10_countSums 75 = .ok (.dup2, 1) := by decide +kernel
theorem dX10_countSums_76 : decode cX10_countSums 76 = .ok (.iaload, 1) := by decide +kernel
theorem dX10_countSums_77 : decode cX10_countSums 77 = .ok (.aload_n 0, 1) := by decide +kernel
theorem dX10_countSums_78 : decode cX10_countSums 78 = .ok (.getfield 75, 3) := by decide +kernel
theorem dX10_countSums_81 : decode cX10_countSums 81 = .ok (.iload 6, 2) := by decide +kernel
theorem dX10_countSums_83 : decode cX10_countSums 83 = .ok (.iload 5, 2) := by decide +kernel
theorem dX10_countSums_85 : decode cX10_countSums 85 = .ok (.isub, 1) := by decide +kernel
theorem dX10_countSums_86 : decode cX10_countSums 86 = .ok (.iaload, 1) := by decide +kernel
theorem dX10_countSums_87 : decode cX10_countSums 87 = .ok (.iadd, 1) := by decide +kernel
theorem dX10_countSums_88 : decode cX10_countSums 88 = .ok (.iastore, 1) := by decide +kernel
theorem dX10_countSums_89 : decode cX10_countSums 89 = .ok (.iinc 6 (-1), 3) := by decide +kernel
theorem dX10_countSums_92 : decode cX10_countSums 92 = .ok (.goto (-35), 3) := by decide +kernel
theorem dX10_countSums_95 : decode cX10_countSums 95 = .ok (.iinc 4 1, 3) := by decide +kernel
theorem dX10_countSums_98 : decode cX10_countSums 98 = .ok (.goto (-80), 3) := by decide +kernel
theorem dX10_countSums_101 : decode cX10_countSums 101 = .ok (.return_, 1) := by decide +kernel
theorem dX10_sumsWithout_0 : decode cX10_sumsWithout 0 = .ok (.iconst 0, 1) := by decide +kernel
theorem dX10_sumsWithout_1 : decode cX10_sumsWithout 1 = .ok (.istore_n 3, 1) := by decide +kernel
theorem dX10_sumsWithout_2 : decode cX10_sumsWithout 2 = .ok (.iconst 1, 1) := by decide +kernel
theorem dX10_sumsWithout_3 : decode cX10_sumsWithout 3 = .ok (.istore 4, 2) := by decide +kernel
theorem dX10_sumsWithout_5 : decode cX10_sumsWithout 5 = .ok (.iload_n 2, 1) := by decide +kernel
theorem dX10_sumsWithout_6 : decode cX10_sumsWithout 6 = .ok (.istore 5, 2) := by decide +kernel
theorem dX10_sumsWithout_8 : decode cX10_sumsWithout 8 = .ok (.iload 5, 2) := by decide +kernel
theorem dX10_sumsWithout_10 : decode cX10_sumsWithout 10 = .ok (.ifCond .lt 42, 3) := by decide +kernel
theorem dX10_sumsWithout_13 : decode cX10_sumsWithout 13 = .ok (.iload 5, 2) := by decide +kernel
theorem dX10_sumsWithout_15 : decode cX10_sumsWithout 15 = .ok (.sipush 999, 3) := by decide +kernel
theorem dX10_sumsWithout_18 : decode cX10_sumsWithout 18 = .ok (.if_icmp .gt 34, 3) := by decide +kernel
theorem dX10_sumsWithout_21 : decode cX10_sumsWithout 21 = .ok (.iload_n 1, 1) := by decide +kernel
theorem dX10_sumsWithout_22 : decode cX10_sumsWithout 22 = .ok (.ifCond .le 30, 3) := by decide +kernel
theorem dX10_sumsWithout_25 : decode cX10_sumsWithout 25 = .ok (.iload_n 3, 1) := by decide +kernel
theorem dX10_sumsWithout_26 : decode cX10_sumsWithout 26 = .ok (.iload 4, 2) := by decide +kernel
theorem dX10_sumsWithout_28 : decode cX10_sumsWithout 28 = .ok (.aload_n 0, 1) := by decide +kernel
theorem dX10_sumsWithout_29 : decode cX10_sumsWithout 29 = .ok (.getfield 75, 3) := by decide +kernel
theorem dX10_sumsWithout_32 : decode cX10_sumsWithout 32 = .ok (.iload 5, 2) := by decide +kernel
theorem dX10_sumsWithout_34 : decode cX10_sumsWithout 34 = .ok (.iaload, 1) := by decide +kernel
theorem dX10_sumsWithout_35 : decode cX10_sumsWithout 35 = .ok (.imul, 1) := by decide +kernel
theorem dX10_sumsWithout_36 : decode cX10_sumsWithout 36 = .ok (.iadd, 1) := by decide +kernel
theorem dX10_sumsWithout_37 : decode cX10_sumsWithout 37 = .ok (.istore_n 3, 1) := by decide +kernel
theorem dX10_sumsWithout_38 : decode cX10_sumsWithout 38 = .ok (.iload 4, 2) := by decide +kernel
theorem dX10_sumsWithout_40 : decode cX10_sumsWithout 40 = .ok (.ineg, 1) := by decide +kernel
theorem dX10_sumsWithout_41 : decode cX10_sumsWithout 41 = .ok (.istore 4, 2) := by decide +kernel
theorem dX10_sumsWithout_43 : decode cX10_sumsWithout 43 = .ok (.iload 5, 2) := by decide +kernel
theorem dX10_sumsWithout_45 : decode cX10_sumsWithout 45 = .ok (.iload_n 1, 1) := by decide +kernel
theorem dX10_sumsWithout_46 : decode cX10_sumsWithout 46 = .ok (.isub, 1) := by decide +kernel
theorem dX10_sumsWithout_47 : decode cX10_sumsWithout 47 = .ok (.istore 5, 2) := by decide +kernel
theorem dX10_sumsWithout_49 : decode cX10_sumsWithout 49 = .ok (.goto (-41), 3) := by decide +kernel
theorem dX10_sumsWithout_52 : decode cX10_sumsWithout 52 = .ok (.iload_n 3, 1) := by decide +kernel
theorem dX10_sumsWithout_53 : decode cX10_sumsWithout 53 = .ok (.ireturn, 1) := by decide +kernel
theorem dX10_choices_0 : decode cX10_choices 0 = .ok (.iload_n 1, 1) := by decide +kernel
theorem dX10_choices_1 : decode cX10_choices 1 = .ok (.iload_n 0, 1) := by decide +kernel
theorem dX10_choices_2 : decode cX10_choices 2 = .ok (.if_icmp .le 5, 3) := by decide +kernel
theorem dX10_choices_5 : decode cX10_choices 5 = .ok (.lconst 0, 1) := by decide +kernel
theorem dX10_choices_6 : decode cX10_choices 6 = .ok (.lreturn, 1) := by decide +kernel
theorem dX10_choices_7 : decode cX10_choices 7 = .ok (.lconst 1, 1) := by decide +kernel
theorem dX10_choices_8 : decode cX10_choices 8 = .ok (.lstore_n 2, 1) := by decide +kernel
theorem dX10_choices_9 : decode cX10_choices 9 = .ok (.iconst 0, 1) := by decide +kernel
theorem dX10_choices_10 : decode cX10_choices 10 = .ok (.istore 4, 2) := by decide +kernel
theorem dX10_choices_12 : decode cX10_choices 12 = .ok (.iload 4, 2) := by decide +kernel
theorem dX10_choices_14 : decode cX10_choices 14 = .ok (.iload_n 1, 1) := by decide +kernel
theorem dX10_choices_15 : decode cX10_choices 15 = .ok (.if_icmp .ge 23, 3) := by decide +kernel
theorem dX10_choices_18 : decode cX10_choices 18 = .ok (.lload_n 2, 1) := by decide +kernel
theorem dX10_choices_19 : decode cX10_choices 19 = .ok (.iload_n 0, 1) := by decide +kernel
theorem dX10_choices_20 : decode cX10_choices 20 = .ok (.iload 4, 2) := by decide +kernel
theorem dX10_choices_22 : decode cX10_choices 22 = .ok (.isub, 1) := by decide +kernel
theorem dX10_choices_23 : decode cX10_choices 23 = .ok (.i2l, 1) := by decide +kernel
theorem dX10_choices_24 : decode cX10_choices 24 = .ok (.lmul, 1) := by decide +kernel
theorem dX10_choices_25 : decode cX10_choices 25 = .ok (.iload 4, 2) := by decide +kernel
theorem dX10_choices_27 : decode cX10_choices 27 = .ok (.iconst 1, 1) := by decide +kernel
theorem dX10_choices_28 : decode cX10_choices 28 = .ok (.iadd, 1) := by decide +kernel
theorem dX10_choices_29 : decode cX10_choices 29 = .ok (.i2l, 1) := by decide +kernel
theorem dX10_choices_30 : decode cX10_choices 30 = .ok (.ldiv, 1) := by decide +kernel
theorem dX10_choices_31 : decode cX10_choices 31 = .ok (.lstore_n 2, 1) := by decide +kernel
theorem dX10_choices_32 : decode cX10_choices 32 = .ok (.iinc 4 1, 3) := by decide +kernel
theorem dX10_choices_35 : decode cX10_choices 35 = .ok (.goto (-23), 3) := by decide +kernel
theorem dX10_choices_38 : decode cX10_choices 38 = .ok (.lload_n 2, 1) := by decide +kernel
theorem dX10_choices_39 : decode cX10_choices 39 = .ok (.lreturn, 1) := by decide +kernel
theorem dX10_staysWith_0 : decode cX10_staysWith 0 = .ok (.iload_n 0, 1) := by decide +kernel
theorem dX10_staysWith_1 : decode cX10_staysWith 1 = .ok (.iload_n 1, 1) := by decide +kernel
theorem dX10_staysWith_2 : decode cX10_staysWith 2 = .ok (.iload_n 2, 1) := by decide +kernel
theorem dX10_staysWith_3 : decode cX10_staysWith 3 = .ok (.invokestatic 429, 3) := by decide +kernel
theorem dX10_staysWith_6 : decode cX10_staysWith 6 = .ok (.istore_n 3, 1) := by decide +kernel
theorem dX10_staysWith_7 : decode cX10_staysWith 7 = .ok (.iconst 0, 1) := by decide +kernel
theorem dX10_staysWith_8 : decode cX10_staysWith 8 = .ok (.istore 4, 2) := by decide +kernel
theorem dX10_staysWith_10 : decode cX10_staysWith 10 = .ok (.iload 4, 2) := by decide +kernel
theorem dX10_staysWith_12 : decode cX10_staysWith 12 = .ok (.bipush 10, 2) := by decide +kernel
theorem dX10_staysWith_14 : decode cX10_staysWith 14 = .ok (.if_icmp .ge 22, 3) := by decide +kernel
theorem dX10_staysWith_17 : decode cX10_staysWith 17 = .ok (.iload 4, 2) := by decide +kernel
theorem dX10_staysWith_19 : decode cX10_staysWith 19 = .ok (.iload_n 1, 1) := by decide +kernel
theorem dX10_staysWith_20 : decode cX10_staysWith 20 = .ok (.iload_n 2, 1) := by decide +kernel
theorem dX10_staysWith_21 : decode cX10_staysWith 21 = .ok (.invokestatic 429, 3) := by decide +kernel
theorem dX10_staysWith_24 : decode cX10_staysWith 24 = .ok (.iload_n 3, 1) := by decide +kernel
theorem dX10_staysWith_25 : decode cX10_staysWith 25 = .ok (.if_icmp .le 5, 3) := by decide +kernel
theorem dX10_staysWith_28 : decode cX10_staysWith 28 = .ok (.iconst 0, 1) := by decide +kernel
theorem dX10_staysWith_29 : decode cX10_staysWith 29 = .ok (.ireturn, 1) := by decide +kernel
theorem dX10_staysWith_30 : decode cX10_staysWith 30 = .ok (.iinc 4 1, 3) := by decide +kernel
theorem dX10_staysWith_33 : decode cX10_staysWith 33 = .ok (.goto (-23), 3) := by decide +kernel
theorem dX10_staysWith_36 : decode cX10_staysWith 36 = .ok (.iconst 1, 1) := by decide +kernel
theorem dX10_staysWith_37 : decode cX10_staysWith 37 = .ok (.ireturn, 1) := by decide +kernel
theorem dX10_rested_0 : decode cX10_rested 0 = .ok (.iload_n 0, 1) := by decide +kernel
theorem dX10_rested_1 : decode cX10_rested 1 = .ok (.iload_n 1, 1) := by decide +kernel
theorem dX10_rested_2 : decode cX10_rested 2 = .ok (.if_icmp .ge 7, 3) := by decide +kernel
theorem dX10_rested_5 : decode cX10_rested 5 = .ok (.iload_n 2, 1) := by decide +kernel
theorem dX10_rested_6 : decode cX10_rested 6 = .ok (.iload_n 0, 1) := by decide +kernel
theorem dX10_rested_7 : decode cX10_rested 7 = .ok (.isub, 1) := by decide +kernel
theorem dX10_rested_8 : decode cX10_rested 8 = .ok (.ireturn, 1) := by decide +kernel
theorem dX10_rested_9 : decode cX10_rested 9 = .ok (.iload_n 0, 1) := by decide +kernel
theorem dX10_rested_10 : decode cX10_rested 10 = .ok (.iload_n 1, 1) := by decide +kernel
theorem dX10_rested_11 : decode cX10_rested 11 = .ok (.if_icmp .le 8, 3) := by decide +kernel
theorem dX10_rested_14 : decode cX10_rested 14 = .ok (.iload_n 0, 1) := by decide +kernel
theorem dX10_rested_15 : decode cX10_rested 15 = .ok (.ineg, 1) := by decide +kernel
theorem dX10_rested_16 : decode cX10_rested 16 = .ok (.goto 7, 3) := by decide +kernel
theorem dX10_rested_19 : decode cX10_rested 19 = .ok (.iload_n 0, 1) := by decide +kernel
theorem dX10_rested_20 : decode cX10_rested 20 = .ok (.ineg, 1) := by decide +kernel
theorem dX10_rested_21 : decode cX10_rested 21 = .ok (.iconst 5, 1) := by decide +kernel
theorem dX10_rested_22 : decode cX10_rested 22 = .ok (.isub, 1) := by decide +kernel
theorem dX10_rested_23 : decode cX10_rested 23 = .ok (.ireturn, 1) := by decide +kernel
theorem dX10_tellFraction_0 : decode cX10_tellFraction 0 = .ok (.lload_n 1, 1) := by decide +kernel
theorem dX10_tellFraction_1 : decode cX10_tellFraction 1 = .ok (.lstore 5, 2) := by decide +kernel
theorem dX10_tellFraction_3 : decode cX10_tellFraction 3 = .ok (.lload_n 3, 1) := by decide +kernel
theorem dX10_tellFraction_4 : decode cX10_tellFraction 4 = .ok (.lstore 7, 2) := by decide +kernel
theorem dX10_tellFraction_6 : decode cX10_tellFraction 6 = .ok (.iconst 0, 1) := by decide +kernel
theorem dX10_tellFraction_7 : decode cX10_tellFraction 7 = .ok (.istore 9, 2) := by decide +kernel
theorem dX10_tellFraction_9 : decode cX10_tellFraction 9 = .ok (.iload 9, 2) := by decide +kernel
theorem dX10_tellFraction_11 : decode cX10_tellFraction 11 = .ok (.sipush 200, 3) := by decide +kernel
theorem dX10_tellFraction_14 : decode cX10_tellFraction 14 = .ok (.if_icmp .ge 31, 3) := by decide +kernel
theorem dX10_tellFraction_17 : decode cX10_tellFraction 17 = .ok (.lload 7, 2) := by decide +kernel
theorem dX10_tellFraction_19 : decode cX10_tellFraction 19 = .ok (.lconst 0, 1) := by decide +kernel
theorem dX10_tellFraction_20 : decode cX10_tellFraction 20 = .ok (.lcmp, 1) := by decide +kernel
theorem dX10_tellFraction_21 : decode cX10_tellFraction 21 = .ok (.ifCond .eq 24, 3) := by decide +kernel
theorem dX10_tellFraction_24 : decode cX10_tellFraction 24 = .ok (.lload 5, 2) := by decide +kernel
theorem dX10_tellFraction_26 : decode cX10_tellFraction 26 = .ok (.lload 7, 2) := by decide +kernel
theorem dX10_tellFraction_28 : decode cX10_tellFraction 28 = .ok (.lrem, 1) := by decide +kernel
theorem dX10_tellFraction_29 : decode cX10_tellFraction 29 = .ok (.lstore 10, 2) := by decide +kernel
theorem dX10_tellFraction_31 : decode cX10_tellFraction 31 = .ok (.lload 7, 2) := by decide +kernel
theorem dX10_tellFraction_33 : decode cX10_tellFraction 33 = .ok (.lstore 5, 2) := by decide +kernel
theorem dX10_tellFraction_35 : decode cX10_tellFraction 35 = .ok (.lload 10, 2) := by decide +kernel
theorem dX10_tellFraction_37 : decode cX10_tellFraction 37 = .ok (.lstore 7, 2) := by decide +kernel
theorem dX10_tellFraction_39 : decode cX10_tellFraction 39 = .ok (.iinc 9 1, 3) := by decide +kernel
theorem dX10_tellFraction_42 : decode cX10_tellFraction 42 = .ok (.goto (-33), 3) := by decide +kernel
theorem dX10_tellFraction_45 : decode cX10_tellFraction 45 = .ok (.lload 5, 2) := by decide +kernel
theorem dX10_tellFraction_47 : decode cX10_tellFraction 47 = .ok (.lconst 0, 1) := by decide +kernel
theorem dX10_tellFraction_48 : decode cX10_tellFraction 48 = .ok (.lcmp, 1) := by decide +kernel
theorem dX10_tellFraction_49 : decode cX10_tellFraction 49 = .ok (.ifCond .le 8, 3) := by decide +kernel
theorem dX10_tellFraction_52 : decode cX10_tellFraction 52 = .ok (.lload 5, 2) := by decide +kernel
theorem dX10_tellFraction_54 : decode cX10_tellFraction 54 = .ok (.goto 4, 3) := by decide +kernel
theorem dX10_tellFraction_57 : decode cX10_tellFraction 57 = .ok (.lconst 1, 1) := by decide +kernel
theorem dX10_tellFraction_58 : decode cX10_tellFraction 58 = .ok (.lstore 9, 2) := by decide +kernel
theorem dX10_tellFraction_60 : decode cX10_tellFraction 60 = .ok (.aload_n 0, 1) := by decide +kernel
theorem dX10_tellFraction_61 : decode cX10_tellFraction 61 = .ok (.getfield 19, 3) := by decide +kernel
theorem dX10_tellFraction_64 : decode cX10_tellFraction 64 = .ok (.invokevirtual 267, 3) := by decide +kernel
theorem dX10_tellFraction_67 : decode cX10_tellFraction 67 = .ok (.aload_n 0, 1) := by decide +kernel
theorem dX10_tellFraction_68 : decode cX10_tellFraction 68 = .ok (.getfield 19, 3) := by decide +kernel
theorem dX10_tellFraction_71 : decode cX10_tellFraction 71 = .ok (.lload_n 1, 1) := by decide +kernel
theorem dX10_tellFraction_72 : decode cX10_tellFraction 72 = .ok (.lload 9, 2) := by decide +kernel
theorem dX10_tellFraction_74 : decode cX10_tellFraction 74 = .ok (.ldiv, 1) := by decide +kernel
theorem dX10_tellFraction_75 : decode cX10_tellFraction 75 = .ok (.invokevirtual 269, 3) := by decide +kernel
theorem dX10_tellFraction_78 : decode cX10_tellFraction 78 = .ok (.aload_n 0, 1) := by decide +kernel
theorem dX10_tellFraction_79 : decode cX10_tellFraction 79 = .ok (.getfield 19, 3) := by decide +kernel
theorem dX10_tellFraction_82 : decode cX10_tellFraction 82 = .ok (.lload_n 3, 1) := by decide +kernel
theorem dX10_tellFraction_83 : decode cX10_tellFraction 83 = .ok (.lload 9, 2) := by decide +kernel
theorem dX10_tellFraction_85 : decode cX10_tellFraction 85 = .ok (.ldiv, 1) := by decide +kernel
theorem dX10_tellFraction_86 : decode cX10_tellFraction 86 = .ok (.invokevirtual 269, 3) := by decide +kernel
theorem dX10_tellFraction_89 : decode cX10_tellFraction 89 = .ok (.return_, 1) := by decide +kernel
theorem dX10_weeks_0 : decode cX10_weeks 0 = .ok (.iload_n 2, 1) := by decide +kernel
theorem dX10_weeks_1 : decode cX10_weeks 1 = .ok (.iconst 1, 1) := by decide +kernel
theorem dX10_weeks_2 : decode cX10_weeks 2 = .ok (.if_icmp .lt 9, 3) := by decide +kernel
theorem dX10_weeks_5 : decode cX10_weeks 5 = .ok (.iload_n 2, 1) := by decide +kernel
theorem dX10_weeks_6 : decode cX10_weeks 6 = .ok (.bipush 60, 2) := by decide +kernel
theorem dX10_weeks_8 : decode cX10_weeks 8 = .ok (.if_icmp .le 5, 3) := by decide +kernel
theorem dX10_weeks_11 : decode cX10_weeks 11 = .ok (.iconst (-1), 1) := by decide +kernel
theorem dX10_weeks_12 : decode cX10_weeks 12 = .ok (.ireturn, 1) := by decide +kernel
theorem dX10_weeks_13 : decode cX10_weeks 13 = .ok (.aload_n 0, 1) := by decide +kernel
theorem dX10_weeks_14 : decode cX10_weeks 14 = .ok (.getfield 68, 3) := by decide +kernel
theorem dX10_weeks_17 : decode cX10_weeks 17 = .ok (.aload_n 0, 1) := by decide +kernel
theorem dX10_weeks_18 : decode cX10_weeks 18 = .ok (.getfield 61, 3) := by decide +kernel
theorem dX10_weeks_21 : decode cX10_weeks 21 = .ok (.invokevirtual 230, 3) := by decide +kernel
theorem dX10_weeks_24 : decode cX10_weeks 24 = .ok (.iload_n 1, 1) := by decide +kernel
theorem dX10_weeks_25 : decode cX10_weeks 25 = .ok (.istore_n 3, 1) := by decide +kernel
theorem dX10_weeks_26 : decode cX10_weeks 26 = .ok (.iconst 0, 1) := by decide +kernel
theorem dX10_weeks_27 : decode cX10_weeks 27 = .ok (.istore 4, 2) := by decide +kernel
theorem dX10_weeks_29 : decode cX10_weeks 29 = .ok (.iload 4, 2) := by decide +kernel
theorem dX10_weeks_31 : decode cX10_weeks 31 = .ok (.iload_n 2, 1) := by decide +kernel
theorem dX10_weeks_32 : decode cX10_weeks 32 = .ok (.if_icmp .ge 120, 3) := by decide +kernel
theorem dX10_weeks_35 : decode cX10_weeks 35 = .ok (.iload_n 3, 1) := by decide +kernel
theorem dX10_weeks_36 : decode cX10_weeks 36 = .ok (.invokestatic 433, 3) := by decide +kernel
theorem dX10_weeks_39 : decode cX10_weeks 39 = .ok (.istore_n 3, 1) := by decide +kernel
theorem dX10_weeks_40 : decode cX10_weeks 40 = .ok (.iload_n 3, 1) := by decide +kernel
theorem dX10_weeks_41 : decode cX10_weeks 41 = .ok (.bipush 8, 2) := by decide +kernel
theorem dX10_weeks_43 : decode cX10_weeks 43 = .ok (.invokestatic 436, 3) := by decide +kernel
theorem dX10_weeks_46 : decode cX10_weeks 46 = .ok (.istore 5, 2) := by decide +kernel
theorem dX10_weeks_48 : decode cX10_weeks 48 = .ok (.iload 5, 2) := by decide +kernel
theorem dX10_weeks_50 : decode cX10_weeks 50 = .ok (.bipush 7, 2) := by decide +kernel
theorem dX10_weeks_52 : decode cX10_weeks 52 = .ok (.if_icmp .ne 17, 3) := by decide +kernel
theorem dX10_weeks_55 : decode cX10_weeks 55 = .ok (.aload_n 0, 1) := by decide +kernel
theorem dX10_weeks_56 : decode cX10_weeks 56 = .ok (.getfield 68, 3) := by decide +kernel
theorem dX10_weeks_59 : decode cX10_weeks 59 = .ok (.aload_n 0, 1) := by decide +kernel
theorem dX10_weeks_60 : decode cX10_weeks 60 = .ok (.getfield 92, 3) := by decide +kernel
theorem dX10_weeks_63 : decode cX10_weeks 63 = .ok (.invokevirtual 285, 3) := by decide +kernel
theorem dX10_weeks_66 : decode cX10_weeks 66 = .ok (.goto 80, 3) := by decide +kernel
theorem dX10_weeks_69 : decode cX10_weeks 69 = .ok (.iload 5, 2) := by decide +kernel
theorem dX10_weeks_71 : decode cX10_weeks 71 = .ok (.bipush 6, 2) := by decide +kernel
theorem dX10_weeks_73 : decode cX10_weeks 73 = .ok (.if_icmp .ne 14, 3) := by decide +kernel
theorem dX10_weeks_76 : decode cX10_weeks 76 = .ok (.aload_n 0, 1) := by decide +kernel
theorem dX10_weeks_77 : decode cX10_weeks 77 = .ok (.getfield 68, 3) := by decide +kernel
theorem dX10_weeks_80 : decode cX10_weeks 80 = .ok (.iconst 1, 1) := by decide +kernel
theorem dX10_weeks_81 : decode cX10_weeks 81 = .ok (.invokevirtual 282, 3) := by decide +kernel
theorem dX10_weeks_84 : decode cX10_weeks 84 = .ok (.goto 62, 3) := by decide +kernel
theorem dX10_weeks_87 : decode cX10_weeks 87 = .ok (.aload_n 0, 1) := by decide +kernel
theorem dX10_weeks_88 : decode cX10_weeks 88 = .ok (.aload_n 0, 1) := by decide +kernel
theorem dX10_weeks_89 : decode cX10_weeks 89 = .ok (.getfield 68, 3) := by decide +kernel
theorem dX10_weeks_92 : decode cX10_weeks 92 = .ok (.iconst 0, 1) := by decide +kernel
theorem dX10_weeks_93 : decode cX10_weeks 93 = .ok (.iconst (-1), 1) := by decide +kernel
theorem dX10_weeks_94 : decode cX10_weeks 94 = .ok (.invokevirtual 278, 3) := by decide +kernel
theorem dX10_weeks_97 : decode cX10_weeks 97 = .ok (.pop, 1) := by decide +kernel
theorem dX10_weeks_98 : decode cX10_weeks 98 = .ok (.aload_n 0, 1) := by decide +kernel
theorem dX10_weeks_99 : decode cX10_weeks 99 = .ok (.getfield 92, 3) := by decide +kernel
theorem dX10_weeks_102 : decode cX10_weeks 102 = .ok (.getfield 439, 3) := by decide +kernel
theorem dX10_weeks_105 : decode cX10_weeks 105 = .ok (.aload_n 0, 1) := by decide +kernel
theorem dX10_weeks_106 : decode cX10_weeks 106 = .ok (.getfield 68, 3) := by decide +kernel
theorem dX10_weeks_109 : decode cX10_weeks 109 = .ok (.getfield 183, 3) := by decide +kernel
theorem dX10_weeks_112 : decode cX10_weeks 112 = .ok (.invokestatic 169, 3) := by decide +kernel
theorem dX10_weeks_115 : decode cX10_weeks 115 = .ok (.ifCond .eq 31, 3) := by decide +kernel
theorem dX10_weeks_118 : decode cX10_weeks 118 = .ok (.iload_n 3, 1) := by decide +kernel
theorem dX10_weeks_119 : decode cX10_weeks 119 = .ok (.invokestatic 433, 3) := by decide +kernel
theorem dX10_weeks_122 : decode cX10_weeks 122 = .ok (.istore_n 3, 1) := by decide +kernel
theorem dX10_weeks_123 : decode cX10_weeks 123 = .ok (.aload_n 0, 1) := by decide +kernel
theorem dX10_weeks_124 : decode cX10_weeks 124 = .ok (.getfield 68, 3) := by decide +kernel
theorem dX10_weeks_127 : decode cX10_weeks 127 = .ok (.iload_n 3, 1) := by decide +kernel
theorem dX10_weeks_128 : decode cX10_weeks 128 = .ok (.iconst 4, 1) := by decide +kernel
theorem dX10_weeks_129 : decode cX10_weeks 129 = .ok (.invokestatic 436, 3) := by decide +kernel
theorem dX10_weeks_132 : decode cX10_weeks 132 = .ok (.ifCond .ne 7, 3) := by decide +kernel
theorem dX10_weeks_135 : decode cX10_weeks 135 = .ok (.iconst 1, 1) := by decide +kernel
theorem dX10_weeks_136 : decode cX10_weeks 136 = .ok (.goto 4, 3) := by decide +kernel
theorem dX10_weeks_139 : decode cX10_weeks 139 = .ok (.iconst 0, 1) := by decide +kernel
theorem dX10_weeks_140 : decode cX10_weeks 140 = .ok (.invokestatic 173, 3) := by decide +kernel
theorem dX10_weeks_143 : decode cX10_weeks 143 = .ok (.invokevirtual 282, 3) := by decide +kernel
theorem dX10_weeks_146 : decode cX10_weeks 146 = .ok (.iinc 4 1, 3) := by decide +kernel
theorem dX10_weeks_149 : decode cX10_weeks 149 = .ok (.goto (-120), 3) := by decide +kernel
theorem dX10_weeks_152 : decode cX10_weeks 152 = .ok (.aload_n 0, 1) := by decide +kernel
theorem dX10_weeks_153 : decode cX10_weeks 153 = .ok (.getfield 19, 3) := by decide +kernel
theorem dX10_weeks_156 : decode cX10_weeks 156 = .ok (.invokevirtual 267, 3) := by decide +kernel
theorem dX10_weeks_159 : decode cX10_weeks 159 = .ok (.aload_n 0, 1) := by decide +kernel
theorem dX10_weeks_160 : decode cX10_weeks 160 = .ok (.getfield 19, 3) := by decide +kernel
theorem dX10_weeks_163 : decode cX10_weeks 163 = .ok (.aload_n 0, 1) := by decide +kernel
theorem dX10_weeks_164 : decode cX10_weeks 164 = .ok (.getfield 68, 3) := by decide +kernel
theorem dX10_weeks_167 : decode cX10_weeks 167 = .ok (.getfield 183, 3) := by decide +kernel
theorem dX10_weeks_170 : decode cX10_weeks 170 = .ok (.i2l, 1) := by decide +kernel
theorem dX10_weeks_171 : decode cX10_weeks 171 = .ok (.invokevirtual 269, 3) := by decide +kernel
theorem dX10_weeks_174 : decode cX10_weeks 174 = .ok (.aload_n 0, 1) := by decide +kernel
theorem dX10_weeks_175 : decode cX10_weeks 175 = .ok (.getfield 19, 3) := by decide +kernel
theorem dX10_weeks_178 : decode cX10_weeks 178 = .ok (.aload_n 0, 1) := by decide +kernel
theorem dX10_weeks_179 : decode cX10_weeks 179 = .ok (.getfield 68, 3) := by decide +kernel
theorem dX10_weeks_182 : decode cX10_weeks 182 = .ok (.invokevirtual 227, 3) := by decide +kernel
theorem dX10_weeks_185 : decode cX10_weeks 185 = .ok (.i2l, 1) := by decide +kernel
theorem dX10_weeks_186 : decode cX10_weeks 186 = .ok (.invokevirtual 269, 3) := by decide +kernel
theorem dX10_weeks_189 : decode cX10_weeks 189 = .ok (.aload_n 0, 1) := by decide +kernel
theorem dX10_weeks_190 : decode cX10_weeks 190 = .ok (.getfield 68, 3) := by decide +kernel
theorem dX10_weeks_193 : decode cX10_weeks 193 = .ok (.getfield 198, 3) := by decide +kernel
theorem dX10_weeks_196 : decode cX10_weeks 196 = .ok (.aload_n 0, 1) := by decide +kernel
theorem dX10_weeks_197 : decode cX10_weeks 197 = .ok (.getfield 61, 3) := by decide +kernel
theorem dX10_weeks_200 : decode cX10_weeks 200 = .ok (.getfield 198, 3) := by decide +kernel
theorem dX10_weeks_203 : decode cX10_weeks 203 = .ok (.isub, 1) := by decide +kernel
theorem dX10_weeks_204 : decode cX10_weeks 204 = .ok (.ireturn, 1) := by decide +kernel
theorem dX10_nextDraw_0 : decode cX10_nextDraw 0 = .ok (.iload_n 0, 1) := by decide +kernel
theorem dX10_nextDraw_1 : decode cX10_nextDraw 1 = .ok (.ldc_w 442, 3) := by decide +kernel
theorem dX10_nextDraw_4 : decode cX10_nextDraw 4 = .ok (.imul, 1) := by decide +kernel
theorem dX10_nextDraw_5 : decode cX10_nextDraw 5 = .ok (.sipush 12345, 3) := by decide +kernel
theorem dX10_nextDraw_8 : decode cX10_nextDraw 8 = .ok (.iadd, 1) := by decide +kernel
theorem dX10_nextDraw_9 : decode cX10_nextDraw 9 = .ok (.ireturn, 1) := by decide +kernel
theorem dX10_drawn_0 : decode cX10_drawn 0 = .ok (.iload_n 1, 1) := by decide +kernel
theorem dX10_drawn_1 : decode cX10_drawn 1 = .ok (.ifCond .le 12, 3) := by decide +kernel
theorem dX10_drawn_4 : decode cX10_drawn 4 = .ok (.iload_n 0, 1) := by decide +kernel
theorem dX10_drawn_5 : decode cX10_drawn 5 = .ok (.bipush 16, 2) := by decide +kernel
theorem dX10_drawn_7 : decode cX10_drawn 7 = .ok (.iushr, 1) := by decide +kernel
theorem dX10_drawn_8 : decode cX10_drawn 8 = .ok (.iload_n 1, 1) := by decide +kernel
theorem dX10_drawn_9 : decode cX10_drawn 9 = .ok (.irem, 1) := by decide +kernel
theorem dX10_drawn_10 : decode cX10_drawn 10 = .ok (.goto 4, 3) := by decide +kernel
theorem dX10_drawn_13 : decode cX10_drawn 13 = .ok (.iconst 0, 1) := by decide +kernel
theorem dX10_drawn_14 : decode cX10_drawn 14 = .ok (.ireturn, 1) := by decide +kernel
theorem dX10_keep_0 : decode cX10_keep 0 = .ok (.iload_n 1, 1) := by decide +kernel
theorem dX10_keep_1 : decode cX10_keep 1 = .ok (.ifCond .lt 8, 3) := by decide +kernel
theorem dX10_keep_4 : decode cX10_keep 4 = .ok (.iload_n 1, 1) := by decide +kernel
theorem dX10_keep_5 : decode cX10_keep 5 = .ok (.iconst 3, 1) := by decide +kernel
theorem dX10_keep_6 : decode cX10_keep 6 = .ok (.if_icmp .lt 5, 3) := by decide +kernel
theorem dX10_keep_9 : decode cX10_keep 9 = .ok (.iconst 0, 1) := by decide +kernel
theorem dX10_keep_10 : decode cX10_keep 10 = .ok (.ireturn, 1) := by decide +kernel
theorem dX10_keep_11 : decode cX10_keep 11 = .ok (.aload_n 0, 1) := by decide +kernel
theorem dX10_keep_12 : decode cX10_keep 12 = .ok (.getfield 71, 3) := by decide +kernel
theorem dX10_keep_15 : decode cX10_keep 15 = .ok (.iload_n 1, 1) := by decide +kernel
theorem dX10_keep_16 : decode cX10_keep 16 = .ok (.aaload, 1) := by decide +kernel
theorem dX10_keep_17 : decode cX10_keep 17 = .ok (.astore_n 2, 1) := by decide +kernel
theorem dX10_keep_18 : decode cX10_keep 18 = .ok (.aload_n 2, 1) := by decide +kernel
theorem dX10_keep_19 : decode cX10_keep 19 = .ok (.ifnonnull 5, 3) := by decide +kernel
theorem dX10_keep_22 : decode cX10_keep 22 = .ok (.iconst 0, 1) := by decide +kernel
theorem dX10_keep_23 : decode cX10_keep 23 = .ok (.ireturn, 1) := by decide +kernel
theorem dX10_keep_24 : decode cX10_keep 24 = .ok (.aload_n 2, 1) := by decide +kernel
theorem dX10_keep_25 : decode cX10_keep 25 = .ok (.aload_n 0, 1) := by decide +kernel
theorem dX10_keep_26 : decode cX10_keep 26 = .ok (.getfield 61, 3) := by decide +kernel
theorem dX10_keep_29 : decode cX10_keep 29 = .ok (.invokevirtual 230, 3) := by decide +kernel
theorem dX10_keep_32 : decode cX10_keep 32 = .ok (.aload_n 0, 1) := by decide +kernel
theorem dX10_keep_33 : decode cX10_keep 33 = .ok (.dup, 1) := by decide +kernel
theorem dX10_keep_34 : decode cX10_keep 34 = .ok (.getfield 109, 3) := by decide +kernel
theorem dX10_keep_37 : decode cX10_keep 37 = .ok (.iconst 1, 1) := by decide +kernel
theorem dX10_keep_38 : decode cX10_keep 38 = .ok (.iload_n 1, 1) := by decide +kernel
theorem dX10_keep_39 : decode cX10_keep 39 = .ok (.ishl, 1) := by decide +kernel
theorem dX10_keep_40 : decode cX10_keep 40 = .ok (.ior, 1) := by decide +kernel
theorem dX10_keep_41 : decode cX10_keep 41 = .ok (.putfield 109, 3) := by decide +kernel
theorem dX10_keep_44 : decode cX10_keep 44 = .ok (.iconst 1, 1) := by decide +kernel
theorem dX10_keep_45 : decode cX10_keep 45 = .ok (.ireturn, 1) := by decide +kernel
theorem dX10_again_0 : decode cX10_again 0 = .ok (.iload_n 1, 1) := by decide +kernel
theorem dX10_again_1 : decode cX10_again 1 = .ok (.ifCond .lt 19, 3) := by decide +kernel
theorem dX10_again_4 : decode cX10_again 4 = .ok (.iload_n 1, 1) := by decide +kernel
theorem dX10_again_5 : decode cX10_again 5 = .ok (.iconst 3, 1) := by decide +kernel
theorem dX10_again_6 : decode cX10_again 6 = .ok (.if_icmp .ge 14, 3) := by decide +kernel
theorem dX10_again_9 : decode cX10_again 9 = .ok (.aload_n 0, 1) := by decide +kernel
theorem dX10_again_10 : decode cX10_again 10 = .ok (.getfield 109, 3) := by decide +kernel
theorem dX10_again_13 : decode cX10_again 13 = .ok (.iload_n 1, 1) := by decide +kernel
theorem dX10_again_14 : decode cX10_again 14 = .ok (.ishr, 1) := by decide +kernel
theorem dX10_again_15 : decode cX10_again 15 = .ok (.iconst 1, 1) := by decide +kernel
theorem dX10_again_16 : decode cX10_again 16 = .ok (.iand, 1) := by decide +kernel
theorem dX10_again_17 : decode cX10_again 17 = .ok (.ifCond .ne 5, 3) := by decide +kernel
theorem dX10_again_20 : decode cX10_again 20 = .ok (.iconst 0, 1) := by decide +kernel
theorem dX10_again_21 : decode cX10_again 21 = .ok (.ireturn, 1) := by decide +kernel
theorem dX10_again_22 : decode cX10_again 22 = .ok (.aload_n 0, 1) := by decide +kernel
theorem dX10_again_23 : decode cX10_again 23 = .ok (.getfield 61, 3) := by decide +kernel
theorem dX10_again_26 : decode cX10_again 26 = .ok (.aload_n 0, 1) := by decide +kernel
theorem dX10_again_27 : decode cX10_again 27 = .ok (.getfield 71, 3) := by decide +kernel
theorem dX10_again_30 : decode cX10_again 30 = .ok (.iload_n 1, 1) := by decide +kernel
theorem dX10_again_31 : decode cX10_again 31 = .ok (.aaload, 1) := by decide +kernel
theorem dX10_again_32 : decode cX10_again 32 = .ok (.invokevirtual 230, 3) := by decide +kernel
theorem dX10_again_35 : decode cX10_again 35 = .ok (.aload_n 0, 1) := by decide +kernel
theorem dX10_again_36 : decode cX10_again 36 = .ok (.getfield 33, 3) := by decide +kernel
theorem dX10_again_39 : decode cX10_again 39 = .ok (.invokevirtual 142, 3) := by decide +kernel
theorem dX10_again_42 : decode cX10_again 42 = .ok (.iconst 1, 1) := by decide +kernel
theorem dX10_again_43 : decode cX10_again 43 = .ok (.ireturn, 1) := by decide +kernel
theorem dX10_count_0 : decode cX10_count 0 = .ok (.iload_n 1, 1) := by decide +kernel
theorem dX10_count_1 : decode cX10_count 1 = .ok (.tableswitch 153 0 10 #[59, 67, 75, 86, 97, 105, 113, 121, 129, 137, 145], 59) := by decide +kernel
theorem dX10_count_60 : decode cX10_count 60 = .ok (.aload_n 0, 1) := by decide +kernel
theorem dX10_count_61 : decode cX10_count 61 = .ok (.getfield 92, 3) := by decide +kernel
theorem dX10_count_64 : decode cX10_count 64 = .ok (.getfield 443, 3) := by decide +kernel
theorem dX10_count_67 : decode cX10_count 67 = .ok (.ireturn, 1) := by decide +kernel
theorem dX10_count_68 : decode cX10_count 68 = .ok (.aload_n 0, 1) := by decide +kernel
theorem dX10_count_69 : decode cX10_count 69 = .ok (.getfield 92, 3) := by decide +kernel
theorem dX10_count_72 : decode cX10_count 72 = .ok (.getfield 446, 3) := by decide +kernel
theorem dX10_count_75 : decode cX10_count 75 = .ok (.ireturn, 1) := by decide +kernel
theorem dX10_count_76 : decode cX10_count 76 = .ok (.aload_n 0, 1) := by decide +kernel
theorem dX10_count_77 : decode cX10_count 77 = .ok (.getfield 92, 3) := by decide +kernel
theorem dX10_count_80 : decode cX10_count 80 = .ok (.getfield 128, 3) := by decide +kernel
theorem dX10_count_83 : decode cX10_count 83 = .ok (.invokestatic 143, 3) := by decide +kernel
theorem dX10_count_86 : decode cX10_count 86 = .ok (.ireturn, 1) := by decide +kernel
theorem dX10_count_87 : decode cX10_count 87 = .ok (.aload_n 0, 1) := by decide +kernel
theorem dX10_count_88 : decode cX10_count 88 = .ok (.getfield 61, 3) := by decide +kernel
theorem dX10_count_91 : decode cX10_count 91 = .ok (.getfield 166, 3) := by decide +kernel
theorem dX10_count_94 : decode cX10_count 94 = .ok (.invokestatic 143, 3) := by decide +kernel
theorem dX10_count_97 : decode cX10_count 97 = .ok (.ireturn, 1) := by decide +kernel
theorem dX10_count_98 : decode cX10_count 98 = .ok (.aload_n 0, 1) := by decide +kernel
theorem dX10_count_99 : decode cX10_count 99 = .ok (.getfield 61, 3) := by decide +kernel
theorem dX10_count_102 : decode cX10_count 102 = .ok (.invokevirtual 227, 3) := by decide +kernel
theorem dX10_count_105 : decode cX10_count 105 = .ok (.ireturn, 1) := by decide +kernel
theorem dX10_count_106 : decode cX10_count 106 = .ok (.aload_n 0, 1) := by decide +kernel
theorem dX10_count_107 : decode cX10_count 107 = .ok (.getfield 92, 3) := by decide +kernel
theorem dX10_count_110 : decode cX10_count 110 = .ok (.getfield 180, 3) := by decide +kernel
theorem dX10_count_113 : decode cX10_count 113 = .ok (.ireturn, 1) := by decide +kernel
theorem dX10_count_114 : decode cX10_count 114 = .ok (.aload_n 0, 1) := by decide +kernel
theorem dX10_count_115 : decode cX10_count 115 = .ok (.getfield 61, 3) := by decide +kernel
theorem dX10_count_118 : decode cX10_count 118 = .ok (.getfield 449, 3) := by decide +kernel
theorem dX10_count_121 : decode cX10_count 121 = .ok (.ireturn, 1) := by decide +kernel
theorem dX10_count_122 : decode cX10_count 122 = .ok (.aload_n 0, 1) := by decide +kernel
theorem dX10_count_123 : decode cX10_count 123 = .ok (.getfield 47, 3) := by decide +kernel
theorem dX10_count_126 : decode cX10_count 126 = .ok (.invokevirtual 359, 3) := by decide +kernel
theorem dX10_count_129 : decode cX10_count 129 = .ok (.ireturn, 1) := by decide +kernel
theorem dX10_count_130 : decode cX10_count 130 = .ok (.aload_n 0, 1) := by decide +kernel
theorem dX10_count_131 : decode cX10_count 131 = .ok (.getfield 33, 3) := by decide +kernel
theorem dX10_count_134 : decode cX10_count 134 = .ok (.invokevirtual 277, 3) := by decide +kernel
theorem dX10_count_137 : decode cX10_count 137 = .ok (.ireturn, 1) := by decide +kernel
theorem dX10_count_138 : decode cX10_count 138 = .ok (.aload_n 0, 1) := by decide +kernel
theorem dX10_count_139 : decode cX10_count 139 = .ok (.getfield 19, 3) := by decide +kernel
theorem dX10_count_142 : decode cX10_count 142 = .ok (.invokevirtual 452, 3) := by decide +kernel
theorem dX10_count_145 : decode cX10_count 145 = .ok (.ireturn, 1) := by decide +kernel
theorem dX10_count_146 : decode cX10_count 146 = .ok (.aload_n 0, 1) := by decide +kernel
theorem dX10_count_147 : decode cX10_count 147 = .ok (.getfield 12, 3) := by decide +kernel
theorem dX10_count_150 : decode cX10_count 150 = .ok (.invokevirtual 117, 3) := by decide +kernel
theorem dX10_count_153 : decode cX10_count 153 = .ok (.ireturn, 1) := by decide +kernel
theorem dX10_count_154 : decode cX10_count 154 = .ok (.bipush (-100), 2) := by decide +kernel
theorem dX10_count_156 : decode cX10_count 156 = .ok (.ireturn, 1) := by decide +kernel
theorem dX10_row_0 : decode cX10_row 0 = .ok (.iload_n 1, 1) := by decide +kernel
theorem dX10_row_1 : decode cX10_row 1 = .ok (.ifCond .lt 14, 3) := by decide +kernel
theorem dX10_row_4 : decode cX10_row 4 = .ok (.iload_n 1, 1) := by decide +kernel
theorem dX10_row_5 : decode cX10_row 5 = .ok (.aload_n 0, 1) := by decide +kernel
theorem dX10_row_6 : decode cX10_row 6 = .ok (.getfield 19, 3) := by decide +kernel
theorem dX10_row_9 : decode cX10_row 9 = .ok (.invokevirtual 452, 3) := by decide +kernel
theorem dX10_row_12 : decode cX10_row 12 = .ok (.if_icmp .lt 14, 3) := by decide +kernel
theorem dX10_row_15 : decode cX10_row 15 = .ok (.new 155, 3) := by decide +kernel
theorem dX10_row_18 : decode cX10_row 18 = .ok (.dup, 1) := by decide +kernel
theorem dX10_row_19 : decode cX10_row 19 = .ok (.ldc_w 453, 3) := by decide +kernel
theorem dX10_row_22 : decode cX10_row 22 = .ok (.invokespecial 159, 3) := by decide +kernel
theorem dX10_row_25 : decode cX10_row 25 = .ok (.athrow, 1) := by decide +kernel
theorem dX10_row_26 : decode cX10_row 26 = .ok (.aload_n 0, 1) := by decide +kernel
theorem dX10_row_27 : decode cX10_row 27 = .ok (.getfield 19, 3) := by decide +kernel
theorem dX10_row_30 : decode cX10_row 30 = .ok (.iload_n 1, 1) := by decide +kernel
theorem dX10_row_31 : decode cX10_row 31 = .ok (.invokevirtual 455, 3) := by decide +kernel
theorem dX10_row_34 : decode cX10_row 34 = .ok (.lreturn, 1) := by decide +kernel
theorem dX10_free_0 : decode cX10_free 0 = .ok (.aload_n 0, 1) := by decide +kernel
theorem dX10_free_1 : decode cX10_free 1 = .ok (.getfield 92, 3) := by decide +kernel
theorem dX10_free_4 : decode cX10_free 4 = .ok (.getfield 128, 3) := by decide +kernel
theorem dX10_free_7 : decode cX10_free 7 = .ok (.aload_n 0, 1) := by decide +kernel
theorem dX10_free_8 : decode cX10_free 8 = .ok (.getfield 61, 3) := by decide +kernel
theorem dX10_free_11 : decode cX10_free 11 = .ok (.getfield 166, 3) := by decide +kernel
theorem dX10_free_14 : decode cX10_free 14 = .ok (.ldc2_w 305, 3) := by decide +kernel
theorem dX10_free_17 : decode cX10_free 17 = .ok (.lxor, 1) := by decide +kernel
theorem dX10_free_18 : decode cX10_free 18 = .ok (.land, 1) := by decide +kernel
theorem dX10_free_19 : decode cX10_free 19 = .ok (.lreturn, 1) := by decide +kernel
theorem dX10_oneIf_0 : decode cX10_oneIf 0 = .ok (.iload_n 0, 1) := by decide +kernel
theorem dX10_oneIf_1 : decode cX10_oneIf 1 = .ok (.ifCond .eq 7, 3) := by decide +kernel
theorem dX10_oneIf_4 : decode cX10_oneIf 4 = .ok (.iconst 1, 1) := by decide +kernel
theorem dX10_oneIf_5 : decode cX10_oneIf 5 = .ok (.goto 4, 3) := by decide +kernel
theorem dX10_oneIf_8 : decode cX10_oneIf 8 = .ok (.iconst 0, 1) := by decide +kernel
theorem dX10_oneIf_9 : decode cX10_oneIf 9 = .ok (.ireturn, 1) := by decide +kernel
theorem dX10_bit_0 : decode cX10_bit 0 = .ok (.iload_n 0, 1) := by decide +kernel
theorem dX10_bit_1 : decode cX10_bit 1 = .ok (.ifCond .lt 15, 3) := by decide +kernel
theorem dX10_bit_4 : decode cX10_bit 4 = .ok (.iload_n 0, 1) := by decide +kernel
theorem dX10_bit_5 : decode cX10_bit 5 = .ok (.bipush 36, 2) := by decide +kernel
theorem dX10_bit_7 : decode cX10_bit 7 = .ok (.if_icmp .ge 9, 3) := by decide +kernel
theorem dX10_bit_10 : decode cX10_bit 10 = .ok (.lconst 1, 1) := by decide +kernel
theorem dX10_bit_11 : decode cX10_bit 11 = .ok (.iload_n 0, 1) := by decide +kernel
theorem dX10_bit_12 : decode cX10_bit 12 = .ok (.lshl, 1) := by decide +kernel
theorem dX10_bit_13 : decode cX10_bit 13 = .ok (.goto 4, 3) := by decide +kernel
theorem dX10_bit_16 : decode cX10_bit 16 = .ok (.lconst 0, 1) := by decide +kernel
theorem dX10_bit_17 : decode cX10_bit 17 = .ok (.lreturn, 1) := by decide +kernel
theorem dX10_holds_0 : decode cX10_holds 0 = .ok (.iload_n 2, 1) := by decide +kernel
theorem dX10_holds_1 : decode cX10_holds 1 = .ok (.ifCond .lt 23, 3) := by decide +kernel
theorem dX10_holds_4 : decode cX10_holds 4 = .ok (.iload_n 2, 1) := by decide +kernel
theorem dX10_holds_5 : decode cX10_holds 5 = .ok (.bipush 36, 2) := by decide +kernel
theorem dX10_holds_7 : decode cX10_holds 7 = .ok (.if_icmp .ge 17, 3) := by decide +kernel
theorem dX10_holds_10 : decode cX10_holds 10 = .ok (.lload_n 0, 1) := by decide +kernel
theorem dX10_holds_11 : decode cX10_holds 11 = .ok (.iload_n 2, 1) := by decide +kernel
theorem dX10_holds_12 : decode cX10_holds 12 = .ok (.lushr, 1) := by decide +kernel
theorem dX10_holds_13 : decode cX10_holds 13 = .ok (.lconst 1, 1) := by decide +kernel
theorem dX10_holds_14 : decode cX10_holds 14 = .ok (.land, 1) := by decide +kernel
theorem dX10_holds_15 : decode cX10_holds 15 = .ok (.lconst 0, 1) := by decide +kernel
theorem dX10_holds_16 : decode cX10_holds 16 = .ok (.lcmp, 1) := by decide +kernel
theorem dX10_holds_17 : decode cX10_holds 17 = .ok (.ifCond .eq 7, 3) := by decide +kernel
theorem dX10_holds_20 : decode cX10_holds 20 = .ok (.iconst 1, 1) := by decide +kernel
theorem dX10_holds_21 : decode cX10_holds 21 = .ok (.goto 4, 3) := by decide +kernel
theorem dX10_holds_24 : decode cX10_holds 24 = .ok (.iconst 0, 1) := by decide +kernel
theorem dX10_holds_25 : decode cX10_holds 25 = .ok (.ireturn, 1) := by decide +kernel
theorem dX11_thrown_0 : decode cX11_thrown 0 = .ok (.aload_n 0, 1) := by decide +kernel
theorem dX11_thrown_1 : decode cX11_thrown 1 = .ok (.getfield 3, 3) := by decide +kernel
theorem dX11_thrown_4 : decode cX11_thrown 4 = .ok (.ireturn, 1) := by decide +kernel
theorem dX11_refuse_0 : decode cX11_refuse 0 = .ok (.aload_n 0, 1) := by decide +kernel
theorem dX11_refuse_1 : decode cX11_refuse 1 = .ok (.iconst 1, 1) := by decide +kernel
theorem dX11_refuse_2 : decode cX11_refuse 2 = .ok (.putfield 3, 3) := by decide +kernel
theorem dX11_refuse_5 : decode cX11_refuse 5 = .ok (.iconst 0, 1) := by decide +kernel
theorem dX11_refuse_6 : decode cX11_refuse 6 = .ok (.ireturn, 1) := by decide +kernel
theorem dX11_in_0 : decode cX11_in 0 = .ok (.lload_n 0, 1) := by decide +kernel
theorem dX11_in_1 : decode cX11_in 1 = .ok (.lload_n 2, 1) := by decide +kernel
theorem dX11_in_2 : decode cX11_in 2 = .ok (.lcmp, 1) := by decide +kernel
theorem dX11_in_3 : decode cX11_in 3 = .ok (.ifCond .lt 14, 3) := by decide +kernel
theorem dX11_in_6 : decode cX11_in 6 = .ok (.lload_n 0, 1) := by decide +kernel
theorem dX11_in_7 : decode cX11_in 7 = .ok (.lload 4, 2) := by decide +kernel
theorem dX11_in_9 : decode cX11_in 9 = .ok (.lcmp, 1) := by decide +kernel
theorem dX11_in_10 : decode cX11_in 10 = .ok (.ifCond .gt 7, 3) := by decide +kernel
theorem dX11_in_13 : decode cX11_in 13 = .ok (.iconst 1, 1) := by decide +kernel
theorem dX11_in_14 : decode cX11_in 14 = .ok (.goto 4, 3) := by decide +kernel
theorem dX11_in_17 : decode cX11_in 17 = .ok (.iconst 0, 1) := by decide +kernel
theorem dX11_in_18 : decode cX11_in 18 = .ok (.ireturn, 1) := by decide +kernel
theorem dX11_flag_0 : decode cX11_flag 0 = .ok (.iload_n 0, 1) := by decide +kernel
theorem dX11_flag_1 : decode cX11_flag 1 = .ok (.ifCond .eq 7, 3) := by decide +kernel
theorem dX11_flag_4 : decode cX11_flag 4 = .ok (.iconst 1, 1) := by decide +kernel
theorem dX11_flag_5 : decode cX11_flag 5 = .ok (.goto 4, 3) := by decide +kernel
theorem dX11_flag_8 : decode cX11_flag 8 = .ok (.iconst 0, 1) := by decide +kernel
theorem dX11_flag_9 : decode cX11_flag 9 = .ok (.ireturn, 1) := by decide +kernel
theorem dX11_common_0 : decode cX11_common 0 = .ok (.lload_n 2, 1) := by decide +kernel
theorem dX11_common_1 : decode cX11_common 1 = .ok (.lconst 0, 1) := by decide +kernel
theorem dX11_common_2 : decode cX11_common 2 = .ok (.lcmp, 1) := by decide +kernel
theorem dX11_common_3 : decode cX11_common 3 = .ok (.ifCond .ne 7, 3) := by decide +kernel
theorem dX11_common_6 : decode cX11_common 6 = .ok (.lload_n 0, 1) := by decide +kernel
theorem dX11_common_7 : decode cX11_common 7 = .ok (.goto 10, 3) := by decide +kernel
theorem dX11_common_10 : decode cX11_common 10 = .ok (.lload_n 2, 1) := by decide +kernel
theorem dX11_common_11 : decode cX11_common 11 = .ok (.lload_n 0, 1) := by decide +kernel
theorem dX11_common_12 : decode cX11_common 12 = .ok (.lload_n 2, 1) := by decide +kernel
theorem dX11_common_13 : decode cX11_common 13 = .ok (.lrem, 1) := by decide +kernel
theorem dX11_common_14 : decode cX11_common 14 = .ok (.invokestatic 7, 3) := by decide +kernel
theorem dX11_common_17 : decode cX11_common 17 = .ok (.lreturn, 1) := by decide +kernel
theorem dX11_enters_0 : decode cX11_enters 0 = .ok (.aload_n 0, 1) := by decide +kernel
theorem dX11_enters_1 : decode cX11_enters 1 = .ok (.getfield 11, 3) := by decide +kernel
theorem dX11_enters_4 : decode cX11_enters 4 = .ok (.aload_n 0, 1) := by decide +kernel
theorem dX11_enters_5 : decode cX11_enters 5 = .ok (.getfield 15, 3) := by decide +kernel
theorem dX11_enters_8 : decode cX11_enters 8 = .ok (.lload_n 1, 1) := by decide +kernel
theorem dX11_enters_9 : decode cX11_enters 9 = .ok (.lastore, 1) := by decide +kernel
theorem dX11_enters_10 : decode cX11_enters 10 = .ok (.aload_n 0, 1) := by decide +kernel
theorem dX11_enters_11 : decode cX11_enters 11 = .ok (.dup, 1) := by decide +kernel
theorem dX11_enters_12 : decode cX11_enters 12 = .ok (.getfield 15, 3) := by decide +kernel
theorem dX11_enters_15 : decode cX11_enters 15 = .ok (.iconst 1, 1) := by decide +kernel
theorem dX11_enters_16 : decode cX11_enters 16 = .ok (.iadd, 1) := by decide +kernel
theorem dX11_enters_17 : decode cX11_enters 17 = .ok (.putfield 15, 3) := by decide +kernel
theorem dX11_enters_20 : decode cX11_enters 20 = .ok (.return_, 1) := by decide +kernel
theorem dX11_tellsFraction_0 : decode cX11_tellsFraction 0 = .ok (.lload_n 1, 1) := by decide +kernel
theorem dX11_tellsFraction_1 : decode cX11_tellsFraction 1 = .ok (.lload_n 3, 1) := by decide +kernel
theorem dX11_tellsFraction_2 : decode cX11_tellsFraction 2 = .ok (.invokestatic 7, 3) := by decide +kernel
theorem dX11_tellsFraction_5 : decode cX11_tellsFraction 5 = .ok (.lstore 5, 2) := by decide +kernel
theorem dX11_tellsFraction_7 : decode cX11_tellsFraction 7 = .ok (.aload_n 0, 1) := by decide +kernel
theorem dX11_tellsFraction_8 : decode cX11_tellsFraction 8 = .ok (.iconst 0, 1) := by decide +kernel
theorem dX11_tellsFraction_9 : decode cX11_tellsFraction 9 = .ok (.putfield 15, 3) := by decide +kernel
theorem dX11_tellsFraction_12 : decode cX11_tellsFraction 12 = .ok (.aload_n 0, 1) := by decide +kernel
theorem dX11_tellsFraction_13 : decode cX11_tellsFraction 13 = .ok (.lload_n 1, 1) := by decide +kernel
theorem dX11_tellsFraction_14 : decode cX11_tellsFraction 14 = .ok (.lload 5, 2) := by decide +kernel
theorem dX11_tellsFraction_16 : decode cX11_tellsFraction 16 = .ok (.ldiv, 1) := by decide +kernel
theorem dX11_tellsFraction_17 : decode cX11_tellsFraction 17 = .ok (.invokevirtual 18, 3) := by decide +kernel
theorem dX11_tellsFraction_20 : decode cX11_tellsFraction 20 = .ok (.aload_n 0, 1) := by decide +kernel
theorem dX11_tellsFraction_21 : decode cX11_tellsFraction 21 = .ok (.lload_n 3, 1) := by decide +kernel
theorem dX11_tellsFraction_22 : decode cX11_tellsFraction 22 = .ok (.lload 5, 2) := by decide +kernel
theorem dX11_tellsFraction_24 : decode cX11_tellsFraction 24 = .ok (.ldiv, 1) := by decide +kernel
theorem dX11_tellsFraction_25 : decode cX11_tellsFraction 25 = .ok (.invokevirtual 18, 3) := by decide +kernel
theorem dX11_tellsFraction_28 : decode cX11_tellsFraction 28 = .ok (.return_, 1) := by decide +kernel
