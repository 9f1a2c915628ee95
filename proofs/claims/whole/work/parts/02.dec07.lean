theorem dX11_readsThing_0 : decode cX11_readsThing 0 = .ok (.aload_n 0, 1) := by decide +kernel
theorem dX11_readsThing_1 : decode cX11_readsThing 1 = .ok (.bipush 45, 2) := by decide +kernel
theorem dX11_readsThing_3 : decode cX11_readsThing 3 = .ok (.invokevirtual 183, 3) := by decide +kernel
theorem dX11_readsThing_6 : decode cX11_readsThing 6 = .ok (.ifCond .eq 17, 3) := by decide +kernel
theorem dX11_readsThing_9 : decode cX11_readsThing 9 = .ok (.aload_n 0, 1) := by decide +kernel
theorem dX11_readsThing_10 : decode cX11_readsThing 10 = .ok (.invokevirtual 195, 3) := by decide +kernel
theorem dX11_readsThing_13 : decode cX11_readsThing 13 = .ok (.istore_n 1, 1) := by decide +kernel
theorem dX11_readsThing_14 : decode cX11_readsThing 14 = .ok (.aload_n 0, 1) := by decide +kernel
theorem dX11_readsThing_15 : decode cX11_readsThing 15 = .ok (.sipush 3000, 3) := by decide +kernel
theorem dX11_readsThing_18 : decode cX11_readsThing 18 = .ok (.invokevirtual 198, 3) := by decide +kernel
theorem dX11_readsThing_21 : decode cX11_readsThing 21 = .ok (.iload_n 1, 1) := by decide +kernel
theorem dX11_readsThing_22 : decode cX11_readsThing 22 = .ok (.ireturn, 1) := by decide +kernel
theorem dX11_readsThing_23 : decode cX11_readsThing 23 = .ok (.aload_n 0, 1) := by decide +kernel
theorem dX11_readsThing_24 : decode cX11_readsThing 24 = .ok (.invokevirtual 161, 3) := by decide +kernel
theorem dX11_readsThing_27 : decode cX11_readsThing 27 = .ok (.ifCond .eq 14, 3) := by decide +kernel
theorem dX11_readsThing_30 : decode cX11_readsThing 30 = .ok (.aload_n 0, 1) := by decide +kernel
theorem dX11_readsThing_31 : decode cX11_readsThing 31 = .ok (.aload_n 0, 1) := by decide +kernel
theorem dX11_readsThing_32 : decode cX11_readsThing 32 = .ok (.iconst 3, 1) := by decide +kernel
theorem dX11_readsThing_33 : decode cX11_readsThing 33 = .ok (.invokevirtual 202, 3) := by decide +kernel
theorem dX11_readsThing_36 : decode cX11_readsThing 36 = .ok (.invokevirtual 198, 3) := by decide +kernel
theorem dX11_readsThing_39 : decode cX11_readsThing 39 = .ok (.iconst 1, 1) := by decide +kernel
theorem dX11_readsThing_40 : decode cX11_readsThing 40 = .ok (.ireturn, 1) := by decide +kernel
theorem dX11_readsThing_41 : decode cX11_readsThing 41 = .ok (.aload_n 0, 1) := by decide +kernel
theorem dX11_readsThing_42 : decode cX11_readsThing 42 = .ok (.ldc 205, 2) := by decide +kernel
theorem dX11_readsThing_44 : decode cX11_readsThing 44 = .ok (.invokevirtual 207, 3) := by decide +kernel
theorem dX11_readsThing_47 : decode cX11_readsThing 47 = .ok (.istore_n 1, 1) := by decide +kernel
theorem dX11_readsThing_48 : decode cX11_readsThing 48 = .ok (.iload_n 1, 1) := by decide +kernel
theorem dX11_readsThing_49 : decode cX11_readsThing 49 = .ok (.ifCond .lt 14, 3) := by decide +kernel
theorem dX11_readsThing_52 : decode cX11_readsThing 52 = .ok (.aload_n 0, 1) := by decide +kernel
theorem dX11_readsThing_53 : decode cX11_readsThing 53 = .ok (.sipush 1000, 3) := by decide +kernel
theorem dX11_readsThing_56 : decode cX11_readsThing 56 = .ok (.iload_n 1, 1) := by decide +kernel
theorem dX11_readsThing_57 : decode cX11_readsThing 57 = .ok (.iadd, 1) := by decide +kernel
theorem dX11_readsThing_58 : decode cX11_readsThing 58 = .ok (.invokevirtual 198, 3) := by decide +kernel
theorem dX11_readsThing_61 : decode cX11_readsThing 61 = .ok (.iconst 1, 1) := by decide +kernel
theorem dX11_readsThing_62 : decode cX11_readsThing 62 = .ok (.ireturn, 1) := by decide +kernel
theorem dX11_readsThing_63 : decode cX11_readsThing 63 = .ok (.aload_n 0, 1) := by decide +kernel
theorem dX11_readsThing_64 : decode cX11_readsThing 64 = .ok (.getfield 132, 3) := by decide +kernel
theorem dX11_readsThing_67 : decode cX11_readsThing 67 = .ok (.iconst 4, 1) := by decide +kernel
theorem dX11_readsThing_68 : decode cX11_readsThing 68 = .ok (.if_icmp .eq 12, 3) := by decide +kernel
theorem dX11_readsThing_71 : decode cX11_readsThing 71 = .ok (.aload_n 0, 1) := by decide +kernel
theorem dX11_readsThing_72 : decode cX11_readsThing 72 = .ok (.bipush 40, 2) := by decide +kernel
theorem dX11_readsThing_74 : decode cX11_readsThing 74 = .ok (.invokevirtual 183, 3) := by decide +kernel
theorem dX11_readsThing_77 : decode cX11_readsThing 77 = .ok (.ifCond .ne 5, 3) := by decide +kernel
theorem dX11_readsThing_80 : decode cX11_readsThing 80 = .ok (.iconst 0, 1) := by decide +kernel
theorem dX11_readsThing_81 : decode cX11_readsThing 81 = .ok (.ireturn, 1) := by decide +kernel
theorem dX11_readsThing_82 : decode cX11_readsThing 82 = .ok (.aload_n 0, 1) := by decide +kernel
theorem dX11_readsThing_83 : decode cX11_readsThing 83 = .ok (.dup, 1) := by decide +kernel
theorem dX11_readsThing_84 : decode cX11_readsThing 84 = .ok (.getfield 132, 3) := by decide +kernel
theorem dX11_readsThing_87 : decode cX11_readsThing 87 = .ok (.iconst 1, 1) := by decide +kernel
theorem dX11_readsThing_88 : decode cX11_readsThing 88 = .ok (.iadd, 1) := by decide +kernel
theorem dX11_readsThing_89 : decode cX11_readsThing 89 = .ok (.putfield 132, 3) := by decide +kernel
theorem dX11_readsThing_92 : decode cX11_readsThing 92 = .ok (.aload_n 0, 1) := by decide +kernel
theorem dX11_readsThing_93 : decode cX11_readsThing 93 = .ok (.iconst 0, 1) := by decide +kernel
theorem dX11_readsThing_94 : decode cX11_readsThing 94 = .ok (.invokevirtual 210, 3) := by decide +kernel
theorem dX11_readsThing_97 : decode cX11_readsThing 97 = .ok (.ifCond .eq 12, 3) := by decide +kernel
theorem dX11_readsThing_100 : decode cX11_readsThing 100 = .ok (.aload_n 0, 1) := by decide +kernel
theorem dX11_readsThing_101 : decode cX11_readsThing 101 = .ok (.bipush 41, 2) := by decide +kernel
theorem dX11_readsThing_103 : decode cX11_readsThing 103 = .ok (.invokevirtual 183, 3) := by decide +kernel
theorem dX11_readsThing_106 : decode cX11_readsThing 106 = .ok (.ifCond .ne 5, 3) := by decide +kernel
theorem dX11_readsThing_109 : decode cX11_readsThing 109 = .ok (.iconst 0, 1) := by decide +kernel
theorem dX11_readsThing_110 : decode cX11_readsThing 110 = .ok (.ireturn, 1) := by decide +kernel
theorem dX11_readsThing_111 : decode cX11_readsThing 111 = .ok (.aload_n 0, 1) := by decide +kernel
theorem dX11_readsThing_112 : decode cX11_readsThing 112 = .ok (.dup, 1) := by decide +kernel
theorem dX11_readsThing_113 : decode cX11_readsThing 113 = .ok (.getfield 132, 3) := by decide +kernel
theorem dX11_readsThing_116 : decode cX11_readsThing 116 = .ok (.iconst 1, 1) := by decide +kernel
theorem dX11_readsThing_117 : decode cX11_readsThing 117 = .ok (.isub, 1) := by decide +kernel
theorem dX11_readsThing_118 : decode cX11_readsThing 118 = .ok (.putfield 132, 3) := by decide +kernel
theorem dX11_readsThing_121 : decode cX11_readsThing 121 = .ok (.iconst 1, 1) := by decide +kernel
theorem dX11_readsThing_122 : decode cX11_readsThing 122 = .ok (.ireturn, 1) := by decide +kernel
theorem dX11_readsRank_0 : decode cX11_readsRank 0 = .ok (.iload_n 1, 1) := by decide +kernel
theorem dX11_readsRank_1 : decode cX11_readsRank 1 = .ok (.iconst 3, 1) := by decide +kernel
theorem dX11_readsRank_2 : decode cX11_readsRank 2 = .ok (.if_icmp .ne 8, 3) := by decide +kernel
theorem dX11_readsRank_5 : decode cX11_readsRank 5 = .ok (.aload_n 0, 1) := by decide +kernel
theorem dX11_readsRank_6 : decode cX11_readsRank 6 = .ok (.invokevirtual 195, 3) := by decide +kernel
theorem dX11_readsRank_9 : decode cX11_readsRank 9 = .ok (.ireturn, 1) := by decide +kernel
theorem dX11_readsRank_10 : decode cX11_readsRank 10 = .ok (.aload_n 0, 1) := by decide +kernel
theorem dX11_readsRank_11 : decode cX11_readsRank 11 = .ok (.iload_n 1, 1) := by decide +kernel
theorem dX11_readsRank_12 : decode cX11_readsRank 12 = .ok (.iconst 1, 1) := by decide +kernel
theorem dX11_readsRank_13 : decode cX11_readsRank 13 = .ok (.iadd, 1) := by decide +kernel
theorem dX11_readsRank_14 : decode cX11_readsRank 14 = .ok (.invokevirtual 210, 3) := by decide +kernel
theorem dX11_readsRank_17 : decode cX11_readsRank 17 = .ok (.ifCond .ne 5, 3) := by decide +kernel
theorem dX11_readsRank_20 : decode cX11_readsRank 20 = .ok (.iconst 0, 1) := by decide +kernel
theorem dX11_readsRank_21 : decode cX11_readsRank 21 = .ok (.ireturn, 1) := by decide +kernel
theorem dX11_readsRank_22 : decode cX11_readsRank 22 = .ok (.iconst 1, 1) := by decide +kernel
theorem dX11_readsRank_23 : decode cX11_readsRank 23 = .ok (.istore_n 2, 1) := by decide +kernel
theorem dX11_readsRank_24 : decode cX11_readsRank 24 = .ok (.iload_n 2, 1) := by decide +kernel
theorem dX11_readsRank_25 : decode cX11_readsRank 25 = .ok (.ifCond .eq 88, 3) := by decide +kernel
theorem dX11_readsRank_28 : decode cX11_readsRank 28 = .ok (.aload_n 0, 1) := by decide +kernel
theorem dX11_readsRank_29 : decode cX11_readsRank 29 = .ok (.iload_n 1, 1) := by decide +kernel
theorem dX11_readsRank_30 : decode cX11_readsRank 30 = .ok (.ifCond .ne 8, 3) := by decide +kernel
theorem dX11_readsRank_33 : decode cX11_readsRank 33 = .ok (.ldc 213, 2) := by decide +kernel
theorem dX11_readsRank_35 : decode cX11_readsRank 35 = .ok (.goto 15, 3) := by decide +kernel
theorem dX11_readsRank_38 : decode cX11_readsRank 38 = .ok (.iload_n 1, 1) := by decide +kernel
theorem dX11_readsRank_39 : decode cX11_readsRank 39 = .ok (.iconst 1, 1) := by decide +kernel
theorem dX11_readsRank_40 : decode cX11_readsRank 40 = .ok (.if_icmp .ne 8, 3) := by decide +kernel
theorem dX11_readsRank_43 : decode cX11_readsRank 43 = .ok (.ldc 215, 2) := by decide +kernel
theorem dX11_readsRank_45 : decode cX11_readsRank 45 = .ok (.goto 5, 3) := by decide +kernel
theorem dX11_readsRank_48 : decode cX11_readsRank 48 = .ok (.ldc 217, 2) := by decide +kernel
theorem dX11_readsRank_50 : decode cX11_readsRank 50 = .ok (.invokevirtual 207, 3) := by decide +kernel
theorem dX11_readsRank_53 : decode cX11_readsRank 53 = .ok (.istore_n 3, 1) := by decide +kernel
theorem dX11_readsRank_54 : decode cX11_readsRank 54 = .ok (.iload_n 3, 1) := by decide +kernel
theorem dX11_readsRank_55 : decode cX11_readsRank 55 = .ok (.ifCond .ge 5, 3) := by decide +kernel
theorem dX11_readsRank_58 : decode cX11_readsRank 58 = .ok (.iconst 1, 1) := by decide +kernel
theorem dX11_readsRank_59 : decode cX11_readsRank 59 = .ok (.ireturn, 1) := by decide +kernel
theorem dX11_readsRank_60 : decode cX11_readsRank 60 = .ok (.aload_n 0, 1) := by decide +kernel
theorem dX11_readsRank_61 : decode cX11_readsRank 61 = .ok (.iload_n 1, 1) := by decide +kernel
theorem dX11_readsRank_62 : decode cX11_readsRank 62 = .ok (.iconst 1, 1) := by decide +kernel
theorem dX11_readsRank_63 : decode cX11_readsRank 63 = .ok (.iadd, 1) := by decide +kernel
theorem dX11_readsRank_64 : decode cX11_readsRank 64 = .ok (.invokevirtual 210, 3) := by decide +kernel
theorem dX11_readsRank_67 : decode cX11_readsRank 67 = .ok (.ifCond .ne 5, 3) := by decide +kernel
theorem dX11_readsRank_70 : decode cX11_readsRank 70 = .ok (.iconst 0, 1) := by decide +kernel
theorem dX11_readsRank_71 : decode cX11_readsRank 71 = .ok (.ireturn, 1) := by decide +kernel
theorem dX11_readsRank_72 : decode cX11_readsRank 72 = .ok (.aload_n 0, 1) := by decide +kernel
theorem dX11_readsRank_73 : decode cX11_readsRank 73 = .ok (.sipush 2000, 3) := by decide +kernel
theorem dX11_readsRank_76 : decode cX11_readsRank 76 = .ok (.iload_n 3, 1) := by decide +kernel
theorem dX11_readsRank_77 : decode cX11_readsRank 77 = .ok (.iadd, 1) := by decide +kernel
theorem dX11_readsRank_78 : decode cX11_readsRank 78 = .ok (.iload_n 1, 1) := by decide +kernel
theorem dX11_readsRank_79 : decode cX11_readsRank 79 = .ok (.ifCond .ne 7, 3) := by decide +kernel
theorem dX11_readsRank_82 : decode cX11_readsRank 82 = .ok (.iconst 0, 1) := by decide +kernel
theorem dX11_readsRank_83 : decode cX11_readsRank 83 = .ok (.goto 13, 3) := by decide +kernel
theorem dX11_readsRank_86 : decode cX11_readsRank 86 = .ok (.iload_n 1, 1) := by decide +kernel
theorem dX11_readsRank_87 : decode cX11_readsRank 87 = .ok (.iconst 1, 1) := by decide +kernel
theorem dX11_readsRank_88 : decode cX11_readsRank 88 = .ok (.if_icmp .ne 7, 3) := by decide +kernel
theorem dX11_readsRank_91 : decode cX11_readsRank 91 = .ok (.iconst 3, 1) := by decide +kernel
theorem dX11_readsRank_92 : decode cX11_readsRank 92 = .ok (.goto 4, 3) := by decide +kernel
theorem dX11_readsRank_95 : decode cX11_readsRank 95 = .ok (.iconst 5, 1) := by decide +kernel
theorem dX11_readsRank_96 : decode cX11_readsRank 96 = .ok (.iadd, 1) := by decide +kernel
theorem dX11_readsRank_97 : decode cX11_readsRank 97 = .ok (.invokevirtual 198, 3) := by decide +kernel
theorem dX11_readsRank_100 : decode cX11_readsRank 100 = .ok (.iload_n 1, 1) := by decide +kernel
theorem dX11_readsRank_101 : decode cX11_readsRank 101 = .ok (.ifCond .le 7, 3) := by decide +kernel
theorem dX11_readsRank_104 : decode cX11_readsRank 104 = .ok (.iconst 1, 1) := by decide +kernel
theorem dX11_readsRank_105 : decode cX11_readsRank 105 = .ok (.goto 4, 3) := by decide +kernel
theorem dX11_readsRank_108 : decode cX11_readsRank 108 = .ok (.iconst 0, 1) := by decide +kernel
theorem dX11_readsRank_109 : decode cX11_readsRank 109 = .ok (.istore_n 2, 1) := by decide +kernel
theorem dX11_readsRank_110 : decode cX11_readsRank 110 = .ok (.goto (-86), 3) := by decide +kernel
theorem dX11_readsRank_113 : decode cX11_readsRank 113 = .ok (.iconst 1, 1) := by decide +kernel
theorem dX11_readsRank_114 : decode cX11_readsRank 114 = .ok (.ireturn, 1) := by decide +kernel
theorem dX11_rule_0 : decode cX11_rule 0 = .ok (.aload_n 0, 1) := by decide +kernel
theorem dX11_rule_1 : decode cX11_rule 1 = .ok (.iconst 0, 1) := by decide +kernel
theorem dX11_rule_2 : decode cX11_rule 2 = .ok (.putfield 3, 3) := by decide +kernel
theorem dX11_rule_5 : decode cX11_rule 5 = .ok (.aload_n 0, 1) := by decide +kernel
theorem dX11_rule_6 : decode cX11_rule 6 = .ok (.bipush 40, 2) := by decide +kernel
theorem dX11_rule_8 : decode cX11_rule 8 = .ok (.invokevirtual 175, 3) := by decide +kernel
theorem dX11_rule_11 : decode cX11_rule 11 = .ok (.istore_n 1, 1) := by decide +kernel
theorem dX11_rule_12 : decode cX11_rule 12 = .ok (.aload_n 0, 1) := by decide +kernel
theorem dX11_rule_13 : decode cX11_rule 13 = .ok (.iconst 0, 1) := by decide +kernel
theorem dX11_rule_14 : decode cX11_rule 14 = .ok (.putfield 192, 3) := by decide +kernel
theorem dX11_rule_17 : decode cX11_rule 17 = .ok (.iload_n 1, 1) := by decide +kernel
theorem dX11_rule_18 : decode cX11_rule 18 = .ok (.ifCond .eq 11, 3) := by decide +kernel
theorem dX11_rule_21 : decode cX11_rule 21 = .ok (.aload_n 0, 1) := by decide +kernel
theorem dX11_rule_22 : decode cX11_rule 22 = .ok (.iconst 0, 1) := by decide +kernel
theorem dX11_rule_23 : decode cX11_rule 23 = .ok (.invokevirtual 210, 3) := by decide +kernel
theorem dX11_rule_26 : decode cX11_rule 26 = .ok (.ifCond .eq 7, 3) := by decide +kernel
theorem dX11_rule_29 : decode cX11_rule 29 = .ok (.iconst 1, 1) := by decide +kernel
theorem dX11_rule_30 : decode cX11_rule 30 = .ok (.goto 4, 3) := by decide +kernel
theorem dX11_rule_33 : decode cX11_rule 33 = .ok (.iconst 0, 1) := by decide +kernel
theorem dX11_rule_34 : decode cX11_rule 34 = .ok (.istore_n 2, 1) := by decide +kernel
theorem dX11_rule_35 : decode cX11_rule 35 = .ok (.aload_n 0, 1) := by decide +kernel
theorem dX11_rule_36 : decode cX11_rule 36 = .ok (.iload_n 1, 1) := by decide +kernel
theorem dX11_rule_37 : decode cX11_rule 37 = .ok (.bipush 40, 2) := by decide +kernel
theorem dX11_rule_39 : decode cX11_rule 39 = .ok (.iload_n 2, 1) := by decide +kernel
theorem dX11_rule_40 : decode cX11_rule 40 = .ok (.invokevirtual 219, 3) := by decide +kernel
theorem dX11_rule_43 : decode cX11_rule 43 = .ok (.istore_n 3, 1) := by decide +kernel
theorem dX11_rule_44 : decode cX11_rule 44 = .ok (.iload_n 3, 1) := by decide +kernel
theorem dX11_rule_45 : decode cX11_rule 45 = .ok (.ifCond .ge 5, 3) := by decide +kernel
theorem dX11_rule_48 : decode cX11_rule 48 = .ok (.iload_n 3, 1) := by decide +kernel
theorem dX11_rule_49 : decode cX11_rule 49 = .ok (.ireturn, 1) := by decide +kernel
theorem dX11_rule_50 : decode cX11_rule 50 = .ok (.aload_n 0, 1) := by decide +kernel
theorem dX11_rule_51 : decode cX11_rule 51 = .ok (.aload_n 0, 1) := by decide +kernel
theorem dX11_rule_52 : decode cX11_rule 52 = .ok (.getfield 192, 3) := by decide +kernel
theorem dX11_rule_55 : decode cX11_rule 55 = .ok (.putfield 223, 3) := by decide +kernel
theorem dX11_rule_58 : decode cX11_rule 58 = .ok (.iconst 0, 1) := by decide +kernel
theorem dX11_rule_59 : decode cX11_rule 59 = .ok (.istore 4, 2) := by decide +kernel
theorem dX11_rule_61 : decode cX11_rule 61 = .ok (.iload 4, 2) := by decide +kernel
theorem dX11_rule_63 : decode cX11_rule 63 = .ok (.aload_n 0, 1) := by decide +kernel
theorem dX11_rule_64 : decode cX11_rule 64 = .ok (.getfield 192, 3) := by decide +kernel
theorem dX11_rule_67 : decode cX11_rule 67 = .ok (.if_icmp .ge 23, 3) := by decide +kernel
theorem dX11_rule_70 : decode cX11_rule 70 = .ok (.aload_n 0, 1) := by decide +kernel
theorem dX11_rule_71 : decode cX11_rule 71 = .ok (.getfield 53, 3) := by decide +kernel
theorem dX11_rule_74 : decode cX11_rule 74 = .ok (.iload 4, 2) := by decide +kernel
theorem dX11_rule_76 : decode cX11_rule 76 = .ok (.aload_n 0, 1) := by decide +kernel
theorem dX11_rule_77 : decode cX11_rule 77 = .ok (.getfield 56, 3) := by decide +kernel
theorem dX11_rule_80 : decode cX11_rule 80 = .ok (.iload 4, 2) := by decide +kernel
theorem dX11_rule_82 : decode cX11_rule 82 = .ok (.iaload, 1) := by decide +kernel
theorem dX11_rule_83 : decode cX11_rule 83 = .ok (.iastore, 1) := by decide +kernel
theorem dX11_rule_84 : decode cX11_rule 84 = .ok (.iinc 4 1, 3) := by decide +kernel
theorem dX11_rule_87 : decode cX11_rule 87 = .ok (.goto (-26), 3) := by decide +kernel
theorem dX11_rule_90 : decode cX11_rule 90 = .ok (.iconst 0, 1) := by decide +kernel
theorem dX11_rule_91 : decode cX11_rule 91 = .ok (.ireturn, 1) := by decide +kernel
theorem dX11_worked_0 : decode cX11_worked 0 = .ok (.iload_n 0, 1) := by decide +kernel
theorem dX11_worked_1 : decode cX11_worked 1 = .ok (.tableswitch 93 0 5 #[39, 53, 67, 81, 85, 89], 39) := by decide +kernel
theorem dX11_worked_40 : decode cX11_worked 40 = .ok (.iload_n 1, 1) := by decide +kernel
theorem dX11_worked_41 : decode cX11_worked 41 = .ok (.iload_n 2, 1) := by decide +kernel
theorem dX11_worked_42 : decode cX11_worked 42 = .ok (.if_icmp .ge 7, 3) := by decide +kernel
theorem dX11_worked_45 : decode cX11_worked 45 = .ok (.iconst 1, 1) := by decide +kernel
theorem dX11_worked_46 : decode cX11_worked 46 = .ok (.goto 4, 3) := by decide +kernel
theorem dX11_worked_49 : decode cX11_worked 49 = .ok (.iconst 0, 1) := by decide +kernel
theorem dX11_worked_50 : decode cX11_worked 50 = .ok (.invokestatic 122, 3) := by decide +kernel
theorem dX11_worked_53 : decode cX11_worked 53 = .ok (.ireturn, 1) := by decide +kernel
theorem dX11_worked_54 : decode cX11_worked 54 = .ok (.iload_n 1, 1) := by decide +kernel
theorem dX11_worked_55 : decode cX11_worked 55 = .ok (.iload_n 2, 1) := by decide +kernel
theorem dX11_worked_56 : decode cX11_worked 56 = .ok (.if_icmp .le 7, 3) := by decide +kernel
theorem dX11_worked_59 : decode cX11_worked 59 = .ok (.iconst 1, 1) := by decide +kernel
theorem dX11_worked_60 : decode cX11_worked 60 = .ok (.goto 4, 3) := by decide +kernel
theorem dX11_worked_63 : decode cX11_worked 63 = .ok (.iconst 0, 1) := by decide +kernel
theorem dX11_worked_64 : decode cX11_worked 64 = .ok (.invokestatic 122, 3) := by decide +kernel
theorem dX11_worked_67 : decode cX11_worked 67 = .ok (.ireturn, 1) := by decide +kernel
theorem dX11_worked_68 : decode cX11_worked 68 = .ok (.iload_n 1, 1) := by decide +kernel
theorem dX11_worked_69 : decode cX11_worked 69 = .ok (.iload_n 2, 1) := by decide +kernel
theorem dX11_worked_70 : decode cX11_worked 70 = .ok (.if_icmp .ne 7, 3) := by decide +kernel
theorem dX11_worked_73 : decode cX11_worked 73 = .ok (.iconst 1, 1) := by decide +kernel
theorem dX11_worked_74 : decode cX11_worked 74 = .ok (.goto 4, 3) := by decide +kernel
theorem dX11_worked_77 : decode cX11_worked 77 = .ok (.iconst 0, 1) := by decide +kernel
theorem dX11_worked_78 : decode cX11_worked 78 = .ok (.invokestatic 122, 3) := by decide +kernel
theorem dX11_worked_81 : decode cX11_worked 81 = .ok (.ireturn, 1) := by decide +kernel
theorem dX11_worked_82 : decode cX11_worked 82 = .ok (.iload_n 1, 1) := by decide +kernel
theorem dX11_worked_83 : decode cX11_worked 83 = .ok (.iload_n 2, 1) := by decide +kernel
theorem dX11_worked_84 : decode cX11_worked 84 = .ok (.iadd, 1) := by decide +kernel
theorem dX11_worked_85 : decode cX11_worked 85 = .ok (.ireturn, 1) := by decide +kernel
theorem dX11_worked_86 : decode cX11_worked 86 = .ok (.iload_n 1, 1) := by decide +kernel
theorem dX11_worked_87 : decode cX11_worked 87 = .ok (.iload_n 2, 1) := by decide +kernel
theorem dX11_worked_88 : decode cX11_worked 88 = .ok (.isub, 1) := by decide +kernel
theorem dX11_worked_89 : decode cX11_worked 89 = .ok (.ireturn, 1) := by decide +kernel
theorem dX11_worked_90 : decode cX11_worked 90 = .ok (.iload_n 1, 1) := by decide +kernel
theorem dX11_worked_91 : decode cX11_worked 91 = .ok (.iload_n 2, 1) := by decide +kernel
theorem dX11_worked_92 : decode cX11_worked 92 = .ok (.imul, 1) := by decide +kernel
theorem dX11_worked_93 : decode cX11_worked 93 = .ok (.ireturn, 1) := by decide +kernel
theorem dX11_worked_94 : decode cX11_worked 94 = .ok (.iload_n 2, 1) := by decide +kernel
theorem dX11_worked_95 : decode cX11_worked 95 = .ok (.ifCond .ne 7, 3) := by decide +kernel
theorem dX11_worked_98 : decode cX11_worked 98 = .ok (.iconst 0, 1) := by decide +kernel
theorem dX11_worked_99 : decode cX11_worked 99 = .ok (.goto 6, 3) := by decide +kernel
theorem dX11_worked_102 : decode cX11_worked 102 = .ok (.iload_n 1, 1) := by decide +kernel
theorem dX11_worked_103 : decode cX11_worked 103 = .ok (.iload_n 2, 1) := by decide +kernel
theorem dX11_worked_104 : decode cX11_worked 104 = .ok (.idiv, 1) := by decide +kernel
theorem dX11_worked_105 : decode cX11_worked 105 = .ok (.ireturn, 1) := by decide +kernel
theorem dX11_ruled_0 : decode cX11_ruled 0 = .ok (.iconst 0, 1) := by decide +kernel
theorem dX11_ruled_1 : decode cX11_ruled 1 = .ok (.istore_n 1, 1) := by decide +kernel
theorem dX11_ruled_2 : decode cX11_ruled 2 = .ok (.iconst 0, 1) := by decide +kernel
theorem dX11_ruled_3 : decode cX11_ruled 3 = .ok (.istore_n 2, 1) := by decide +kernel
theorem dX11_ruled_4 : decode cX11_ruled 4 = .ok (.iload_n 2, 1) := by decide +kernel
theorem dX11_ruled_5 : decode cX11_ruled 5 = .ok (.aload_n 0, 1) := by decide +kernel
theorem dX11_ruled_6 : decode cX11_ruled 6 = .ok (.getfield 223, 3) := by decide +kernel
theorem dX11_ruled_9 : decode cX11_ruled 9 = .ok (.if_icmp .ge 116, 3) := by decide +kernel
theorem dX11_ruled_12 : decode cX11_ruled 12 = .ok (.aload_n 0, 1) := by decide +kernel
theorem dX11_ruled_13 : decode cX11_ruled 13 = .ok (.getfield 53, 3) := by decide +kernel
theorem dX11_ruled_16 : decode cX11_ruled 16 = .ok (.iload_n 2, 1) := by decide +kernel
theorem dX11_ruled_17 : decode cX11_ruled 17 = .ok (.iaload, 1) := by decide +kernel
theorem dX11_ruled_18 : decode cX11_ruled 18 = .ok (.istore_n 3, 1) := by decide +kernel
theorem dX11_ruled_19 : decode cX11_ruled 19 = .ok (.iload_n 3, 1) := by decide +kernel
theorem dX11_ruled_20 : decode cX11_ruled 20 = .ok (.sipush 3000, 3) := by decide +kernel
theorem dX11_ruled_23 : decode cX11_ruled 23 = .ok (.if_icmp .ne 23, 3) := by decide +kernel
theorem dX11_ruled_26 : decode cX11_ruled 26 = .ok (.aload_n 0, 1) := by decide +kernel
theorem dX11_ruled_27 : decode cX11_ruled 27 = .ok (.getfield 59, 3) := by decide +kernel
theorem dX11_ruled_30 : decode cX11_ruled 30 = .ok (.iload_n 1, 1) := by decide +kernel
theorem dX11_ruled_31 : decode cX11_ruled 31 = .ok (.iconst 1, 1) := by decide +kernel
theorem dX11_ruled_32 : decode cX11_ruled 32 = .ok (.isub, 1) := by decide +kernel
theorem dX11_ruled_33 : decode cX11_ruled 33 = .ok (.aload_n 0, 1) := by decide +kernel
theorem dX11_ruled_34 : decode cX11_ruled 34 = .ok (.getfield 59, 3) := by decide +kernel
theorem dX11_ruled_37 : decode cX11_ruled 37 = .ok (.iload_n 1, 1) := by decide +kernel
theorem dX11_ruled_38 : decode cX11_ruled 38 = .ok (.iconst 1, 1) := by decide +kernel
theorem dX11_ruled_39 : decode cX11_ruled 39 = .ok (.isub, 1) := by decide +kernel
theorem dX11_ruled_40 : decode cX11_ruled 40 = .ok (.iaload, 1) := by decide +kernel
theorem dX11_ruled_41 : decode cX11_ruled 41 = .ok (.ineg, 1) := by decide +kernel
theorem dX11_ruled_42 : decode cX11_ruled 42 = .ok (.iastore, 1) := by decide +kernel
theorem dX11_ruled_43 : decode cX11_ruled 43 = .ok (.goto 76, 3) := by decide +kernel
theorem dX11_ruled_46 : decode cX11_ruled 46 = .ok (.iload_n 3, 1) := by decide +kernel
theorem dX11_ruled_47 : decode cX11_ruled 47 = .ok (.sipush 2000, 3) := by decide +kernel
theorem dX11_ruled_50 : decode cX11_ruled 50 = .ok (.if_icmp .lt 39, 3) := by decide +kernel
theorem dX11_ruled_53 : decode cX11_ruled 53 = .ok (.iinc 1 (-1), 3) := by decide +kernel
theorem dX11_ruled_56 : decode cX11_ruled 56 = .ok (.aload_n 0, 1) := by decide +kernel
theorem dX11_ruled_57 : decode cX11_ruled 57 = .ok (.getfield 59, 3) := by decide +kernel
theorem dX11_ruled_60 : decode cX11_ruled 60 = .ok (.iload_n 1, 1) := by decide +kernel
theorem dX11_ruled_61 : decode cX11_ruled 61 = .ok (.iconst 1, 1) := by decide +kernel
theorem dX11_ruled_62 : decode cX11_ruled 62 = .ok (.isub, 1) := by decide +kernel
theorem dX11_ruled_63 : decode cX11_ruled 63 = .ok (.iload_n 3, 1) := by decide +kernel
theorem dX11_ruled_64 : decode cX11_ruled 64 = .ok (.sipush 2000, 3) := by decide +kernel
theorem dX11_ruled_67 : decode cX11_ruled 67 = .ok (.isub, 1) := by decide +kernel
theorem dX11_ruled_68 : decode cX11_ruled 68 = .ok (.aload_n 0, 1) := by decide +kernel
theorem dX11_ruled_69 : decode cX11_ruled 69 = .ok (.getfield 59, 3) := by decide +kernel
theorem dX11_ruled_72 : decode cX11_ruled 72 = .ok (.iload_n 1, 1) := by decide +kernel
theorem dX11_ruled_73 : decode cX11_ruled 73 = .ok (.iconst 1, 1) := by decide +kernel
theorem dX11_ruled_74 : decode cX11_ruled 74 = .ok (.isub, 1) := by decide +kernel
theorem dX11_ruled_75 : decode cX11_ruled 75 = .ok (.iaload, 1) := by decide +kernel
theorem dX11_ruled_76 : decode cX11_ruled 76 = .ok (.aload_n 0, 1) := by decide +kernel
theorem dX11_ruled_77 : decode cX11_ruled 77 = .ok (.getfield 59, 3) := by decide +kernel
theorem dX11_ruled_80 : decode cX11_ruled 80 = .ok (.iload_n 1, 1) := by decide +kernel
theorem dX11_ruled_81 : decode cX11_ruled 81 = .ok (.iaload, 1) := by decide +kernel
theorem dX11_ruled_82 : decode cX11_ruled 82 = .ok (.invokestatic 226, 3) := by decide +kernel
theorem dX11_ruled_85 : decode cX11_ruled 85 = .ok (.iastore, 1) := by decide +kernel
theorem dX11_ruled_86 : decode cX11_ruled 86 = .ok (.goto 33, 3) := by decide +kernel
theorem dX11_ruled_89 : decode cX11_ruled 89 = .ok (.aload_n 0, 1) := by decide +kernel
theorem dX11_ruled_90 : decode cX11_ruled 90 = .ok (.getfield 59, 3) := by decide +kernel
theorem dX11_ruled_93 : decode cX11_ruled 93 = .ok (.iload_n 1, 1) := by decide +kernel
theorem dX11_ruled_94 : decode cX11_ruled 94 = .ok (.iload_n 3, 1) := by decide +kernel
theorem dX11_ruled_95 : decode cX11_ruled 95 = .ok (.sipush 1000, 3) := by decide +kernel
theorem dX11_ruled_98 : decode cX11_ruled 98 = .ok (.if_icmp .lt 16, 3) := by decide +kernel
theorem dX11_ruled_101 : decode cX11_ruled 101 = .ok (.aload_n 0, 1) := by decide +kernel
theorem dX11_ruled_102 : decode cX11_ruled 102 = .ok (.getfield 62, 3) := by decide +kernel
theorem dX11_ruled_105 : decode cX11_ruled 105 = .ok (.iload_n 3, 1) := by decide +kernel
theorem dX11_ruled_106 : decode cX11_ruled 106 = .ok (.sipush 1000, 3) := by decide +kernel
theorem dX11_ruled_109 : decode cX11_ruled 109 = .ok (.isub, 1) := by decide +kernel
theorem dX11_ruled_110 : decode cX11_ruled 110 = .ok (.iaload, 1) := by decide +kernel
theorem dX11_ruled_111 : decode cX11_ruled 111 = .ok (.goto 4, 3) := by decide +kernel
theorem dX11_ruled_114 : decode cX11_ruled 114 = .ok (.iload_n 3, 1) := by decide +kernel
theorem dX11_ruled_115 : decode cX11_ruled 115 = .ok (.iastore, 1) := by decide +kernel
theorem dX11_ruled_116 : decode cX11_ruled 116 = .ok (.iinc 1 1, 3) := by decide +kernel
theorem dX11_ruled_119 : decode cX11_ruled 119 = .ok (.iinc 2 1, 3) := by decide +kernel
theorem dX11_ruled_122 : decode cX11_ruled 122 = .ok (.goto (-118), 3) := by decide +kernel
theorem dX11_ruled_125 : decode cX11_ruled 125 = .ok (.aload_n 0, 1) := by decide +kernel
theorem dX11_ruled_126 : decode cX11_ruled 126 = .ok (.getfield 223, 3) := by decide +kernel
theorem dX11_ruled_129 : decode cX11_ruled 129 = .ok (.ifCond .ne 7, 3) := by decide +kernel
theorem dX11_ruled_132 : decode cX11_ruled 132 = .ok (.iconst 1, 1) := by decide +kernel
theorem dX11_ruled_133 : decode cX11_ruled 133 = .ok (.goto 9, 3) := by decide +kernel
theorem dX11_ruled_136 : decode cX11_ruled 136 = .ok (.aload_n 0, 1) := by decide +kernel
theorem dX11_ruled_137 : decode cX11_ruled 137 = .ok (.getfield 59, 3) := by decide +kernel
theorem dX11_ruled_140 : decode cX11_ruled 140 = .ok (.iconst 0, 1) := by decide +kernel
theorem dX11_ruled_141 : decode cX11_ruled 141 = .ok (.iaload, 1) := by decide +kernel
theorem dX11_ruled_142 : decode cX11_ruled 142 = .ok (.ireturn, 1) := by decide +kernel
theorem dX11_turnOf_0 : decode cX11_turnOf 0 = .ok (.aload_n 0, 1) := by decide +kernel
theorem dX11_turnOf_1 : decode cX11_turnOf 1 = .ok (.getfield 65, 3) := by decide +kernel
theorem dX11_turnOf_4 : decode cX11_turnOf 4 = .ok (.ifCond .lt 8, 3) := by decide +kernel
theorem dX11_turnOf_7 : decode cX11_turnOf 7 = .ok (.aload_n 0, 1) := by decide +kernel
theorem dX11_turnOf_8 : decode cX11_turnOf 8 = .ok (.getfield 65, 3) := by decide +kernel
theorem dX11_turnOf_11 : decode cX11_turnOf 11 = .ok (.ireturn, 1) := by decide +kernel
theorem dX11_turnOf_12 : decode cX11_turnOf 12 = .ok (.aload_n 1, 1) := by decide +kernel
theorem dX11_turnOf_13 : decode cX11_turnOf 13 = .ok (.bipush 72, 2) := by decide +kernel
theorem dX11_turnOf_15 : decode cX11_turnOf 15 = .ok (.iaload, 1) := by decide +kernel
theorem dX11_turnOf_16 : decode cX11_turnOf 16 = .ok (.istore_n 2, 1) := by decide +kernel
theorem dX11_turnOf_17 : decode cX11_turnOf 17 = .ok (.aload_n 0, 1) := by decide +kernel
theorem dX11_turnOf_18 : decode cX11_turnOf 18 = .ok (.getfield 62, 3) := by decide +kernel
theorem dX11_turnOf_21 : decode cX11_turnOf 21 = .ok (.iconst 0, 1) := by decide +kernel
theorem dX11_turnOf_22 : decode cX11_turnOf 22 = .ok (.aload_n 1, 1) := by decide +kernel
theorem dX11_turnOf_23 : decode cX11_turnOf 23 = .ok (.bipush 77, 2) := by decide +kernel
theorem dX11_turnOf_25 : decode cX11_turnOf 25 = .ok (.iaload, 1) := by decide +kernel
theorem dX11_turnOf_26 : decode cX11_turnOf 26 = .ok (.bipush 8, 2) := by decide +kernel
theorem dX11_turnOf_28 : decode cX11_turnOf 28 = .ok (.irem, 1) := by decide +kernel
theorem dX11_turnOf_29 : decode cX11_turnOf 29 = .ok (.iastore, 1) := by decide +kernel
theorem dX11_turnOf_30 : decode cX11_turnOf 30 = .ok (.aload_n 0, 1) := by decide +kernel
theorem dX11_turnOf_31 : decode cX11_turnOf 31 = .ok (.getfield 62, 3) := by decide +kernel
theorem dX11_turnOf_34 : decode cX11_turnOf 34 = .ok (.iconst 1, 1) := by decide +kernel
theorem dX11_turnOf_35 : decode cX11_turnOf 35 = .ok (.aload_n 1, 1) := by decide +kernel
theorem dX11_turnOf_36 : decode cX11_turnOf 36 = .ok (.bipush 73, 2) := by decide +kernel
theorem dX11_turnOf_38 : decode cX11_turnOf 38 = .ok (.iaload, 1) := by decide +kernel
theorem dX11_turnOf_39 : decode cX11_turnOf 39 = .ok (.iastore, 1) := by decide +kernel
theorem dX11_turnOf_40 : decode cX11_turnOf 40 = .ok (.aload_n 0, 1) := by decide +kernel
theorem dX11_turnOf_41 : decode cX11_turnOf 41 = .ok (.getfield 62, 3) := by decide +kernel
theorem dX11_turnOf_44 : decode cX11_turnOf 44 = .ok (.iconst 2, 1) := by decide +kernel
theorem dX11_turnOf_45 : decode cX11_turnOf 45 = .ok (.iload_n 2, 1) := by decide +kernel
theorem dX11_turnOf_46 : decode cX11_turnOf 46 = .ok (.iastore, 1) := by decide +kernel
theorem dX11_turnOf_47 : decode cX11_turnOf 47 = .ok (.aload_n 0, 1) := by decide +kernel
theorem dX11_turnOf_48 : decode cX11_turnOf 48 = .ok (.getfield 62, 3) := by decide +kernel
theorem dX11_turnOf_51 : decode cX11_turnOf 51 = .ok (.iconst 3, 1) := by decide +kernel
theorem dX11_turnOf_52 : decode cX11_turnOf 52 = .ok (.aload_n 0, 1) := by decide +kernel
theorem dX11_turnOf_53 : decode cX11_turnOf 53 = .ok (.getfield 37, 3) := by decide +kernel
theorem dX11_turnOf_56 : decode cX11_turnOf 56 = .ok (.iload_n 2, 1) := by decide +kernel
theorem dX11_turnOf_57 : decode cX11_turnOf 57 = .ok (.iaload, 1) := by decide +kernel
theorem dX11_turnOf_58 : decode cX11_turnOf 58 = .ok (.iconst 2, 1) := by decide +kernel
theorem dX11_turnOf_59 : decode cX11_turnOf 59 = .ok (.if_icmp .ne 7, 3) := by decide +kernel
theorem dX11_turnOf_62 : decode cX11_turnOf 62 = .ok (.iconst 1, 1) := by decide +kernel
theorem dX11_turnOf_63 : decode cX11_turnOf 63 = .ok (.goto 4, 3) := by decide +kernel
theorem dX11_turnOf_66 : decode cX11_turnOf 66 = .ok (.iconst 0, 1) := by decide +kernel
theorem dX11_turnOf_67 : decode cX11_turnOf 67 = .ok (.invokestatic 122, 3) := by decide +kernel
theorem dX11_turnOf_70 : decode cX11_turnOf 70 = .ok (.iastore, 1) := by decide +kernel
theorem dX11_turnOf_71 : decode cX11_turnOf 71 = .ok (.aload_n 0, 1) := by decide +kernel
theorem dX11_turnOf_72 : decode cX11_turnOf 72 = .ok (.getfield 62, 3) := by decide +kernel
theorem dX11_turnOf_75 : decode cX11_turnOf 75 = .ok (.iconst 4, 1) := by decide +kernel
theorem dX11_turnOf_76 : decode cX11_turnOf 76 = .ok (.aload_n 1, 1) := by decide +kernel
theorem dX11_turnOf_77 : decode cX11_turnOf 77 = .ok (.iload_n 2, 1) := by decide +kernel
theorem dX11_turnOf_78 : decode cX11_turnOf 78 = .ok (.iaload, 1) := by decide +kernel
theorem dX11_turnOf_79 : decode cX11_turnOf 79 = .ok (.iastore, 1) := by decide +kernel
theorem dX11_turnOf_80 : decode cX11_turnOf 80 = .ok (.aload_n 0, 1) := by decide +kernel
theorem dX11_turnOf_81 : decode cX11_turnOf 81 = .ok (.invokevirtual 230, 3) := by decide +kernel
theorem dX11_turnOf_84 : decode cX11_turnOf 84 = .ok (.iconst 4, 1) := by decide +kernel
theorem dX11_turnOf_85 : decode cX11_turnOf 85 = .ok (.irem, 1) := by decide +kernel
theorem dX11_turnOf_86 : decode cX11_turnOf 86 = .ok (.istore_n 3, 1) := by decide +kernel
theorem dX11_turnOf_87 : decode cX11_turnOf 87 = .ok (.iload_n 3, 1) := by decide +kernel
theorem dX11_turnOf_88 : decode cX11_turnOf 88 = .ok (.ifCond .ge 9, 3) := by decide +kernel
theorem dX11_turnOf_91 : decode cX11_turnOf 91 = .ok (.iload_n 3, 1) := by decide +kernel
theorem dX11_turnOf_92 : decode cX11_turnOf 92 = .ok (.iconst 4, 1) := by decide +kernel
theorem dX11_turnOf_93 : decode cX11_turnOf 93 = .ok (.iadd, 1) := by decide +kernel
theorem dX11_turnOf_94 : decode cX11_turnOf 94 = .ok (.goto 4, 3) := by decide +kernel
theorem dX11_turnOf_97 : decode cX11_turnOf 97 = .ok (.iload_n 3, 1) := by decide +kernel
theorem dX11_turnOf_98 : decode cX11_turnOf 98 = .ok (.ireturn, 1) := by decide +kernel
theorem dX11_spot_0 : decode cX11_spot 0 = .ok (.aload_n 0, 1) := by decide +kernel
theorem dX11_spot_1 : decode cX11_spot 1 = .ok (.iconst 0, 1) := by decide +kernel
theorem dX11_spot_2 : decode cX11_spot 2 = .ok (.putfield 3, 3) := by decide +kernel
theorem dX11_spot_5 : decode cX11_spot 5 = .ok (.aload_n 0, 1) := by decide +kernel
theorem dX11_spot_6 : decode cX11_spot 6 = .ok (.iload_n 1, 1) := by decide +kernel
theorem dX11_spot_7 : decode cX11_spot 7 = .ok (.invokevirtual 233, 3) := by decide +kernel
theorem dX11_spot_10 : decode cX11_spot 10 = .ok (.ifCond .eq 15, 3) := by decide +kernel
theorem dX11_spot_13 : decode cX11_spot 13 = .ok (.iload_n 2, 1) := by decide +kernel
theorem dX11_spot_14 : decode cX11_spot 14 = .ok (.i2l, 1) := by decide +kernel
theorem dX11_spot_15 : decode cX11_spot 15 = .ok (.lconst 0, 1) := by decide +kernel
theorem dX11_spot_16 : decode cX11_spot 16 = .ok (.ldc2_w 236, 3) := by decide +kernel
theorem dX11_spot_19 : decode cX11_spot 19 = .ok (.invokestatic 118, 3) := by decide +kernel
theorem dX11_spot_22 : decode cX11_spot 22 = .ok (.ifCond .ne 8, 3) := by decide +kernel
theorem dX11_spot_25 : decode cX11_spot 25 = .ok (.aload_n 0, 1) := by decide +kernel
theorem dX11_spot_26 : decode cX11_spot 26 = .ok (.invokevirtual 238, 3) := by decide +kernel
theorem dX11_spot_29 : decode cX11_spot 29 = .ok (.ireturn, 1) := by decide +kernel
theorem dX11_spot_30 : decode cX11_spot 30 = .ok (.iload_n 2, 1) := by decide +kernel
theorem dX11_spot_31 : decode cX11_spot 31 = .ok (.tableswitch 94 0 4 #[33, 40, 50, 57, 74], 33) := by decide +kernel
theorem dX11_spot_64 : decode cX11_spot 64 = .ok (.aload_n 0, 1) := by decide +kernel
theorem dX11_spot_65 : decode cX11_spot 65 = .ok (.getfield 37, 3) := by decide +kernel
theorem dX11_spot_68 : decode cX11_spot 68 = .ok (.iload_n 1, 1) := by decide +kernel
theorem dX11_spot_69 : decode cX11_spot 69 = .ok (.iaload, 1) := by decide +kernel
theorem dX11_spot_70 : decode cX11_spot 70 = .ok (.ireturn, 1) := by decide +kernel
theorem dX11_spot_71 : decode cX11_spot 71 = .ok (.aload_n 0, 1) := by decide +kernel
theorem dX11_spot_72 : decode cX11_spot 72 = .ok (.getfield 41, 3) := by decide +kernel
theorem dX11_spot_75 : decode cX11_spot 75 = .ok (.bipush 36, 2) := by decide +kernel
theorem dX11_spot_77 : decode cX11_spot 77 = .ok (.iload_n 1, 1) := by decide +kernel
theorem dX11_spot_78 : decode cX11_spot 78 = .ok (.iadd, 1) := by decide +kernel
theorem dX11_spot_79 : decode cX11_spot 79 = .ok (.iaload, 1) := by decide +kernel
theorem dX11_spot_80 : decode cX11_spot 80 = .ok (.ireturn, 1) := by decide +kernel
theorem dX11_spot_81 : decode cX11_spot 81 = .ok (.aload_n 0, 1) := by decide +kernel
theorem dX11_spot_82 : decode cX11_spot 82 = .ok (.getfield 41, 3) := by decide +kernel
theorem dX11_spot_85 : decode cX11_spot 85 = .ok (.iload_n 1, 1) := by decide +kernel
theorem dX11_spot_86 : decode cX11_spot 86 = .ok (.iaload, 1) := by decide +kernel
theorem dX11_spot_87 : decode cX11_spot 87 = .ok (.ireturn, 1) := by decide +kernel
theorem dX11_spot_88 : decode cX11_spot 88 = .ok (.aload_n 0, 1) := by decide +kernel
theorem dX11_spot_89 : decode cX11_spot 89 = .ok (.getfield 34, 3) := by decide +kernel
theorem dX11_spot_92 : decode cX11_spot 92 = .ok (.iload_n 1, 1) := by decide +kernel
theorem dX11_spot_93 : decode cX11_spot 93 = .ok (.if_icmp .ne 7, 3) := by decide +kernel
theorem dX11_spot_96 : decode cX11_spot 96 = .ok (.iconst 1, 1) := by decide +kernel
theorem dX11_spot_97 : decode cX11_spot 97 = .ok (.goto 4, 3) := by decide +kernel
theorem dX11_spot_100 : decode cX11_spot 100 = .ok (.iconst 0, 1) := by decide +kernel
theorem dX11_spot_101 : decode cX11_spot 101 = .ok (.invokestatic 122, 3) := by decide +kernel
theorem dX11_spot_104 : decode cX11_spot 104 = .ok (.ireturn, 1) := by decide +kernel
theorem dX11_spot_105 : decode cX11_spot 105 = .ok (.aload_n 0, 1) := by decide +kernel
theorem dX11_spot_106 : decode cX11_spot 106 = .ok (.getfield 41, 3) := by decide +kernel
theorem dX11_spot_109 : decode cX11_spot 109 = .ok (.bipush 72, 2) := by decide +kernel
theorem dX11_spot_111 : decode cX11_spot 111 = .ok (.iaload, 1) := by decide +kernel
theorem dX11_spot_112 : decode cX11_spot 112 = .ok (.iload_n 1, 1) := by decide +kernel
theorem dX11_spot_113 : decode cX11_spot 113 = .ok (.if_icmp .ne 7, 3) := by decide +kernel
theorem dX11_spot_116 : decode cX11_spot 116 = .ok (.iconst 1, 1) := by decide +kernel
theorem dX11_spot_117 : decode cX11_spot 117 = .ok (.goto 4, 3) := by decide +kernel
theorem dX11_spot_120 : decode cX11_spot 120 = .ok (.iconst 0, 1) := by decide +kernel
theorem dX11_spot_121 : decode cX11_spot 121 = .ok (.invokestatic 122, 3) := by decide +kernel
theorem dX11_spot_124 : decode cX11_spot 124 = .ok (.ireturn, 1) := by decide +kernel
theorem dX11_spot_125 : decode cX11_spot 125 = .ok (.aload_n 0, 1) := by decide +kernel
theorem dX11_spot_126 : decode cX11_spot 126 = .ok (.aload_n 0, 1) := by decide +kernel
theorem dX11_spot_127 : decode cX11_spot 127 = .ok (.getfield 41, 3) := by decide +kernel
theorem dX11_spot_130 : decode cX11_spot 130 = .ok (.iload_n 1, 1) := by decide +kernel
theorem dX11_spot_131 : decode cX11_spot 131 = .ok (.invokevirtual 241, 3) := by decide +kernel
theorem dX11_spot_134 : decode cX11_spot 134 = .ok (.invokestatic 122, 3) := by decide +kernel
theorem dX11_spot_137 : decode cX11_spot 137 = .ok (.ireturn, 1) := by decide +kernel
theorem dX11_machine_0 : decode cX11_machine 0 = .ok (.aload_n 0, 1) := by decide +kernel
theorem dX11_machine_1 : decode cX11_machine 1 = .ok (.iconst 0, 1) := by decide +kernel
theorem dX11_machine_2 : decode cX11_machine 2 = .ok (.putfield 3, 3) := by decide +kernel
theorem dX11_machine_5 : decode cX11_machine 5 = .ok (.iload_n 1, 1) := by decide +kernel
theorem dX11_machine_6 : decode cX11_machine 6 = .ok (.i2l, 1) := by decide +kernel
theorem dX11_machine_7 : decode cX11_machine 7 = .ok (.lconst 0, 1) := by decide +kernel
theorem dX11_machine_8 : decode cX11_machine 8 = .ok (.ldc2_w 245, 3) := by decide +kernel
theorem dX11_machine_11 : decode cX11_machine 11 = .ok (.invokestatic 118, 3) := by decide +kernel
theorem dX11_machine_14 : decode cX11_machine 14 = .ok (.ifCond .ne 8, 3) := by decide +kernel
theorem dX11_machine_17 : decode cX11_machine 17 = .ok (.aload_n 0, 1) := by decide +kernel
theorem dX11_machine_18 : decode cX11_machine 18 = .ok (.invokevirtual 238, 3) := by decide +kernel
theorem dX11_machine_21 : decode cX11_machine 21 = .ok (.ireturn, 1) := by decide +kernel
theorem dX11_machine_22 : decode cX11_machine 22 = .ok (.iload_n 1, 1) := by decide +kernel
theorem dX11_machine_23 : decode cX11_machine 23 = .ok (.bipush 6, 2) := by decide +kernel
theorem dX11_machine_25 : decode cX11_machine 25 = .ok (.if_icmp .ge 15, 3) := by decide +kernel
theorem dX11_machine_28 : decode cX11_machine 28 = .ok (.aload_n 0, 1) := by decide +kernel
theorem dX11_machine_29 : decode cX11_machine 29 = .ok (.getfield 41, 3) := by decide +kernel
theorem dX11_machine_32 : decode cX11_machine 32 = .ok (.bipush 72, 2) := by decide +kernel
theorem dX11_machine_34 : decode cX11_machine 34 = .ok (.iload_n 1, 1) := by decide +kernel
theorem dX11_machine_35 : decode cX11_machine 35 = .ok (.iadd, 1) := by decide +kernel
theorem dX11_machine_36 : decode cX11_machine 36 = .ok (.iaload, 1) := by decide +kernel
theorem dX11_machine_37 : decode cX11_machine 37 = .ok (.goto 38, 3) := by decide +kernel
theorem dX11_machine_40 : decode cX11_machine 40 = .ok (.iload_n 1, 1) := by decide +kernel
theorem dX11_machine_41 : decode cX11_machine 41 = .ok (.bipush 6, 2) := by decide +kernel
theorem dX11_machine_43 : decode cX11_machine 43 = .ok (.if_icmp .ne 14, 3) := by decide +kernel
theorem dX11_machine_46 : decode cX11_machine 46 = .ok (.aload_n 0, 1) := by decide +kernel
theorem dX11_machine_47 : decode cX11_machine 47 = .ok (.aload_n 0, 1) := by decide +kernel
theorem dX11_machine_48 : decode cX11_machine 48 = .ok (.getfield 41, 3) := by decide +kernel
theorem dX11_machine_51 : decode cX11_machine 51 = .ok (.invokevirtual 247, 3) := by decide +kernel
theorem dX11_machine_54 : decode cX11_machine 54 = .ok (.goto 21, 3) := by decide +kernel
theorem dX11_machine_57 : decode cX11_machine 57 = .ok (.aload_n 0, 1) := by decide +kernel
theorem dX11_machine_58 : decode cX11_machine 58 = .ok (.aload_n 0, 1) := by decide +kernel
theorem dX11_machine_59 : decode cX11_machine 59 = .ok (.getfield 41, 3) := by decide +kernel
theorem dX11_machine_62 : decode cX11_machine 62 = .ok (.bipush 72, 2) := by decide +kernel
theorem dX11_machine_64 : decode cX11_machine 64 = .ok (.iaload, 1) := by decide +kernel
theorem dX11_machine_65 : decode cX11_machine 65 = .ok (.aload_n 0, 1) := by decide +kernel
theorem dX11_machine_66 : decode cX11_machine 66 = .ok (.getfield 41, 3) := by decide +kernel
theorem dX11_machine_69 : decode cX11_machine 69 = .ok (.bipush 73, 2) := by decide +kernel
theorem dX11_machine_71 : decode cX11_machine 71 = .ok (.iaload, 1) := by decide +kernel
theorem dX11_machine_72 : decode cX11_machine 72 = .ok (.invokevirtual 251, 3) := by decide +kernel
theorem dX11_machine_75 : decode cX11_machine 75 = .ok (.ireturn, 1) := by decide +kernel
theorem dX11_sheet_0 : decode cX11_sheet 0 = .ok (.aload_n 0, 1) := by decide +kernel
theorem dX11_sheet_1 : decode cX11_sheet 1 = .ok (.iconst 0, 1) := by decide +kernel
theorem dX11_sheet_2 : decode cX11_sheet 2 = .ok (.putfield 3, 3) := by decide +kernel
theorem dX11_sheet_5 : decode cX11_sheet 5 = .ok (.iload_n 1, 1) := by decide +kernel
theorem dX11_sheet_6 : decode cX11_sheet 6 = .ok (.i2l, 1) := by decide +kernel
theorem dX11_sheet_7 : decode cX11_sheet 7 = .ok (.lconst 0, 1) := by decide +kernel
theorem dX11_sheet_8 : decode cX11_sheet 8 = .ok (.ldc2_w 254, 3) := by decide +kernel
theorem dX11_sheet_11 : decode cX11_sheet 11 = .ok (.invokestatic 118, 3) := by decide +kernel
theorem dX11_sheet_14 : decode cX11_sheet 14 = .ok (.ifCond .eq 9, 3) := by decide +kernel
theorem dX11_sheet_17 : decode cX11_sheet 17 = .ok (.iload_n 2, 1) := by decide +kernel
theorem dX11_sheet_18 : decode cX11_sheet 18 = .ok (.bipush 36, 2) := by decide +kernel
theorem dX11_sheet_20 : decode cX11_sheet 20 = .ok (.if_icmp .le 5, 3) := by decide +kernel
theorem dX11_sheet_23 : decode cX11_sheet 23 = .ok (.iconst (-1), 1) := by decide +kernel
theorem dX11_sheet_24 : decode cX11_sheet 24 = .ok (.ireturn, 1) := by decide +kernel
theorem dX11_sheet_25 : decode cX11_sheet 25 = .ok (.iload_n 1, 1) := by decide +kernel
theorem dX11_sheet_26 : decode cX11_sheet 26 = .ok (.iconst 3, 1) := by decide +kernel
theorem dX11_sheet_27 : decode cX11_sheet 27 = .ok (.if_icmp .eq 10, 3) := by decide +kernel
theorem dX11_sheet_30 : decode cX11_sheet 30 = .ok (.iload_n 2, 1) := by decide +kernel
theorem dX11_sheet_31 : decode cX11_sheet 31 = .ok (.ifCond .ge 6, 3) := by decide +kernel
theorem dX11_sheet_34 : decode cX11_sheet 34 = .ok (.bipush (-2), 2) := by decide +kernel
theorem dX11_sheet_36 : decode cX11_sheet 36 = .ok (.ireturn, 1) := by decide +kernel
theorem dX11_sheet_37 : decode cX11_sheet 37 = .ok (.iconst 0, 1) := by decide +kernel
theorem dX11_sheet_38 : decode cX11_sheet 38 = .ok (.istore 5, 2) := by decide +kernel
theorem dX11_sheet_40 : decode cX11_sheet 40 = .ok (.iload_n 3, 1) := by decide +kernel
theorem dX11_sheet_41 : decode cX11_sheet 41 = .ok (.istore 6, 2) := by decide +kernel
theorem dX11_sheet_43 : decode cX11_sheet 43 = .ok (.iconst 0, 1) := by decide +kernel
theorem dX11_sheet_44 : decode cX11_sheet 44 = .ok (.istore 7, 2) := by decide +kernel
theorem dX11_sheet_46 : decode cX11_sheet 46 = .ok (.iload 7, 2) := by decide +kernel
theorem dX11_sheet_48 : decode cX11_sheet 48 = .ok (.aload_n 0, 1) := by decide +kernel
theorem dX11_sheet_49 : decode cX11_sheet 49 = .ok (.invokevirtual 114, 3) := by decide +kernel
theorem dX11_sheet_52 : decode cX11_sheet 52 = .ok (.if_icmp .ge 96, 3) := by decide +kernel
theorem dX11_sheet_55 : decode cX11_sheet 55 = .ok (.iload_n 1, 1) := by decide +kernel
theorem dX11_sheet_56 : decode cX11_sheet 56 = .ok (.ifCond .ne 9, 3) := by decide +kernel
theorem dX11_sheet_59 : decode cX11_sheet 59 = .ok (.iload 6, 2) := by decide +kernel
theorem dX11_sheet_61 : decode cX11_sheet 61 = .ok (.i2b, 1) := by decide +kernel
theorem dX11_sheet_62 : decode cX11_sheet 62 = .ok (.goto 16, 3) := by decide +kernel
theorem dX11_sheet_65 : decode cX11_sheet 65 = .ok (.iload_n 1, 1) := by decide +kernel
theorem dX11_sheet_66 : decode cX11_sheet 66 = .ok (.iconst 1, 1) := by decide +kernel
theorem dX11_sheet_67 : decode cX11_sheet 67 = .ok (.if_icmp .ne 9, 3) := by decide +kernel
theorem dX11_sheet_70 : decode cX11_sheet 70 = .ok (.iload 6, 2) := by decide +kernel
theorem dX11_sheet_72 : decode cX11_sheet 72 = .ok (.i2s, 1) := by decide +kernel
theorem dX11_sheet_73 : decode cX11_sheet 73 = .ok (.goto 5, 3) := by decide +kernel
theorem dX11_sheet_76 : decode cX11_sheet 76 = .ok (.iload 6, 2) := by decide +kernel
theorem dX11_sheet_78 : decode cX11_sheet 78 = .ok (.istore 8, 2) := by decide +kernel
theorem dX11_sheet_80 : decode cX11_sheet 80 = .ok (.aload_n 0, 1) := by decide +kernel
theorem dX11_sheet_81 : decode cX11_sheet 81 = .ok (.getfield 41, 3) := by decide +kernel
theorem dX11_sheet_84 : decode cX11_sheet 84 = .ok (.iload 7, 2) := by decide +kernel
theorem dX11_sheet_86 : decode cX11_sheet 86 = .ok (.iload_n 1, 1) := by decide +kernel
theorem dX11_sheet_87 : decode cX11_sheet 87 = .ok (.iconst 3, 1) := by decide +kernel
theorem dX11_sheet_88 : decode cX11_sheet 88 = .ok (.if_icmp .eq 19, 3) := by decide +kernel
theorem dX11_sheet_91 : decode cX11_sheet 91 = .ok (.iload 7, 2) := by decide +kernel
theorem dX11_sheet_93 : decode cX11_sheet 93 = .ok (.iload_n 2, 1) := by decide +kernel
theorem dX11_sheet_94 : decode cX11_sheet 94 = .ok (.if_icmp .ge 13, 3) := by decide +kernel
theorem dX11_sheet_97 : decode cX11_sheet 97 = .ok (.aload_n 0, 1) := by decide +kernel
theorem dX11_sheet_98 : decode cX11_sheet 98 = .ok (.getfield 37, 3) := by decide +kernel
theorem dX11_sheet_101 : decode cX11_sheet 101 = .ok (.iload 7, 2) := by decide +kernel
theorem dX11_sheet_103 : decode cX11_sheet 103 = .ok (.iaload, 1) := by decide +kernel
theorem dX11_sheet_104 : decode cX11_sheet 104 = .ok (.ifCond .ne 7, 3) := by decide +kernel
theorem dX11_sheet_107 : decode cX11_sheet 107 = .ok (.iconst 0, 1) := by decide +kernel
theorem dX11_sheet_108 : decode cX11_sheet 108 = .ok (.goto 14, 3) := by decide +kernel
theorem dX11_sheet_111 : decode cX11_sheet 111 = .ok (.iconst 0, 1) := by decide +kernel
theorem dX11_sheet_112 : decode cX11_sheet 112 = .ok (.bipush 99, 2) := by decide +kernel
theorem dX11_sheet_114 : decode cX11_sheet 114 = .ok (.iload 8, 2) := by decide +kernel
theorem dX11_sheet_116 : decode cX11_sheet 116 = .ok (.invokestatic 135, 3) := by decide +kernel
theorem dX11_sheet_119 : decode cX11_sheet 119 = .ok (.invokestatic 256, 3) := by decide +kernel
theorem dX11_sheet_122 : decode cX11_sheet 122 = .ok (.iastore, 1) := by decide +kernel
theorem dX11_sheet_123 : decode cX11_sheet 123 = .ok (.iload 5, 2) := by decide +kernel
theorem dX11_sheet_125 : decode cX11_sheet 125 = .ok (.aload_n 0, 1) := by decide +kernel
theorem dX11_sheet_126 : decode cX11_sheet 126 = .ok (.getfield 41, 3) := by decide +kernel
theorem dX11_sheet_129 : decode cX11_sheet 129 = .ok (.iload 7, 2) := by decide +kernel
theorem dX11_sheet_131 : decode cX11_sheet 131 = .ok (.iaload, 1) := by decide +kernel
theorem dX11_sheet_132 : decode cX11_sheet 132 = .ok (.iadd, 1) := by decide +kernel
theorem dX11_sheet_133 : decode cX11_sheet 133 = .ok (.istore 5, 2) := by decide +kernel
theorem dX11_sheet_135 : decode cX11_sheet 135 = .ok (.iload 6, 2) := by decide +kernel
theorem dX11_sheet_137 : decode cX11_sheet 137 = .ok (.iload 4, 2) := by decide +kernel
theorem dX11_sheet_139 : decode cX11_sheet 139 = .ok (.iadd, 1) := by decide +kernel
theorem dX11_sheet_140 : decode cX11_sheet 140 = .ok (.istore 6, 2) := by decide +kernel
theorem dX11_sheet_142 : decode cX11_sheet 142 = .ok (.iinc 7 1, 3) := by decide +kernel
theorem dX11_sheet_145 : decode cX11_sheet 145 = .ok (.goto (-99), 3) := by decide +kernel
theorem dX11_sheet_148 : decode cX11_sheet 148 = .ok (.iload_n 1, 1) := by decide +kernel
theorem dX11_sheet_149 : decode cX11_sheet 149 = .ok (.iconst 3, 1) := by decide +kernel
theorem dX11_sheet_150 : decode cX11_sheet 150 = .ok (.if_icmp .ne 8, 3) := by decide +kernel
theorem dX11_sheet_153 : decode cX11_sheet 153 = .ok (.bipush (-3), 2) := by decide +kernel
theorem dX11_sheet_155 : decode cX11_sheet 155 = .ok (.goto 5, 3) := by decide +kernel
theorem dX11_sheet_158 : decode cX11_sheet 158 = .ok (.iload 5, 2) := by decide +kernel
theorem dX11_sheet_160 : decode cX11_sheet 160 = .ok (.ireturn, 1) := by decide +kernel
theorem dX11_putsBy_0 : decode cX11_putsBy 0 = .ok (.iconst 0, 1) := by decide +kernel
theorem dX11_putsBy_1 : decode cX11_putsBy 1 = .ok (.istore_n 1, 1) := by decide +kernel
theorem dX11_putsBy_2 : decode cX11_putsBy 2 = .ok (.iload_n 1, 1) := by decide +kernel
theorem dX11_putsBy_3 : decode cX11_putsBy 3 = .ok (.bipush 79, 2) := by decide +kernel
theorem dX11_putsBy_5 : decode cX11_putsBy 5 = .ok (.if_icmp .ge 29, 3) := by decide +kernel
theorem dX11_putsBy_8 : decode cX11_putsBy 8 = .ok (.aload_n 0, 1) := by decide +kernel
theorem dX11_putsBy_9 : decode cX11_putsBy 9 = .ok (.getfield 68, 3) := by decide +kernel
theorem dX11_putsBy_12 : decode cX11_putsBy 12 = .ok (.bipush 79, 2) := by decide +kernel
theorem dX11_putsBy_14 : decode cX11_putsBy 14 = .ok (.aload_n 0, 1) := by decide +kernel
theorem dX11_putsBy_15 : decode cX11_putsBy 15 = .ok (.getfield 189, 3) := by decide +kernel
theorem dX11_putsBy_18 : decode cX11_putsBy 18 = .ok (.imul, 1) := by decide +kernel
theorem dX11_putsBy_19 : decode cX11_putsBy 19 = .ok (.iload_n 1, 1) := by decide +kernel
theorem dX11_putsBy_20 : decode cX11_putsBy 20 = .ok (.iadd, 1) := by decide +kernel
theorem dX11_putsBy_21 : decode cX11_putsBy 21 = .ok (.aload_n 0, 1) := by decide +kernel
theorem dX11_putsBy_22 : decode cX11_putsBy 22 = .ok (.getfield 41, 3) := by decide +kernel
theorem dX11_putsBy_25 : decode cX11_putsBy 25 = .ok (.iload_n 1, 1) := by decide +kernel
theorem dX11_putsBy_26 : decode cX11_putsBy 26 = .ok (.iaload, 1) := by decide +kernel
theorem dX11_putsBy_27 : decode cX11_putsBy 27 = .ok (.iastore, 1) := by decide +kernel
theorem dX11_putsBy_28 : decode cX11_putsBy 28 = .ok (.iinc 1 1, 3) := by decide +kernel
theorem dX11_putsBy_31 : decode cX11_putsBy 31 = .ok (.goto (-29), 3) := by decide +kernel
theorem dX11_putsBy_34 : decode cX11_putsBy 34 = .ok (.return_, 1) := by decide +kernel
theorem dX11_adds_0 : decode cX11_adds 0 = .ok (.aload_n 0, 1) := by decide +kernel
theorem dX11_adds_1 : decode cX11_adds 1 = .ok (.dup, 1) := by decide +kernel
theorem dX11_adds_2 : decode cX11_adds 2 = .ok (.getfield 189, 3) := by decide +kernel
theorem dX11_adds_5 : decode cX11_adds 5 = .ok (.iconst 1, 1) := by decide +kernel
theorem dX11_adds_6 : decode cX11_adds 6 = .ok (.iadd, 1) := by decide +kernel
theorem dX11_adds_7 : decode cX11_adds 7 = .ok (.putfield 189, 3) := by decide +kernel
theorem dX11_adds_10 : decode cX11_adds 10 = .ok (.aload_n 0, 1) := by decide +kernel
theorem dX11_adds_11 : decode cX11_adds 11 = .ok (.getfield 189, 3) := by decide +kernel
theorem dX11_adds_14 : decode cX11_adds 14 = .ok (.bipush 15, 2) := by decide +kernel
theorem dX11_adds_16 : decode cX11_adds 16 = .ok (.if_icmp .le 43, 3) := by decide +kernel
theorem dX11_adds_19 : decode cX11_adds 19 = .ok (.iconst 0, 1) := by decide +kernel
theorem dX11_adds_20 : decode cX11_adds 20 = .ok (.istore_n 2, 1) := by decide +kernel
theorem dX11_adds_21 : decode cX11_adds 21 = .ok (.iload_n 2, 1) := by decide +kernel
theorem dX11_adds_22 : decode cX11_adds 22 = .ok (.sipush 1185, 3) := by decide +kernel
theorem dX11_adds_25 : decode cX11_adds 25 = .ok (.if_icmp .ge 24, 3) := by decide +kernel
theorem dX11_adds_28 : decode cX11_adds 28 = .ok (.aload_n 0, 1) := by decide +kernel
theorem dX11_adds_29 : decode cX11_adds 29 = .ok (.getfield 68, 3) := by decide +kernel
theorem dX11_adds_32 : decode cX11_adds 32 = .ok (.iload_n 2, 1) := by decide +kernel
theorem dX11_adds_33 : decode cX11_adds 33 = .ok (.aload_n 0, 1) := by decide +kernel
theorem dX11_adds_34 : decode cX11_adds 34 = .ok (.getfield 68, 3) := by decide +kernel
theorem dX11_adds_37 : decode cX11_adds 37 = .ok (.iload_n 2, 1) := by decide +kernel
theorem dX11_adds_38 : decode cX11_adds 38 = .ok (.bipush 79, 2) := by decide +kernel
theorem dX11_adds_40 : decode cX11_adds 40 = .ok (.iadd, 1) := by decide +kernel
theorem dX11_adds_41 : decode cX11_adds 41 = .ok (.iaload, 1) := by decide +kernel
theorem dX11_adds_42 : decode cX11_adds 42 = .ok (.iastore, 1) := by decide +kernel
theorem dX11_adds_43 : decode cX11_adds 43 = .ok (.iinc 2 1, 3) := by decide +kernel
theorem dX11_adds_46 : decode cX11_adds 46 = .ok (.goto (-25), 3) := by decide +kernel
theorem dX11_adds_49 : decode cX11_adds 49 = .ok (.aload_n 0, 1) := by decide +kernel
theorem dX11_adds_50 : decode cX11_adds 50 = .ok (.dup, 1) := by decide +kernel
theorem dX11_adds_51 : decode cX11_adds 51 = .ok (.getfield 189, 3) := by decide +kernel
theorem dX11_adds_54 : decode cX11_adds 54 = .ok (.iconst 1, 1) := by decide +kernel
theorem dX11_adds_55 : decode cX11_adds 55 = .ok (.isub, 1) := by decide +kernel
theorem dX11_adds_56 : decode cX11_adds 56 = .ok (.putfield 189, 3) := by decide +kernel
theorem dX11_adds_59 : decode cX11_adds 59 = .ok (.iload_n 1, 1) := by decide +kernel
theorem dX11_adds_60 : decode cX11_adds 60 = .ok (.ireturn, 1) := by decide +kernel
theorem dX11_counts_0 : decode cX11_counts 0 = .ok (.iload_n 1, 1) := by decide +kernel
theorem dX11_counts_1 : decode cX11_counts 1 = .ok (.ifCond .ge 7, 3) := by decide +kernel
theorem dX11_counts_4 : decode cX11_counts 4 = .ok (.iload_n 1, 1) := by decide +kernel
theorem dX11_counts_5 : decode cX11_counts 5 = .ok (.goto 8, 3) := by decide +kernel
theorem dX11_counts_8 : decode cX11_counts 8 = .ok (.aload_n 0, 1) := by decide +kernel
theorem dX11_counts_9 : decode cX11_counts 9 = .ok (.iload_n 1, 1) := by decide +kernel
theorem dX11_counts_10 : decode cX11_counts 10 = .ok (.invokevirtual 259, 3) := by decide +kernel
theorem dX11_counts_13 : decode cX11_counts 13 = .ok (.ireturn, 1) := by decide +kernel
theorem dX11_undo_0 : decode cX11_undo 0 = .ok (.aload_n 0, 1) := by decide +kernel
theorem dX11_undo_1 : decode cX11_undo 1 = .ok (.iconst 0, 1) := by decide +kernel
theorem dX11_undo_2 : decode cX11_undo 2 = .ok (.putfield 3, 3) := by decide +kernel
theorem dX11_undo_5 : decode cX11_undo 5 = .ok (.aload_n 0, 1) := by decide +kernel
theorem dX11_undo_6 : decode cX11_undo 6 = .ok (.getfield 189, 3) := by decide +kernel
theorem dX11_undo_9 : decode cX11_undo 9 = .ok (.ifCond .ne 5, 3) := by decide +kernel
theorem dX11_undo_12 : decode cX11_undo 12 = .ok (.iconst (-1), 1) := by decide +kernel
theorem dX11_undo_13 : decode cX11_undo 13 = .ok (.ireturn, 1) := by decide +kernel
theorem dX11_undo_14 : decode cX11_undo 14 = .ok (.aload_n 0, 1) := by decide +kernel
theorem dX11_undo_15 : decode cX11_undo 15 = .ok (.dup, 1) := by decide +kernel
theorem dX11_undo_16 : decode cX11_undo 16 = .ok (.getfield 189, 3) := by decide +kernel
theorem dX11_undo_19 : decode cX11_undo 19 = .ok (.iconst 1, 1) := by decide +kernel
theorem dX11_undo_20 : decode cX11_undo 20 = .ok (.isub, 1) := by decide +kernel
theorem dX11_undo_21 : decode cX11_undo 21 = .ok (.putfield 189, 3) := by decide +kernel
theorem dX11_undo_24 : decode cX11_undo 24 = .ok (.iconst 0, 1) := by decide +kernel
theorem dX11_undo_25 : decode cX11_undo 25 = .ok (.istore_n 1, 1) := by decide +kernel
theorem dX11_undo_26 : decode cX11_undo 26 = .ok (.iload_n 1, 1) := by decide +kernel
theorem dX11_undo_27 : decode cX11_undo 27 = .ok (.bipush 79, 2) := by decide +kernel
theorem dX11_undo_29 : decode cX11_undo 29 = .ok (.if_icmp .ge 29, 3) := by decide +kernel
theorem dX11_undo_32 : decode cX11_undo 32 = .ok (.aload_n 0, 1) := by decide +kernel
theorem dX11_undo_33 : decode cX11_undo 33 = .ok (.getfield 41, 3) := by decide +kernel
theorem dX11_undo_36 : decode cX11_undo 36 = .ok (.iload_n 1, 1) := by decide +kernel
theorem dX11_undo_37 : decode cX11_undo 37 = .ok (.aload_n 0, 1) := by decide +kernel
theorem dX11_undo_38 : decode cX11_undo 38 = .ok (.getfield 68, 3) := by decide +kernel
theorem dX11_undo_41 : decode cX11_undo 41 = .ok (.bipush 79, 2) := by decide +kernel
theorem dX11_undo_43 : decode cX11_undo 43 = .ok (.aload_n 0, 1) := by decide +kernel
theorem dX11_undo_44 : decode cX11_undo 44 = .ok (.getfield 189, 3) := by decide +kernel
theorem dX11_undo_47 : decode cX11_undo 47 = .ok (.imul, 1) := by decide +kernel
theorem dX11_undo_48 : decode cX11_undo 48 = .ok (.iload_n 1, 1) := by decide +kernel
theorem dX11_undo_49 : decode cX11_undo 49 = .ok (.iadd, 1) := by decide +kernel
theorem dX11_undo_50 : decode cX11_undo 50 = .ok (.iaload, 1) := by decide +kernel
theorem dX11_undo_51 : decode cX11_undo 51 = .ok (.iastore, 1) := by decide +kernel
theorem dX11_undo_52 : decode cX11_undo 52 = .ok (.iinc 1 1, 3) := by decide +kernel
theorem dX11_undo_55 : decode cX11_undo 55 = .ok (.goto (-29), 3) := by decide +kernel
theorem dX11_undo_58 : decode cX11_undo 58 = .ok (.aload_n 0, 1) := by decide +kernel
theorem dX11_undo_59 : decode cX11_undo 59 = .ok (.getfield 189, 3) := by decide +kernel
theorem dX11_undo_62 : decode cX11_undo 62 = .ok (.ireturn, 1) := by decide +kernel
theorem dX11_stepGoes_0 : decode cX11_stepGoes 0 = .ok (.aload_n 1, 1) := by decide +kernel
theorem dX11_stepGoes_1 : decode cX11_stepGoes 1 = .ok (.bipush 74, 2) := by decide +kernel
theorem dX11_stepGoes_3 : decode cX11_stepGoes 3 = .ok (.iaload, 1) := by decide +kernel
theorem dX11_stepGoes_4 : decode cX11_stepGoes 4 = .ok (.iload_n 2, 1) := by decide +kernel
theorem dX11_stepGoes_5 : decode cX11_stepGoes 5 = .ok (.if_icmp .ge 5, 3) := by decide +kernel
theorem dX11_stepGoes_8 : decode cX11_stepGoes 8 = .ok (.iconst 0, 1) := by decide +kernel
theorem dX11_stepGoes_9 : decode cX11_stepGoes 9 = .ok (.ireturn, 1) := by decide +kernel
theorem dX11_stepGoes_10 : decode cX11_stepGoes 10 = .ok (.aload_n 1, 1) := by decide +kernel
theorem dX11_stepGoes_11 : decode cX11_stepGoes 11 = .ok (.bipush 74, 2) := by decide +kernel
theorem dX11_stepGoes_13 : decode cX11_stepGoes 13 = .ok (.dup2, 1) := by decide +kernel
theorem dX11_stepGoes_14 : decode cX11_stepGoes 14 = .ok (.iaload, 1) := by decide +kernel
theorem dX11_stepGoes_15 : decode cX11_stepGoes 15 = .ok (.iload_n 2, 1) := by decide +kernel
theorem dX11_stepGoes_16 : decode cX11_stepGoes 16 = .ok (.isub, 1) := by decide +kernel
theorem dX11_stepGoes_17 : decode cX11_stepGoes 17 = .ok (.iastore, 1) := by decide +kernel
theorem dX11_stepGoes_18 : decode cX11_stepGoes 18 = .ok (.aload_n 1, 1) := by decide +kernel
theorem dX11_stepGoes_19 : decode cX11_stepGoes 19 = .ok (.bipush 76, 2) := by decide +kernel
theorem dX11_stepGoes_21 : decode cX11_stepGoes 21 = .ok (.dup2, 1) := by decide +kernel
theorem dX11_stepGoes_22 : decode cX11_stepGoes 22 = .ok (.iaload, 1) := by decide +kernel
theorem dX11_stepGoes_23 : decode cX11_stepGoes 23 = .ok (.iconst 1, 1) := by decide +kernel
theorem dX11_stepGoes_24 : decode cX11_stepGoes 24 = .ok (.iadd, 1) := by decide +kernel
theorem dX11_stepGoes_25 : decode cX11_stepGoes 25 = .ok (.iastore, 1) := by decide +kernel
theorem dX11_stepGoes_26 : decode cX11_stepGoes 26 = .ok (.aload_n 0, 1) := by decide +kernel
theorem dX11_stepGoes_27 : decode cX11_stepGoes 27 = .ok (.aload_n 1, 1) := by decide +kernel
theorem dX11_stepGoes_28 : decode cX11_stepGoes 28 = .ok (.bipush 72, 2) := by decide +kernel
theorem dX11_stepGoes_30 : decode cX11_stepGoes 30 = .ok (.iaload, 1) := by decide +kernel
theorem dX11_stepGoes_31 : decode cX11_stepGoes 31 = .ok (.aload_n 1, 1) := by decide +kernel
theorem dX11_stepGoes_32 : decode cX11_stepGoes 32 = .ok (.bipush 73, 2) := by decide +kernel
theorem dX11_stepGoes_34 : decode cX11_stepGoes 34 = .ok (.iaload, 1) := by decide +kernel
theorem dX11_stepGoes_35 : decode cX11_stepGoes 35 = .ok (.invokevirtual 251, 3) := by decide +kernel
theorem dX11_stepGoes_38 : decode cX11_stepGoes 38 = .ok (.istore_n 3, 1) := by decide +kernel
theorem dX11_stepGoes_39 : decode cX11_stepGoes 39 = .ok (.aload_n 0, 1) := by decide +kernel
theorem dX11_stepGoes_40 : decode cX11_stepGoes 40 = .ok (.aload_n 1, 1) := by decide +kernel
theorem dX11_stepGoes_41 : decode cX11_stepGoes 41 = .ok (.iload_n 3, 1) := by decide +kernel
theorem dX11_stepGoes_42 : decode cX11_stepGoes 42 = .ok (.invokevirtual 241, 3) := by decide +kernel
theorem dX11_stepGoes_45 : decode cX11_stepGoes 45 = .ok (.ifCond .eq 25, 3) := by decide +kernel
theorem dX11_stepGoes_48 : decode cX11_stepGoes 48 = .ok (.aload_n 1, 1) := by decide +kernel
theorem dX11_stepGoes_49 : decode cX11_stepGoes 49 = .ok (.bipush 72, 2) := by decide +kernel
theorem dX11_stepGoes_51 : decode cX11_stepGoes 51 = .ok (.iload_n 3, 1) := by decide +kernel
theorem dX11_stepGoes_52 : decode cX11_stepGoes 52 = .ok (.iastore, 1) := by decide +kernel
theorem dX11_stepGoes_53 : decode cX11_stepGoes 53 = .ok (.aload_n 1, 1) := by decide +kernel
theorem dX11_stepGoes_54 : decode cX11_stepGoes 54 = .ok (.bipush 75, 2) := by decide +kernel
theorem dX11_stepGoes_56 : decode cX11_stepGoes 56 = .ok (.dup2, 1) := by decide +kernel
theorem dX11_stepGoes_57 : decode cX11_stepGoes 57 = .ok (.iaload, 1) := by decide +kernel
theorem dX11_stepGoes_58 : decode cX11_stepGoes 58 = .ok (.aload_n 1, 1) := by decide +kernel
theorem dX11_stepGoes_59 : decode cX11_stepGoes 59 = .ok (.iload_n 3, 1) := by decide +kernel
theorem dX11_stepGoes_60 : decode cX11_stepGoes 60 = .ok (.iaload, 1) := by decide +kernel
theorem dX11_stepGoes_61 : decode cX11_stepGoes 61 = .ok (.iadd, 1) := by decide +kernel
theorem dX11_stepGoes_62 : decode cX11_stepGoes 62 = .ok (.iastore, 1) := by decide +kernel
theorem dX11_stepGoes_63 : decode cX11_stepGoes 63 = .ok (.aload_n 1, 1) := by decide +kernel
theorem dX11_stepGoes_64 : decode cX11_stepGoes 64 = .ok (.iload_n 3, 1) := by decide +kernel
theorem dX11_stepGoes_65 : decode cX11_stepGoes 65 = .ok (.iconst 0, 1) := by decide +kernel
theorem dX11_stepGoes_66 : decode cX11_stepGoes 66 = .ok (.iastore, 1) := by decide +kernel
theorem dX11_stepGoes_67 : decode cX11_stepGoes 67 = .ok (.goto 27, 3) := by decide +kernel
theorem dX11_stepGoes_70 : decode cX11_stepGoes 70 = .ok (.aload_n 1, 1) := by decide +kernel
theorem dX11_stepGoes_71 : decode cX11_stepGoes 71 = .ok (.bipush 73, 2) := by decide +kernel
theorem dX11_stepGoes_73 : decode cX11_stepGoes 73 = .ok (.aload_n 1, 1) := by decide +kernel
theorem dX11_stepGoes_74 : decode cX11_stepGoes 74 = .ok (.bipush 73, 2) := by decide +kernel
theorem dX11_stepGoes_76 : decode cX11_stepGoes 76 = .ok (.iaload, 1) := by decide +kernel
theorem dX11_stepGoes_77 : decode cX11_stepGoes 77 = .ok (.aload_n 0, 1) := by decide +kernel
theorem dX11_stepGoes_78 : decode cX11_stepGoes 78 = .ok (.aload_n 1, 1) := by decide +kernel
theorem dX11_stepGoes_79 : decode cX11_stepGoes 79 = .ok (.invokevirtual 247, 3) := by decide +kernel
theorem dX11_stepGoes_82 : decode cX11_stepGoes 82 = .ok (.iadd, 1) := by decide +kernel
theorem dX11_stepGoes_83 : decode cX11_stepGoes 83 = .ok (.iconst 4, 1) := by decide +kernel
theorem dX11_stepGoes_84 : decode cX11_stepGoes 84 = .ok (.irem, 1) := by decide +kernel
theorem dX11_stepGoes_85 : decode cX11_stepGoes 85 = .ok (.iastore, 1) := by decide +kernel
theorem dX11_stepGoes_86 : decode cX11_stepGoes 86 = .ok (.aload_n 1, 1) := by decide +kernel
theorem dX11_stepGoes_87 : decode cX11_stepGoes 87 = .ok (.bipush 77, 2) := by decide +kernel
theorem dX11_stepGoes_89 : decode cX11_stepGoes 89 = .ok (.dup2, 1) := by decide +kernel
theorem dX11_stepGoes_90 : decode cX11_stepGoes 90 = .ok (.iaload, 1) := by decide +kernel
theorem dX11_stepGoes_91 : decode cX11_stepGoes 91 = .ok (.iconst 1, 1) := by decide +kernel
theorem dX11_stepGoes_92 : decode cX11_stepGoes 92 = .ok (.iadd, 1) := by decide +kernel
theorem dX11_stepGoes_93 : decode cX11_stepGoes 93 = .ok (.iastore, 1) := by decide +kernel
theorem dX11_stepGoes_94 : decode cX11_stepGoes 94 = .ok (.iconst 1, 1) := by decide +kernel
theorem dX11_stepGoes_95 : decode cX11_stepGoes 95 = .ok (.ireturn, 1) := by decide +kernel
theorem dX11_goesOn_0 : decode cX11_goesOn 0 = .ok (.iconst 0, 1) := by decide +kernel
theorem dX11_goesOn_1 : decode cX11_goesOn 1 = .ok (.istore_n 3, 1) := by decide +kernel
theorem dX11_goesOn_2 : decode cX11_goesOn 2 = .ok (.iload_n 3, 1) := by decide +kernel
theorem dX11_goesOn_3 : decode cX11_goesOn 3 = .ok (.iload_n 2, 1) := by decide +kernel
theorem dX11_goesOn_4 : decode cX11_goesOn 4 = .ok (.if_icmp .ge 27, 3) := by decide +kernel
theorem dX11_goesOn_7 : decode cX11_goesOn 7 = .ok (.aload_n 0, 1) := by decide +kernel
theorem dX11_goesOn_8 : decode cX11_goesOn 8 = .ok (.aload_n 1, 1) := by decide +kernel
theorem dX11_goesOn_9 : decode cX11_goesOn 9 = .ok (.aload_n 0, 1) := by decide +kernel
theorem dX11_goesOn_10 : decode cX11_goesOn 10 = .ok (.aload_n 1, 1) := by decide +kernel
theorem dX11_goesOn_11 : decode cX11_goesOn 11 = .ok (.bipush 72, 2) := by decide +kernel
theorem dX11_goesOn_13 : decode cX11_goesOn 13 = .ok (.iaload, 1) := by decide +kernel
theorem dX11_goesOn_14 : decode cX11_goesOn 14 = .ok (.invokevirtual 262, 3) := by decide +kernel
theorem dX11_goesOn_17 : decode cX11_goesOn 17 = .ok (.invokevirtual 265, 3) := by decide +kernel
theorem dX11_goesOn_20 : decode cX11_goesOn 20 = .ok (.ifCond .ne 5, 3) := by decide +kernel
theorem dX11_goesOn_23 : decode cX11_goesOn 23 = .ok (.iload_n 3, 1) := by decide +kernel
theorem dX11_goesOn_24 : decode cX11_goesOn 24 = .ok (.ireturn, 1) := by decide +kernel
theorem dX11_goesOn_25 : decode cX11_goesOn 25 = .ok (.iinc 3 1, 3) := by decide +kernel
theorem dX11_goesOn_28 : decode cX11_goesOn 28 = .ok (.goto (-26), 3) := by decide +kernel
theorem dX11_goesOn_31 : decode cX11_goesOn 31 = .ok (.iload_n 2, 1) := by decide +kernel
theorem dX11_goesOn_32 : decode cX11_goesOn 32 = .ok (.ireturn, 1) := by decide +kernel
theorem dX11_dayGoes_0 : decode cX11_dayGoes 0 = .ok (.iconst 0, 1) := by decide +kernel
theorem dX11_dayGoes_1 : decode cX11_dayGoes 1 = .ok (.istore_n 2, 1) := by decide +kernel
theorem dX11_dayGoes_2 : decode cX11_dayGoes 2 = .ok (.iload_n 2, 1) := by decide +kernel
theorem dX11_dayGoes_3 : decode cX11_dayGoes 3 = .ok (.aload_n 0, 1) := by decide +kernel
theorem dX11_dayGoes_4 : decode cX11_dayGoes 4 = .ok (.invokevirtual 114, 3) := by decide +kernel
theorem dX11_dayGoes_7 : decode cX11_dayGoes 7 = .ok (.if_icmp .ge 27, 3) := by decide +kernel
theorem dX11_dayGoes_10 : decode cX11_dayGoes 10 = .ok (.aload_n 1, 1) := by decide +kernel
theorem dX11_dayGoes_11 : decode cX11_dayGoes 11 = .ok (.iload_n 2, 1) := by decide +kernel
theorem dX11_dayGoes_12 : decode cX11_dayGoes 12 = .ok (.bipush 99, 2) := by decide +kernel
theorem dX11_dayGoes_14 : decode cX11_dayGoes 14 = .ok (.aload_n 1, 1) := by decide +kernel
theorem dX11_dayGoes_15 : decode cX11_dayGoes 15 = .ok (.iload_n 2, 1) := by decide +kernel
theorem dX11_dayGoes_16 : decode cX11_dayGoes 16 = .ok (.iaload, 1) := by decide +kernel
theorem dX11_dayGoes_17 : decode cX11_dayGoes 17 = .ok (.aload_n 0, 1) := by decide +kernel
theorem dX11_dayGoes_18 : decode cX11_dayGoes 18 = .ok (.getfield 37, 3) := by decide +kernel
theorem dX11_dayGoes_21 : decode cX11_dayGoes 21 = .ok (.iload_n 2, 1) := by decide +kernel
theorem dX11_dayGoes_22 : decode cX11_dayGoes 22 = .ok (.iaload, 1) := by decide +kernel
theorem dX11_dayGoes_23 : decode cX11_dayGoes 23 = .ok (.iadd, 1) := by decide +kernel
theorem dX11_dayGoes_24 : decode cX11_dayGoes 24 = .ok (.invokestatic 135, 3) := by decide +kernel
theorem dX11_dayGoes_27 : decode cX11_dayGoes 27 = .ok (.iastore, 1) := by decide +kernel
theorem dX11_dayGoes_28 : decode cX11_dayGoes 28 = .ok (.iinc 2 1, 3) := by decide +kernel
theorem dX11_dayGoes_31 : decode cX11_dayGoes 31 = .ok (.goto (-29), 3) := by decide +kernel
theorem dX11_dayGoes_34 : decode cX11_dayGoes 34 = .ok (.aload_n 1, 1) := by decide +kernel
theorem dX11_dayGoes_35 : decode cX11_dayGoes 35 = .ok (.bipush 78, 2) := by decide +kernel
theorem dX11_dayGoes_37 : decode cX11_dayGoes 37 = .ok (.dup2, 1) := by decide +kernel
theorem dX11_dayGoes_38 : decode cX11_dayGoes 38 = .ok (.iaload, 1) := by decide +kernel
theorem dX11_dayGoes_39 : decode cX11_dayGoes 39 = .ok (.iconst 1, 1) := by decide +kernel
theorem dX11_dayGoes_40 : decode cX11_dayGoes 40 = .ok (.iadd, 1) := by decide +kernel
theorem dX11_dayGoes_41 : decode cX11_dayGoes 41 = .ok (.iastore, 1) := by decide +kernel
theorem dX11_dayGoes_42 : decode cX11_dayGoes 42 = .ok (.return_, 1) := by decide +kernel
theorem dX11_chairsAt_0 : decode cX11_chairsAt 0 = .ok (.aload_n 0, 1) := by decide +kernel
theorem dX11_chairsAt_1 : decode cX11_chairsAt 1 = .ok (.iload_n 1, 1) := by decide +kernel
theorem dX11_chairsAt_2 : decode cX11_chairsAt 2 = .ok (.invokevirtual 233, 3) := by decide +kernel
theorem dX11_chairsAt_5 : decode cX11_chairsAt 5 = .ok (.ifCond .ne 5, 3) := by decide +kernel
theorem dX11_chairsAt_8 : decode cX11_chairsAt 8 = .ok (.iconst (-1), 1) := by decide +kernel
theorem dX11_chairsAt_9 : decode cX11_chairsAt 9 = .ok (.ireturn, 1) := by decide +kernel
theorem dX11_chairsAt_10 : decode cX11_chairsAt 10 = .ok (.aload_n 0, 1) := by decide +kernel
theorem dX11_chairsAt_11 : decode cX11_chairsAt 11 = .ok (.getfield 37, 3) := by decide +kernel
theorem dX11_chairsAt_14 : decode cX11_chairsAt 14 = .ok (.iload_n 1, 1) := by decide +kernel
theorem dX11_chairsAt_15 : decode cX11_chairsAt 15 = .ok (.iaload, 1) := by decide +kernel
theorem dX11_chairsAt_16 : decode cX11_chairsAt 16 = .ok (.ifCond .eq 14, 3) := by decide +kernel
theorem dX11_chairsAt_19 : decode cX11_chairsAt 19 = .ok (.aload_n 0, 1) := by decide +kernel
theorem dX11_chairsAt_20 : decode cX11_chairsAt 20 = .ok (.getfield 41, 3) := by decide +kernel
theorem dX11_chairsAt_23 : decode cX11_chairsAt 23 = .ok (.bipush 72, 2) := by decide +kernel
theorem dX11_chairsAt_25 : decode cX11_chairsAt 25 = .ok (.iaload, 1) := by decide +kernel
theorem dX11_chairsAt_26 : decode cX11_chairsAt 26 = .ok (.iload_n 1, 1) := by decide +kernel
theorem dX11_chairsAt_27 : decode cX11_chairsAt 27 = .ok (.if_icmp .ne 6, 3) := by decide +kernel
theorem dX11_chairsAt_30 : decode cX11_chairsAt 30 = .ok (.bipush (-2), 2) := by decide +kernel
theorem dX11_chairsAt_32 : decode cX11_chairsAt 32 = .ok (.ireturn, 1) := by decide +kernel
theorem dX11_chairsAt_33 : decode cX11_chairsAt 33 = .ok (.aload_n 0, 1) := by decide +kernel
theorem dX11_chairsAt_34 : decode cX11_chairsAt 34 = .ok (.getfield 41, 3) := by decide +kernel
theorem dX11_chairsAt_37 : decode cX11_chairsAt 37 = .ok (.bipush 36, 2) := by decide +kernel
theorem dX11_chairsAt_39 : decode cX11_chairsAt 39 = .ok (.iload_n 1, 1) := by decide +kernel
theorem dX11_chairsAt_40 : decode cX11_chairsAt 40 = .ok (.iadd, 1) := by decide +kernel
theorem dX11_chairsAt_41 : decode cX11_chairsAt 41 = .ok (.iconst 1, 1) := by decide +kernel
theorem dX11_chairsAt_42 : decode cX11_chairsAt 42 = .ok (.aload_n 0, 1) := by decide +kernel
theorem dX11_chairsAt_43 : decode cX11_chairsAt 43 = .ok (.getfield 41, 3) := by decide +kernel
theorem dX11_chairsAt_46 : decode cX11_chairsAt 46 = .ok (.bipush 36, 2) := by decide +kernel
theorem dX11_chairsAt_48 : decode cX11_chairsAt 48 = .ok (.iload_n 1, 1) := by decide +kernel
theorem dX11_chairsAt_49 : decode cX11_chairsAt 49 = .ok (.iadd, 1) := by decide +kernel
theorem dX11_chairsAt_50 : decode cX11_chairsAt 50 = .ok (.iaload, 1) := by decide +kernel
theorem dX11_chairsAt_51 : decode cX11_chairsAt 51 = .ok (.isub, 1) := by decide +kernel
theorem dX11_chairsAt_52 : decode cX11_chairsAt 52 = .ok (.iastore, 1) := by decide +kernel
theorem dX11_chairsAt_53 : decode cX11_chairsAt 53 = .ok (.aload_n 0, 1) := by decide +kernel
theorem dX11_chairsAt_54 : decode cX11_chairsAt 54 = .ok (.aload_n 0, 1) := by decide +kernel
theorem dX11_chairsAt_55 : decode cX11_chairsAt 55 = .ok (.getfield 41, 3) := by decide +kernel
theorem dX11_chairsAt_58 : decode cX11_chairsAt 58 = .ok (.invokevirtual 268, 3) := by decide +kernel
theorem dX11_chairsAt_61 : decode cX11_chairsAt 61 = .ok (.ireturn, 1) := by decide +kernel
theorem dX11_loads_0 : decode cX11_loads 0 = .ok (.iload_n 1, 1) := by decide +kernel
theorem dX11_loads_1 : decode cX11_loads 1 = .ok (.i2l, 1) := by decide +kernel
theorem dX11_loads_2 : decode cX11_loads 2 = .ok (.lconst 1, 1) := by decide +kernel
theorem dX11_loads_3 : decode cX11_loads 3 = .ok (.ldc2_w 271, 3) := by decide +kernel
theorem dX11_loads_6 : decode cX11_loads 6 = .ok (.invokestatic 118, 3) := by decide +kernel
theorem dX11_loads_9 : decode cX11_loads 9 = .ok (.ifCond .ne 5, 3) := by decide +kernel
theorem dX11_loads_12 : decode cX11_loads 12 = .ok (.iconst (-1), 1) := by decide +kernel
theorem dX11_loads_13 : decode cX11_loads 13 = .ok (.ireturn, 1) := by decide +kernel
theorem dX11_loads_14 : decode cX11_loads 14 = .ok (.aload_n 0, 1) := by decide +kernel
theorem dX11_loads_15 : decode cX11_loads 15 = .ok (.getfield 34, 3) := by decide +kernel
theorem dX11_loads_18 : decode cX11_loads 18 = .ok (.ifCond .lt 17, 3) := by decide +kernel
theorem dX11_loads_21 : decode cX11_loads 21 = .ok (.aload_n 0, 1) := by decide +kernel
theorem dX11_loads_22 : decode cX11_loads 22 = .ok (.getfield 41, 3) := by decide +kernel
theorem dX11_loads_25 : decode cX11_loads 25 = .ok (.bipush 72, 2) := by decide +kernel
theorem dX11_loads_27 : decode cX11_loads 27 = .ok (.iaload, 1) := by decide +kernel
theorem dX11_loads_28 : decode cX11_loads 28 = .ok (.aload_n 0, 1) := by decide +kernel
theorem dX11_loads_29 : decode cX11_loads 29 = .ok (.getfield 34, 3) := by decide +kernel
theorem dX11_loads_32 : decode cX11_loads 32 = .ok (.if_icmp .eq 6, 3) := by decide +kernel
theorem dX11_loads_35 : decode cX11_loads 35 = .ok (.bipush (-2), 2) := by decide +kernel
theorem dX11_loads_37 : decode cX11_loads 37 = .ok (.ireturn, 1) := by decide +kernel
theorem dX11_loads_38 : decode cX11_loads 38 = .ok (.aload_n 0, 1) := by decide +kernel
theorem dX11_loads_39 : decode cX11_loads 39 = .ok (.getfield 41, 3) := by decide +kernel
theorem dX11_loads_42 : decode cX11_loads 42 = .ok (.bipush 75, 2) := by decide +kernel
theorem dX11_loads_44 : decode cX11_loads 44 = .ok (.iaload, 1) := by decide +kernel
theorem dX11_loads_45 : decode cX11_loads 45 = .ok (.istore_n 2, 1) := by decide +kernel
theorem dX11_loads_46 : decode cX11_loads 46 = .ok (.aload_n 0, 1) := by decide +kernel
theorem dX11_loads_47 : decode cX11_loads 47 = .ok (.getfield 41, 3) := by decide +kernel
theorem dX11_loads_50 : decode cX11_loads 50 = .ok (.bipush 75, 2) := by decide +kernel
theorem dX11_loads_52 : decode cX11_loads 52 = .ok (.iconst 0, 1) := by decide +kernel
theorem dX11_loads_53 : decode cX11_loads 53 = .ok (.iastore, 1) := by decide +kernel
theorem dX11_loads_54 : decode cX11_loads 54 = .ok (.aload_n 0, 1) := by decide +kernel
theorem dX11_loads_55 : decode cX11_loads 55 = .ok (.getfield 41, 3) := by decide +kernel
theorem dX11_loads_58 : decode cX11_loads 58 = .ok (.bipush 74, 2) := by decide +kernel
theorem dX11_loads_60 : decode cX11_loads 60 = .ok (.iload_n 1, 1) := by decide +kernel
theorem dX11_loads_61 : decode cX11_loads 61 = .ok (.iastore, 1) := by decide +kernel
theorem dX11_loads_62 : decode cX11_loads 62 = .ok (.iload_n 2, 1) := by decide +kernel
theorem dX11_loads_63 : decode cX11_loads 63 = .ok (.ireturn, 1) := by decide +kernel
theorem dX11_daysGo_0 : decode cX11_daysGo 0 = .ok (.iload_n 1, 1) := by decide +kernel
theorem dX11_daysGo_1 : decode cX11_daysGo 1 = .ok (.i2l, 1) := by decide +kernel
theorem dX11_daysGo_2 : decode cX11_daysGo 2 = .ok (.lconst 1, 1) := by decide +kernel
theorem dX11_daysGo_3 : decode cX11_daysGo 3 = .ok (.ldc2_w 273, 3) := by decide +kernel
theorem dX11_daysGo_6 : decode cX11_daysGo 6 = .ok (.invokestatic 118, 3) := by decide +kernel
theorem dX11_daysGo_9 : decode cX11_daysGo 9 = .ok (.ifCond .ne 5, 3) := by decide +kernel
theorem dX11_daysGo_12 : decode cX11_daysGo 12 = .ok (.iconst (-1), 1) := by decide +kernel
theorem dX11_daysGo_13 : decode cX11_daysGo 13 = .ok (.ireturn, 1) := by decide +kernel
theorem dX11_daysGo_14 : decode cX11_daysGo 14 = .ok (.iconst 0, 1) := by decide +kernel
theorem dX11_daysGo_15 : decode cX11_daysGo 15 = .ok (.istore_n 2, 1) := by decide +kernel
theorem dX11_daysGo_16 : decode cX11_daysGo 16 = .ok (.iload_n 2, 1) := by decide +kernel
theorem dX11_daysGo_17 : decode cX11_daysGo 17 = .ok (.iload_n 1, 1) := by decide +kernel
theorem dX11_daysGo_18 : decode cX11_daysGo 18 = .ok (.if_icmp .ge 17, 3) := by decide +kernel
theorem dX11_daysGo_21 : decode cX11_daysGo 21 = .ok (.aload_n 0, 1) := by decide +kernel
theorem dX11_daysGo_22 : decode cX11_daysGo 22 = .ok (.aload_n 0, 1) := by decide +kernel
theorem dX11_daysGo_23 : decode cX11_daysGo 23 = .ok (.getfield 41, 3) := by decide +kernel
theorem dX11_daysGo_26 : decode cX11_daysGo 26 = .ok (.invokevirtual 275, 3) := by decide +kernel
theorem dX11_daysGo_29 : decode cX11_daysGo 29 = .ok (.iinc 2 1, 3) := by decide +kernel
theorem dX11_daysGo_32 : decode cX11_daysGo 32 = .ok (.goto (-16), 3) := by decide +kernel
theorem dX11_daysGo_35 : decode cX11_daysGo 35 = .ok (.aload_n 0, 1) := by decide +kernel
theorem dX11_daysGo_36 : decode cX11_daysGo 36 = .ok (.aload_n 0, 1) := by decide +kernel
theorem dX11_daysGo_37 : decode cX11_daysGo 37 = .ok (.getfield 41, 3) := by decide +kernel
theorem dX11_daysGo_40 : decode cX11_daysGo 40 = .ok (.invokevirtual 279, 3) := by decide +kernel
theorem dX11_daysGo_43 : decode cX11_daysGo 43 = .ok (.ireturn, 1) := by decide +kernel
