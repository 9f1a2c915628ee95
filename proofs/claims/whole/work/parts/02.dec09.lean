theorem dX11_laysFar_0 : decode cX11_laysFar 0 = .ok (.iconst 0, 1) := by decide +kernel
theorem dX11_laysFar_1 : decode cX11_laysFar 1 = .ok (.istore_n 3, 1) := by decide +kernel
theorem dX11_laysFar_2 : decode cX11_laysFar 2 = .ok (.iload_n 3, 1) := by decide +kernel
theorem dX11_laysFar_3 : decode cX11_laysFar 3 = .ok (.bipush 36, 2) := by decide +kernel
theorem dX11_laysFar_5 : decode cX11_laysFar 5 = .ok (.if_icmp .ge 36, 3) := by decide +kernel
theorem dX11_laysFar_8 : decode cX11_laysFar 8 = .ok (.aload_n 0, 1) := by decide +kernel
theorem dX11_laysFar_9 : decode cX11_laysFar 9 = .ok (.getfield 80, 3) := by decide +kernel
theorem dX11_laysFar_12 : decode cX11_laysFar 12 = .ok (.iload_n 3, 1) := by decide +kernel
theorem dX11_laysFar_13 : decode cX11_laysFar 13 = .ok (.iload_n 3, 1) := by decide +kernel
theorem dX11_laysFar_14 : decode cX11_laysFar 14 = .ok (.iload_n 2, 1) := by decide +kernel
theorem dX11_laysFar_15 : decode cX11_laysFar 15 = .ok (.if_icmp .ne 16, 3) := by decide +kernel
theorem dX11_laysFar_18 : decode cX11_laysFar 18 = .ok (.aload_n 0, 1) := by decide +kernel
theorem dX11_laysFar_19 : decode cX11_laysFar 19 = .ok (.aload_n 1, 1) := by decide +kernel
theorem dX11_laysFar_20 : decode cX11_laysFar 20 = .ok (.iload_n 3, 1) := by decide +kernel
theorem dX11_laysFar_21 : decode cX11_laysFar 21 = .ok (.invokevirtual 241, 3) := by decide +kernel
theorem dX11_laysFar_24 : decode cX11_laysFar 24 = .ok (.ifCond .eq 7, 3) := by decide +kernel
theorem dX11_laysFar_27 : decode cX11_laysFar 27 = .ok (.iconst 0, 1) := by decide +kernel
theorem dX11_laysFar_28 : decode cX11_laysFar 28 = .ok (.goto 6, 3) := by decide +kernel
theorem dX11_laysFar_31 : decode cX11_laysFar 31 = .ok (.ldc_w 339, 3) := by decide +kernel
theorem dX11_laysFar_34 : decode cX11_laysFar 34 = .ok (.iastore, 1) := by decide +kernel
theorem dX11_laysFar_35 : decode cX11_laysFar 35 = .ok (.iinc 3 1, 3) := by decide +kernel
theorem dX11_laysFar_38 : decode cX11_laysFar 38 = .ok (.goto (-36), 3) := by decide +kernel
theorem dX11_laysFar_41 : decode cX11_laysFar 41 = .ok (.iconst 1, 1) := by decide +kernel
theorem dX11_laysFar_42 : decode cX11_laysFar 42 = .ok (.istore_n 3, 1) := by decide +kernel
theorem dX11_laysFar_43 : decode cX11_laysFar 43 = .ok (.iload_n 3, 1) := by decide +kernel
theorem dX11_laysFar_44 : decode cX11_laysFar 44 = .ok (.ifCond .eq 113, 3) := by decide +kernel
theorem dX11_laysFar_47 : decode cX11_laysFar 47 = .ok (.iconst 0, 1) := by decide +kernel
theorem dX11_laysFar_48 : decode cX11_laysFar 48 = .ok (.istore_n 3, 1) := by decide +kernel
theorem dX11_laysFar_49 : decode cX11_laysFar 49 = .ok (.iconst 0, 1) := by decide +kernel
theorem dX11_laysFar_50 : decode cX11_laysFar 50 = .ok (.istore 4, 2) := by decide +kernel
theorem dX11_laysFar_52 : decode cX11_laysFar 52 = .ok (.iload 4, 2) := by decide +kernel
theorem dX11_laysFar_54 : decode cX11_laysFar 54 = .ok (.aload_n 0, 1) := by decide +kernel
theorem dX11_laysFar_55 : decode cX11_laysFar 55 = .ok (.invokevirtual 114, 3) := by decide +kernel
theorem dX11_laysFar_58 : decode cX11_laysFar 58 = .ok (.if_icmp .ge 96, 3) := by decide +kernel
theorem dX11_laysFar_61 : decode cX11_laysFar 61 = .ok (.iconst 0, 1) := by decide +kernel
theorem dX11_laysFar_62 : decode cX11_laysFar 62 = .ok (.istore 5, 2) := by decide +kernel
theorem dX11_laysFar_64 : decode cX11_laysFar 64 = .ok (.iload 5, 2) := by decide +kernel
theorem dX11_laysFar_66 : decode cX11_laysFar 66 = .ok (.iconst 4, 1) := by decide +kernel
theorem dX11_laysFar_67 : decode cX11_laysFar 67 = .ok (.if_icmp .ge 81, 3) := by decide +kernel
theorem dX11_laysFar_70 : decode cX11_laysFar 70 = .ok (.aload_n 0, 1) := by decide +kernel
theorem dX11_laysFar_71 : decode cX11_laysFar 71 = .ok (.aload_n 1, 1) := by decide +kernel
theorem dX11_laysFar_72 : decode cX11_laysFar 72 = .ok (.iload 4, 2) := by decide +kernel
theorem dX11_laysFar_74 : decode cX11_laysFar 74 = .ok (.invokevirtual 241, 3) := by decide +kernel
theorem dX11_laysFar_77 : decode cX11_laysFar 77 = .ok (.ifCond .eq 71, 3) := by decide +kernel
theorem dX11_laysFar_80 : decode cX11_laysFar 80 = .ok (.aload_n 0, 1) := by decide +kernel
theorem dX11_laysFar_81 : decode cX11_laysFar 81 = .ok (.iload 4, 2) := by decide +kernel
theorem dX11_laysFar_83 : decode cX11_laysFar 83 = .ok (.iload 5, 2) := by decide +kernel
theorem dX11_laysFar_85 : decode cX11_laysFar 85 = .ok (.invokevirtual 251, 3) := by decide +kernel
theorem dX11_laysFar_88 : decode cX11_laysFar 88 = .ok (.istore 6, 2) := by decide +kernel
theorem dX11_laysFar_90 : decode cX11_laysFar 90 = .ok (.iload 6, 2) := by decide +kernel
theorem dX11_laysFar_92 : decode cX11_laysFar 92 = .ok (.ifCond .lt 50, 3) := by decide +kernel
theorem dX11_laysFar_95 : decode cX11_laysFar 95 = .ok (.aload_n 0, 1) := by decide +kernel
theorem dX11_laysFar_96 : decode cX11_laysFar 96 = .ok (.getfield 80, 3) := by decide +kernel
theorem dX11_laysFar_99 : decode cX11_laysFar 99 = .ok (.iload 6, 2) := by decide +kernel
theorem dX11_laysFar_101 : decode cX11_laysFar 101 = .ok (.iaload, 1) := by decide +kernel
theorem dX11_laysFar_102 : decode cX11_laysFar 102 = .ok (.aload_n 0, 1) := by decide +kernel
theorem dX11_laysFar_103 : decode cX11_laysFar 103 = .ok (.iload 4, 2) := by decide +kernel
theorem dX11_laysFar_105 : decode cX11_laysFar 105 = .ok (.invokevirtual 262, 3) := by decide +kernel
theorem dX11_laysFar_108 : decode cX11_laysFar 108 = .ok (.iadd, 1) := by decide +kernel
theorem dX11_laysFar_109 : decode cX11_laysFar 109 = .ok (.aload_n 0, 1) := by decide +kernel
theorem dX11_laysFar_110 : decode cX11_laysFar 110 = .ok (.getfield 80, 3) := by decide +kernel
theorem dX11_laysFar_113 : decode cX11_laysFar 113 = .ok (.iload 4, 2) := by decide +kernel
theorem dX11_laysFar_115 : decode cX11_laysFar 115 = .ok (.iaload, 1) := by decide +kernel
theorem dX11_laysFar_116 : decode cX11_laysFar 116 = .ok (.if_icmp .ge 26, 3) := by decide +kernel
theorem dX11_laysFar_119 : decode cX11_laysFar 119 = .ok (.aload_n 0, 1) := by decide +kernel
theorem dX11_laysFar_120 : decode cX11_laysFar 120 = .ok (.getfield 80, 3) := by decide +kernel
theorem dX11_laysFar_123 : decode cX11_laysFar 123 = .ok (.iload 4, 2) := by decide +kernel
theorem dX11_laysFar_125 : decode cX11_laysFar 125 = .ok (.aload_n 0, 1) := by decide +kernel
theorem dX11_laysFar_126 : decode cX11_laysFar 126 = .ok (.getfield 80, 3) := by decide +kernel
theorem dX11_laysFar_129 : decode cX11_laysFar 129 = .ok (.iload 6, 2) := by decide +kernel
theorem dX11_laysFar_131 : decode cX11_laysFar 131 = .ok (.iaload, 1) := by decide +kernel
theorem dX11_laysFar_132 : decode cX11_laysFar 132 = .ok (.aload_n 0, 1) := by decide +kernel
theorem dX11_laysFar_133 : decode cX11_laysFar 133 = .ok (.iload 4, 2) := by decide +kernel
theorem dX11_laysFar_135 : decode cX11_laysFar 135 = .ok (.invokevirtual 262, 3) := by decide +kernel
theorem dX11_laysFar_138 : decode cX11_laysFar 138 = .ok (.iadd, 1) := by decide +kernel
theorem dX11_laysFar_139 : decode cX11_laysFar 139 = .ok (.iastore, 1) := by decide +kernel
theorem dX11_laysFar_140 : decode cX11_laysFar 140 = .ok (.iconst 1, 1) := by decide +kernel
theorem dX11_laysFar_141 : decode cX11_laysFar 141 = .ok (.istore_n 3, 1) := by decide +kernel
theorem dX11_laysFar_142 : decode cX11_laysFar 142 = .ok (.iinc 5 1, 3) := by decide +kernel
theorem dX11_laysFar_145 : decode cX11_laysFar 145 = .ok (.goto (-81), 3) := by decide +kernel
theorem dX11_laysFar_148 : decode cX11_laysFar 148 = .ok (.iinc 4 1, 3) := by decide +kernel
theorem dX11_laysFar_151 : decode cX11_laysFar 151 = .ok (.goto (-99), 3) := by decide +kernel
theorem dX11_laysFar_154 : decode cX11_laysFar 154 = .ok (.goto (-111), 3) := by decide +kernel
theorem dX11_laysFar_157 : decode cX11_laysFar 157 = .ok (.return_, 1) := by decide +kernel
theorem dX11_way_0 : decode cX11_way 0 = .ok (.aload_n 0, 1) := by decide +kernel
theorem dX11_way_1 : decode cX11_way 1 = .ok (.iconst 0, 1) := by decide +kernel
theorem dX11_way_2 : decode cX11_way 2 = .ok (.putfield 3, 3) := by decide +kernel
theorem dX11_way_5 : decode cX11_way 5 = .ok (.aload_n 0, 1) := by decide +kernel
theorem dX11_way_6 : decode cX11_way 6 = .ok (.iload_n 1, 1) := by decide +kernel
theorem dX11_way_7 : decode cX11_way 7 = .ok (.invokevirtual 233, 3) := by decide +kernel
theorem dX11_way_10 : decode cX11_way 10 = .ok (.ifCond .eq 11, 3) := by decide +kernel
theorem dX11_way_13 : decode cX11_way 13 = .ok (.aload_n 0, 1) := by decide +kernel
theorem dX11_way_14 : decode cX11_way 14 = .ok (.iload_n 2, 1) := by decide +kernel
theorem dX11_way_15 : decode cX11_way 15 = .ok (.invokevirtual 233, 3) := by decide +kernel
theorem dX11_way_18 : decode cX11_way 18 = .ok (.ifCond .ne 5, 3) := by decide +kernel
theorem dX11_way_21 : decode cX11_way 21 = .ok (.iconst (-1), 1) := by decide +kernel
theorem dX11_way_22 : decode cX11_way 22 = .ok (.ireturn, 1) := by decide +kernel
theorem dX11_way_23 : decode cX11_way 23 = .ok (.aload_n 0, 1) := by decide +kernel
theorem dX11_way_24 : decode cX11_way 24 = .ok (.aload_n 0, 1) := by decide +kernel
theorem dX11_way_25 : decode cX11_way 25 = .ok (.getfield 41, 3) := by decide +kernel
theorem dX11_way_28 : decode cX11_way 28 = .ok (.iload_n 2, 1) := by decide +kernel
theorem dX11_way_29 : decode cX11_way 29 = .ok (.invokevirtual 340, 3) := by decide +kernel
theorem dX11_way_32 : decode cX11_way 32 = .ok (.aload_n 0, 1) := by decide +kernel
theorem dX11_way_33 : decode cX11_way 33 = .ok (.aload_n 0, 1) := by decide +kernel
theorem dX11_way_34 : decode cX11_way 34 = .ok (.getfield 41, 3) := by decide +kernel
theorem dX11_way_37 : decode cX11_way 37 = .ok (.iload_n 1, 1) := by decide +kernel
theorem dX11_way_38 : decode cX11_way 38 = .ok (.invokevirtual 241, 3) := by decide +kernel
theorem dX11_way_41 : decode cX11_way 41 = .ok (.ifCond .eq 15, 3) := by decide +kernel
theorem dX11_way_44 : decode cX11_way 44 = .ok (.aload_n 0, 1) := by decide +kernel
theorem dX11_way_45 : decode cX11_way 45 = .ok (.getfield 80, 3) := by decide +kernel
theorem dX11_way_48 : decode cX11_way 48 = .ok (.iload_n 1, 1) := by decide +kernel
theorem dX11_way_49 : decode cX11_way 49 = .ok (.iaload, 1) := by decide +kernel
theorem dX11_way_50 : decode cX11_way 50 = .ok (.ldc_w 339, 3) := by decide +kernel
theorem dX11_way_53 : decode cX11_way 53 = .ok (.if_icmp .lt 6, 3) := by decide +kernel
theorem dX11_way_56 : decode cX11_way 56 = .ok (.bipush (-2), 2) := by decide +kernel
theorem dX11_way_58 : decode cX11_way 58 = .ok (.ireturn, 1) := by decide +kernel
theorem dX11_way_59 : decode cX11_way 59 = .ok (.aload_n 0, 1) := by decide +kernel
theorem dX11_way_60 : decode cX11_way 60 = .ok (.iconst 0, 1) := by decide +kernel
theorem dX11_way_61 : decode cX11_way 61 = .ok (.putfield 15, 3) := by decide +kernel
theorem dX11_way_64 : decode cX11_way 64 = .ok (.iload_n 1, 1) := by decide +kernel
theorem dX11_way_65 : decode cX11_way 65 = .ok (.istore_n 3, 1) := by decide +kernel
theorem dX11_way_66 : decode cX11_way 66 = .ok (.aload_n 0, 1) := by decide +kernel
theorem dX11_way_67 : decode cX11_way 67 = .ok (.iload_n 3, 1) := by decide +kernel
theorem dX11_way_68 : decode cX11_way 68 = .ok (.i2l, 1) := by decide +kernel
theorem dX11_way_69 : decode cX11_way 69 = .ok (.invokevirtual 18, 3) := by decide +kernel
theorem dX11_way_72 : decode cX11_way 72 = .ok (.iload_n 3, 1) := by decide +kernel
theorem dX11_way_73 : decode cX11_way 73 = .ok (.iload_n 2, 1) := by decide +kernel
theorem dX11_way_74 : decode cX11_way 74 = .ok (.if_icmp .eq 84, 3) := by decide +kernel
theorem dX11_way_77 : decode cX11_way 77 = .ok (.bipush 36, 2) := by decide +kernel
theorem dX11_way_79 : decode cX11_way 79 = .ok (.istore 4, 2) := by decide +kernel
theorem dX11_way_81 : decode cX11_way 81 = .ok (.iconst 0, 1) := by decide +kernel
theorem dX11_way_82 : decode cX11_way 82 = .ok (.istore 5, 2) := by decide +kernel
theorem dX11_way_84 : decode cX11_way 84 = .ok (.iload 5, 2) := by decide +kernel
theorem dX11_way_86 : decode cX11_way 86 = .ok (.iconst 4, 1) := by decide +kernel
theorem dX11_way_87 : decode cX11_way 87 = .ok (.if_icmp .ge 59, 3) := by decide +kernel
theorem dX11_way_90 : decode cX11_way 90 = .ok (.aload_n 0, 1) := by decide +kernel
theorem dX11_way_91 : decode cX11_way 91 = .ok (.iload_n 3, 1) := by decide +kernel
theorem dX11_way_92 : decode cX11_way 92 = .ok (.iload 5, 2) := by decide +kernel
theorem dX11_way_94 : decode cX11_way 94 = .ok (.invokevirtual 251, 3) := by decide +kernel
theorem dX11_way_97 : decode cX11_way 97 = .ok (.istore 6, 2) := by decide +kernel
theorem dX11_way_99 : decode cX11_way 99 = .ok (.iload 6, 2) := by decide +kernel
theorem dX11_way_101 : decode cX11_way 101 = .ok (.ifCond .lt 35, 3) := by decide +kernel
theorem dX11_way_104 : decode cX11_way 104 = .ok (.aload_n 0, 1) := by decide +kernel
theorem dX11_way_105 : decode cX11_way 105 = .ok (.getfield 80, 3) := by decide +kernel
theorem dX11_way_108 : decode cX11_way 108 = .ok (.iload 6, 2) := by decide +kernel
theorem dX11_way_110 : decode cX11_way 110 = .ok (.iaload, 1) := by decide +kernel
theorem dX11_way_111 : decode cX11_way 111 = .ok (.aload_n 0, 1) := by decide +kernel
theorem dX11_way_112 : decode cX11_way 112 = .ok (.iload_n 3, 1) := by decide +kernel
theorem dX11_way_113 : decode cX11_way 113 = .ok (.invokevirtual 262, 3) := by decide +kernel
theorem dX11_way_116 : decode cX11_way 116 = .ok (.iadd, 1) := by decide +kernel
theorem dX11_way_117 : decode cX11_way 117 = .ok (.aload_n 0, 1) := by decide +kernel
theorem dX11_way_118 : decode cX11_way 118 = .ok (.getfield 80, 3) := by decide +kernel
theorem dX11_way_121 : decode cX11_way 121 = .ok (.iload_n 3, 1) := by decide +kernel
theorem dX11_way_122 : decode cX11_way 122 = .ok (.iaload, 1) := by decide +kernel
theorem dX11_way_123 : decode cX11_way 123 = .ok (.if_icmp .ne 13, 3) := by decide +kernel
theorem dX11_way_126 : decode cX11_way 126 = .ok (.iload 4, 2) := by decide +kernel
theorem dX11_way_128 : decode cX11_way 128 = .ok (.iload 6, 2) := by decide +kernel
theorem dX11_way_130 : decode cX11_way 130 = .ok (.invokestatic 135, 3) := by decide +kernel
theorem dX11_way_133 : decode cX11_way 133 = .ok (.goto 5, 3) := by decide +kernel
theorem dX11_way_136 : decode cX11_way 136 = .ok (.iload 4, 2) := by decide +kernel
theorem dX11_way_138 : decode cX11_way 138 = .ok (.istore 4, 2) := by decide +kernel
theorem dX11_way_140 : decode cX11_way 140 = .ok (.iinc 5 1, 3) := by decide +kernel
theorem dX11_way_143 : decode cX11_way 143 = .ok (.goto (-59), 3) := by decide +kernel
theorem dX11_way_146 : decode cX11_way 146 = .ok (.iload 4, 2) := by decide +kernel
theorem dX11_way_148 : decode cX11_way 148 = .ok (.istore_n 3, 1) := by decide +kernel
theorem dX11_way_149 : decode cX11_way 149 = .ok (.aload_n 0, 1) := by decide +kernel
theorem dX11_way_150 : decode cX11_way 150 = .ok (.iload_n 3, 1) := by decide +kernel
theorem dX11_way_151 : decode cX11_way 151 = .ok (.i2l, 1) := by decide +kernel
theorem dX11_way_152 : decode cX11_way 152 = .ok (.invokevirtual 18, 3) := by decide +kernel
theorem dX11_way_155 : decode cX11_way 155 = .ok (.goto (-83), 3) := by decide +kernel
theorem dX11_way_158 : decode cX11_way 158 = .ok (.aload_n 0, 1) := by decide +kernel
theorem dX11_way_159 : decode cX11_way 159 = .ok (.getfield 80, 3) := by decide +kernel
theorem dX11_way_162 : decode cX11_way 162 = .ok (.iload_n 1, 1) := by decide +kernel
theorem dX11_way_163 : decode cX11_way 163 = .ok (.iaload, 1) := by decide +kernel
theorem dX11_way_164 : decode cX11_way 164 = .ok (.ireturn, 1) := by decide +kernel
theorem dX11_back_0 : decode cX11_back 0 = .ok (.aload_n 0, 1) := by decide +kernel
theorem dX11_back_1 : decode cX11_back 1 = .ok (.iconst 0, 1) := by decide +kernel
theorem dX11_back_2 : decode cX11_back 2 = .ok (.putfield 3, 3) := by decide +kernel
theorem dX11_back_5 : decode cX11_back 5 = .ok (.aload_n 0, 1) := by decide +kernel
theorem dX11_back_6 : decode cX11_back 6 = .ok (.getfield 34, 3) := by decide +kernel
theorem dX11_back_9 : decode cX11_back 9 = .ok (.ifCond .ge 6, 3) := by decide +kernel
theorem dX11_back_12 : decode cX11_back 12 = .ok (.bipush (-2), 2) := by decide +kernel
theorem dX11_back_14 : decode cX11_back 14 = .ok (.ireturn, 1) := by decide +kernel
theorem dX11_back_15 : decode cX11_back 15 = .ok (.aload_n 0, 1) := by decide +kernel
theorem dX11_back_16 : decode cX11_back 16 = .ok (.aload_n 0, 1) := by decide +kernel
theorem dX11_back_17 : decode cX11_back 17 = .ok (.getfield 41, 3) := by decide +kernel
theorem dX11_back_20 : decode cX11_back 20 = .ok (.aload_n 0, 1) := by decide +kernel
theorem dX11_back_21 : decode cX11_back 21 = .ok (.getfield 34, 3) := by decide +kernel
theorem dX11_back_24 : decode cX11_back 24 = .ok (.invokevirtual 340, 3) := by decide +kernel
theorem dX11_back_27 : decode cX11_back 27 = .ok (.aload_n 0, 1) := by decide +kernel
theorem dX11_back_28 : decode cX11_back 28 = .ok (.invokevirtual 317, 3) := by decide +kernel
theorem dX11_back_31 : decode cX11_back 31 = .ok (.bipush (-2), 2) := by decide +kernel
theorem dX11_back_33 : decode cX11_back 33 = .ok (.istore_n 1, 1) := by decide +kernel
theorem dX11_back_34 : decode cX11_back 34 = .ok (.iconst 1, 1) := by decide +kernel
theorem dX11_back_35 : decode cX11_back 35 = .ok (.istore_n 2, 1) := by decide +kernel
theorem dX11_back_36 : decode cX11_back 36 = .ok (.iconst 0, 1) := by decide +kernel
theorem dX11_back_37 : decode cX11_back 37 = .ok (.istore_n 3, 1) := by decide +kernel
theorem dX11_back_38 : decode cX11_back 38 = .ok (.iload_n 3, 1) := by decide +kernel
theorem dX11_back_39 : decode cX11_back 39 = .ok (.sipush 200, 3) := by decide +kernel
theorem dX11_back_42 : decode cX11_back 42 = .ok (.if_icmp .gt 61, 3) := by decide +kernel
theorem dX11_back_45 : decode cX11_back 45 = .ok (.iload_n 2, 1) := by decide +kernel
theorem dX11_back_46 : decode cX11_back 46 = .ok (.ifCond .eq 57, 3) := by decide +kernel
theorem dX11_back_49 : decode cX11_back 49 = .ok (.aload_n 0, 1) := by decide +kernel
theorem dX11_back_50 : decode cX11_back 50 = .ok (.getfield 44, 3) := by decide +kernel
theorem dX11_back_53 : decode cX11_back 53 = .ok (.bipush 74, 2) := by decide +kernel
theorem dX11_back_55 : decode cX11_back 55 = .ok (.iaload, 1) := by decide +kernel
theorem dX11_back_56 : decode cX11_back 56 = .ok (.aload_n 0, 1) := by decide +kernel
theorem dX11_back_57 : decode cX11_back 57 = .ok (.getfield 80, 3) := by decide +kernel
theorem dX11_back_60 : decode cX11_back 60 = .ok (.aload_n 0, 1) := by decide +kernel
theorem dX11_back_61 : decode cX11_back 61 = .ok (.getfield 44, 3) := by decide +kernel
theorem dX11_back_64 : decode cX11_back 64 = .ok (.bipush 72, 2) := by decide +kernel
theorem dX11_back_66 : decode cX11_back 66 = .ok (.iaload, 1) := by decide +kernel
theorem dX11_back_67 : decode cX11_back 67 = .ok (.iaload, 1) := by decide +kernel
theorem dX11_back_68 : decode cX11_back 68 = .ok (.if_icmp .lt 7, 3) := by decide +kernel
theorem dX11_back_71 : decode cX11_back 71 = .ok (.iload_n 3, 1) := by decide +kernel
theorem dX11_back_72 : decode cX11_back 72 = .ok (.goto 4, 3) := by decide +kernel
theorem dX11_back_75 : decode cX11_back 75 = .ok (.iload_n 1, 1) := by decide +kernel
theorem dX11_back_76 : decode cX11_back 76 = .ok (.istore_n 1, 1) := by decide +kernel
theorem dX11_back_77 : decode cX11_back 77 = .ok (.aload_n 0, 1) := by decide +kernel
theorem dX11_back_78 : decode cX11_back 78 = .ok (.aload_n 0, 1) := by decide +kernel
theorem dX11_back_79 : decode cX11_back 79 = .ok (.getfield 44, 3) := by decide +kernel
theorem dX11_back_82 : decode cX11_back 82 = .ok (.aload_n 0, 1) := by decide +kernel
theorem dX11_back_83 : decode cX11_back 83 = .ok (.aload_n 0, 1) := by decide +kernel
theorem dX11_back_84 : decode cX11_back 84 = .ok (.getfield 44, 3) := by decide +kernel
theorem dX11_back_87 : decode cX11_back 87 = .ok (.bipush 72, 2) := by decide +kernel
theorem dX11_back_89 : decode cX11_back 89 = .ok (.iaload, 1) := by decide +kernel
theorem dX11_back_90 : decode cX11_back 90 = .ok (.invokevirtual 262, 3) := by decide +kernel
theorem dX11_back_93 : decode cX11_back 93 = .ok (.invokevirtual 265, 3) := by decide +kernel
theorem dX11_back_96 : decode cX11_back 96 = .ok (.istore_n 2, 1) := by decide +kernel
theorem dX11_back_97 : decode cX11_back 97 = .ok (.iinc 3 1, 3) := by decide +kernel
theorem dX11_back_100 : decode cX11_back 100 = .ok (.goto (-62), 3) := by decide +kernel
theorem dX11_back_103 : decode cX11_back 103 = .ok (.iload_n 1, 1) := by decide +kernel
theorem dX11_back_104 : decode cX11_back 104 = .ok (.ireturn, 1) := by decide +kernel
theorem dX11_plug_0 : decode cX11_plug 0 = .ok (.aload_n 0, 1) := by decide +kernel
theorem dX11_plug_1 : decode cX11_plug 1 = .ok (.iconst 0, 1) := by decide +kernel
theorem dX11_plug_2 : decode cX11_plug 2 = .ok (.putfield 3, 3) := by decide +kernel
theorem dX11_plug_5 : decode cX11_plug 5 = .ok (.iconst (-1), 1) := by decide +kernel
theorem dX11_plug_6 : decode cX11_plug 6 = .ok (.istore_n 1, 1) := by decide +kernel
theorem dX11_plug_7 : decode cX11_plug 7 = .ok (.ldc_w 339, 3) := by decide +kernel
theorem dX11_plug_10 : decode cX11_plug 10 = .ok (.istore_n 2, 1) := by decide +kernel
theorem dX11_plug_11 : decode cX11_plug 11 = .ok (.iconst 0, 1) := by decide +kernel
theorem dX11_plug_12 : decode cX11_plug 12 = .ok (.istore_n 3, 1) := by decide +kernel
theorem dX11_plug_13 : decode cX11_plug 13 = .ok (.iload_n 3, 1) := by decide +kernel
theorem dX11_plug_14 : decode cX11_plug 14 = .ok (.aload_n 0, 1) := by decide +kernel
theorem dX11_plug_15 : decode cX11_plug 15 = .ok (.invokevirtual 114, 3) := by decide +kernel
theorem dX11_plug_18 : decode cX11_plug 18 = .ok (.if_icmp .ge 108, 3) := by decide +kernel
theorem dX11_plug_21 : decode cX11_plug 21 = .ok (.aload_n 0, 1) := by decide +kernel
theorem dX11_plug_22 : decode cX11_plug 22 = .ok (.aload_n 0, 1) := by decide +kernel
theorem dX11_plug_23 : decode cX11_plug 23 = .ok (.getfield 41, 3) := by decide +kernel
theorem dX11_plug_26 : decode cX11_plug 26 = .ok (.iload_n 3, 1) := by decide +kernel
theorem dX11_plug_27 : decode cX11_plug 27 = .ok (.invokevirtual 241, 3) := by decide +kernel
theorem dX11_plug_30 : decode cX11_plug 30 = .ok (.ifCond .eq 90, 3) := by decide +kernel
theorem dX11_plug_33 : decode cX11_plug 33 = .ok (.aload_n 0, 1) := by decide +kernel
theorem dX11_plug_34 : decode cX11_plug 34 = .ok (.aload_n 0, 1) := by decide +kernel
theorem dX11_plug_35 : decode cX11_plug 35 = .ok (.getfield 41, 3) := by decide +kernel
theorem dX11_plug_38 : decode cX11_plug 38 = .ok (.iload_n 3, 1) := by decide +kernel
theorem dX11_plug_39 : decode cX11_plug 39 = .ok (.invokevirtual 340, 3) := by decide +kernel
theorem dX11_plug_42 : decode cX11_plug 42 = .ok (.iconst 0, 1) := by decide +kernel
theorem dX11_plug_43 : decode cX11_plug 43 = .ok (.istore 4, 2) := by decide +kernel
theorem dX11_plug_45 : decode cX11_plug 45 = .ok (.iconst 0, 1) := by decide +kernel
theorem dX11_plug_46 : decode cX11_plug 46 = .ok (.istore 5, 2) := by decide +kernel
theorem dX11_plug_48 : decode cX11_plug 48 = .ok (.iload 5, 2) := by decide +kernel
theorem dX11_plug_50 : decode cX11_plug 50 = .ok (.aload_n 0, 1) := by decide +kernel
theorem dX11_plug_51 : decode cX11_plug 51 = .ok (.invokevirtual 114, 3) := by decide +kernel
theorem dX11_plug_54 : decode cX11_plug 54 = .ok (.if_icmp .ge 47, 3) := by decide +kernel
theorem dX11_plug_57 : decode cX11_plug 57 = .ok (.aload_n 0, 1) := by decide +kernel
theorem dX11_plug_58 : decode cX11_plug 58 = .ok (.aload_n 0, 1) := by decide +kernel
theorem dX11_plug_59 : decode cX11_plug 59 = .ok (.getfield 41, 3) := by decide +kernel
theorem dX11_plug_62 : decode cX11_plug 62 = .ok (.iload 5, 2) := by decide +kernel
theorem dX11_plug_64 : decode cX11_plug 64 = .ok (.invokevirtual 241, 3) := by decide +kernel
theorem dX11_plug_67 : decode cX11_plug 67 = .ok (.ifCond .eq 24, 3) := by decide +kernel
theorem dX11_plug_70 : decode cX11_plug 70 = .ok (.iload 4, 2) := by decide +kernel
theorem dX11_plug_72 : decode cX11_plug 72 = .ok (.sipush 500, 3) := by decide +kernel
theorem dX11_plug_75 : decode cX11_plug 75 = .ok (.aload_n 0, 1) := by decide +kernel
theorem dX11_plug_76 : decode cX11_plug 76 = .ok (.getfield 80, 3) := by decide +kernel
theorem dX11_plug_79 : decode cX11_plug 79 = .ok (.iload 5, 2) := by decide +kernel
theorem dX11_plug_81 : decode cX11_plug 81 = .ok (.iaload, 1) := by decide +kernel
theorem dX11_plug_82 : decode cX11_plug 82 = .ok (.invokestatic 135, 3) := by decide +kernel
theorem dX11_plug_85 : decode cX11_plug 85 = .ok (.invokestatic 256, 3) := by decide +kernel
theorem dX11_plug_88 : decode cX11_plug 88 = .ok (.goto 5, 3) := by decide +kernel
theorem dX11_plug_91 : decode cX11_plug 91 = .ok (.iload 4, 2) := by decide +kernel
theorem dX11_plug_93 : decode cX11_plug 93 = .ok (.istore 4, 2) := by decide +kernel
theorem dX11_plug_95 : decode cX11_plug 95 = .ok (.iinc 5 1, 3) := by decide +kernel
theorem dX11_plug_98 : decode cX11_plug 98 = .ok (.goto (-50), 3) := by decide +kernel
theorem dX11_plug_101 : decode cX11_plug 101 = .ok (.iload 4, 2) := by decide +kernel
theorem dX11_plug_103 : decode cX11_plug 103 = .ok (.iload_n 2, 1) := by decide +kernel
theorem dX11_plug_104 : decode cX11_plug 104 = .ok (.if_icmp .ge 7, 3) := by decide +kernel
theorem dX11_plug_107 : decode cX11_plug 107 = .ok (.iload_n 3, 1) := by decide +kernel
theorem dX11_plug_108 : decode cX11_plug 108 = .ok (.goto 4, 3) := by decide +kernel
theorem dX11_plug_111 : decode cX11_plug 111 = .ok (.iload_n 1, 1) := by decide +kernel
theorem dX11_plug_112 : decode cX11_plug 112 = .ok (.istore_n 1, 1) := by decide +kernel
theorem dX11_plug_113 : decode cX11_plug 113 = .ok (.iload_n 2, 1) := by decide +kernel
theorem dX11_plug_114 : decode cX11_plug 114 = .ok (.iload 4, 2) := by decide +kernel
theorem dX11_plug_116 : decode cX11_plug 116 = .ok (.invokestatic 135, 3) := by decide +kernel
theorem dX11_plug_119 : decode cX11_plug 119 = .ok (.istore_n 2, 1) := by decide +kernel
theorem dX11_plug_120 : decode cX11_plug 120 = .ok (.iinc 3 1, 3) := by decide +kernel
theorem dX11_plug_123 : decode cX11_plug 123 = .ok (.goto (-110), 3) := by decide +kernel
theorem dX11_plug_126 : decode cX11_plug 126 = .ok (.aload_n 0, 1) := by decide +kernel
theorem dX11_plug_127 : decode cX11_plug 127 = .ok (.iconst 0, 1) := by decide +kernel
theorem dX11_plug_128 : decode cX11_plug 128 = .ok (.putfield 15, 3) := by decide +kernel
theorem dX11_plug_131 : decode cX11_plug 131 = .ok (.aload_n 0, 1) := by decide +kernel
theorem dX11_plug_132 : decode cX11_plug 132 = .ok (.iload_n 2, 1) := by decide +kernel
theorem dX11_plug_133 : decode cX11_plug 133 = .ok (.i2l, 1) := by decide +kernel
theorem dX11_plug_134 : decode cX11_plug 134 = .ok (.invokevirtual 18, 3) := by decide +kernel
theorem dX11_plug_137 : decode cX11_plug 137 = .ok (.iload_n 1, 1) := by decide +kernel
theorem dX11_plug_138 : decode cX11_plug 138 = .ok (.ireturn, 1) := by decide +kernel
theorem dX11_canMeet_0 : decode cX11_canMeet 0 = .ok (.aload_n 0, 1) := by decide +kernel
theorem dX11_canMeet_1 : decode cX11_canMeet 1 = .ok (.aload_n 0, 1) := by decide +kernel
theorem dX11_canMeet_2 : decode cX11_canMeet 2 = .ok (.getfield 41, 3) := by decide +kernel
theorem dX11_canMeet_5 : decode cX11_canMeet 5 = .ok (.aload_n 0, 1) := by decide +kernel
theorem dX11_canMeet_6 : decode cX11_canMeet 6 = .ok (.getfield 41, 3) := by decide +kernel
theorem dX11_canMeet_9 : decode cX11_canMeet 9 = .ok (.bipush 72, 2) := by decide +kernel
theorem dX11_canMeet_11 : decode cX11_canMeet 11 = .ok (.iaload, 1) := by decide +kernel
theorem dX11_canMeet_12 : decode cX11_canMeet 12 = .ok (.iload_n 1, 1) := by decide +kernel
theorem dX11_canMeet_13 : decode cX11_canMeet 13 = .ok (.invokevirtual 332, 3) := by decide +kernel
theorem dX11_canMeet_16 : decode cX11_canMeet 16 = .ok (.aload_n 0, 1) := by decide +kernel
theorem dX11_canMeet_17 : decode cX11_canMeet 17 = .ok (.getfield 34, 3) := by decide +kernel
theorem dX11_canMeet_20 : decode cX11_canMeet 20 = .ok (.lshr, 1) := by decide +kernel
theorem dX11_canMeet_21 : decode cX11_canMeet 21 = .ok (.lconst 1, 1) := by decide +kernel
theorem dX11_canMeet_22 : decode cX11_canMeet 22 = .ok (.land, 1) := by decide +kernel
theorem dX11_canMeet_23 : decode cX11_canMeet 23 = .ok (.lconst 1, 1) := by decide +kernel
theorem dX11_canMeet_24 : decode cX11_canMeet 24 = .ok (.lcmp, 1) := by decide +kernel
theorem dX11_canMeet_25 : decode cX11_canMeet 25 = .ok (.ifCond .ne 7, 3) := by decide +kernel
theorem dX11_canMeet_28 : decode cX11_canMeet 28 = .ok (.iconst 1, 1) := by decide +kernel
theorem dX11_canMeet_29 : decode cX11_canMeet 29 = .ok (.goto 4, 3) := by decide +kernel
theorem dX11_canMeet_32 : decode cX11_canMeet 32 = .ok (.iconst 0, 1) := by decide +kernel
theorem dX11_canMeet_33 : decode cX11_canMeet 33 = .ok (.ireturn, 1) := by decide +kernel
theorem dX11_doors_0 : decode cX11_doors 0 = .ok (.aload_n 0, 1) := by decide +kernel
theorem dX11_doors_1 : decode cX11_doors 1 = .ok (.iconst 0, 1) := by decide +kernel
theorem dX11_doors_2 : decode cX11_doors 2 = .ok (.putfield 3, 3) := by decide +kernel
theorem dX11_doors_5 : decode cX11_doors 5 = .ok (.aload_n 0, 1) := by decide +kernel
theorem dX11_doors_6 : decode cX11_doors 6 = .ok (.getfield 34, 3) := by decide +kernel
theorem dX11_doors_9 : decode cX11_doors 9 = .ok (.ifCond .lt 11, 3) := by decide +kernel
theorem dX11_doors_12 : decode cX11_doors 12 = .ok (.aload_n 0, 1) := by decide +kernel
theorem dX11_doors_13 : decode cX11_doors 13 = .ok (.iconst (-1), 1) := by decide +kernel
theorem dX11_doors_14 : decode cX11_doors 14 = .ok (.invokevirtual 344, 3) := by decide +kernel
theorem dX11_doors_17 : decode cX11_doors 17 = .ok (.ifCond .ne 6, 3) := by decide +kernel
theorem dX11_doors_20 : decode cX11_doors 20 = .ok (.bipush (-2), 2) := by decide +kernel
theorem dX11_doors_22 : decode cX11_doors 22 = .ok (.ireturn, 1) := by decide +kernel
theorem dX11_doors_23 : decode cX11_doors 23 = .ok (.lconst 0, 1) := by decide +kernel
theorem dX11_doors_24 : decode cX11_doors 24 = .ok (.lstore_n 1, 1) := by decide +kernel
theorem dX11_doors_25 : decode cX11_doors 25 = .ok (.iconst 0, 1) := by decide +kernel
theorem dX11_doors_26 : decode cX11_doors 26 = .ok (.istore_n 3, 1) := by decide +kernel
theorem dX11_doors_27 : decode cX11_doors 27 = .ok (.iload_n 3, 1) := by decide +kernel
theorem dX11_doors_28 : decode cX11_doors 28 = .ok (.aload_n 0, 1) := by decide +kernel
theorem dX11_doors_29 : decode cX11_doors 29 = .ok (.invokevirtual 114, 3) := by decide +kernel
theorem dX11_doors_32 : decode cX11_doors 32 = .ok (.if_icmp .ge 58, 3) := by decide +kernel
theorem dX11_doors_35 : decode cX11_doors 35 = .ok (.lload_n 1, 1) := by decide +kernel
theorem dX11_doors_36 : decode cX11_doors 36 = .ok (.iload_n 3, 1) := by decide +kernel
theorem dX11_doors_37 : decode cX11_doors 37 = .ok (.aload_n 0, 1) := by decide +kernel
theorem dX11_doors_38 : decode cX11_doors 38 = .ok (.getfield 34, 3) := by decide +kernel
theorem dX11_doors_41 : decode cX11_doors 41 = .ok (.if_icmp .eq 40, 3) := by decide +kernel
theorem dX11_doors_44 : decode cX11_doors 44 = .ok (.iload_n 3, 1) := by decide +kernel
theorem dX11_doors_45 : decode cX11_doors 45 = .ok (.aload_n 0, 1) := by decide +kernel
theorem dX11_doors_46 : decode cX11_doors 46 = .ok (.getfield 41, 3) := by decide +kernel
theorem dX11_doors_49 : decode cX11_doors 49 = .ok (.bipush 72, 2) := by decide +kernel
theorem dX11_doors_51 : decode cX11_doors 51 = .ok (.iaload, 1) := by decide +kernel
theorem dX11_doors_52 : decode cX11_doors 52 = .ok (.if_icmp .eq 29, 3) := by decide +kernel
theorem dX11_doors_55 : decode cX11_doors 55 = .ok (.aload_n 0, 1) := by decide +kernel
theorem dX11_doors_56 : decode cX11_doors 56 = .ok (.aload_n 0, 1) := by decide +kernel
theorem dX11_doors_57 : decode cX11_doors 57 = .ok (.getfield 41, 3) := by decide +kernel
theorem dX11_doors_60 : decode cX11_doors 60 = .ok (.iload_n 3, 1) := by decide +kernel
theorem dX11_doors_61 : decode cX11_doors 61 = .ok (.invokevirtual 241, 3) := by decide +kernel
theorem dX11_doors_64 : decode cX11_doors 64 = .ok (.ifCond .eq 17, 3) := by decide +kernel
theorem dX11_doors_67 : decode cX11_doors 67 = .ok (.aload_n 0, 1) := by decide +kernel
theorem dX11_doors_68 : decode cX11_doors 68 = .ok (.iload_n 3, 1) := by decide +kernel
theorem dX11_doors_69 : decode cX11_doors 69 = .ok (.invokevirtual 344, 3) := by decide +kernel
theorem dX11_doors_72 : decode cX11_doors 72 = .ok (.ifCond .ne 9, 3) := by decide +kernel
theorem dX11_doors_75 : decode cX11_doors 75 = .ok (.lconst 1, 1) := by decide +kernel
theorem dX11_doors_76 : decode cX11_doors 76 = .ok (.iload_n 3, 1) := by decide +kernel
theorem dX11_doors_77 : decode cX11_doors 77 = .ok (.lshl, 1) := by decide +kernel
theorem dX11_doors_78 : decode cX11_doors 78 = .ok (.goto 4, 3) := by decide +kernel
theorem dX11_doors_81 : decode cX11_doors 81 = .ok (.lconst 0, 1) := by decide +kernel
theorem dX11_doors_82 : decode cX11_doors 82 = .ok (.lor, 1) := by decide +kernel
theorem dX11_doors_83 : decode cX11_doors 83 = .ok (.lstore_n 1, 1) := by decide +kernel
theorem dX11_doors_84 : decode cX11_doors 84 = .ok (.iinc 3 1, 3) := by decide +kernel
theorem dX11_doors_87 : decode cX11_doors 87 = .ok (.goto (-60), 3) := by decide +kernel
theorem dX11_doors_90 : decode cX11_doors 90 = .ok (.aload_n 0, 1) := by decide +kernel
theorem dX11_doors_91 : decode cX11_doors 91 = .ok (.iconst 0, 1) := by decide +kernel
theorem dX11_doors_92 : decode cX11_doors 92 = .ok (.putfield 15, 3) := by decide +kernel
theorem dX11_doors_95 : decode cX11_doors 95 = .ok (.aload_n 0, 1) := by decide +kernel
theorem dX11_doors_96 : decode cX11_doors 96 = .ok (.lload_n 1, 1) := by decide +kernel
theorem dX11_doors_97 : decode cX11_doors 97 = .ok (.invokevirtual 18, 3) := by decide +kernel
theorem dX11_doors_100 : decode cX11_doors 100 = .ok (.lload_n 1, 1) := by decide +kernel
theorem dX11_doors_101 : decode cX11_doors 101 = .ok (.invokestatic 320, 3) := by decide +kernel
theorem dX11_doors_104 : decode cX11_doors 104 = .ok (.ireturn, 1) := by decide +kernel
theorem dX11_chairs_0 : decode cX11_chairs 0 = .ok (.aload_n 0, 1) := by decide +kernel
theorem dX11_chairs_1 : decode cX11_chairs 1 = .ok (.iconst 0, 1) := by decide +kernel
theorem dX11_chairs_2 : decode cX11_chairs 2 = .ok (.putfield 3, 3) := by decide +kernel
theorem dX11_chairs_5 : decode cX11_chairs 5 = .ok (.aload_n 0, 1) := by decide +kernel
theorem dX11_chairs_6 : decode cX11_chairs 6 = .ok (.aload_n 0, 1) := by decide +kernel
theorem dX11_chairs_7 : decode cX11_chairs 7 = .ok (.getfield 41, 3) := by decide +kernel
theorem dX11_chairs_10 : decode cX11_chairs 10 = .ok (.aload_n 0, 1) := by decide +kernel
theorem dX11_chairs_11 : decode cX11_chairs 11 = .ok (.getfield 41, 3) := by decide +kernel
theorem dX11_chairs_14 : decode cX11_chairs 14 = .ok (.bipush 72, 2) := by decide +kernel
theorem dX11_chairs_16 : decode cX11_chairs 16 = .ok (.iaload, 1) := by decide +kernel
theorem dX11_chairs_17 : decode cX11_chairs 17 = .ok (.iconst (-1), 1) := by decide +kernel
theorem dX11_chairs_18 : decode cX11_chairs 18 = .ok (.invokevirtual 332, 3) := by decide +kernel
theorem dX11_chairs_21 : decode cX11_chairs 21 = .ok (.invokestatic 320, 3) := by decide +kernel
theorem dX11_chairs_24 : decode cX11_chairs 24 = .ok (.istore_n 1, 1) := by decide +kernel
theorem dX11_chairs_25 : decode cX11_chairs 25 = .ok (.bipush (-2), 2) := by decide +kernel
theorem dX11_chairs_27 : decode cX11_chairs 27 = .ok (.istore_n 2, 1) := by decide +kernel
theorem dX11_chairs_28 : decode cX11_chairs 28 = .ok (.iconst (-1), 1) := by decide +kernel
theorem dX11_chairs_29 : decode cX11_chairs 29 = .ok (.istore_n 3, 1) := by decide +kernel
theorem dX11_chairs_30 : decode cX11_chairs 30 = .ok (.aload_n 0, 1) := by decide +kernel
theorem dX11_chairs_31 : decode cX11_chairs 31 = .ok (.invokevirtual 317, 3) := by decide +kernel
theorem dX11_chairs_34 : decode cX11_chairs 34 = .ok (.iconst 0, 1) := by decide +kernel
theorem dX11_chairs_35 : decode cX11_chairs 35 = .ok (.istore 4, 2) := by decide +kernel
theorem dX11_chairs_37 : decode cX11_chairs 37 = .ok (.iload 4, 2) := by decide +kernel
theorem dX11_chairs_39 : decode cX11_chairs 39 = .ok (.aload_n 0, 1) := by decide +kernel
theorem dX11_chairs_40 : decode cX11_chairs 40 = .ok (.invokevirtual 114, 3) := by decide +kernel
theorem dX11_chairs_43 : decode cX11_chairs 43 = .ok (.if_icmp .ge 88, 3) := by decide +kernel
theorem dX11_chairs_46 : decode cX11_chairs 46 = .ok (.aload_n 0, 1) := by decide +kernel
theorem dX11_chairs_47 : decode cX11_chairs 47 = .ok (.getfield 41, 3) := by decide +kernel
theorem dX11_chairs_50 : decode cX11_chairs 50 = .ok (.bipush 36, 2) := by decide +kernel
theorem dX11_chairs_52 : decode cX11_chairs 52 = .ok (.iload 4, 2) := by decide +kernel
theorem dX11_chairs_54 : decode cX11_chairs 54 = .ok (.iadd, 1) := by decide +kernel
theorem dX11_chairs_55 : decode cX11_chairs 55 = .ok (.iaload, 1) := by decide +kernel
theorem dX11_chairs_56 : decode cX11_chairs 56 = .ok (.iconst 1, 1) := by decide +kernel
theorem dX11_chairs_57 : decode cX11_chairs 57 = .ok (.if_icmp .ne 68, 3) := by decide +kernel
theorem dX11_chairs_60 : decode cX11_chairs 60 = .ok (.aload_n 0, 1) := by decide +kernel
theorem dX11_chairs_61 : decode cX11_chairs 61 = .ok (.getfield 44, 3) := by decide +kernel
theorem dX11_chairs_64 : decode cX11_chairs 64 = .ok (.bipush 36, 2) := by decide +kernel
theorem dX11_chairs_66 : decode cX11_chairs 66 = .ok (.iload 4, 2) := by decide +kernel
theorem dX11_chairs_68 : decode cX11_chairs 68 = .ok (.iadd, 1) := by decide +kernel
theorem dX11_chairs_69 : decode cX11_chairs 69 = .ok (.iconst 0, 1) := by decide +kernel
theorem dX11_chairs_70 : decode cX11_chairs 70 = .ok (.iastore, 1) := by decide +kernel
theorem dX11_chairs_71 : decode cX11_chairs 71 = .ok (.aload_n 0, 1) := by decide +kernel
theorem dX11_chairs_72 : decode cX11_chairs 72 = .ok (.aload_n 0, 1) := by decide +kernel
theorem dX11_chairs_73 : decode cX11_chairs 73 = .ok (.getfield 44, 3) := by decide +kernel
theorem dX11_chairs_76 : decode cX11_chairs 76 = .ok (.aload_n 0, 1) := by decide +kernel
theorem dX11_chairs_77 : decode cX11_chairs 77 = .ok (.getfield 41, 3) := by decide +kernel
theorem dX11_chairs_80 : decode cX11_chairs 80 = .ok (.bipush 72, 2) := by decide +kernel
theorem dX11_chairs_82 : decode cX11_chairs 82 = .ok (.iaload, 1) := by decide +kernel
theorem dX11_chairs_83 : decode cX11_chairs 83 = .ok (.iconst (-1), 1) := by decide +kernel
theorem dX11_chairs_84 : decode cX11_chairs 84 = .ok (.invokevirtual 332, 3) := by decide +kernel
theorem dX11_chairs_87 : decode cX11_chairs 87 = .ok (.invokestatic 320, 3) := by decide +kernel
theorem dX11_chairs_90 : decode cX11_chairs 90 = .ok (.iload_n 1, 1) := by decide +kernel
theorem dX11_chairs_91 : decode cX11_chairs 91 = .ok (.isub, 1) := by decide +kernel
theorem dX11_chairs_92 : decode cX11_chairs 92 = .ok (.istore 5, 2) := by decide +kernel
theorem dX11_chairs_94 : decode cX11_chairs 94 = .ok (.aload_n 0, 1) := by decide +kernel
theorem dX11_chairs_95 : decode cX11_chairs 95 = .ok (.getfield 44, 3) := by decide +kernel
theorem dX11_chairs_98 : decode cX11_chairs 98 = .ok (.bipush 36, 2) := by decide +kernel
theorem dX11_chairs_100 : decode cX11_chairs 100 = .ok (.iload 4, 2) := by decide +kernel
theorem dX11_chairs_102 : decode cX11_chairs 102 = .ok (.iadd, 1) := by decide +kernel
theorem dX11_chairs_103 : decode cX11_chairs 103 = .ok (.iconst 1, 1) := by decide +kernel
theorem dX11_chairs_104 : decode cX11_chairs 104 = .ok (.iastore, 1) := by decide +kernel
theorem dX11_chairs_105 : decode cX11_chairs 105 = .ok (.iload 5, 2) := by decide +kernel
theorem dX11_chairs_107 : decode cX11_chairs 107 = .ok (.iload_n 3, 1) := by decide +kernel
theorem dX11_chairs_108 : decode cX11_chairs 108 = .ok (.if_icmp .le 8, 3) := by decide +kernel
theorem dX11_chairs_111 : decode cX11_chairs 111 = .ok (.iload 4, 2) := by decide +kernel
theorem dX11_chairs_113 : decode cX11_chairs 113 = .ok (.goto 4, 3) := by decide +kernel
theorem dX11_chairs_116 : decode cX11_chairs 116 = .ok (.iload_n 2, 1) := by decide +kernel
theorem dX11_chairs_117 : decode cX11_chairs 117 = .ok (.istore_n 2, 1) := by decide +kernel
theorem dX11_chairs_118 : decode cX11_chairs 118 = .ok (.iload_n 3, 1) := by decide +kernel
theorem dX11_chairs_119 : decode cX11_chairs 119 = .ok (.iload 5, 2) := by decide +kernel
theorem dX11_chairs_121 : decode cX11_chairs 121 = .ok (.invokestatic 256, 3) := by decide +kernel
theorem dX11_chairs_124 : decode cX11_chairs 124 = .ok (.istore_n 3, 1) := by decide +kernel
theorem dX11_chairs_125 : decode cX11_chairs 125 = .ok (.iinc 4 1, 3) := by decide +kernel
theorem dX11_chairs_128 : decode cX11_chairs 128 = .ok (.goto (-91), 3) := by decide +kernel
theorem dX11_chairs_131 : decode cX11_chairs 131 = .ok (.iload_n 2, 1) := by decide +kernel
theorem dX11_chairs_132 : decode cX11_chairs 132 = .ok (.ifCond .lt 14, 3) := by decide +kernel
theorem dX11_chairs_135 : decode cX11_chairs 135 = .ok (.aload_n 0, 1) := by decide +kernel
theorem dX11_chairs_136 : decode cX11_chairs 136 = .ok (.iconst 0, 1) := by decide +kernel
theorem dX11_chairs_137 : decode cX11_chairs 137 = .ok (.putfield 15, 3) := by decide +kernel
theorem dX11_chairs_140 : decode cX11_chairs 140 = .ok (.aload_n 0, 1) := by decide +kernel
theorem dX11_chairs_141 : decode cX11_chairs 141 = .ok (.iload_n 3, 1) := by decide +kernel
theorem dX11_chairs_142 : decode cX11_chairs 142 = .ok (.i2l, 1) := by decide +kernel
theorem dX11_chairs_143 : decode cX11_chairs 143 = .ok (.invokevirtual 18, 3) := by decide +kernel
theorem dX11_chairs_146 : decode cX11_chairs 146 = .ok (.iload_n 2, 1) := by decide +kernel
theorem dX11_chairs_147 : decode cX11_chairs 147 = .ok (.ireturn, 1) := by decide +kernel
theorem dX11_gathers_0 : decode cX11_gathers 0 = .ok (.iload 6, 2) := by decide +kernel
theorem dX11_gathers_2 : decode cX11_gathers 2 = .ok (.aload_n 0, 1) := by decide +kernel
theorem dX11_gathers_3 : decode cX11_gathers 3 = .ok (.getfield 347, 3) := by decide +kernel
theorem dX11_gathers_6 : decode cX11_gathers 6 = .ok (.if_icmp .gt 20, 3) := by decide +kernel
theorem dX11_gathers_9 : decode cX11_gathers 9 = .ok (.iload 6, 2) := by decide +kernel
theorem dX11_gathers_11 : decode cX11_gathers 11 = .ok (.aload_n 0, 1) := by decide +kernel
theorem dX11_gathers_12 : decode cX11_gathers 12 = .ok (.getfield 347, 3) := by decide +kernel
theorem dX11_gathers_15 : decode cX11_gathers 15 = .ok (.if_icmp .ne 51, 3) := by decide +kernel
theorem dX11_gathers_18 : decode cX11_gathers 18 = .ok (.iload_n 2, 1) := by decide +kernel
theorem dX11_gathers_19 : decode cX11_gathers 19 = .ok (.aload_n 0, 1) := by decide +kernel
theorem dX11_gathers_20 : decode cX11_gathers 20 = .ok (.getfield 350, 3) := by decide +kernel
theorem dX11_gathers_23 : decode cX11_gathers 23 = .ok (.if_icmp .ge 43, 3) := by decide +kernel
theorem dX11_gathers_26 : decode cX11_gathers 26 = .ok (.aload_n 0, 1) := by decide +kernel
theorem dX11_gathers_27 : decode cX11_gathers 27 = .ok (.iload 6, 2) := by decide +kernel
theorem dX11_gathers_29 : decode cX11_gathers 29 = .ok (.putfield 347, 3) := by decide +kernel
theorem dX11_gathers_32 : decode cX11_gathers 32 = .ok (.aload_n 0, 1) := by decide +kernel
theorem dX11_gathers_33 : decode cX11_gathers 33 = .ok (.iload_n 2, 1) := by decide +kernel
theorem dX11_gathers_34 : decode cX11_gathers 34 = .ok (.putfield 350, 3) := by decide +kernel
theorem dX11_gathers_37 : decode cX11_gathers 37 = .ok (.iconst 0, 1) := by decide +kernel
theorem dX11_gathers_38 : decode cX11_gathers 38 = .ok (.istore 7, 2) := by decide +kernel
theorem dX11_gathers_40 : decode cX11_gathers 40 = .ok (.iload 7, 2) := by decide +kernel
theorem dX11_gathers_42 : decode cX11_gathers 42 = .ok (.iload_n 2, 1) := by decide +kernel
theorem dX11_gathers_43 : decode cX11_gathers 43 = .ok (.if_icmp .ge 23, 3) := by decide +kernel
theorem dX11_gathers_46 : decode cX11_gathers 46 = .ok (.aload_n 0, 1) := by decide +kernel
theorem dX11_gathers_47 : decode cX11_gathers 47 = .ok (.getfield 86, 3) := by decide +kernel
theorem dX11_gathers_50 : decode cX11_gathers 50 = .ok (.iload 7, 2) := by decide +kernel
theorem dX11_gathers_52 : decode cX11_gathers 52 = .ok (.aload_n 0, 1) := by decide +kernel
theorem dX11_gathers_53 : decode cX11_gathers 53 = .ok (.getfield 83, 3) := by decide +kernel
theorem dX11_gathers_56 : decode cX11_gathers 56 = .ok (.iload 7, 2) := by decide +kernel
theorem dX11_gathers_58 : decode cX11_gathers 58 = .ok (.iaload, 1) := by decide +kernel
theorem dX11_gathers_59 : decode cX11_gathers 59 = .ok (.iastore, 1) := by decide +kernel
theorem dX11_gathers_60 : decode cX11_gathers 60 = .ok (.iinc 7 1, 3) := by decide +kernel
theorem dX11_gathers_63 : decode cX11_gathers 63 = .ok (.goto (-23), 3) := by decide +kernel
theorem dX11_gathers_66 : decode cX11_gathers 66 = .ok (.iload_n 2, 1) := by decide +kernel
theorem dX11_gathers_67 : decode cX11_gathers 67 = .ok (.iload_n 3, 1) := by decide +kernel
theorem dX11_gathers_68 : decode cX11_gathers 68 = .ok (.if_icmp .ge 141, 3) := by decide +kernel
theorem dX11_gathers_71 : decode cX11_gathers 71 = .ok (.iconst 0, 1) := by decide +kernel
theorem dX11_gathers_72 : decode cX11_gathers 72 = .ok (.istore 7, 2) := by decide +kernel
theorem dX11_gathers_74 : decode cX11_gathers 74 = .ok (.iload 7, 2) := by decide +kernel
theorem dX11_gathers_76 : decode cX11_gathers 76 = .ok (.aload_n 0, 1) := by decide +kernel
theorem dX11_gathers_77 : decode cX11_gathers 77 = .ok (.invokevirtual 114, 3) := by decide +kernel
theorem dX11_gathers_80 : decode cX11_gathers 80 = .ok (.if_icmp .ge 129, 3) := by decide +kernel
theorem dX11_gathers_83 : decode cX11_gathers 83 = .ok (.aload_n 0, 1) := by decide +kernel
theorem dX11_gathers_84 : decode cX11_gathers 84 = .ok (.iload_n 1, 1) := by decide +kernel
theorem dX11_gathers_85 : decode cX11_gathers 85 = .ok (.iconst 0, 1) := by decide +kernel
theorem dX11_gathers_86 : decode cX11_gathers 86 = .ok (.invokevirtual 251, 3) := by decide +kernel
theorem dX11_gathers_89 : decode cX11_gathers 89 = .ok (.iload 7, 2) := by decide +kernel
theorem dX11_gathers_91 : decode cX11_gathers 91 = .ok (.if_icmp .eq 36, 3) := by decide +kernel
theorem dX11_gathers_94 : decode cX11_gathers 94 = .ok (.aload_n 0, 1) := by decide +kernel
theorem dX11_gathers_95 : decode cX11_gathers 95 = .ok (.iload_n 1, 1) := by decide +kernel
theorem dX11_gathers_96 : decode cX11_gathers 96 = .ok (.iconst 1, 1) := by decide +kernel
theorem dX11_gathers_97 : decode cX11_gathers 97 = .ok (.invokevirtual 251, 3) := by decide +kernel
theorem dX11_gathers_100 : decode cX11_gathers 100 = .ok (.iload 7, 2) := by decide +kernel
theorem dX11_gathers_102 : decode cX11_gathers 102 = .ok (.if_icmp .eq 25, 3) := by decide +kernel
theorem dX11_gathers_105 : decode cX11_gathers 105 = .ok (.aload_n 0, 1) := by decide +kernel
theorem dX11_gathers_106 : decode cX11_gathers 106 = .ok (.iload_n 1, 1) := by decide +kernel
theorem dX11_gathers_107 : decode cX11_gathers 107 = .ok (.iconst 2, 1) := by decide +kernel
theorem dX11_gathers_108 : decode cX11_gathers 108 = .ok (.invokevirtual 251, 3) := by decide +kernel
theorem dX11_gathers_111 : decode cX11_gathers 111 = .ok (.iload 7, 2) := by decide +kernel
theorem dX11_gathers_113 : decode cX11_gathers 113 = .ok (.if_icmp .eq 14, 3) := by decide +kernel
theorem dX11_gathers_116 : decode cX11_gathers 116 = .ok (.aload_n 0, 1) := by decide +kernel
theorem dX11_gathers_117 : decode cX11_gathers 117 = .ok (.iload_n 1, 1) := by decide +kernel
theorem dX11_gathers_118 : decode cX11_gathers 118 = .ok (.iconst 3, 1) := by decide +kernel
theorem dX11_gathers_119 : decode cX11_gathers 119 = .ok (.invokevirtual 251, 3) := by decide +kernel
theorem dX11_gathers_122 : decode cX11_gathers 122 = .ok (.iload 7, 2) := by decide +kernel
theorem dX11_gathers_124 : decode cX11_gathers 124 = .ok (.if_icmp .ne 7, 3) := by decide +kernel
theorem dX11_gathers_127 : decode cX11_gathers 127 = .ok (.iconst 1, 1) := by decide +kernel
theorem dX11_gathers_128 : decode cX11_gathers 128 = .ok (.goto 4, 3) := by decide +kernel
theorem dX11_gathers_131 : decode cX11_gathers 131 = .ok (.iconst 0, 1) := by decide +kernel
theorem dX11_gathers_132 : decode cX11_gathers 132 = .ok (.istore 8, 2) := by decide +kernel
theorem dX11_gathers_134 : decode cX11_gathers 134 = .ok (.iload 8, 2) := by decide +kernel
theorem dX11_gathers_136 : decode cX11_gathers 136 = .ok (.ifCond .eq 67, 3) := by decide +kernel
theorem dX11_gathers_139 : decode cX11_gathers 139 = .ok (.aload_n 0, 1) := by decide +kernel
theorem dX11_gathers_140 : decode cX11_gathers 140 = .ok (.aload_n 0, 1) := by decide +kernel
theorem dX11_gathers_141 : decode cX11_gathers 141 = .ok (.getfield 41, 3) := by decide +kernel
theorem dX11_gathers_144 : decode cX11_gathers 144 = .ok (.iload 7, 2) := by decide +kernel
theorem dX11_gathers_146 : decode cX11_gathers 146 = .ok (.invokevirtual 241, 3) := by decide +kernel
theorem dX11_gathers_149 : decode cX11_gathers 149 = .ok (.ifCond .eq 54, 3) := by decide +kernel
theorem dX11_gathers_152 : decode cX11_gathers 152 = .ok (.aload_n 0, 1) := by decide +kernel
theorem dX11_gathers_153 : decode cX11_gathers 153 = .ok (.getfield 83, 3) := by decide +kernel
theorem dX11_gathers_156 : decode cX11_gathers 156 = .ok (.iload_n 2, 1) := by decide +kernel
theorem dX11_gathers_157 : decode cX11_gathers 157 = .ok (.iload 7, 2) := by decide +kernel
theorem dX11_gathers_159 : decode cX11_gathers 159 = .ok (.iastore, 1) := by decide +kernel
theorem dX11_gathers_160 : decode cX11_gathers 160 = .ok (.aload_n 0, 1) := by decide +kernel
theorem dX11_gathers_161 : decode cX11_gathers 161 = .ok (.iload 7, 2) := by decide +kernel
theorem dX11_gathers_163 : decode cX11_gathers 163 = .ok (.iload_n 2, 1) := by decide +kernel
theorem dX11_gathers_164 : decode cX11_gathers 164 = .ok (.iconst 1, 1) := by decide +kernel
theorem dX11_gathers_165 : decode cX11_gathers 165 = .ok (.iadd, 1) := by decide +kernel
theorem dX11_gathers_166 : decode cX11_gathers 166 = .ok (.iload_n 3, 1) := by decide +kernel
theorem dX11_gathers_167 : decode cX11_gathers 167 = .ok (.lload 4, 2) := by decide +kernel
theorem dX11_gathers_169 : decode cX11_gathers 169 = .ok (.lconst 1, 1) := by decide +kernel
theorem dX11_gathers_170 : decode cX11_gathers 170 = .ok (.iload 7, 2) := by decide +kernel
theorem dX11_gathers_172 : decode cX11_gathers 172 = .ok (.lshl, 1) := by decide +kernel
theorem dX11_gathers_173 : decode cX11_gathers 173 = .ok (.lor, 1) := by decide +kernel
theorem dX11_gathers_174 : decode cX11_gathers 174 = .ok (.iload 6, 2) := by decide +kernel
theorem dX11_gathers_176 : decode cX11_gathers 176 = .ok (.lload 4, 2) := by decide +kernel
theorem dX11_gathers_178 : decode cX11_gathers 178 = .ok (.iload 7, 2) := by decide +kernel
theorem dX11_gathers_180 : decode cX11_gathers 180 = .ok (.lshr, 1) := by decide +kernel
theorem dX11_gathers_181 : decode cX11_gathers 181 = .ok (.lconst 1, 1) := by decide +kernel
theorem dX11_gathers_182 : decode cX11_gathers 182 = .ok (.land, 1) := by decide +kernel
theorem dX11_gathers_183 : decode cX11_gathers 183 = .ok (.lconst 1, 1) := by decide +kernel
theorem dX11_gathers_184 : decode cX11_gathers 184 = .ok (.lcmp, 1) := by decide +kernel
theorem dX11_gathers_185 : decode cX11_gathers 185 = .ok (.ifCond .ne 7, 3) := by decide +kernel
theorem dX11_gathers_188 : decode cX11_gathers 188 = .ok (.iconst 0, 1) := by decide +kernel
theorem dX11_gathers_189 : decode cX11_gathers 189 = .ok (.goto 10, 3) := by decide +kernel
theorem dX11_gathers_192 : decode cX11_gathers 192 = .ok (.aload_n 0, 1) := by decide +kernel
theorem dX11_gathers_193 : decode cX11_gathers 193 = .ok (.getfield 41, 3) := by decide +kernel
theorem dX11_gathers_196 : decode cX11_gathers 196 = .ok (.iload 7, 2) := by decide +kernel
theorem dX11_gathers_198 : decode cX11_gathers 198 = .ok (.iaload, 1) := by decide +kernel
theorem dX11_gathers_199 : decode cX11_gathers 199 = .ok (.iadd, 1) := by decide +kernel
theorem dX11_gathers_200 : decode cX11_gathers 200 = .ok (.invokevirtual 353, 3) := by decide +kernel
theorem dX11_gathers_203 : decode cX11_gathers 203 = .ok (.iinc 7 1, 3) := by decide +kernel
theorem dX11_gathers_206 : decode cX11_gathers 206 = .ok (.goto (-132), 3) := by decide +kernel
theorem dX11_gathers_209 : decode cX11_gathers 209 = .ok (.return_, 1) := by decide +kernel
theorem dX11_best_0 : decode cX11_best 0 = .ok (.aload_n 0, 1) := by decide +kernel
theorem dX11_best_1 : decode cX11_best 1 = .ok (.iconst 0, 1) := by decide +kernel
theorem dX11_best_2 : decode cX11_best 2 = .ok (.putfield 3, 3) := by decide +kernel
theorem dX11_best_5 : decode cX11_best 5 = .ok (.iload_n 1, 1) := by decide +kernel
theorem dX11_best_6 : decode cX11_best 6 = .ok (.i2l, 1) := by decide +kernel
theorem dX11_best_7 : decode cX11_best 7 = .ok (.lconst 0, 1) := by decide +kernel
theorem dX11_best_8 : decode cX11_best 8 = .ok (.ldc2_w 357, 3) := by decide +kernel
theorem dX11_best_11 : decode cX11_best 11 = .ok (.invokestatic 118, 3) := by decide +kernel
theorem dX11_best_14 : decode cX11_best 14 = .ok (.ifCond .ne 5, 3) := by decide +kernel
theorem dX11_best_17 : decode cX11_best 17 = .ok (.iconst (-1), 1) := by decide +kernel
theorem dX11_best_18 : decode cX11_best 18 = .ok (.ireturn, 1) := by decide +kernel
theorem dX11_best_19 : decode cX11_best 19 = .ok (.aload_n 0, 1) := by decide +kernel
theorem dX11_best_20 : decode cX11_best 20 = .ok (.iconst (-1), 1) := by decide +kernel
theorem dX11_best_21 : decode cX11_best 21 = .ok (.putfield 347, 3) := by decide +kernel
theorem dX11_best_24 : decode cX11_best 24 = .ok (.aload_n 0, 1) := by decide +kernel
theorem dX11_best_25 : decode cX11_best 25 = .ok (.iconst 0, 1) := by decide +kernel
theorem dX11_best_26 : decode cX11_best 26 = .ok (.putfield 350, 3) := by decide +kernel
theorem dX11_best_29 : decode cX11_best 29 = .ok (.aload_n 0, 1) := by decide +kernel
theorem dX11_best_30 : decode cX11_best 30 = .ok (.aload_n 0, 1) := by decide +kernel
theorem dX11_best_31 : decode cX11_best 31 = .ok (.getfield 41, 3) := by decide +kernel
theorem dX11_best_34 : decode cX11_best 34 = .ok (.bipush 72, 2) := by decide +kernel
theorem dX11_best_36 : decode cX11_best 36 = .ok (.iaload, 1) := by decide +kernel
theorem dX11_best_37 : decode cX11_best 37 = .ok (.iconst 0, 1) := by decide +kernel
theorem dX11_best_38 : decode cX11_best 38 = .ok (.iload_n 1, 1) := by decide +kernel
theorem dX11_best_39 : decode cX11_best 39 = .ok (.lconst 1, 1) := by decide +kernel
theorem dX11_best_40 : decode cX11_best 40 = .ok (.aload_n 0, 1) := by decide +kernel
theorem dX11_best_41 : decode cX11_best 41 = .ok (.getfield 41, 3) := by decide +kernel
theorem dX11_best_44 : decode cX11_best 44 = .ok (.bipush 72, 2) := by decide +kernel
theorem dX11_best_46 : decode cX11_best 46 = .ok (.iaload, 1) := by decide +kernel
theorem dX11_best_47 : decode cX11_best 47 = .ok (.lshl, 1) := by decide +kernel
theorem dX11_best_48 : decode cX11_best 48 = .ok (.iconst 0, 1) := by decide +kernel
theorem dX11_best_49 : decode cX11_best 49 = .ok (.invokevirtual 353, 3) := by decide +kernel
theorem dX11_best_52 : decode cX11_best 52 = .ok (.aload_n 0, 1) := by decide +kernel
theorem dX11_best_53 : decode cX11_best 53 = .ok (.iconst 0, 1) := by decide +kernel
theorem dX11_best_54 : decode cX11_best 54 = .ok (.putfield 15, 3) := by decide +kernel
theorem dX11_best_57 : decode cX11_best 57 = .ok (.iconst 0, 1) := by decide +kernel
theorem dX11_best_58 : decode cX11_best 58 = .ok (.istore_n 2, 1) := by decide +kernel
theorem dX11_best_59 : decode cX11_best 59 = .ok (.iload_n 2, 1) := by decide +kernel
theorem dX11_best_60 : decode cX11_best 60 = .ok (.aload_n 0, 1) := by decide +kernel
theorem dX11_best_61 : decode cX11_best 61 = .ok (.getfield 350, 3) := by decide +kernel
theorem dX11_best_64 : decode cX11_best 64 = .ok (.if_icmp .ge 20, 3) := by decide +kernel
theorem dX11_best_67 : decode cX11_best 67 = .ok (.aload_n 0, 1) := by decide +kernel
theorem dX11_best_68 : decode cX11_best 68 = .ok (.aload_n 0, 1) := by decide +kernel
theorem dX11_best_69 : decode cX11_best 69 = .ok (.getfield 86, 3) := by decide +kernel
theorem dX11_best_72 : decode cX11_best 72 = .ok (.iload_n 2, 1) := by decide +kernel
theorem dX11_best_73 : decode cX11_best 73 = .ok (.iaload, 1) := by decide +kernel
theorem dX11_best_74 : decode cX11_best 74 = .ok (.i2l, 1) := by decide +kernel
theorem dX11_best_75 : decode cX11_best 75 = .ok (.invokevirtual 18, 3) := by decide +kernel
theorem dX11_best_78 : decode cX11_best 78 = .ok (.iinc 2 1, 3) := by decide +kernel
theorem dX11_best_81 : decode cX11_best 81 = .ok (.goto (-22), 3) := by decide +kernel
theorem dX11_best_84 : decode cX11_best 84 = .ok (.aload_n 0, 1) := by decide +kernel
theorem dX11_best_85 : decode cX11_best 85 = .ok (.getfield 347, 3) := by decide +kernel
theorem dX11_best_88 : decode cX11_best 88 = .ok (.ireturn, 1) := by decide +kernel
theorem dX11_placeMany_0 : decode cX11_placeMany 0 = .ok (.iconst 0, 1) := by decide +kernel
theorem dX11_placeMany_1 : decode cX11_placeMany 1 = .ok (.istore_n 1, 1) := by decide +kernel
theorem dX11_placeMany_2 : decode cX11_placeMany 2 = .ok (.iconst 0, 1) := by decide +kernel
theorem dX11_placeMany_3 : decode cX11_placeMany 3 = .ok (.istore_n 2, 1) := by decide +kernel
theorem dX11_placeMany_4 : decode cX11_placeMany 4 = .ok (.iload_n 2, 1) := by decide +kernel
theorem dX11_placeMany_5 : decode cX11_placeMany 5 = .ok (.sipush 144, 3) := by decide +kernel
theorem dX11_placeMany_8 : decode cX11_placeMany 8 = .ok (.if_icmp .ge 21, 3) := by decide +kernel
theorem dX11_placeMany_11 : decode cX11_placeMany 11 = .ok (.iload_n 1, 1) := by decide +kernel
theorem dX11_placeMany_12 : decode cX11_placeMany 12 = .ok (.aload_n 0, 1) := by decide +kernel
theorem dX11_placeMany_13 : decode cX11_placeMany 13 = .ok (.getfield 92, 3) := by decide +kernel
theorem dX11_placeMany_16 : decode cX11_placeMany 16 = .ok (.iload_n 2, 1) := by decide +kernel
theorem dX11_placeMany_17 : decode cX11_placeMany 17 = .ok (.baload, 1) := by decide +kernel
theorem dX11_placeMany_18 : decode cX11_placeMany 18 = .ok (.invokestatic 122, 3) := by decide +kernel
theorem dX11_placeMany_21 : decode cX11_placeMany 21 = .ok (.iadd, 1) := by decide +kernel
theorem dX11_placeMany_22 : decode cX11_placeMany 22 = .ok (.istore_n 1, 1) := by decide +kernel
theorem dX11_placeMany_23 : decode cX11_placeMany 23 = .ok (.iinc 2 1, 3) := by decide +kernel
theorem dX11_placeMany_26 : decode cX11_placeMany 26 = .ok (.goto (-22), 3) := by decide +kernel
theorem dX11_placeMany_29 : decode cX11_placeMany 29 = .ok (.iload_n 1, 1) := by decide +kernel
theorem dX11_placeMany_30 : decode cX11_placeMany 30 = .ok (.ireturn, 1) := by decide +kernel
theorem dX11_goesBy_0 : decode cX11_goesBy 0 = .ok (.aload_n 0, 1) := by decide +kernel
theorem dX11_goesBy_1 : decode cX11_goesBy 1 = .ok (.iload_n 1, 1) := by decide +kernel
theorem dX11_goesBy_2 : decode cX11_goesBy 2 = .ok (.iconst 4, 1) := by decide +kernel
theorem dX11_goesBy_3 : decode cX11_goesBy 3 = .ok (.idiv, 1) := by decide +kernel
theorem dX11_goesBy_4 : decode cX11_goesBy 4 = .ok (.iload_n 1, 1) := by decide +kernel
theorem dX11_goesBy_5 : decode cX11_goesBy 5 = .ok (.iconst 4, 1) := by decide +kernel
theorem dX11_goesBy_6 : decode cX11_goesBy 6 = .ok (.irem, 1) := by decide +kernel
theorem dX11_goesBy_7 : decode cX11_goesBy 7 = .ok (.invokevirtual 251, 3) := by decide +kernel
theorem dX11_goesBy_10 : decode cX11_goesBy 10 = .ok (.istore_n 3, 1) := by decide +kernel
theorem dX11_goesBy_11 : decode cX11_goesBy 11 = .ok (.aload_n 0, 1) := by decide +kernel
theorem dX11_goesBy_12 : decode cX11_goesBy 12 = .ok (.aload_n 0, 1) := by decide +kernel
theorem dX11_goesBy_13 : decode cX11_goesBy 13 = .ok (.getfield 41, 3) := by decide +kernel
theorem dX11_goesBy_16 : decode cX11_goesBy 16 = .ok (.iload_n 3, 1) := by decide +kernel
theorem dX11_goesBy_17 : decode cX11_goesBy 17 = .ok (.invokevirtual 241, 3) := by decide +kernel
theorem dX11_goesBy_20 : decode cX11_goesBy 20 = .ok (.istore 4, 2) := by decide +kernel
theorem dX11_goesBy_22 : decode cX11_goesBy 22 = .ok (.iload_n 2, 1) := by decide +kernel
theorem dX11_goesBy_23 : decode cX11_goesBy 23 = .ok (.iconst 1, 1) := by decide +kernel
theorem dX11_goesBy_24 : decode cX11_goesBy 24 = .ok (.if_icmp .le 25, 3) := by decide +kernel
theorem dX11_goesBy_27 : decode cX11_goesBy 27 = .ok (.aload_n 0, 1) := by decide +kernel
theorem dX11_goesBy_28 : decode cX11_goesBy 28 = .ok (.getfield 96, 3) := by decide +kernel
theorem dX11_goesBy_31 : decode cX11_goesBy 31 = .ok (.iload_n 1, 1) := by decide +kernel
theorem dX11_goesBy_32 : decode cX11_goesBy 32 = .ok (.iconst 4, 1) := by decide +kernel
theorem dX11_goesBy_33 : decode cX11_goesBy 33 = .ok (.idiv, 1) := by decide +kernel
theorem dX11_goesBy_34 : decode cX11_goesBy 34 = .ok (.iconst 4, 1) := by decide +kernel
theorem dX11_goesBy_35 : decode cX11_goesBy 35 = .ok (.imul, 1) := by decide +kernel
theorem dX11_goesBy_36 : decode cX11_goesBy 36 = .ok (.iload_n 1, 1) := by decide +kernel
theorem dX11_goesBy_37 : decode cX11_goesBy 37 = .ok (.iload_n 2, 1) := by decide +kernel
theorem dX11_goesBy_38 : decode cX11_goesBy 38 = .ok (.iadd, 1) := by decide +kernel
theorem dX11_goesBy_39 : decode cX11_goesBy 39 = .ok (.iconst 1, 1) := by decide +kernel
theorem dX11_goesBy_40 : decode cX11_goesBy 40 = .ok (.isub, 1) := by decide +kernel
theorem dX11_goesBy_41 : decode cX11_goesBy 41 = .ok (.iconst 4, 1) := by decide +kernel
theorem dX11_goesBy_42 : decode cX11_goesBy 42 = .ok (.irem, 1) := by decide +kernel
theorem dX11_goesBy_43 : decode cX11_goesBy 43 = .ok (.iadd, 1) := by decide +kernel
theorem dX11_goesBy_44 : decode cX11_goesBy 44 = .ok (.iconst 1, 1) := by decide +kernel
theorem dX11_goesBy_45 : decode cX11_goesBy 45 = .ok (.bastore, 1) := by decide +kernel
theorem dX11_goesBy_46 : decode cX11_goesBy 46 = .ok (.goto 45, 3) := by decide +kernel
theorem dX11_goesBy_49 : decode cX11_goesBy 49 = .ok (.iload_n 2, 1) := by decide +kernel
theorem dX11_goesBy_50 : decode cX11_goesBy 50 = .ok (.iconst 1, 1) := by decide +kernel
theorem dX11_goesBy_51 : decode cX11_goesBy 51 = .ok (.if_icmp .ne 18, 3) := by decide +kernel
theorem dX11_goesBy_54 : decode cX11_goesBy 54 = .ok (.iload 4, 2) := by decide +kernel
theorem dX11_goesBy_56 : decode cX11_goesBy 56 = .ok (.ifCond .ne 13, 3) := by decide +kernel
theorem dX11_goesBy_59 : decode cX11_goesBy 59 = .ok (.aload_n 0, 1) := by decide +kernel
theorem dX11_goesBy_60 : decode cX11_goesBy 60 = .ok (.getfield 96, 3) := by decide +kernel
theorem dX11_goesBy_63 : decode cX11_goesBy 63 = .ok (.iload_n 1, 1) := by decide +kernel
theorem dX11_goesBy_64 : decode cX11_goesBy 64 = .ok (.iconst 1, 1) := by decide +kernel
theorem dX11_goesBy_65 : decode cX11_goesBy 65 = .ok (.bastore, 1) := by decide +kernel
theorem dX11_goesBy_66 : decode cX11_goesBy 66 = .ok (.goto 25, 3) := by decide +kernel
theorem dX11_goesBy_69 : decode cX11_goesBy 69 = .ok (.iload_n 2, 1) := by decide +kernel
theorem dX11_goesBy_70 : decode cX11_goesBy 70 = .ok (.ifCond .ne 21, 3) := by decide +kernel
theorem dX11_goesBy_73 : decode cX11_goesBy 73 = .ok (.iload 4, 2) := by decide +kernel
theorem dX11_goesBy_75 : decode cX11_goesBy 75 = .ok (.ifCond .eq 16, 3) := by decide +kernel
theorem dX11_goesBy_78 : decode cX11_goesBy 78 = .ok (.aload_n 0, 1) := by decide +kernel
theorem dX11_goesBy_79 : decode cX11_goesBy 79 = .ok (.getfield 96, 3) := by decide +kernel
theorem dX11_goesBy_82 : decode cX11_goesBy 82 = .ok (.iconst 4, 1) := by decide +kernel
theorem dX11_goesBy_83 : decode cX11_goesBy 83 = .ok (.iload_n 3, 1) := by decide +kernel
theorem dX11_goesBy_84 : decode cX11_goesBy 84 = .ok (.imul, 1) := by decide +kernel
theorem dX11_goesBy_85 : decode cX11_goesBy 85 = .ok (.iload_n 1, 1) := by decide +kernel
theorem dX11_goesBy_86 : decode cX11_goesBy 86 = .ok (.iconst 4, 1) := by decide +kernel
theorem dX11_goesBy_87 : decode cX11_goesBy 87 = .ok (.irem, 1) := by decide +kernel
theorem dX11_goesBy_88 : decode cX11_goesBy 88 = .ok (.iadd, 1) := by decide +kernel
theorem dX11_goesBy_89 : decode cX11_goesBy 89 = .ok (.iconst 1, 1) := by decide +kernel
theorem dX11_goesBy_90 : decode cX11_goesBy 90 = .ok (.bastore, 1) := by decide +kernel
theorem dX11_goesBy_91 : decode cX11_goesBy 91 = .ok (.return_, 1) := by decide +kernel
theorem dX11_laysPlaces_0 : decode cX11_laysPlaces 0 = .ok (.iconst 0, 1) := by decide +kernel
theorem dX11_laysPlaces_1 : decode cX11_laysPlaces 1 = .ok (.istore_n 1, 1) := by decide +kernel
theorem dX11_laysPlaces_2 : decode cX11_laysPlaces 2 = .ok (.iload_n 1, 1) := by decide +kernel
theorem dX11_laysPlaces_3 : decode cX11_laysPlaces 3 = .ok (.sipush 144, 3) := by decide +kernel
theorem dX11_laysPlaces_6 : decode cX11_laysPlaces 6 = .ok (.if_icmp .ge 26, 3) := by decide +kernel
theorem dX11_laysPlaces_9 : decode cX11_laysPlaces 9 = .ok (.aload_n 0, 1) := by decide +kernel
theorem dX11_laysPlaces_10 : decode cX11_laysPlaces 10 = .ok (.getfield 92, 3) := by decide +kernel
theorem dX11_laysPlaces_13 : decode cX11_laysPlaces 13 = .ok (.iload_n 1, 1) := by decide +kernel
theorem dX11_laysPlaces_14 : decode cX11_laysPlaces 14 = .ok (.aload_n 0, 1) := by decide +kernel
theorem dX11_laysPlaces_15 : decode cX11_laysPlaces 15 = .ok (.aload_n 0, 1) := by decide +kernel
theorem dX11_laysPlaces_16 : decode cX11_laysPlaces 16 = .ok (.getfield 41, 3) := by decide +kernel
theorem dX11_laysPlaces_19 : decode cX11_laysPlaces 19 = .ok (.iload_n 1, 1) := by decide +kernel
theorem dX11_laysPlaces_20 : decode cX11_laysPlaces 20 = .ok (.iconst 4, 1) := by decide +kernel
theorem dX11_laysPlaces_21 : decode cX11_laysPlaces 21 = .ok (.idiv, 1) := by decide +kernel
theorem dX11_laysPlaces_22 : decode cX11_laysPlaces 22 = .ok (.invokevirtual 241, 3) := by decide +kernel
theorem dX11_laysPlaces_25 : decode cX11_laysPlaces 25 = .ok (.bastore, 1) := by decide +kernel
theorem dX11_laysPlaces_26 : decode cX11_laysPlaces 26 = .ok (.iinc 1 1, 3) := by decide +kernel
theorem dX11_laysPlaces_29 : decode cX11_laysPlaces 29 = .ok (.goto (-27), 3) := by decide +kernel
theorem dX11_laysPlaces_32 : decode cX11_laysPlaces 32 = .ok (.iconst 0, 1) := by decide +kernel
theorem dX11_laysPlaces_33 : decode cX11_laysPlaces 33 = .ok (.istore_n 1, 1) := by decide +kernel
theorem dX11_laysPlaces_34 : decode cX11_laysPlaces 34 = .ok (.iload_n 1, 1) := by decide +kernel
theorem dX11_laysPlaces_35 : decode cX11_laysPlaces 35 = .ok (.aload_n 0, 1) := by decide +kernel
theorem dX11_laysPlaces_36 : decode cX11_laysPlaces 36 = .ok (.getfield 186, 3) := by decide +kernel
theorem dX11_laysPlaces_39 : decode cX11_laysPlaces 39 = .ok (.if_icmp .ge 93, 3) := by decide +kernel
theorem dX11_laysPlaces_42 : decode cX11_laysPlaces 42 = .ok (.iconst 0, 1) := by decide +kernel
theorem dX11_laysPlaces_43 : decode cX11_laysPlaces 43 = .ok (.istore_n 2, 1) := by decide +kernel
theorem dX11_laysPlaces_44 : decode cX11_laysPlaces 44 = .ok (.iload_n 2, 1) := by decide +kernel
theorem dX11_laysPlaces_45 : decode cX11_laysPlaces 45 = .ok (.sipush 144, 3) := by decide +kernel
theorem dX11_laysPlaces_48 : decode cX11_laysPlaces 48 = .ok (.if_icmp .ge 16, 3) := by decide +kernel
theorem dX11_laysPlaces_51 : decode cX11_laysPlaces 51 = .ok (.aload_n 0, 1) := by decide +kernel
theorem dX11_laysPlaces_52 : decode cX11_laysPlaces 52 = .ok (.getfield 96, 3) := by decide +kernel
theorem dX11_laysPlaces_55 : decode cX11_laysPlaces 55 = .ok (.iload_n 2, 1) := by decide +kernel
theorem dX11_laysPlaces_56 : decode cX11_laysPlaces 56 = .ok (.iconst 0, 1) := by decide +kernel
theorem dX11_laysPlaces_57 : decode cX11_laysPlaces 57 = .ok (.bastore, 1) := by decide +kernel
theorem dX11_laysPlaces_58 : decode cX11_laysPlaces 58 = .ok (.iinc 2 1, 3) := by decide +kernel
theorem dX11_laysPlaces_61 : decode cX11_laysPlaces 61 = .ok (.goto (-17), 3) := by decide +kernel
theorem dX11_laysPlaces_64 : decode cX11_laysPlaces 64 = .ok (.iconst 0, 1) := by decide +kernel
theorem dX11_laysPlaces_65 : decode cX11_laysPlaces 65 = .ok (.istore_n 2, 1) := by decide +kernel
theorem dX11_laysPlaces_66 : decode cX11_laysPlaces 66 = .ok (.iload_n 2, 1) := by decide +kernel
theorem dX11_laysPlaces_67 : decode cX11_laysPlaces 67 = .ok (.sipush 144, 3) := by decide +kernel
theorem dX11_laysPlaces_70 : decode cX11_laysPlaces 70 = .ok (.if_icmp .ge 29, 3) := by decide +kernel
theorem dX11_laysPlaces_73 : decode cX11_laysPlaces 73 = .ok (.aload_n 0, 1) := by decide +kernel
theorem dX11_laysPlaces_74 : decode cX11_laysPlaces 74 = .ok (.getfield 92, 3) := by decide +kernel
theorem dX11_laysPlaces_77 : decode cX11_laysPlaces 77 = .ok (.iload_n 2, 1) := by decide +kernel
theorem dX11_laysPlaces_78 : decode cX11_laysPlaces 78 = .ok (.baload, 1) := by decide +kernel
theorem dX11_laysPlaces_79 : decode cX11_laysPlaces 79 = .ok (.ifCond .eq 14, 3) := by decide +kernel
theorem dX11_laysPlaces_82 : decode cX11_laysPlaces 82 = .ok (.aload_n 0, 1) := by decide +kernel
theorem dX11_laysPlaces_83 : decode cX11_laysPlaces 83 = .ok (.iload_n 2, 1) := by decide +kernel
theorem dX11_laysPlaces_84 : decode cX11_laysPlaces 84 = .ok (.aload_n 0, 1) := by decide +kernel
theorem dX11_laysPlaces_85 : decode cX11_laysPlaces 85 = .ok (.getfield 89, 3) := by decide +kernel
theorem dX11_laysPlaces_88 : decode cX11_laysPlaces 88 = .ok (.iload_n 1, 1) := by decide +kernel
theorem dX11_laysPlaces_89 : decode cX11_laysPlaces 89 = .ok (.iaload, 1) := by decide +kernel
theorem dX11_laysPlaces_90 : decode cX11_laysPlaces 90 = .ok (.invokevirtual 359, 3) := by decide +kernel
theorem dX11_laysPlaces_93 : decode cX11_laysPlaces 93 = .ok (.iinc 2 1, 3) := by decide +kernel
theorem dX11_laysPlaces_96 : decode cX11_laysPlaces 96 = .ok (.goto (-30), 3) := by decide +kernel
theorem dX11_laysPlaces_99 : decode cX11_laysPlaces 99 = .ok (.iconst 0, 1) := by decide +kernel
theorem dX11_laysPlaces_100 : decode cX11_laysPlaces 100 = .ok (.istore_n 2, 1) := by decide +kernel
theorem dX11_laysPlaces_101 : decode cX11_laysPlaces 101 = .ok (.iload_n 2, 1) := by decide +kernel
theorem dX11_laysPlaces_102 : decode cX11_laysPlaces 102 = .ok (.sipush 144, 3) := by decide +kernel
theorem dX11_laysPlaces_105 : decode cX11_laysPlaces 105 = .ok (.if_icmp .ge 21, 3) := by decide +kernel
theorem dX11_laysPlaces_108 : decode cX11_laysPlaces 108 = .ok (.aload_n 0, 1) := by decide +kernel
theorem dX11_laysPlaces_109 : decode cX11_laysPlaces 109 = .ok (.getfield 92, 3) := by decide +kernel
theorem dX11_laysPlaces_112 : decode cX11_laysPlaces 112 = .ok (.iload_n 2, 1) := by decide +kernel
theorem dX11_laysPlaces_113 : decode cX11_laysPlaces 113 = .ok (.aload_n 0, 1) := by decide +kernel
theorem dX11_laysPlaces_114 : decode cX11_laysPlaces 114 = .ok (.getfield 96, 3) := by decide +kernel
theorem dX11_laysPlaces_117 : decode cX11_laysPlaces 117 = .ok (.iload_n 2, 1) := by decide +kernel
theorem dX11_laysPlaces_118 : decode cX11_laysPlaces 118 = .ok (.baload, 1) := by decide +kernel
theorem dX11_laysPlaces_119 : decode cX11_laysPlaces 119 = .ok (.bastore, 1) := by decide +kernel
theorem dX11_laysPlaces_120 : decode cX11_laysPlaces 120 = .ok (.iinc 2 1, 3) := by decide +kernel
theorem dX11_laysPlaces_123 : decode cX11_laysPlaces 123 = .ok (.goto (-22), 3) := by decide +kernel
theorem dX11_laysPlaces_126 : decode cX11_laysPlaces 126 = .ok (.iinc 1 1, 3) := by decide +kernel
theorem dX11_laysPlaces_129 : decode cX11_laysPlaces 129 = .ok (.goto (-95), 3) := by decide +kernel
theorem dX11_laysPlaces_132 : decode cX11_laysPlaces 132 = .ok (.return_, 1) := by decide +kernel
theorem dX11_feels_0 : decode cX11_feels 0 = .ok (.aload_n 0, 1) := by decide +kernel
theorem dX11_feels_1 : decode cX11_feels 1 = .ok (.getfield 89, 3) := by decide +kernel
theorem dX11_feels_4 : decode cX11_feels 4 = .ok (.aload_n 0, 1) := by decide +kernel
theorem dX11_feels_5 : decode cX11_feels 5 = .ok (.getfield 186, 3) := by decide +kernel
theorem dX11_feels_8 : decode cX11_feels 8 = .ok (.iload_n 1, 1) := by decide +kernel
theorem dX11_feels_9 : decode cX11_feels 9 = .ok (.iastore, 1) := by decide +kernel
theorem dX11_feels_10 : decode cX11_feels 10 = .ok (.aload_n 0, 1) := by decide +kernel
theorem dX11_feels_11 : decode cX11_feels 11 = .ok (.dup, 1) := by decide +kernel
theorem dX11_feels_12 : decode cX11_feels 12 = .ok (.getfield 186, 3) := by decide +kernel
theorem dX11_feels_15 : decode cX11_feels 15 = .ok (.iconst 1, 1) := by decide +kernel
theorem dX11_feels_16 : decode cX11_feels 16 = .ok (.iadd, 1) := by decide +kernel
theorem dX11_feels_17 : decode cX11_feels 17 = .ok (.putfield 186, 3) := by decide +kernel
theorem dX11_feels_20 : decode cX11_feels 20 = .ok (.aload_n 0, 1) := by decide +kernel
theorem dX11_feels_21 : decode cX11_feels 21 = .ok (.invokevirtual 363, 3) := by decide +kernel
theorem dX11_feels_24 : decode cX11_feels 24 = .ok (.aload_n 0, 1) := by decide +kernel
theorem dX11_feels_25 : decode cX11_feels 25 = .ok (.invokevirtual 366, 3) := by decide +kernel
theorem dX11_feels_28 : decode cX11_feels 28 = .ok (.ireturn, 1) := by decide +kernel
theorem dX11_felt_0 : decode cX11_felt 0 = .ok (.aload_n 0, 1) := by decide +kernel
theorem dX11_felt_1 : decode cX11_felt 1 = .ok (.iconst 0, 1) := by decide +kernel
theorem dX11_felt_2 : decode cX11_felt 2 = .ok (.putfield 3, 3) := by decide +kernel
theorem dX11_felt_5 : decode cX11_felt 5 = .ok (.iload_n 1, 1) := by decide +kernel
theorem dX11_felt_6 : decode cX11_felt 6 = .ok (.i2l, 1) := by decide +kernel
theorem dX11_felt_7 : decode cX11_felt 7 = .ok (.lconst 0, 1) := by decide +kernel
theorem dX11_felt_8 : decode cX11_felt 8 = .ok (.lconst 1, 1) := by decide +kernel
theorem dX11_felt_9 : decode cX11_felt 9 = .ok (.invokestatic 118, 3) := by decide +kernel
theorem dX11_felt_12 : decode cX11_felt 12 = .ok (.ifCond .eq 20, 3) := by decide +kernel
theorem dX11_felt_15 : decode cX11_felt 15 = .ok (.aload_n 0, 1) := by decide +kernel
theorem dX11_felt_16 : decode cX11_felt 16 = .ok (.getfield 186, 3) := by decide +kernel
theorem dX11_felt_19 : decode cX11_felt 19 = .ok (.bipush 12, 2) := by decide +kernel
theorem dX11_felt_21 : decode cX11_felt 21 = .ok (.if_icmp .ge 11, 3) := by decide +kernel
theorem dX11_felt_24 : decode cX11_felt 24 = .ok (.aload_n 0, 1) := by decide +kernel
theorem dX11_felt_25 : decode cX11_felt 25 = .ok (.iload_n 1, 1) := by decide +kernel
theorem dX11_felt_26 : decode cX11_felt 26 = .ok (.invokevirtual 369, 3) := by decide +kernel
theorem dX11_felt_29 : decode cX11_felt 29 = .ok (.goto 4, 3) := by decide +kernel
theorem dX11_felt_32 : decode cX11_felt 32 = .ok (.iconst (-1), 1) := by decide +kernel
theorem dX11_felt_33 : decode cX11_felt 33 = .ok (.ireturn, 1) := by decide +kernel
theorem dX11_swung_0 : decode cX11_swung 0 = .ok (.aload_n 0, 1) := by decide +kernel
theorem dX11_swung_1 : decode cX11_swung 1 = .ok (.iconst 0, 1) := by decide +kernel
theorem dX11_swung_2 : decode cX11_swung 2 = .ok (.putfield 3, 3) := by decide +kernel
theorem dX11_swung_5 : decode cX11_swung 5 = .ok (.iload_n 1, 1) := by decide +kernel
theorem dX11_swung_6 : decode cX11_swung 6 = .ok (.i2l, 1) := by decide +kernel
theorem dX11_swung_7 : decode cX11_swung 7 = .ok (.lconst 1, 1) := by decide +kernel
theorem dX11_swung_8 : decode cX11_swung 8 = .ok (.ldc2_w 254, 3) := by decide +kernel
theorem dX11_swung_11 : decode cX11_swung 11 = .ok (.invokestatic 118, 3) := by decide +kernel
theorem dX11_swung_14 : decode cX11_swung 14 = .ok (.ifCond .eq 22, 3) := by decide +kernel
theorem dX11_swung_17 : decode cX11_swung 17 = .ok (.aload_n 0, 1) := by decide +kernel
theorem dX11_swung_18 : decode cX11_swung 18 = .ok (.getfield 186, 3) := by decide +kernel
theorem dX11_swung_21 : decode cX11_swung 21 = .ok (.bipush 12, 2) := by decide +kernel
theorem dX11_swung_23 : decode cX11_swung 23 = .ok (.if_icmp .ge 13, 3) := by decide +kernel
theorem dX11_swung_26 : decode cX11_swung 26 = .ok (.aload_n 0, 1) := by decide +kernel
theorem dX11_swung_27 : decode cX11_swung 27 = .ok (.iconst 1, 1) := by decide +kernel
theorem dX11_swung_28 : decode cX11_swung 28 = .ok (.iload_n 1, 1) := by decide +kernel
theorem dX11_swung_29 : decode cX11_swung 29 = .ok (.iadd, 1) := by decide +kernel
theorem dX11_swung_30 : decode cX11_swung 30 = .ok (.invokevirtual 369, 3) := by decide +kernel
theorem dX11_swung_33 : decode cX11_swung 33 = .ok (.goto 4, 3) := by decide +kernel
theorem dX11_swung_36 : decode cX11_swung 36 = .ok (.iconst (-1), 1) := by decide +kernel
theorem dX11_swung_37 : decode cX11_swung 37 = .ok (.ireturn, 1) := by decide +kernel
theorem dX11_forget_0 : decode cX11_forget 0 = .ok (.aload_n 0, 1) := by decide +kernel
theorem dX11_forget_1 : decode cX11_forget 1 = .ok (.iconst 0, 1) := by decide +kernel
theorem dX11_forget_2 : decode cX11_forget 2 = .ok (.putfield 3, 3) := by decide +kernel
theorem dX11_forget_5 : decode cX11_forget 5 = .ok (.aload_n 0, 1) := by decide +kernel
theorem dX11_forget_6 : decode cX11_forget 6 = .ok (.getfield 186, 3) := by decide +kernel
theorem dX11_forget_9 : decode cX11_forget 9 = .ok (.istore_n 1, 1) := by decide +kernel
theorem dX11_forget_10 : decode cX11_forget 10 = .ok (.aload_n 0, 1) := by decide +kernel
theorem dX11_forget_11 : decode cX11_forget 11 = .ok (.iconst 0, 1) := by decide +kernel
theorem dX11_forget_12 : decode cX11_forget 12 = .ok (.putfield 186, 3) := by decide +kernel
theorem dX11_forget_15 : decode cX11_forget 15 = .ok (.iload_n 1, 1) := by decide +kernel
theorem dX11_forget_16 : decode cX11_forget 16 = .ok (.ireturn, 1) := by decide +kernel
