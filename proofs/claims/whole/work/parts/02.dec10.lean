theorem dX11_held_0 : decode cX11_held 0 = .ok (.aload_n 0, 1) := by decide +kernel
theorem dX11_held_1 : decode cX11_held 1 = .ok (.iconst 0, 1) := by decide +kernel
theorem dX11_held_2 : decode cX11_held 2 = .ok (.putfield 3, 3) := by decide +kernel
theorem dX11_held_5 : decode cX11_held 5 = .ok (.aload_n 0, 1) := by decide +kernel
theorem dX11_held_6 : decode cX11_held 6 = .ok (.invokevirtual 363, 3) := by decide +kernel
theorem dX11_held_9 : decode cX11_held 9 = .ok (.lconst 0, 1) := by decide +kernel
theorem dX11_held_10 : decode cX11_held 10 = .ok (.lstore_n 1, 1) := by decide +kernel
theorem dX11_held_11 : decode cX11_held 11 = .ok (.iconst 0, 1) := by decide +kernel
theorem dX11_held_12 : decode cX11_held 12 = .ok (.istore_n 3, 1) := by decide +kernel
theorem dX11_held_13 : decode cX11_held 13 = .ok (.iload_n 3, 1) := by decide +kernel
theorem dX11_held_14 : decode cX11_held 14 = .ok (.sipush 144, 3) := by decide +kernel
theorem dX11_held_17 : decode cX11_held 17 = .ok (.if_icmp .ge 30, 3) := by decide +kernel
theorem dX11_held_20 : decode cX11_held 20 = .ok (.lload_n 1, 1) := by decide +kernel
theorem dX11_held_21 : decode cX11_held 21 = .ok (.aload_n 0, 1) := by decide +kernel
theorem dX11_held_22 : decode cX11_held 22 = .ok (.getfield 92, 3) := by decide +kernel
theorem dX11_held_25 : decode cX11_held 25 = .ok (.iload_n 3, 1) := by decide +kernel
theorem dX11_held_26 : decode cX11_held 26 = .ok (.baload, 1) := by decide +kernel
theorem dX11_held_27 : decode cX11_held 27 = .ok (.ifCond .eq 11, 3) := by decide +kernel
theorem dX11_held_30 : decode cX11_held 30 = .ok (.lconst 1, 1) := by decide +kernel
theorem dX11_held_31 : decode cX11_held 31 = .ok (.iload_n 3, 1) := by decide +kernel
theorem dX11_held_32 : decode cX11_held 32 = .ok (.iconst 4, 1) := by decide +kernel
theorem dX11_held_33 : decode cX11_held 33 = .ok (.idiv, 1) := by decide +kernel
theorem dX11_held_34 : decode cX11_held 34 = .ok (.lshl, 1) := by decide +kernel
theorem dX11_held_35 : decode cX11_held 35 = .ok (.goto 4, 3) := by decide +kernel
theorem dX11_held_38 : decode cX11_held 38 = .ok (.lconst 0, 1) := by decide +kernel
theorem dX11_held_39 : decode cX11_held 39 = .ok (.lor, 1) := by decide +kernel
theorem dX11_held_40 : decode cX11_held 40 = .ok (.lstore_n 1, 1) := by decide +kernel
theorem dX11_held_41 : decode cX11_held 41 = .ok (.iinc 3 1, 3) := by decide +kernel
theorem dX11_held_44 : decode cX11_held 44 = .ok (.goto (-31), 3) := by decide +kernel
theorem dX11_held_47 : decode cX11_held 47 = .ok (.aload_n 0, 1) := by decide +kernel
theorem dX11_held_48 : decode cX11_held 48 = .ok (.iconst 0, 1) := by decide +kernel
theorem dX11_held_49 : decode cX11_held 49 = .ok (.putfield 15, 3) := by decide +kernel
theorem dX11_held_52 : decode cX11_held 52 = .ok (.aload_n 0, 1) := by decide +kernel
theorem dX11_held_53 : decode cX11_held 53 = .ok (.lload_n 1, 1) := by decide +kernel
theorem dX11_held_54 : decode cX11_held 54 = .ok (.invokevirtual 18, 3) := by decide +kernel
theorem dX11_held_57 : decode cX11_held 57 = .ok (.aload_n 0, 1) := by decide +kernel
theorem dX11_held_58 : decode cX11_held 58 = .ok (.aload_n 0, 1) := by decide +kernel
theorem dX11_held_59 : decode cX11_held 59 = .ok (.invokevirtual 366, 3) := by decide +kernel
theorem dX11_held_62 : decode cX11_held 62 = .ok (.i2l, 1) := by decide +kernel
theorem dX11_held_63 : decode cX11_held 63 = .ok (.invokevirtual 18, 3) := by decide +kernel
theorem dX11_held_66 : decode cX11_held 66 = .ok (.lload_n 1, 1) := by decide +kernel
theorem dX11_held_67 : decode cX11_held 67 = .ok (.invokestatic 320, 3) := by decide +kernel
theorem dX11_held_70 : decode cX11_held 70 = .ok (.ireturn, 1) := by decide +kernel
theorem dX11_feel_0 : decode cX11_feel 0 = .ok (.aload_n 0, 1) := by decide +kernel
theorem dX11_feel_1 : decode cX11_feel 1 = .ok (.iconst 0, 1) := by decide +kernel
theorem dX11_feel_2 : decode cX11_feel 2 = .ok (.putfield 3, 3) := by decide +kernel
theorem dX11_feel_5 : decode cX11_feel 5 = .ok (.aload_n 0, 1) := by decide +kernel
theorem dX11_feel_6 : decode cX11_feel 6 = .ok (.invokevirtual 363, 3) := by decide +kernel
theorem dX11_feel_9 : decode cX11_feel 9 = .ok (.aload_n 0, 1) := by decide +kernel
theorem dX11_feel_10 : decode cX11_feel 10 = .ok (.invokevirtual 366, 3) := by decide +kernel
theorem dX11_feel_13 : decode cX11_feel 13 = .ok (.ifCond .ne 6, 3) := by decide +kernel
theorem dX11_feel_16 : decode cX11_feel 16 = .ok (.bipush (-2), 2) := by decide +kernel
theorem dX11_feel_18 : decode cX11_feel 18 = .ok (.ireturn, 1) := by decide +kernel
theorem dX11_feel_19 : decode cX11_feel 19 = .ok (.iconst (-1), 1) := by decide +kernel
theorem dX11_feel_20 : decode cX11_feel 20 = .ok (.istore_n 1, 1) := by decide +kernel
theorem dX11_feel_21 : decode cX11_feel 21 = .ok (.ldc_w 339, 3) := by decide +kernel
theorem dX11_feel_24 : decode cX11_feel 24 = .ok (.istore_n 2, 1) := by decide +kernel
theorem dX11_feel_25 : decode cX11_feel 25 = .ok (.iconst 0, 1) := by decide +kernel
theorem dX11_feel_26 : decode cX11_feel 26 = .ok (.istore_n 3, 1) := by decide +kernel
theorem dX11_feel_27 : decode cX11_feel 27 = .ok (.iload_n 3, 1) := by decide +kernel
theorem dX11_feel_28 : decode cX11_feel 28 = .ok (.iconst 4, 1) := by decide +kernel
theorem dX11_feel_29 : decode cX11_feel 29 = .ok (.if_icmp .ge 110, 3) := by decide +kernel
theorem dX11_feel_32 : decode cX11_feel 32 = .ok (.iconst 0, 1) := by decide +kernel
theorem dX11_feel_33 : decode cX11_feel 33 = .ok (.istore 4, 2) := by decide +kernel
theorem dX11_feel_35 : decode cX11_feel 35 = .ok (.iconst 0, 1) := by decide +kernel
theorem dX11_feel_36 : decode cX11_feel 36 = .ok (.istore 5, 2) := by decide +kernel
theorem dX11_feel_38 : decode cX11_feel 38 = .ok (.iload 5, 2) := by decide +kernel
theorem dX11_feel_40 : decode cX11_feel 40 = .ok (.sipush 144, 3) := by decide +kernel
theorem dX11_feel_43 : decode cX11_feel 43 = .ok (.if_icmp .ge 57, 3) := by decide +kernel
theorem dX11_feel_46 : decode cX11_feel 46 = .ok (.iload 4, 2) := by decide +kernel
theorem dX11_feel_48 : decode cX11_feel 48 = .ok (.aload_n 0, 1) := by decide +kernel
theorem dX11_feel_49 : decode cX11_feel 49 = .ok (.getfield 92, 3) := by decide +kernel
theorem dX11_feel_52 : decode cX11_feel 52 = .ok (.iload 5, 2) := by decide +kernel
theorem dX11_feel_54 : decode cX11_feel 54 = .ok (.baload, 1) := by decide +kernel
theorem dX11_feel_55 : decode cX11_feel 55 = .ok (.ifCond .eq 32, 3) := by decide +kernel
theorem dX11_feel_58 : decode cX11_feel 58 = .ok (.aload_n 0, 1) := by decide +kernel
theorem dX11_feel_59 : decode cX11_feel 59 = .ok (.aload_n 0, 1) := by decide +kernel
theorem dX11_feel_60 : decode cX11_feel 60 = .ok (.getfield 41, 3) := by decide +kernel
theorem dX11_feel_63 : decode cX11_feel 63 = .ok (.aload_n 0, 1) := by decide +kernel
theorem dX11_feel_64 : decode cX11_feel 64 = .ok (.iload 5, 2) := by decide +kernel
theorem dX11_feel_66 : decode cX11_feel 66 = .ok (.iconst 4, 1) := by decide +kernel
theorem dX11_feel_67 : decode cX11_feel 67 = .ok (.idiv, 1) := by decide +kernel
theorem dX11_feel_68 : decode cX11_feel 68 = .ok (.iload 5, 2) := by decide +kernel
theorem dX11_feel_70 : decode cX11_feel 70 = .ok (.iload_n 3, 1) := by decide +kernel
theorem dX11_feel_71 : decode cX11_feel 71 = .ok (.iadd, 1) := by decide +kernel
theorem dX11_feel_72 : decode cX11_feel 72 = .ok (.iconst 4, 1) := by decide +kernel
theorem dX11_feel_73 : decode cX11_feel 73 = .ok (.irem, 1) := by decide +kernel
theorem dX11_feel_74 : decode cX11_feel 74 = .ok (.invokevirtual 251, 3) := by decide +kernel
theorem dX11_feel_77 : decode cX11_feel 77 = .ok (.invokevirtual 241, 3) := by decide +kernel
theorem dX11_feel_80 : decode cX11_feel 80 = .ok (.ifCond .eq 7, 3) := by decide +kernel
theorem dX11_feel_83 : decode cX11_feel 83 = .ok (.iconst 1, 1) := by decide +kernel
theorem dX11_feel_84 : decode cX11_feel 84 = .ok (.goto 4, 3) := by decide +kernel
theorem dX11_feel_87 : decode cX11_feel 87 = .ok (.iconst 0, 1) := by decide +kernel
theorem dX11_feel_88 : decode cX11_feel 88 = .ok (.invokestatic 122, 3) := by decide +kernel
theorem dX11_feel_91 : decode cX11_feel 91 = .ok (.iadd, 1) := by decide +kernel
theorem dX11_feel_92 : decode cX11_feel 92 = .ok (.istore 4, 2) := by decide +kernel
theorem dX11_feel_94 : decode cX11_feel 94 = .ok (.iinc 5 1, 3) := by decide +kernel
theorem dX11_feel_97 : decode cX11_feel 97 = .ok (.goto (-59), 3) := by decide +kernel
theorem dX11_feel_100 : decode cX11_feel 100 = .ok (.iload 4, 2) := by decide +kernel
theorem dX11_feel_102 : decode cX11_feel 102 = .ok (.aload_n 0, 1) := by decide +kernel
theorem dX11_feel_103 : decode cX11_feel 103 = .ok (.invokevirtual 366, 3) := by decide +kernel
theorem dX11_feel_106 : decode cX11_feel 106 = .ok (.iload 4, 2) := by decide +kernel
theorem dX11_feel_108 : decode cX11_feel 108 = .ok (.isub, 1) := by decide +kernel
theorem dX11_feel_109 : decode cX11_feel 109 = .ok (.invokestatic 256, 3) := by decide +kernel
theorem dX11_feel_112 : decode cX11_feel 112 = .ok (.istore 5, 2) := by decide +kernel
theorem dX11_feel_114 : decode cX11_feel 114 = .ok (.iload 5, 2) := by decide +kernel
theorem dX11_feel_116 : decode cX11_feel 116 = .ok (.iload_n 2, 1) := by decide +kernel
theorem dX11_feel_117 : decode cX11_feel 117 = .ok (.if_icmp .ge 7, 3) := by decide +kernel
theorem dX11_feel_120 : decode cX11_feel 120 = .ok (.iload_n 3, 1) := by decide +kernel
theorem dX11_feel_121 : decode cX11_feel 121 = .ok (.goto 4, 3) := by decide +kernel
theorem dX11_feel_124 : decode cX11_feel 124 = .ok (.iload_n 1, 1) := by decide +kernel
theorem dX11_feel_125 : decode cX11_feel 125 = .ok (.istore_n 1, 1) := by decide +kernel
theorem dX11_feel_126 : decode cX11_feel 126 = .ok (.iload_n 2, 1) := by decide +kernel
theorem dX11_feel_127 : decode cX11_feel 127 = .ok (.iload 5, 2) := by decide +kernel
theorem dX11_feel_129 : decode cX11_feel 129 = .ok (.invokestatic 135, 3) := by decide +kernel
theorem dX11_feel_132 : decode cX11_feel 132 = .ok (.istore_n 2, 1) := by decide +kernel
theorem dX11_feel_133 : decode cX11_feel 133 = .ok (.iinc 3 1, 3) := by decide +kernel
theorem dX11_feel_136 : decode cX11_feel 136 = .ok (.goto (-109), 3) := by decide +kernel
theorem dX11_feel_139 : decode cX11_feel 139 = .ok (.aload_n 0, 1) := by decide +kernel
theorem dX11_feel_140 : decode cX11_feel 140 = .ok (.iconst 0, 1) := by decide +kernel
theorem dX11_feel_141 : decode cX11_feel 141 = .ok (.putfield 15, 3) := by decide +kernel
theorem dX11_feel_144 : decode cX11_feel 144 = .ok (.aload_n 0, 1) := by decide +kernel
theorem dX11_feel_145 : decode cX11_feel 145 = .ok (.iload_n 2, 1) := by decide +kernel
theorem dX11_feel_146 : decode cX11_feel 146 = .ok (.i2l, 1) := by decide +kernel
theorem dX11_feel_147 : decode cX11_feel 147 = .ok (.invokevirtual 18, 3) := by decide +kernel
theorem dX11_feel_150 : decode cX11_feel 150 = .ok (.iload_n 1, 1) := by decide +kernel
theorem dX11_feel_151 : decode cX11_feel 151 = .ok (.ireturn, 1) := by decide +kernel
theorem dX11_likely_0 : decode cX11_likely 0 = .ok (.aload_n 0, 1) := by decide +kernel
theorem dX11_likely_1 : decode cX11_likely 1 = .ok (.iconst 0, 1) := by decide +kernel
theorem dX11_likely_2 : decode cX11_likely 2 = .ok (.putfield 3, 3) := by decide +kernel
theorem dX11_likely_5 : decode cX11_likely 5 = .ok (.iload_n 1, 1) := by decide +kernel
theorem dX11_likely_6 : decode cX11_likely 6 = .ok (.i2l, 1) := by decide +kernel
theorem dX11_likely_7 : decode cX11_likely 7 = .ok (.lconst 0, 1) := by decide +kernel
theorem dX11_likely_8 : decode cX11_likely 8 = .ok (.ldc2_w 372, 3) := by decide +kernel
theorem dX11_likely_11 : decode cX11_likely 11 = .ok (.invokestatic 118, 3) := by decide +kernel
theorem dX11_likely_14 : decode cX11_likely 14 = .ok (.ifCond .eq 11, 3) := by decide +kernel
theorem dX11_likely_17 : decode cX11_likely 17 = .ok (.aload_n 0, 1) := by decide +kernel
theorem dX11_likely_18 : decode cX11_likely 18 = .ok (.iload_n 2, 1) := by decide +kernel
theorem dX11_likely_19 : decode cX11_likely 19 = .ok (.invokevirtual 233, 3) := by decide +kernel
theorem dX11_likely_22 : decode cX11_likely 22 = .ok (.ifCond .ne 5, 3) := by decide +kernel
theorem dX11_likely_25 : decode cX11_likely 25 = .ok (.iconst (-1), 1) := by decide +kernel
theorem dX11_likely_26 : decode cX11_likely 26 = .ok (.ireturn, 1) := by decide +kernel
theorem dX11_likely_27 : decode cX11_likely 27 = .ok (.iconst 0, 1) := by decide +kernel
theorem dX11_likely_28 : decode cX11_likely 28 = .ok (.istore_n 3, 1) := by decide +kernel
theorem dX11_likely_29 : decode cX11_likely 29 = .ok (.iload_n 3, 1) := by decide +kernel
theorem dX11_likely_30 : decode cX11_likely 30 = .ok (.bipush 36, 2) := by decide +kernel
theorem dX11_likely_32 : decode cX11_likely 32 = .ok (.if_icmp .ge 35, 3) := by decide +kernel
theorem dX11_likely_35 : decode cX11_likely 35 = .ok (.aload_n 0, 1) := by decide +kernel
theorem dX11_likely_36 : decode cX11_likely 36 = .ok (.getfield 99, 3) := by decide +kernel
theorem dX11_likely_39 : decode cX11_likely 39 = .ok (.iload_n 3, 1) := by decide +kernel
theorem dX11_likely_40 : decode cX11_likely 40 = .ok (.iload_n 3, 1) := by decide +kernel
theorem dX11_likely_41 : decode cX11_likely 41 = .ok (.aload_n 0, 1) := by decide +kernel
theorem dX11_likely_42 : decode cX11_likely 42 = .ok (.getfield 41, 3) := by decide +kernel
theorem dX11_likely_45 : decode cX11_likely 45 = .ok (.bipush 72, 2) := by decide +kernel
theorem dX11_likely_47 : decode cX11_likely 47 = .ok (.iaload, 1) := by decide +kernel
theorem dX11_likely_48 : decode cX11_likely 48 = .ok (.if_icmp .ne 7, 3) := by decide +kernel
theorem dX11_likely_51 : decode cX11_likely 51 = .ok (.iconst 1, 1) := by decide +kernel
theorem dX11_likely_52 : decode cX11_likely 52 = .ok (.goto 4, 3) := by decide +kernel
theorem dX11_likely_55 : decode cX11_likely 55 = .ok (.iconst 0, 1) := by decide +kernel
theorem dX11_likely_56 : decode cX11_likely 56 = .ok (.invokestatic 122, 3) := by decide +kernel
theorem dX11_likely_59 : decode cX11_likely 59 = .ok (.i2l, 1) := by decide +kernel
theorem dX11_likely_60 : decode cX11_likely 60 = .ok (.lastore, 1) := by decide +kernel
theorem dX11_likely_61 : decode cX11_likely 61 = .ok (.iinc 3 1, 3) := by decide +kernel
theorem dX11_likely_64 : decode cX11_likely 64 = .ok (.goto (-35), 3) := by decide +kernel
theorem dX11_likely_67 : decode cX11_likely 67 = .ok (.lconst 1, 1) := by decide +kernel
theorem dX11_likely_68 : decode cX11_likely 68 = .ok (.lstore_n 3, 1) := by decide +kernel
theorem dX11_likely_69 : decode cX11_likely 69 = .ok (.iconst 0, 1) := by decide +kernel
theorem dX11_likely_70 : decode cX11_likely 70 = .ok (.istore 5, 2) := by decide +kernel
theorem dX11_likely_72 : decode cX11_likely 72 = .ok (.iload 5, 2) := by decide +kernel
theorem dX11_likely_74 : decode cX11_likely 74 = .ok (.iload_n 1, 1) := by decide +kernel
theorem dX11_likely_75 : decode cX11_likely 75 = .ok (.if_icmp .ge 147, 3) := by decide +kernel
theorem dX11_likely_78 : decode cX11_likely 78 = .ok (.iconst 0, 1) := by decide +kernel
theorem dX11_likely_79 : decode cX11_likely 79 = .ok (.istore 6, 2) := by decide +kernel
theorem dX11_likely_81 : decode cX11_likely 81 = .ok (.iload 6, 2) := by decide +kernel
theorem dX11_likely_83 : decode cX11_likely 83 = .ok (.bipush 36, 2) := by decide +kernel
theorem dX11_likely_85 : decode cX11_likely 85 = .ok (.if_icmp .ge 17, 3) := by decide +kernel
theorem dX11_likely_88 : decode cX11_likely 88 = .ok (.aload_n 0, 1) := by decide +kernel
theorem dX11_likely_89 : decode cX11_likely 89 = .ok (.getfield 102, 3) := by decide +kernel
theorem dX11_likely_92 : decode cX11_likely 92 = .ok (.iload 6, 2) := by decide +kernel
theorem dX11_likely_94 : decode cX11_likely 94 = .ok (.lconst 0, 1) := by decide +kernel
theorem dX11_likely_95 : decode cX11_likely 95 = .ok (.lastore, 1) := by decide +kernel
theorem dX11_likely_96 : decode cX11_likely 96 = .ok (.iinc 6 1, 3) := by decide +kernel
theorem dX11_likely_99 : decode cX11_likely 99 = .ok (.goto (-18), 3) := by decide +kernel
theorem dX11_likely_102 : decode cX11_likely 102 = .ok (.iconst 0, 1) := by decide +kernel
theorem dX11_likely_103 : decode cX11_likely 103 = .ok (.istore 6, 2) := by decide +kernel
theorem dX11_likely_105 : decode cX11_likely 105 = .ok (.iload 6, 2) := by decide +kernel
theorem dX11_likely_107 : decode cX11_likely 107 = .ok (.aload_n 0, 1) := by decide +kernel
theorem dX11_likely_108 : decode cX11_likely 108 = .ok (.invokevirtual 114, 3) := by decide +kernel
theorem dX11_likely_111 : decode cX11_likely 111 = .ok (.if_icmp .ge 69, 3) := by decide +kernel
theorem dX11_likely_114 : decode cX11_likely 114 = .ok (.iconst 0, 1) := by decide +kernel
theorem dX11_likely_115 : decode cX11_likely 115 = .ok (.istore 7, 2) := by decide +kernel
theorem dX11_likely_117 : decode cX11_likely 117 = .ok (.iload 7, 2) := by decide +kernel
theorem dX11_likely_119 : decode cX11_likely 119 = .ok (.iconst 4, 1) := by decide +kernel
theorem dX11_likely_120 : decode cX11_likely 120 = .ok (.if_icmp .ge 54, 3) := by decide +kernel
theorem dX11_likely_123 : decode cX11_likely 123 = .ok (.aload_n 0, 1) := by decide +kernel
theorem dX11_likely_124 : decode cX11_likely 124 = .ok (.iload 6, 2) := by decide +kernel
theorem dX11_likely_126 : decode cX11_likely 126 = .ok (.iload 7, 2) := by decide +kernel
theorem dX11_likely_128 : decode cX11_likely 128 = .ok (.invokevirtual 251, 3) := by decide +kernel
theorem dX11_likely_131 : decode cX11_likely 131 = .ok (.istore 8, 2) := by decide +kernel
theorem dX11_likely_133 : decode cX11_likely 133 = .ok (.aload_n 0, 1) := by decide +kernel
theorem dX11_likely_134 : decode cX11_likely 134 = .ok (.getfield 102, 3) := by decide +kernel
theorem dX11_likely_137 : decode cX11_likely 137 = .ok (.aload_n 0, 1) := by decide +kernel
theorem dX11_likely_138 : decode cX11_likely 138 = .ok (.aload_n 0, 1) := by decide +kernel
theorem dX11_likely_139 : decode cX11_likely 139 = .ok (.getfield 41, 3) := by decide +kernel
theorem dX11_likely_142 : decode cX11_likely 142 = .ok (.iload 8, 2) := by decide +kernel
theorem dX11_likely_144 : decode cX11_likely 144 = .ok (.invokevirtual 241, 3) := by decide +kernel
theorem dX11_likely_147 : decode cX11_likely 147 = .ok (.ifCond .eq 8, 3) := by decide +kernel
theorem dX11_likely_150 : decode cX11_likely 150 = .ok (.iload 8, 2) := by decide +kernel
theorem dX11_likely_152 : decode cX11_likely 152 = .ok (.goto 5, 3) := by decide +kernel
theorem dX11_likely_155 : decode cX11_likely 155 = .ok (.iload 6, 2) := by decide +kernel
theorem dX11_likely_157 : decode cX11_likely 157 = .ok (.dup2, 1) := by decide +kernel
theorem dX11_likely_158 : decode cX11_likely 158 = .ok (.laload, 1) := by decide +kernel
theorem dX11_likely_159 : decode cX11_likely 159 = .ok (.aload_n 0, 1) := by decide +kernel
theorem dX11_likely_160 : decode cX11_likely 160 = .ok (.getfield 99, 3) := by decide +kernel
theorem dX11_likely_163 : decode cX11_likely 163 = .ok (.iload 6, 2) := by decide +kernel
theorem dX11_likely_165 : decode cX11_likely 165 = .ok (.laload, 1) := by decide +kernel
theorem dX11_likely_166 : decode cX11_likely 166 = .ok (.ladd, 1) := by decide +kernel
theorem dX11_likely_167 : decode cX11_likely 167 = .ok (.lastore, 1) := by decide +kernel
theorem dX11_likely_168 : decode cX11_likely 168 = .ok (.iinc 7 1, 3) := by decide +kernel
theorem dX11_likely_171 : decode cX11_likely 171 = .ok (.goto (-54), 3) := by decide +kernel
theorem dX11_likely_174 : decode cX11_likely 174 = .ok (.iinc 6 1, 3) := by decide +kernel
theorem dX11_likely_177 : decode cX11_likely 177 = .ok (.goto (-72), 3) := by decide +kernel
theorem dX11_likely_180 : decode cX11_likely 180 = .ok (.iconst 0, 1) := by decide +kernel
theorem dX11_likely_181 : decode cX11_likely 181 = .ok (.istore 6, 2) := by decide +kernel
theorem dX11_likely_183 : decode cX11_likely 183 = .ok (.iload 6, 2) := by decide +kernel
theorem dX11_likely_185 : decode cX11_likely 185 = .ok (.bipush 36, 2) := by decide +kernel
theorem dX11_likely_187 : decode cX11_likely 187 = .ok (.if_icmp .ge 23, 3) := by decide +kernel
theorem dX11_likely_190 : decode cX11_likely 190 = .ok (.aload_n 0, 1) := by decide +kernel
theorem dX11_likely_191 : decode cX11_likely 191 = .ok (.getfield 99, 3) := by decide +kernel
theorem dX11_likely_194 : decode cX11_likely 194 = .ok (.iload 6, 2) := by decide +kernel
theorem dX11_likely_196 : decode cX11_likely 196 = .ok (.aload_n 0, 1) := by decide +kernel
theorem dX11_likely_197 : decode cX11_likely 197 = .ok (.getfield 102, 3) := by decide +kernel
theorem dX11_likely_200 : decode cX11_likely 200 = .ok (.iload 6, 2) := by decide +kernel
theorem dX11_likely_202 : decode cX11_likely 202 = .ok (.laload, 1) := by decide +kernel
theorem dX11_likely_203 : decode cX11_likely 203 = .ok (.lastore, 1) := by decide +kernel
theorem dX11_likely_204 : decode cX11_likely 204 = .ok (.iinc 6 1, 3) := by decide +kernel
theorem dX11_likely_207 : decode cX11_likely 207 = .ok (.goto (-24), 3) := by decide +kernel
theorem dX11_likely_210 : decode cX11_likely 210 = .ok (.lload_n 3, 1) := by decide +kernel
theorem dX11_likely_211 : decode cX11_likely 211 = .ok (.ldc2_w 374, 3) := by decide +kernel
theorem dX11_likely_214 : decode cX11_likely 214 = .ok (.lmul, 1) := by decide +kernel
theorem dX11_likely_215 : decode cX11_likely 215 = .ok (.lstore_n 3, 1) := by decide +kernel
theorem dX11_likely_216 : decode cX11_likely 216 = .ok (.iinc 5 1, 3) := by decide +kernel
theorem dX11_likely_219 : decode cX11_likely 219 = .ok (.goto (-147), 3) := by decide +kernel
theorem dX11_likely_222 : decode cX11_likely 222 = .ok (.aload_n 0, 1) := by decide +kernel
theorem dX11_likely_223 : decode cX11_likely 223 = .ok (.aload_n 0, 1) := by decide +kernel
theorem dX11_likely_224 : decode cX11_likely 224 = .ok (.getfield 99, 3) := by decide +kernel
theorem dX11_likely_227 : decode cX11_likely 227 = .ok (.iload_n 2, 1) := by decide +kernel
theorem dX11_likely_228 : decode cX11_likely 228 = .ok (.laload, 1) := by decide +kernel
theorem dX11_likely_229 : decode cX11_likely 229 = .ok (.lload_n 3, 1) := by decide +kernel
theorem dX11_likely_230 : decode cX11_likely 230 = .ok (.invokevirtual 376, 3) := by decide +kernel
theorem dX11_likely_233 : decode cX11_likely 233 = .ok (.iconst 0, 1) := by decide +kernel
theorem dX11_likely_234 : decode cX11_likely 234 = .ok (.ireturn, 1) := by decide +kernel
theorem dX11_week_0 : decode cX11_week 0 = .ok (.aload_n 0, 1) := by decide +kernel
theorem dX11_week_1 : decode cX11_week 1 = .ok (.iconst 0, 1) := by decide +kernel
theorem dX11_week_2 : decode cX11_week 2 = .ok (.putfield 3, 3) := by decide +kernel
theorem dX11_week_5 : decode cX11_week 5 = .ok (.iload_n 1, 1) := by decide +kernel
theorem dX11_week_6 : decode cX11_week 6 = .ok (.i2l, 1) := by decide +kernel
theorem dX11_week_7 : decode cX11_week 7 = .ok (.lconst 0, 1) := by decide +kernel
theorem dX11_week_8 : decode cX11_week 8 = .ok (.ldc2_w 245, 3) := by decide +kernel
theorem dX11_week_11 : decode cX11_week 11 = .ok (.invokestatic 118, 3) := by decide +kernel
theorem dX11_week_14 : decode cX11_week 14 = .ok (.ifCond .eq 15, 3) := by decide +kernel
theorem dX11_week_17 : decode cX11_week 17 = .ok (.iload_n 2, 1) := by decide +kernel
theorem dX11_week_18 : decode cX11_week 18 = .ok (.i2l, 1) := by decide +kernel
theorem dX11_week_19 : decode cX11_week 19 = .ok (.lconst 1, 1) := by decide +kernel
theorem dX11_week_20 : decode cX11_week 20 = .ok (.ldc2_w 380, 3) := by decide +kernel
theorem dX11_week_23 : decode cX11_week 23 = .ok (.invokestatic 118, 3) := by decide +kernel
theorem dX11_week_26 : decode cX11_week 26 = .ok (.ifCond .ne 5, 3) := by decide +kernel
theorem dX11_week_29 : decode cX11_week 29 = .ok (.iconst (-1), 1) := by decide +kernel
theorem dX11_week_30 : decode cX11_week 30 = .ok (.ireturn, 1) := by decide +kernel
theorem dX11_week_31 : decode cX11_week 31 = .ok (.iconst (-1), 1) := by decide +kernel
theorem dX11_week_32 : decode cX11_week 32 = .ok (.istore_n 3, 1) := by decide +kernel
theorem dX11_week_33 : decode cX11_week 33 = .ok (.ldc_w 339, 3) := by decide +kernel
theorem dX11_week_36 : decode cX11_week 36 = .ok (.istore 4, 2) := by decide +kernel
theorem dX11_week_38 : decode cX11_week 38 = .ok (.iconst 0, 1) := by decide +kernel
theorem dX11_week_39 : decode cX11_week 39 = .ok (.istore 5, 2) := by decide +kernel
theorem dX11_week_41 : decode cX11_week 41 = .ok (.iload 5, 2) := by decide +kernel
theorem dX11_week_43 : decode cX11_week 43 = .ok (.sipush 128, 3) := by decide +kernel
theorem dX11_week_46 : decode cX11_week 46 = .ok (.if_icmp .ge 108, 3) := by decide +kernel
theorem dX11_week_49 : decode cX11_week 49 = .ok (.iconst 0, 1) := by decide +kernel
theorem dX11_week_50 : decode cX11_week 50 = .ok (.istore 6, 2) := by decide +kernel
theorem dX11_week_52 : decode cX11_week 52 = .ok (.iconst 0, 1) := by decide +kernel
theorem dX11_week_53 : decode cX11_week 53 = .ok (.istore 7, 2) := by decide +kernel
theorem dX11_week_55 : decode cX11_week 55 = .ok (.iconst 0, 1) := by decide +kernel
theorem dX11_week_56 : decode cX11_week 56 = .ok (.istore 8, 2) := by decide +kernel
theorem dX11_week_58 : decode cX11_week 58 = .ok (.iload 8, 2) := by decide +kernel
theorem dX11_week_60 : decode cX11_week 60 = .ok (.bipush 7, 2) := by decide +kernel
theorem dX11_week_62 : decode cX11_week 62 = .ok (.if_icmp .ge 37, 3) := by decide +kernel
theorem dX11_week_65 : decode cX11_week 65 = .ok (.iload 5, 2) := by decide +kernel
theorem dX11_week_67 : decode cX11_week 67 = .ok (.iload 8, 2) := by decide +kernel
theorem dX11_week_69 : decode cX11_week 69 = .ok (.ishr, 1) := by decide +kernel
theorem dX11_week_70 : decode cX11_week 70 = .ok (.iconst 1, 1) := by decide +kernel
theorem dX11_week_71 : decode cX11_week 71 = .ok (.iand, 1) := by decide +kernel
theorem dX11_week_72 : decode cX11_week 72 = .ok (.iconst 1, 1) := by decide +kernel
theorem dX11_week_73 : decode cX11_week 73 = .ok (.if_icmp .ne 7, 3) := by decide +kernel
theorem dX11_week_76 : decode cX11_week 76 = .ok (.iconst 0, 1) := by decide +kernel
theorem dX11_week_77 : decode cX11_week 77 = .ok (.goto 7, 3) := by decide +kernel
theorem dX11_week_80 : decode cX11_week 80 = .ok (.iload 6, 2) := by decide +kernel
theorem dX11_week_82 : decode cX11_week 82 = .ok (.iload_n 2, 1) := by decide +kernel
theorem dX11_week_83 : decode cX11_week 83 = .ok (.iadd, 1) := by decide +kernel
theorem dX11_week_84 : decode cX11_week 84 = .ok (.istore 6, 2) := by decide +kernel
theorem dX11_week_86 : decode cX11_week 86 = .ok (.iload 7, 2) := by decide +kernel
theorem dX11_week_88 : decode cX11_week 88 = .ok (.iload 6, 2) := by decide +kernel
theorem dX11_week_90 : decode cX11_week 90 = .ok (.iadd, 1) := by decide +kernel
theorem dX11_week_91 : decode cX11_week 91 = .ok (.istore 7, 2) := by decide +kernel
theorem dX11_week_93 : decode cX11_week 93 = .ok (.iinc 8 1, 3) := by decide +kernel
theorem dX11_week_96 : decode cX11_week 96 = .ok (.goto (-38), 3) := by decide +kernel
theorem dX11_week_99 : decode cX11_week 99 = .ok (.iload 5, 2) := by decide +kernel
theorem dX11_week_101 : decode cX11_week 101 = .ok (.invokestatic 382, 3) := by decide +kernel
theorem dX11_week_104 : decode cX11_week 104 = .ok (.iload_n 1, 1) := by decide +kernel
theorem dX11_week_105 : decode cX11_week 105 = .ok (.if_icmp .ne 14, 3) := by decide +kernel
theorem dX11_week_108 : decode cX11_week 108 = .ok (.iload 7, 2) := by decide +kernel
theorem dX11_week_110 : decode cX11_week 110 = .ok (.iload 4, 2) := by decide +kernel
theorem dX11_week_112 : decode cX11_week 112 = .ok (.if_icmp .ge 7, 3) := by decide +kernel
theorem dX11_week_115 : decode cX11_week 115 = .ok (.iconst 1, 1) := by decide +kernel
theorem dX11_week_116 : decode cX11_week 116 = .ok (.goto 4, 3) := by decide +kernel
theorem dX11_week_119 : decode cX11_week 119 = .ok (.iconst 0, 1) := by decide +kernel
theorem dX11_week_120 : decode cX11_week 120 = .ok (.istore 8, 2) := by decide +kernel
theorem dX11_week_122 : decode cX11_week 122 = .ok (.iload 8, 2) := by decide +kernel
theorem dX11_week_124 : decode cX11_week 124 = .ok (.ifCond .eq 8, 3) := by decide +kernel
theorem dX11_week_127 : decode cX11_week 127 = .ok (.iload 5, 2) := by decide +kernel
theorem dX11_week_129 : decode cX11_week 129 = .ok (.goto 4, 3) := by decide +kernel
theorem dX11_week_132 : decode cX11_week 132 = .ok (.iload_n 3, 1) := by decide +kernel
theorem dX11_week_133 : decode cX11_week 133 = .ok (.istore_n 3, 1) := by decide +kernel
theorem dX11_week_134 : decode cX11_week 134 = .ok (.iload 8, 2) := by decide +kernel
theorem dX11_week_136 : decode cX11_week 136 = .ok (.ifCond .eq 8, 3) := by decide +kernel
theorem dX11_week_139 : decode cX11_week 139 = .ok (.iload 7, 2) := by decide +kernel
theorem dX11_week_141 : decode cX11_week 141 = .ok (.goto 5, 3) := by decide +kernel
theorem dX11_week_144 : decode cX11_week 144 = .ok (.iload 4, 2) := by decide +kernel
theorem dX11_week_146 : decode cX11_week 146 = .ok (.istore 4, 2) := by decide +kernel
theorem dX11_week_148 : decode cX11_week 148 = .ok (.iinc 5 1, 3) := by decide +kernel
theorem dX11_week_151 : decode cX11_week 151 = .ok (.goto (-110), 3) := by decide +kernel
theorem dX11_week_154 : decode cX11_week 154 = .ok (.aload_n 0, 1) := by decide +kernel
theorem dX11_week_155 : decode cX11_week 155 = .ok (.iconst 0, 1) := by decide +kernel
theorem dX11_week_156 : decode cX11_week 156 = .ok (.putfield 15, 3) := by decide +kernel
theorem dX11_week_159 : decode cX11_week 159 = .ok (.aload_n 0, 1) := by decide +kernel
theorem dX11_week_160 : decode cX11_week 160 = .ok (.iload_n 3, 1) := by decide +kernel
theorem dX11_week_161 : decode cX11_week 161 = .ok (.i2l, 1) := by decide +kernel
theorem dX11_week_162 : decode cX11_week 162 = .ok (.invokevirtual 18, 3) := by decide +kernel
theorem dX11_week_165 : decode cX11_week 165 = .ok (.iload 4, 2) := by decide +kernel
theorem dX11_week_167 : decode cX11_week 167 = .ok (.ireturn, 1) := by decide +kernel
theorem dX11_turnedTo_0 : decode cX11_turnedTo 0 = .ok (.iload_n 1, 1) := by decide +kernel
theorem dX11_turnedTo_1 : decode cX11_turnedTo 1 = .ok (.aload_n 0, 1) := by decide +kernel
theorem dX11_turnedTo_2 : decode cX11_turnedTo 2 = .ok (.getfield 31, 3) := by decide +kernel
theorem dX11_turnedTo_5 : decode cX11_turnedTo 5 = .ok (.idiv, 1) := by decide +kernel
theorem dX11_turnedTo_6 : decode cX11_turnedTo 6 = .ok (.istore_n 3, 1) := by decide +kernel
theorem dX11_turnedTo_7 : decode cX11_turnedTo 7 = .ok (.iload_n 1, 1) := by decide +kernel
theorem dX11_turnedTo_8 : decode cX11_turnedTo 8 = .ok (.aload_n 0, 1) := by decide +kernel
theorem dX11_turnedTo_9 : decode cX11_turnedTo 9 = .ok (.getfield 31, 3) := by decide +kernel
theorem dX11_turnedTo_12 : decode cX11_turnedTo 12 = .ok (.irem, 1) := by decide +kernel
theorem dX11_turnedTo_13 : decode cX11_turnedTo 13 = .ok (.istore 4, 2) := by decide +kernel
theorem dX11_turnedTo_15 : decode cX11_turnedTo 15 = .ok (.iload_n 2, 1) := by decide +kernel
theorem dX11_turnedTo_16 : decode cX11_turnedTo 16 = .ok (.tableswitch 86 1 3 #[28, 45, 69], 28) := by decide +kernel
theorem dX11_turnedTo_44 : decode cX11_turnedTo 44 = .ok (.iload 4, 2) := by decide +kernel
theorem dX11_turnedTo_46 : decode cX11_turnedTo 46 = .ok (.aload_n 0, 1) := by decide +kernel
theorem dX11_turnedTo_47 : decode cX11_turnedTo 47 = .ok (.getfield 31, 3) := by decide +kernel
theorem dX11_turnedTo_50 : decode cX11_turnedTo 50 = .ok (.imul, 1) := by decide +kernel
theorem dX11_turnedTo_51 : decode cX11_turnedTo 51 = .ok (.aload_n 0, 1) := by decide +kernel
theorem dX11_turnedTo_52 : decode cX11_turnedTo 52 = .ok (.getfield 31, 3) := by decide +kernel
theorem dX11_turnedTo_55 : decode cX11_turnedTo 55 = .ok (.iadd, 1) := by decide +kernel
theorem dX11_turnedTo_56 : decode cX11_turnedTo 56 = .ok (.iconst 1, 1) := by decide +kernel
theorem dX11_turnedTo_57 : decode cX11_turnedTo 57 = .ok (.isub, 1) := by decide +kernel
theorem dX11_turnedTo_58 : decode cX11_turnedTo 58 = .ok (.iload_n 3, 1) := by decide +kernel
theorem dX11_turnedTo_59 : decode cX11_turnedTo 59 = .ok (.isub, 1) := by decide +kernel
theorem dX11_turnedTo_60 : decode cX11_turnedTo 60 = .ok (.ireturn, 1) := by decide +kernel
theorem dX11_turnedTo_61 : decode cX11_turnedTo 61 = .ok (.aload_n 0, 1) := by decide +kernel
theorem dX11_turnedTo_62 : decode cX11_turnedTo 62 = .ok (.getfield 28, 3) := by decide +kernel
theorem dX11_turnedTo_65 : decode cX11_turnedTo 65 = .ok (.iconst 1, 1) := by decide +kernel
theorem dX11_turnedTo_66 : decode cX11_turnedTo 66 = .ok (.isub, 1) := by decide +kernel
theorem dX11_turnedTo_67 : decode cX11_turnedTo 67 = .ok (.iload_n 3, 1) := by decide +kernel
theorem dX11_turnedTo_68 : decode cX11_turnedTo 68 = .ok (.isub, 1) := by decide +kernel
theorem dX11_turnedTo_69 : decode cX11_turnedTo 69 = .ok (.aload_n 0, 1) := by decide +kernel
theorem dX11_turnedTo_70 : decode cX11_turnedTo 70 = .ok (.getfield 31, 3) := by decide +kernel
theorem dX11_turnedTo_73 : decode cX11_turnedTo 73 = .ok (.imul, 1) := by decide +kernel
theorem dX11_turnedTo_74 : decode cX11_turnedTo 74 = .ok (.aload_n 0, 1) := by decide +kernel
theorem dX11_turnedTo_75 : decode cX11_turnedTo 75 = .ok (.getfield 31, 3) := by decide +kernel
theorem dX11_turnedTo_78 : decode cX11_turnedTo 78 = .ok (.iadd, 1) := by decide +kernel
theorem dX11_turnedTo_79 : decode cX11_turnedTo 79 = .ok (.iconst 1, 1) := by decide +kernel
theorem dX11_turnedTo_80 : decode cX11_turnedTo 80 = .ok (.isub, 1) := by decide +kernel
theorem dX11_turnedTo_81 : decode cX11_turnedTo 81 = .ok (.iload 4, 2) := by decide +kernel
theorem dX11_turnedTo_83 : decode cX11_turnedTo 83 = .ok (.isub, 1) := by decide +kernel
theorem dX11_turnedTo_84 : decode cX11_turnedTo 84 = .ok (.ireturn, 1) := by decide +kernel
theorem dX11_turnedTo_85 : decode cX11_turnedTo 85 = .ok (.aload_n 0, 1) := by decide +kernel
theorem dX11_turnedTo_86 : decode cX11_turnedTo 86 = .ok (.getfield 31, 3) := by decide +kernel
theorem dX11_turnedTo_89 : decode cX11_turnedTo 89 = .ok (.iconst 1, 1) := by decide +kernel
theorem dX11_turnedTo_90 : decode cX11_turnedTo 90 = .ok (.isub, 1) := by decide +kernel
theorem dX11_turnedTo_91 : decode cX11_turnedTo 91 = .ok (.iload 4, 2) := by decide +kernel
theorem dX11_turnedTo_93 : decode cX11_turnedTo 93 = .ok (.isub, 1) := by decide +kernel
theorem dX11_turnedTo_94 : decode cX11_turnedTo 94 = .ok (.aload_n 0, 1) := by decide +kernel
theorem dX11_turnedTo_95 : decode cX11_turnedTo 95 = .ok (.getfield 31, 3) := by decide +kernel
theorem dX11_turnedTo_98 : decode cX11_turnedTo 98 = .ok (.imul, 1) := by decide +kernel
theorem dX11_turnedTo_99 : decode cX11_turnedTo 99 = .ok (.iload_n 3, 1) := by decide +kernel
theorem dX11_turnedTo_100 : decode cX11_turnedTo 100 = .ok (.iadd, 1) := by decide +kernel
theorem dX11_turnedTo_101 : decode cX11_turnedTo 101 = .ok (.ireturn, 1) := by decide +kernel
theorem dX11_turnedTo_102 : decode cX11_turnedTo 102 = .ok (.iload_n 3, 1) := by decide +kernel
theorem dX11_turnedTo_103 : decode cX11_turnedTo 103 = .ok (.aload_n 0, 1) := by decide +kernel
theorem dX11_turnedTo_104 : decode cX11_turnedTo 104 = .ok (.getfield 31, 3) := by decide +kernel
theorem dX11_turnedTo_107 : decode cX11_turnedTo 107 = .ok (.imul, 1) := by decide +kernel
theorem dX11_turnedTo_108 : decode cX11_turnedTo 108 = .ok (.aload_n 0, 1) := by decide +kernel
theorem dX11_turnedTo_109 : decode cX11_turnedTo 109 = .ok (.getfield 31, 3) := by decide +kernel
theorem dX11_turnedTo_112 : decode cX11_turnedTo 112 = .ok (.iadd, 1) := by decide +kernel
theorem dX11_turnedTo_113 : decode cX11_turnedTo 113 = .ok (.iconst 1, 1) := by decide +kernel
theorem dX11_turnedTo_114 : decode cX11_turnedTo 114 = .ok (.isub, 1) := by decide +kernel
theorem dX11_turnedTo_115 : decode cX11_turnedTo 115 = .ok (.iload 4, 2) := by decide +kernel
theorem dX11_turnedTo_117 : decode cX11_turnedTo 117 = .ok (.isub, 1) := by decide +kernel
theorem dX11_turnedTo_118 : decode cX11_turnedTo 118 = .ok (.ireturn, 1) := by decide +kernel
theorem dX11_looksSame_0 : decode cX11_looksSame 0 = .ok (.iload_n 1, 1) := by decide +kernel
theorem dX11_looksSame_1 : decode cX11_looksSame 1 = .ok (.iconst 2, 1) := by decide +kernel
theorem dX11_looksSame_2 : decode cX11_looksSame 2 = .ok (.irem, 1) := by decide +kernel
theorem dX11_looksSame_3 : decode cX11_looksSame 3 = .ok (.ifCond .eq 14, 3) := by decide +kernel
theorem dX11_looksSame_6 : decode cX11_looksSame 6 = .ok (.aload_n 0, 1) := by decide +kernel
theorem dX11_looksSame_7 : decode cX11_looksSame 7 = .ok (.getfield 28, 3) := by decide +kernel
theorem dX11_looksSame_10 : decode cX11_looksSame 10 = .ok (.aload_n 0, 1) := by decide +kernel
theorem dX11_looksSame_11 : decode cX11_looksSame 11 = .ok (.getfield 31, 3) := by decide +kernel
theorem dX11_looksSame_14 : decode cX11_looksSame 14 = .ok (.if_icmp .ne 7, 3) := by decide +kernel
theorem dX11_looksSame_17 : decode cX11_looksSame 17 = .ok (.iconst 1, 1) := by decide +kernel
theorem dX11_looksSame_18 : decode cX11_looksSame 18 = .ok (.goto 4, 3) := by decide +kernel
theorem dX11_looksSame_21 : decode cX11_looksSame 21 = .ok (.iconst 0, 1) := by decide +kernel
theorem dX11_looksSame_22 : decode cX11_looksSame 22 = .ok (.istore_n 2, 1) := by decide +kernel
theorem dX11_looksSame_23 : decode cX11_looksSame 23 = .ok (.iconst 0, 1) := by decide +kernel
theorem dX11_looksSame_24 : decode cX11_looksSame 24 = .ok (.istore_n 3, 1) := by decide +kernel
theorem dX11_looksSame_25 : decode cX11_looksSame 25 = .ok (.iload_n 3, 1) := by decide +kernel
theorem dX11_looksSame_26 : decode cX11_looksSame 26 = .ok (.aload_n 0, 1) := by decide +kernel
theorem dX11_looksSame_27 : decode cX11_looksSame 27 = .ok (.invokevirtual 114, 3) := by decide +kernel
theorem dX11_looksSame_30 : decode cX11_looksSame 30 = .ok (.if_icmp .ge 39, 3) := by decide +kernel
theorem dX11_looksSame_33 : decode cX11_looksSame 33 = .ok (.iload_n 2, 1) := by decide +kernel
theorem dX11_looksSame_34 : decode cX11_looksSame 34 = .ok (.ifCond .eq 35, 3) := by decide +kernel
theorem dX11_looksSame_37 : decode cX11_looksSame 37 = .ok (.aload_n 0, 1) := by decide +kernel
theorem dX11_looksSame_38 : decode cX11_looksSame 38 = .ok (.getfield 37, 3) := by decide +kernel
theorem dX11_looksSame_41 : decode cX11_looksSame 41 = .ok (.iload_n 3, 1) := by decide +kernel
theorem dX11_looksSame_42 : decode cX11_looksSame 42 = .ok (.iaload, 1) := by decide +kernel
theorem dX11_looksSame_43 : decode cX11_looksSame 43 = .ok (.aload_n 0, 1) := by decide +kernel
theorem dX11_looksSame_44 : decode cX11_looksSame 44 = .ok (.getfield 37, 3) := by decide +kernel
theorem dX11_looksSame_47 : decode cX11_looksSame 47 = .ok (.aload_n 0, 1) := by decide +kernel
theorem dX11_looksSame_48 : decode cX11_looksSame 48 = .ok (.iload_n 3, 1) := by decide +kernel
theorem dX11_looksSame_49 : decode cX11_looksSame 49 = .ok (.iload_n 1, 1) := by decide +kernel
theorem dX11_looksSame_50 : decode cX11_looksSame 50 = .ok (.invokevirtual 386, 3) := by decide +kernel
theorem dX11_looksSame_53 : decode cX11_looksSame 53 = .ok (.iaload, 1) := by decide +kernel
theorem dX11_looksSame_54 : decode cX11_looksSame 54 = .ok (.if_icmp .ne 7, 3) := by decide +kernel
theorem dX11_looksSame_57 : decode cX11_looksSame 57 = .ok (.iconst 1, 1) := by decide +kernel
theorem dX11_looksSame_58 : decode cX11_looksSame 58 = .ok (.goto 4, 3) := by decide +kernel
theorem dX11_looksSame_61 : decode cX11_looksSame 61 = .ok (.iconst 0, 1) := by decide +kernel
theorem dX11_looksSame_62 : decode cX11_looksSame 62 = .ok (.istore_n 2, 1) := by decide +kernel
theorem dX11_looksSame_63 : decode cX11_looksSame 63 = .ok (.iinc 3 1, 3) := by decide +kernel
theorem dX11_looksSame_66 : decode cX11_looksSame 66 = .ok (.goto (-41), 3) := by decide +kernel
theorem dX11_looksSame_69 : decode cX11_looksSame 69 = .ok (.iload_n 2, 1) := by decide +kernel
theorem dX11_looksSame_70 : decode cX11_looksSame 70 = .ok (.ireturn, 1) := by decide +kernel
theorem dX11_looks_0 : decode cX11_looks 0 = .ok (.aload_n 0, 1) := by decide +kernel
theorem dX11_looks_1 : decode cX11_looks 1 = .ok (.iconst 0, 1) := by decide +kernel
theorem dX11_looks_2 : decode cX11_looks 2 = .ok (.putfield 3, 3) := by decide +kernel
theorem dX11_looks_5 : decode cX11_looks 5 = .ok (.iconst 0, 1) := by decide +kernel
theorem dX11_looks_6 : decode cX11_looks 6 = .ok (.istore_n 1, 1) := by decide +kernel
theorem dX11_looks_7 : decode cX11_looks 7 = .ok (.iconst 1, 1) := by decide +kernel
theorem dX11_looks_8 : decode cX11_looks 8 = .ok (.istore_n 2, 1) := by decide +kernel
theorem dX11_looks_9 : decode cX11_looks 9 = .ok (.iload_n 2, 1) := by decide +kernel
theorem dX11_looks_10 : decode cX11_looks 10 = .ok (.iconst 3, 1) := by decide +kernel
theorem dX11_looks_11 : decode cX11_looks 11 = .ok (.if_icmp .gt 27, 3) := by decide +kernel
theorem dX11_looks_14 : decode cX11_looks 14 = .ok (.iload_n 1, 1) := by decide +kernel
theorem dX11_looks_15 : decode cX11_looks 15 = .ok (.aload_n 0, 1) := by decide +kernel
theorem dX11_looks_16 : decode cX11_looks 16 = .ok (.iload_n 2, 1) := by decide +kernel
theorem dX11_looks_17 : decode cX11_looks 17 = .ok (.invokevirtual 389, 3) := by decide +kernel
theorem dX11_looks_20 : decode cX11_looks 20 = .ok (.ifCond .eq 9, 3) := by decide +kernel
theorem dX11_looks_23 : decode cX11_looks 23 = .ok (.iconst 1, 1) := by decide +kernel
theorem dX11_looks_24 : decode cX11_looks 24 = .ok (.iload_n 2, 1) := by decide +kernel
theorem dX11_looks_25 : decode cX11_looks 25 = .ok (.ishl, 1) := by decide +kernel
theorem dX11_looks_26 : decode cX11_looks 26 = .ok (.goto 4, 3) := by decide +kernel
theorem dX11_looks_29 : decode cX11_looks 29 = .ok (.iconst 0, 1) := by decide +kernel
theorem dX11_looks_30 : decode cX11_looks 30 = .ok (.ior, 1) := by decide +kernel
theorem dX11_looks_31 : decode cX11_looks 31 = .ok (.istore_n 1, 1) := by decide +kernel
theorem dX11_looks_32 : decode cX11_looks 32 = .ok (.iinc 2 1, 3) := by decide +kernel
theorem dX11_looks_35 : decode cX11_looks 35 = .ok (.goto (-26), 3) := by decide +kernel
theorem dX11_looks_38 : decode cX11_looks 38 = .ok (.aload_n 0, 1) := by decide +kernel
theorem dX11_looks_39 : decode cX11_looks 39 = .ok (.iconst 0, 1) := by decide +kernel
theorem dX11_looks_40 : decode cX11_looks 40 = .ok (.putfield 15, 3) := by decide +kernel
theorem dX11_looks_43 : decode cX11_looks 43 = .ok (.aload_n 0, 1) := by decide +kernel
theorem dX11_looks_44 : decode cX11_looks 44 = .ok (.iload_n 1, 1) := by decide +kernel
theorem dX11_looks_45 : decode cX11_looks 45 = .ok (.invokestatic 382, 3) := by decide +kernel
theorem dX11_looks_48 : decode cX11_looks 48 = .ok (.i2l, 1) := by decide +kernel
theorem dX11_looks_49 : decode cX11_looks 49 = .ok (.invokevirtual 18, 3) := by decide +kernel
theorem dX11_looks_52 : decode cX11_looks 52 = .ok (.aload_n 0, 1) := by decide +kernel
theorem dX11_looks_53 : decode cX11_looks 53 = .ok (.aload_n 0, 1) := by decide +kernel
theorem dX11_looks_54 : decode cX11_looks 54 = .ok (.iconst 4, 1) := by decide +kernel
theorem dX11_looks_55 : decode cX11_looks 55 = .ok (.invokevirtual 389, 3) := by decide +kernel
theorem dX11_looks_58 : decode cX11_looks 58 = .ok (.invokestatic 122, 3) := by decide +kernel
theorem dX11_looks_61 : decode cX11_looks 61 = .ok (.i2l, 1) := by decide +kernel
theorem dX11_looks_62 : decode cX11_looks 62 = .ok (.invokevirtual 18, 3) := by decide +kernel
theorem dX11_looks_65 : decode cX11_looks 65 = .ok (.iload_n 1, 1) := by decide +kernel
theorem dX11_looks_66 : decode cX11_looks 66 = .ok (.ireturn, 1) := by decide +kernel
theorem dX11_waysTo_0 : decode cX11_waysTo 0 = .ok (.iconst 0, 1) := by decide +kernel
theorem dX11_waysTo_1 : decode cX11_waysTo 1 = .ok (.istore_n 3, 1) := by decide +kernel
theorem dX11_waysTo_2 : decode cX11_waysTo 2 = .ok (.iload_n 3, 1) := by decide +kernel
theorem dX11_waysTo_3 : decode cX11_waysTo 3 = .ok (.iload_n 1, 1) := by decide +kernel
theorem dX11_waysTo_4 : decode cX11_waysTo 4 = .ok (.if_icmp .gt 27, 3) := by decide +kernel
theorem dX11_waysTo_7 : decode cX11_waysTo 7 = .ok (.aload_n 0, 1) := by decide +kernel
theorem dX11_waysTo_8 : decode cX11_waysTo 8 = .ok (.getfield 105, 3) := by decide +kernel
theorem dX11_waysTo_11 : decode cX11_waysTo 11 = .ok (.iload_n 3, 1) := by decide +kernel
theorem dX11_waysTo_12 : decode cX11_waysTo 12 = .ok (.iload_n 3, 1) := by decide +kernel
theorem dX11_waysTo_13 : decode cX11_waysTo 13 = .ok (.ifCond .ne 7, 3) := by decide +kernel
theorem dX11_waysTo_16 : decode cX11_waysTo 16 = .ok (.iconst 1, 1) := by decide +kernel
theorem dX11_waysTo_17 : decode cX11_waysTo 17 = .ok (.goto 4, 3) := by decide +kernel
theorem dX11_waysTo_20 : decode cX11_waysTo 20 = .ok (.iconst 0, 1) := by decide +kernel
theorem dX11_waysTo_21 : decode cX11_waysTo 21 = .ok (.invokestatic 122, 3) := by decide +kernel
theorem dX11_waysTo_24 : decode cX11_waysTo 24 = .ok (.iastore, 1) := by decide +kernel
theorem dX11_waysTo_25 : decode cX11_waysTo 25 = .ok (.iinc 3 1, 3) := by decide +kernel
theorem dX11_waysTo_28 : decode cX11_waysTo 28 = .ok (.goto (-26), 3) := by decide +kernel
theorem dX11_waysTo_31 : decode cX11_waysTo 31 = .ok (.iconst 0, 1) := by decide +kernel
theorem dX11_waysTo_32 : decode cX11_waysTo 32 = .ok (.istore_n 3, 1) := by decide +kernel
theorem dX11_waysTo_33 : decode cX11_waysTo 33 = .ok (.iload_n 3, 1) := by decide +kernel
theorem dX11_waysTo_34 : decode cX11_waysTo 34 = .ok (.aload_n 0, 1) := by decide +kernel
theorem dX11_waysTo_35 : decode cX11_waysTo 35 = .ok (.invokevirtual 114, 3) := by decide +kernel
theorem dX11_waysTo_38 : decode cX11_waysTo 38 = .ok (.if_icmp .ge 67, 3) := by decide +kernel
theorem dX11_waysTo_41 : decode cX11_waysTo 41 = .ok (.iload_n 1, 1) := by decide +kernel
theorem dX11_waysTo_42 : decode cX11_waysTo 42 = .ok (.istore 4, 2) := by decide +kernel
theorem dX11_waysTo_44 : decode cX11_waysTo 44 = .ok (.iload 4, 2) := by decide +kernel
theorem dX11_waysTo_46 : decode cX11_waysTo 46 = .ok (.aload_n 0, 1) := by decide +kernel
theorem dX11_waysTo_47 : decode cX11_waysTo 47 = .ok (.getfield 41, 3) := by decide +kernel
theorem dX11_waysTo_50 : decode cX11_waysTo 50 = .ok (.iload_n 3, 1) := by decide +kernel
theorem dX11_waysTo_51 : decode cX11_waysTo 51 = .ok (.iaload, 1) := by decide +kernel
theorem dX11_waysTo_52 : decode cX11_waysTo 52 = .ok (.if_icmp .lt 47, 3) := by decide +kernel
theorem dX11_waysTo_55 : decode cX11_waysTo 55 = .ok (.aload_n 0, 1) := by decide +kernel
theorem dX11_waysTo_56 : decode cX11_waysTo 56 = .ok (.getfield 41, 3) := by decide +kernel
theorem dX11_waysTo_59 : decode cX11_waysTo 59 = .ok (.iload_n 3, 1) := by decide +kernel
theorem dX11_waysTo_60 : decode cX11_waysTo 60 = .ok (.iaload, 1) := by decide +kernel
theorem dX11_waysTo_61 : decode cX11_waysTo 61 = .ok (.ifCond .le 38, 3) := by decide +kernel
theorem dX11_waysTo_64 : decode cX11_waysTo 64 = .ok (.iload_n 3, 1) := by decide +kernel
theorem dX11_waysTo_65 : decode cX11_waysTo 65 = .ok (.iload_n 2, 1) := by decide +kernel
theorem dX11_waysTo_66 : decode cX11_waysTo 66 = .ok (.if_icmp .eq 33, 3) := by decide +kernel
theorem dX11_waysTo_69 : decode cX11_waysTo 69 = .ok (.aload_n 0, 1) := by decide +kernel
theorem dX11_waysTo_70 : decode cX11_waysTo 70 = .ok (.getfield 105, 3) := by decide +kernel
theorem dX11_waysTo_73 : decode cX11_waysTo 73 = .ok (.iload 4, 2) := by decide +kernel
theorem dX11_waysTo_75 : decode cX11_waysTo 75 = .ok (.dup2, 1) := by decide +kernel
theorem dX11_waysTo_76 : decode cX11_waysTo 76 = .ok (.iaload, 1) := by decide +kernel
theorem dX11_waysTo_77 : decode cX11_waysTo 77 = .ok (.aload_n 0, 1) := by decide +kernel
theorem dX11_waysTo_78 : decode cX11_waysTo 78 = .ok (.getfield 105, 3) := by decide +kernel
theorem dX11_waysTo_81 : decode cX11_waysTo 81 = .ok (.iload 4, 2) := by decide +kernel
theorem dX11_waysTo_83 : decode cX11_waysTo 83 = .ok (.aload_n 0, 1) := by decide +kernel
theorem dX11_waysTo_84 : decode cX11_waysTo 84 = .ok (.getfield 41, 3) := by decide +kernel
theorem dX11_waysTo_87 : decode cX11_waysTo 87 = .ok (.iload_n 3, 1) := by decide +kernel
theorem dX11_waysTo_88 : decode cX11_waysTo 88 = .ok (.iaload, 1) := by decide +kernel
theorem dX11_waysTo_89 : decode cX11_waysTo 89 = .ok (.isub, 1) := by decide +kernel
theorem dX11_waysTo_90 : decode cX11_waysTo 90 = .ok (.iaload, 1) := by decide +kernel
theorem dX11_waysTo_91 : decode cX11_waysTo 91 = .ok (.iadd, 1) := by decide +kernel
theorem dX11_waysTo_92 : decode cX11_waysTo 92 = .ok (.iastore, 1) := by decide +kernel
theorem dX11_waysTo_93 : decode cX11_waysTo 93 = .ok (.iinc 4 (-1), 3) := by decide +kernel
theorem dX11_waysTo_96 : decode cX11_waysTo 96 = .ok (.goto (-52), 3) := by decide +kernel
theorem dX11_waysTo_99 : decode cX11_waysTo 99 = .ok (.iinc 3 1, 3) := by decide +kernel
theorem dX11_waysTo_102 : decode cX11_waysTo 102 = .ok (.goto (-69), 3) := by decide +kernel
theorem dX11_waysTo_105 : decode cX11_waysTo 105 = .ok (.aload_n 0, 1) := by decide +kernel
theorem dX11_waysTo_106 : decode cX11_waysTo 106 = .ok (.getfield 105, 3) := by decide +kernel
theorem dX11_waysTo_109 : decode cX11_waysTo 109 = .ok (.iload_n 1, 1) := by decide +kernel
theorem dX11_waysTo_110 : decode cX11_waysTo 110 = .ok (.iaload, 1) := by decide +kernel
theorem dX11_waysTo_111 : decode cX11_waysTo 111 = .ok (.ireturn, 1) := by decide +kernel
theorem dX11_dustyMany_0 : decode cX11_dustyMany 0 = .ok (.iconst 0, 1) := by decide +kernel
theorem dX11_dustyMany_1 : decode cX11_dustyMany 1 = .ok (.istore_n 1, 1) := by decide +kernel
theorem dX11_dustyMany_2 : decode cX11_dustyMany 2 = .ok (.iconst 0, 1) := by decide +kernel
theorem dX11_dustyMany_3 : decode cX11_dustyMany 3 = .ok (.istore_n 2, 1) := by decide +kernel
theorem dX11_dustyMany_4 : decode cX11_dustyMany 4 = .ok (.iload_n 2, 1) := by decide +kernel
theorem dX11_dustyMany_5 : decode cX11_dustyMany 5 = .ok (.aload_n 0, 1) := by decide +kernel
theorem dX11_dustyMany_6 : decode cX11_dustyMany 6 = .ok (.invokevirtual 114, 3) := by decide +kernel
theorem dX11_dustyMany_9 : decode cX11_dustyMany 9 = .ok (.if_icmp .ge 29, 3) := by decide +kernel
theorem dX11_dustyMany_12 : decode cX11_dustyMany 12 = .ok (.iload_n 1, 1) := by decide +kernel
theorem dX11_dustyMany_13 : decode cX11_dustyMany 13 = .ok (.aload_n 0, 1) := by decide +kernel
theorem dX11_dustyMany_14 : decode cX11_dustyMany 14 = .ok (.getfield 41, 3) := by decide +kernel
theorem dX11_dustyMany_17 : decode cX11_dustyMany 17 = .ok (.iload_n 2, 1) := by decide +kernel
theorem dX11_dustyMany_18 : decode cX11_dustyMany 18 = .ok (.iaload, 1) := by decide +kernel
theorem dX11_dustyMany_19 : decode cX11_dustyMany 19 = .ok (.ifCond .le 7, 3) := by decide +kernel
theorem dX11_dustyMany_22 : decode cX11_dustyMany 22 = .ok (.iconst 1, 1) := by decide +kernel
theorem dX11_dustyMany_23 : decode cX11_dustyMany 23 = .ok (.goto 4, 3) := by decide +kernel
theorem dX11_dustyMany_26 : decode cX11_dustyMany 26 = .ok (.iconst 0, 1) := by decide +kernel
theorem dX11_dustyMany_27 : decode cX11_dustyMany 27 = .ok (.invokestatic 122, 3) := by decide +kernel
theorem dX11_dustyMany_30 : decode cX11_dustyMany 30 = .ok (.iadd, 1) := by decide +kernel
theorem dX11_dustyMany_31 : decode cX11_dustyMany 31 = .ok (.istore_n 1, 1) := by decide +kernel
theorem dX11_dustyMany_32 : decode cX11_dustyMany 32 = .ok (.iinc 2 1, 3) := by decide +kernel
theorem dX11_dustyMany_35 : decode cX11_dustyMany 35 = .ok (.goto (-31), 3) := by decide +kernel
theorem dX11_dustyMany_38 : decode cX11_dustyMany 38 = .ok (.iload_n 1, 1) := by decide +kernel
theorem dX11_dustyMany_39 : decode cX11_dustyMany 39 = .ok (.ireturn, 1) := by decide +kernel
theorem dX11_box_0 : decode cX11_box 0 = .ok (.aload_n 0, 1) := by decide +kernel
theorem dX11_box_1 : decode cX11_box 1 = .ok (.iconst 0, 1) := by decide +kernel
theorem dX11_box_2 : decode cX11_box 2 = .ok (.putfield 3, 3) := by decide +kernel
theorem dX11_box_5 : decode cX11_box 5 = .ok (.iload_n 1, 1) := by decide +kernel
theorem dX11_box_6 : decode cX11_box 6 = .ok (.i2l, 1) := by decide +kernel
theorem dX11_box_7 : decode cX11_box 7 = .ok (.lconst 0, 1) := by decide +kernel
theorem dX11_box_8 : decode cX11_box 8 = .ok (.ldc2_w 271, 3) := by decide +kernel
theorem dX11_box_11 : decode cX11_box 11 = .ok (.invokestatic 118, 3) := by decide +kernel
theorem dX11_box_14 : decode cX11_box 14 = .ok (.ifCond .ne 5, 3) := by decide +kernel
theorem dX11_box_17 : decode cX11_box 17 = .ok (.iconst (-1), 1) := by decide +kernel
theorem dX11_box_18 : decode cX11_box 18 = .ok (.ireturn, 1) := by decide +kernel
theorem dX11_box_19 : decode cX11_box 19 = .ok (.aload_n 0, 1) := by decide +kernel
theorem dX11_box_20 : decode cX11_box 20 = .ok (.invokevirtual 392, 3) := by decide +kernel
theorem dX11_box_23 : decode cX11_box 23 = .ok (.bipush 20, 2) := by decide +kernel
theorem dX11_box_25 : decode cX11_box 25 = .ok (.if_icmp .le 6, 3) := by decide +kernel
theorem dX11_box_28 : decode cX11_box 28 = .ok (.bipush (-2), 2) := by decide +kernel
theorem dX11_box_30 : decode cX11_box 30 = .ok (.ireturn, 1) := by decide +kernel
theorem dX11_box_31 : decode cX11_box 31 = .ok (.aload_n 0, 1) := by decide +kernel
theorem dX11_box_32 : decode cX11_box 32 = .ok (.iload_n 1, 1) := by decide +kernel
theorem dX11_box_33 : decode cX11_box 33 = .ok (.iconst (-1), 1) := by decide +kernel
theorem dX11_box_34 : decode cX11_box 34 = .ok (.invokevirtual 395, 3) := by decide +kernel
theorem dX11_box_37 : decode cX11_box 37 = .ok (.istore_n 2, 1) := by decide +kernel
theorem dX11_box_38 : decode cX11_box 38 = .ok (.lconst 0, 1) := by decide +kernel
theorem dX11_box_39 : decode cX11_box 39 = .ok (.lstore_n 3, 1) := by decide +kernel
theorem dX11_box_40 : decode cX11_box 40 = .ok (.iconst 0, 1) := by decide +kernel
theorem dX11_box_41 : decode cX11_box 41 = .ok (.istore 5, 2) := by decide +kernel
theorem dX11_box_43 : decode cX11_box 43 = .ok (.iload 5, 2) := by decide +kernel
theorem dX11_box_45 : decode cX11_box 45 = .ok (.aload_n 0, 1) := by decide +kernel
theorem dX11_box_46 : decode cX11_box 46 = .ok (.invokevirtual 114, 3) := by decide +kernel
theorem dX11_box_49 : decode cX11_box 49 = .ok (.if_icmp .ge 44, 3) := by decide +kernel
theorem dX11_box_52 : decode cX11_box 52 = .ok (.iload_n 2, 1) := by decide +kernel
theorem dX11_box_53 : decode cX11_box 53 = .ok (.ifCond .le 40, 3) := by decide +kernel
theorem dX11_box_56 : decode cX11_box 56 = .ok (.lload_n 3, 1) := by decide +kernel
theorem dX11_box_57 : decode cX11_box 57 = .ok (.aload_n 0, 1) := by decide +kernel
theorem dX11_box_58 : decode cX11_box 58 = .ok (.getfield 41, 3) := by decide +kernel
theorem dX11_box_61 : decode cX11_box 61 = .ok (.iload 5, 2) := by decide +kernel
theorem dX11_box_63 : decode cX11_box 63 = .ok (.iaload, 1) := by decide +kernel
theorem dX11_box_64 : decode cX11_box 64 = .ok (.ifCond .le 20, 3) := by decide +kernel
theorem dX11_box_67 : decode cX11_box 67 = .ok (.aload_n 0, 1) := by decide +kernel
theorem dX11_box_68 : decode cX11_box 68 = .ok (.iload_n 1, 1) := by decide +kernel
theorem dX11_box_69 : decode cX11_box 69 = .ok (.iload 5, 2) := by decide +kernel
theorem dX11_box_71 : decode cX11_box 71 = .ok (.invokevirtual 395, 3) := by decide +kernel
theorem dX11_box_74 : decode cX11_box 74 = .ok (.ifCond .ne 10, 3) := by decide +kernel
theorem dX11_box_77 : decode cX11_box 77 = .ok (.lconst 1, 1) := by decide +kernel
theorem dX11_box_78 : decode cX11_box 78 = .ok (.iload 5, 2) := by decide +kernel
theorem dX11_box_80 : decode cX11_box 80 = .ok (.lshl, 1) := by decide +kernel
theorem dX11_box_81 : decode cX11_box 81 = .ok (.goto 4, 3) := by decide +kernel
theorem dX11_box_84 : decode cX11_box 84 = .ok (.lconst 0, 1) := by decide +kernel
theorem dX11_box_85 : decode cX11_box 85 = .ok (.lor, 1) := by decide +kernel
theorem dX11_box_86 : decode cX11_box 86 = .ok (.lstore_n 3, 1) := by decide +kernel
theorem dX11_box_87 : decode cX11_box 87 = .ok (.iinc 5 1, 3) := by decide +kernel
theorem dX11_box_90 : decode cX11_box 90 = .ok (.goto (-47), 3) := by decide +kernel
theorem dX11_box_93 : decode cX11_box 93 = .ok (.aload_n 0, 1) := by decide +kernel
theorem dX11_box_94 : decode cX11_box 94 = .ok (.iconst 0, 1) := by decide +kernel
theorem dX11_box_95 : decode cX11_box 95 = .ok (.putfield 15, 3) := by decide +kernel
theorem dX11_box_98 : decode cX11_box 98 = .ok (.aload_n 0, 1) := by decide +kernel
theorem dX11_box_99 : decode cX11_box 99 = .ok (.lload_n 3, 1) := by decide +kernel
theorem dX11_box_100 : decode cX11_box 100 = .ok (.invokevirtual 18, 3) := by decide +kernel
theorem dX11_box_103 : decode cX11_box 103 = .ok (.iload_n 2, 1) := by decide +kernel
theorem dX11_box_104 : decode cX11_box 104 = .ok (.ireturn, 1) := by decide +kernel
theorem dX11_clean_0 : decode cX11_clean 0 = .ok (.aload_n 0, 1) := by decide +kernel
theorem dX11_clean_1 : decode cX11_clean 1 = .ok (.iconst 0, 1) := by decide +kernel
theorem dX11_clean_2 : decode cX11_clean 2 = .ok (.putfield 3, 3) := by decide +kernel
theorem dX11_clean_5 : decode cX11_clean 5 = .ok (.aload_n 0, 1) := by decide +kernel
theorem dX11_clean_6 : decode cX11_clean 6 = .ok (.invokevirtual 398, 3) := by decide +kernel
theorem dX11_clean_9 : decode cX11_clean 9 = .ok (.istore_n 2, 1) := by decide +kernel
theorem dX11_clean_10 : decode cX11_clean 10 = .ok (.iload_n 1, 1) := by decide +kernel
theorem dX11_clean_11 : decode cX11_clean 11 = .ok (.i2l, 1) := by decide +kernel
theorem dX11_clean_12 : decode cX11_clean 12 = .ok (.lconst 1, 1) := by decide +kernel
theorem dX11_clean_13 : decode cX11_clean 13 = .ok (.iload_n 2, 1) := by decide +kernel
theorem dX11_clean_14 : decode cX11_clean 14 = .ok (.i2l, 1) := by decide +kernel
theorem dX11_clean_15 : decode cX11_clean 15 = .ok (.invokestatic 118, 3) := by decide +kernel
theorem dX11_clean_18 : decode cX11_clean 18 = .ok (.ifCond .ne 5, 3) := by decide +kernel
theorem dX11_clean_21 : decode cX11_clean 21 = .ok (.iconst (-1), 1) := by decide +kernel
theorem dX11_clean_22 : decode cX11_clean 22 = .ok (.ireturn, 1) := by decide +kernel
theorem dX11_clean_23 : decode cX11_clean 23 = .ok (.iload_n 2, 1) := by decide +kernel
theorem dX11_clean_24 : decode cX11_clean 24 = .ok (.aload_n 0, 1) := by decide +kernel
theorem dX11_clean_25 : decode cX11_clean 25 = .ok (.invokevirtual 392, 3) := by decide +kernel
theorem dX11_clean_28 : decode cX11_clean 28 = .ok (.isub, 1) := by decide +kernel
theorem dX11_clean_29 : decode cX11_clean 29 = .ok (.istore_n 3, 1) := by decide +kernel
theorem dX11_clean_30 : decode cX11_clean 30 = .ok (.lconst 1, 1) := by decide +kernel
theorem dX11_clean_31 : decode cX11_clean 31 = .ok (.lstore 4, 2) := by decide +kernel
theorem dX11_clean_33 : decode cX11_clean 33 = .ok (.lconst 1, 1) := by decide +kernel
theorem dX11_clean_34 : decode cX11_clean 34 = .ok (.lstore 6, 2) := by decide +kernel
theorem dX11_clean_36 : decode cX11_clean 36 = .ok (.iconst 0, 1) := by decide +kernel
theorem dX11_clean_37 : decode cX11_clean 37 = .ok (.istore 8, 2) := by decide +kernel
theorem dX11_clean_39 : decode cX11_clean 39 = .ok (.iload 8, 2) := by decide +kernel
theorem dX11_clean_41 : decode cX11_clean 41 = .ok (.iload_n 1, 1) := by decide +kernel
theorem dX11_clean_42 : decode cX11_clean 42 = .ok (.if_icmp .ge 56, 3) := by decide +kernel
theorem dX11_clean_45 : decode cX11_clean 45 = .ok (.lload 4, 2) := by decide +kernel
theorem dX11_clean_47 : decode cX11_clean 47 = .ok (.iconst 0, 1) := by decide +kernel
theorem dX11_clean_48 : decode cX11_clean 48 = .ok (.iload_n 3, 1) := by decide +kernel
theorem dX11_clean_49 : decode cX11_clean 49 = .ok (.iload 8, 2) := by decide +kernel
theorem dX11_clean_51 : decode cX11_clean 51 = .ok (.isub, 1) := by decide +kernel
theorem dX11_clean_52 : decode cX11_clean 52 = .ok (.invokestatic 256, 3) := by decide +kernel
theorem dX11_clean_55 : decode cX11_clean 55 = .ok (.i2l, 1) := by decide +kernel
theorem dX11_clean_56 : decode cX11_clean 56 = .ok (.lmul, 1) := by decide +kernel
theorem dX11_clean_57 : decode cX11_clean 57 = .ok (.lstore 4, 2) := by decide +kernel
theorem dX11_clean_59 : decode cX11_clean 59 = .ok (.lload 6, 2) := by decide +kernel
theorem dX11_clean_61 : decode cX11_clean 61 = .ok (.iload_n 2, 1) := by decide +kernel
theorem dX11_clean_62 : decode cX11_clean 62 = .ok (.iload 8, 2) := by decide +kernel
theorem dX11_clean_64 : decode cX11_clean 64 = .ok (.isub, 1) := by decide +kernel
theorem dX11_clean_65 : decode cX11_clean 65 = .ok (.i2l, 1) := by decide +kernel
theorem dX11_clean_66 : decode cX11_clean 66 = .ok (.lmul, 1) := by decide +kernel
theorem dX11_clean_67 : decode cX11_clean 67 = .ok (.lstore 6, 2) := by decide +kernel
theorem dX11_clean_69 : decode cX11_clean 69 = .ok (.lload 4, 2) := by decide +kernel
theorem dX11_clean_71 : decode cX11_clean 71 = .ok (.lload 6, 2) := by decide +kernel
theorem dX11_clean_73 : decode cX11_clean 73 = .ok (.invokestatic 7, 3) := by decide +kernel
theorem dX11_clean_76 : decode cX11_clean 76 = .ok (.lstore 9, 2) := by decide +kernel
theorem dX11_clean_78 : decode cX11_clean 78 = .ok (.lload 4, 2) := by decide +kernel
theorem dX11_clean_80 : decode cX11_clean 80 = .ok (.lload 9, 2) := by decide +kernel
theorem dX11_clean_82 : decode cX11_clean 82 = .ok (.ldiv, 1) := by decide +kernel
theorem dX11_clean_83 : decode cX11_clean 83 = .ok (.lstore 4, 2) := by decide +kernel
theorem dX11_clean_85 : decode cX11_clean 85 = .ok (.lload 6, 2) := by decide +kernel
theorem dX11_clean_87 : decode cX11_clean 87 = .ok (.lload 9, 2) := by decide +kernel
theorem dX11_clean_89 : decode cX11_clean 89 = .ok (.ldiv, 1) := by decide +kernel
theorem dX11_clean_90 : decode cX11_clean 90 = .ok (.lstore 6, 2) := by decide +kernel
theorem dX11_clean_92 : decode cX11_clean 92 = .ok (.iinc 8 1, 3) := by decide +kernel
theorem dX11_clean_95 : decode cX11_clean 95 = .ok (.goto (-56), 3) := by decide +kernel
theorem dX11_clean_98 : decode cX11_clean 98 = .ok (.aload_n 0, 1) := by decide +kernel
theorem dX11_clean_99 : decode cX11_clean 99 = .ok (.lload 4, 2) := by decide +kernel
theorem dX11_clean_101 : decode cX11_clean 101 = .ok (.lload 6, 2) := by decide +kernel
theorem dX11_clean_103 : decode cX11_clean 103 = .ok (.invokevirtual 376, 3) := by decide +kernel
theorem dX11_clean_106 : decode cX11_clean 106 = .ok (.iconst 0, 1) := by decide +kernel
theorem dX11_clean_107 : decode cX11_clean 107 = .ok (.ireturn, 1) := by decide +kernel
theorem dX11_earns_0 : decode cX11_earns 0 = .ok (.iload_n 0, 1) := by decide +kernel
theorem dX11_earns_1 : decode cX11_earns 1 = .ok (.iload_n 1, 1) := by decide +kernel
theorem dX11_earns_2 : decode cX11_earns 2 = .ok (.if_icmp .ge 9, 3) := by decide +kernel
theorem dX11_earns_5 : decode cX11_earns 5 = .ok (.iload_n 2, 1) := by decide +kernel
theorem dX11_earns_6 : decode cX11_earns 6 = .ok (.iload_n 0, 1) := by decide +kernel
theorem dX11_earns_7 : decode cX11_earns 7 = .ok (.isub, 1) := by decide +kernel
theorem dX11_earns_8 : decode cX11_earns 8 = .ok (.goto 17, 3) := by decide +kernel
theorem dX11_earns_11 : decode cX11_earns 11 = .ok (.iload_n 0, 1) := by decide +kernel
theorem dX11_earns_12 : decode cX11_earns 12 = .ok (.iload_n 1, 1) := by decide +kernel
theorem dX11_earns_13 : decode cX11_earns 13 = .ok (.if_icmp .ne 10, 3) := by decide +kernel
theorem dX11_earns_16 : decode cX11_earns 16 = .ok (.iload_n 0, 1) := by decide +kernel
theorem dX11_earns_17 : decode cX11_earns 17 = .ok (.ineg, 1) := by decide +kernel
theorem dX11_earns_18 : decode cX11_earns 18 = .ok (.iconst 5, 1) := by decide +kernel
theorem dX11_earns_19 : decode cX11_earns 19 = .ok (.isub, 1) := by decide +kernel
theorem dX11_earns_20 : decode cX11_earns 20 = .ok (.goto 5, 3) := by decide +kernel
theorem dX11_earns_23 : decode cX11_earns 23 = .ok (.iload_n 0, 1) := by decide +kernel
theorem dX11_earns_24 : decode cX11_earns 24 = .ok (.ineg, 1) := by decide +kernel
theorem dX11_earns_25 : decode cX11_earns 25 = .ok (.ireturn, 1) := by decide +kernel
theorem dX11_isRest_0 : decode cX11_isRest 0 = .ok (.iconst 1, 1) := by decide +kernel
theorem dX11_isRest_1 : decode cX11_isRest 1 = .ok (.istore_n 3, 1) := by decide +kernel
theorem dX11_isRest_2 : decode cX11_isRest 2 = .ok (.iconst 0, 1) := by decide +kernel
theorem dX11_isRest_3 : decode cX11_isRest 3 = .ok (.istore 4, 2) := by decide +kernel
theorem dX11_isRest_5 : decode cX11_isRest 5 = .ok (.iload 4, 2) := by decide +kernel
theorem dX11_isRest_7 : decode cX11_isRest 7 = .ok (.bipush 9, 2) := by decide +kernel
theorem dX11_isRest_9 : decode cX11_isRest 9 = .ok (.if_icmp .gt 35, 3) := by decide +kernel
theorem dX11_isRest_12 : decode cX11_isRest 12 = .ok (.iload_n 3, 1) := by decide +kernel
theorem dX11_isRest_13 : decode cX11_isRest 13 = .ok (.ifCond .eq 23, 3) := by decide +kernel
theorem dX11_isRest_16 : decode cX11_isRest 16 = .ok (.iload 4, 2) := by decide +kernel
theorem dX11_isRest_18 : decode cX11_isRest 18 = .ok (.iload_n 1, 1) := by decide +kernel
theorem dX11_isRest_19 : decode cX11_isRest 19 = .ok (.iload_n 2, 1) := by decide +kernel
theorem dX11_isRest_20 : decode cX11_isRest 20 = .ok (.invokestatic 401, 3) := by decide +kernel
theorem dX11_isRest_23 : decode cX11_isRest 23 = .ok (.iload_n 0, 1) := by decide +kernel
theorem dX11_isRest_24 : decode cX11_isRest 24 = .ok (.iload_n 1, 1) := by decide +kernel
theorem dX11_isRest_25 : decode cX11_isRest 25 = .ok (.iload_n 2, 1) := by decide +kernel
theorem dX11_isRest_26 : decode cX11_isRest 26 = .ok (.invokestatic 401, 3) := by decide +kernel
theorem dX11_isRest_29 : decode cX11_isRest 29 = .ok (.if_icmp .gt 7, 3) := by decide +kernel
theorem dX11_isRest_32 : decode cX11_isRest 32 = .ok (.iconst 1, 1) := by decide +kernel
theorem dX11_isRest_33 : decode cX11_isRest 33 = .ok (.goto 4, 3) := by decide +kernel
theorem dX11_isRest_36 : decode cX11_isRest 36 = .ok (.iconst 0, 1) := by decide +kernel
theorem dX11_isRest_37 : decode cX11_isRest 37 = .ok (.istore_n 3, 1) := by decide +kernel
theorem dX11_isRest_38 : decode cX11_isRest 38 = .ok (.iinc 4 1, 3) := by decide +kernel
theorem dX11_isRest_41 : decode cX11_isRest 41 = .ok (.goto (-36), 3) := by decide +kernel
theorem dX11_isRest_44 : decode cX11_isRest 44 = .ok (.iload_n 3, 1) := by decide +kernel
theorem dX11_isRest_45 : decode cX11_isRest 45 = .ok (.ireturn, 1) := by decide +kernel
theorem dX11_rests_0 : decode cX11_rests 0 = .ok (.aload_n 0, 1) := by decide +kernel
theorem dX11_rests_1 : decode cX11_rests 1 = .ok (.iconst 0, 1) := by decide +kernel
theorem dX11_rests_2 : decode cX11_rests 2 = .ok (.putfield 3, 3) := by decide +kernel
theorem dX11_rests_5 : decode cX11_rests 5 = .ok (.iload_n 1, 1) := by decide +kernel
theorem dX11_rests_6 : decode cX11_rests 6 = .ok (.i2l, 1) := by decide +kernel
theorem dX11_rests_7 : decode cX11_rests 7 = .ok (.lconst 1, 1) := by decide +kernel
theorem dX11_rests_8 : decode cX11_rests 8 = .ok (.ldc2_w 404, 3) := by decide +kernel
theorem dX11_rests_11 : decode cX11_rests 11 = .ok (.invokestatic 118, 3) := by decide +kernel
theorem dX11_rests_14 : decode cX11_rests 14 = .ok (.ifCond .ne 5, 3) := by decide +kernel
theorem dX11_rests_17 : decode cX11_rests 17 = .ok (.iconst (-1), 1) := by decide +kernel
theorem dX11_rests_18 : decode cX11_rests 18 = .ok (.ireturn, 1) := by decide +kernel
theorem dX11_rests_19 : decode cX11_rests 19 = .ok (.iconst 0, 1) := by decide +kernel
theorem dX11_rests_20 : decode cX11_rests 20 = .ok (.istore_n 2, 1) := by decide +kernel
theorem dX11_rests_21 : decode cX11_rests 21 = .ok (.aload_n 0, 1) := by decide +kernel
theorem dX11_rests_22 : decode cX11_rests 22 = .ok (.iconst 0, 1) := by decide +kernel
theorem dX11_rests_23 : decode cX11_rests 23 = .ok (.putfield 15, 3) := by decide +kernel
theorem dX11_rests_26 : decode cX11_rests 26 = .ok (.iconst 0, 1) := by decide +kernel
theorem dX11_rests_27 : decode cX11_rests 27 = .ok (.istore_n 3, 1) := by decide +kernel
theorem dX11_rests_28 : decode cX11_rests 28 = .ok (.iload_n 3, 1) := by decide +kernel
theorem dX11_rests_29 : decode cX11_rests 29 = .ok (.bipush 9, 2) := by decide +kernel
theorem dX11_rests_31 : decode cX11_rests 31 = .ok (.if_icmp .gt 65, 3) := by decide +kernel
theorem dX11_rests_34 : decode cX11_rests 34 = .ok (.iconst 0, 1) := by decide +kernel
theorem dX11_rests_35 : decode cX11_rests 35 = .ok (.istore 4, 2) := by decide +kernel
theorem dX11_rests_37 : decode cX11_rests 37 = .ok (.iload 4, 2) := by decide +kernel
theorem dX11_rests_39 : decode cX11_rests 39 = .ok (.bipush 9, 2) := by decide +kernel
theorem dX11_rests_41 : decode cX11_rests 41 = .ok (.if_icmp .gt 49, 3) := by decide +kernel
theorem dX11_rests_44 : decode cX11_rests 44 = .ok (.iload_n 3, 1) := by decide +kernel
theorem dX11_rests_45 : decode cX11_rests 45 = .ok (.iload 4, 2) := by decide +kernel
theorem dX11_rests_47 : decode cX11_rests 47 = .ok (.iload_n 1, 1) := by decide +kernel
theorem dX11_rests_48 : decode cX11_rests 48 = .ok (.invokestatic 406, 3) := by decide +kernel
theorem dX11_rests_51 : decode cX11_rests 51 = .ok (.ifCond .eq 33, 3) := by decide +kernel
theorem dX11_rests_54 : decode cX11_rests 54 = .ok (.iload 4, 2) := by decide +kernel
theorem dX11_rests_56 : decode cX11_rests 56 = .ok (.iload_n 3, 1) := by decide +kernel
theorem dX11_rests_57 : decode cX11_rests 57 = .ok (.iload_n 1, 1) := by decide +kernel
theorem dX11_rests_58 : decode cX11_rests 58 = .ok (.invokestatic 406, 3) := by decide +kernel
theorem dX11_rests_61 : decode cX11_rests 61 = .ok (.ifCond .eq 23, 3) := by decide +kernel
theorem dX11_rests_64 : decode cX11_rests 64 = .ok (.iload_n 2, 1) := by decide +kernel
theorem dX11_rests_65 : decode cX11_rests 65 = .ok (.ifCond .ne 16, 3) := by decide +kernel
theorem dX11_rests_68 : decode cX11_rests 68 = .ok (.aload_n 0, 1) := by decide +kernel
theorem dX11_rests_69 : decode cX11_rests 69 = .ok (.iload_n 3, 1) := by decide +kernel
theorem dX11_rests_70 : decode cX11_rests 70 = .ok (.i2l, 1) := by decide +kernel
theorem dX11_rests_71 : decode cX11_rests 71 = .ok (.invokevirtual 18, 3) := by decide +kernel
theorem dX11_rests_74 : decode cX11_rests 74 = .ok (.aload_n 0, 1) := by decide +kernel
theorem dX11_rests_75 : decode cX11_rests 75 = .ok (.iload 4, 2) := by decide +kernel
theorem dX11_rests_77 : decode cX11_rests 77 = .ok (.i2l, 1) := by decide +kernel
theorem dX11_rests_78 : decode cX11_rests 78 = .ok (.invokevirtual 18, 3) := by decide +kernel
theorem dX11_rests_81 : decode cX11_rests 81 = .ok (.iinc 2 1, 3) := by decide +kernel
theorem dX11_rests_84 : decode cX11_rests 84 = .ok (.iinc 4 1, 3) := by decide +kernel
theorem dX11_rests_87 : decode cX11_rests 87 = .ok (.goto (-50), 3) := by decide +kernel
theorem dX11_rests_90 : decode cX11_rests 90 = .ok (.iinc 3 1, 3) := by decide +kernel
theorem dX11_rests_93 : decode cX11_rests 93 = .ok (.goto (-65), 3) := by decide +kernel
theorem dX11_rests_96 : decode cX11_rests 96 = .ok (.iload_n 2, 1) := by decide +kernel
theorem dX11_rests_97 : decode cX11_rests 97 = .ok (.ireturn, 1) := by decide +kernel
theorem dX11_draws_0 : decode cX11_draws 0 = .ok (.aload_n 0, 1) := by decide +kernel
theorem dX11_draws_1 : decode cX11_draws 1 = .ok (.aload_n 0, 1) := by decide +kernel
theorem dX11_draws_2 : decode cX11_draws 2 = .ok (.getfield 410, 3) := by decide +kernel
theorem dX11_draws_5 : decode cX11_draws 5 = .ok (.ldc_w 413, 3) := by decide +kernel
theorem dX11_draws_8 : decode cX11_draws 8 = .ok (.imul, 1) := by decide +kernel
theorem dX11_draws_9 : decode cX11_draws 9 = .ok (.sipush 12345, 3) := by decide +kernel
theorem dX11_draws_12 : decode cX11_draws 12 = .ok (.iadd, 1) := by decide +kernel
theorem dX11_draws_13 : decode cX11_draws 13 = .ok (.putfield 410, 3) := by decide +kernel
theorem dX11_draws_16 : decode cX11_draws 16 = .ok (.aload_n 0, 1) := by decide +kernel
theorem dX11_draws_17 : decode cX11_draws 17 = .ok (.getfield 410, 3) := by decide +kernel
theorem dX11_draws_20 : decode cX11_draws 20 = .ok (.bipush 16, 2) := by decide +kernel
theorem dX11_draws_22 : decode cX11_draws 22 = .ok (.iushr, 1) := by decide +kernel
theorem dX11_draws_23 : decode cX11_draws 23 = .ok (.iload_n 1, 1) := by decide +kernel
theorem dX11_draws_24 : decode cX11_draws 24 = .ok (.irem, 1) := by decide +kernel
theorem dX11_draws_25 : decode cX11_draws 25 = .ok (.ireturn, 1) := by decide +kernel
