theorem dX2_looksTurned_0 : decode cX2_looksTurned 0 = .ok (.iload_n 1, 1) := by decide +kernel
theorem dX2_looksTurned_1 : decode cX2_looksTurned 1 = .ok (.iconst 2, 1) := by decide +kernel
theorem dX2_looksTurned_2 : decode cX2_looksTurned 2 = .ok (.if_icmp .eq 16, 3) := by decide +kernel
theorem dX2_looksTurned_5 : decode cX2_looksTurned 5 = .ok (.aload_n 0, 1) := by decide +kernel
theorem dX2_looksTurned_6 : decode cX2_looksTurned 6 = .ok (.getfield 15, 3) := by decide +kernel
theorem dX2_looksTurned_9 : decode cX2_looksTurned 9 = .ok (.aload_n 0, 1) := by decide +kernel
theorem dX2_looksTurned_10 : decode cX2_looksTurned 10 = .ok (.getfield 19, 3) := by decide +kernel
theorem dX2_looksTurned_13 : decode cX2_looksTurned 13 = .ok (.if_icmp .eq 5, 3) := by decide +kernel
theorem dX2_looksTurned_16 : decode cX2_looksTurned 16 = .ok (.iconst 0, 1) := by decide +kernel
theorem dX2_looksTurned_17 : decode cX2_looksTurned 17 = .ok (.ireturn, 1) := by decide +kernel
theorem dX2_looksTurned_18 : decode cX2_looksTurned 18 = .ok (.iconst 0, 1) := by decide +kernel
theorem dX2_looksTurned_19 : decode cX2_looksTurned 19 = .ok (.istore_n 2, 1) := by decide +kernel
theorem dX2_looksTurned_20 : decode cX2_looksTurned 20 = .ok (.iload_n 2, 1) := by decide +kernel
theorem dX2_looksTurned_21 : decode cX2_looksTurned 21 = .ok (.aload_n 0, 1) := by decide +kernel
theorem dX2_looksTurned_22 : decode cX2_looksTurned 22 = .ok (.getfield 15, 3) := by decide +kernel
theorem dX2_looksTurned_25 : decode cX2_looksTurned 25 = .ok (.if_icmp .ge 126, 3) := by decide +kernel
theorem dX2_looksTurned_28 : decode cX2_looksTurned 28 = .ok (.iconst 0, 1) := by decide +kernel
theorem dX2_looksTurned_29 : decode cX2_looksTurned 29 = .ok (.istore_n 3, 1) := by decide +kernel
theorem dX2_looksTurned_30 : decode cX2_looksTurned 30 = .ok (.iload_n 3, 1) := by decide +kernel
theorem dX2_looksTurned_31 : decode cX2_looksTurned 31 = .ok (.aload_n 0, 1) := by decide +kernel
theorem dX2_looksTurned_32 : decode cX2_looksTurned 32 = .ok (.getfield 19, 3) := by decide +kernel
theorem dX2_looksTurned_35 : decode cX2_looksTurned 35 = .ok (.if_icmp .ge 110, 3) := by decide +kernel
theorem dX2_looksTurned_38 : decode cX2_looksTurned 38 = .ok (.iload_n 1, 1) := by decide +kernel
theorem dX2_looksTurned_39 : decode cX2_looksTurned 39 = .ok (.iconst 2, 1) := by decide +kernel
theorem dX2_looksTurned_40 : decode cX2_looksTurned 40 = .ok (.if_icmp .ne 14, 3) := by decide +kernel
theorem dX2_looksTurned_43 : decode cX2_looksTurned 43 = .ok (.aload_n 0, 1) := by decide +kernel
theorem dX2_looksTurned_44 : decode cX2_looksTurned 44 = .ok (.getfield 15, 3) := by decide +kernel
theorem dX2_looksTurned_47 : decode cX2_looksTurned 47 = .ok (.iconst 1, 1) := by decide +kernel
theorem dX2_looksTurned_48 : decode cX2_looksTurned 48 = .ok (.isub, 1) := by decide +kernel
theorem dX2_looksTurned_49 : decode cX2_looksTurned 49 = .ok (.iload_n 2, 1) := by decide +kernel
theorem dX2_looksTurned_50 : decode cX2_looksTurned 50 = .ok (.isub, 1) := by decide +kernel
theorem dX2_looksTurned_51 : decode cX2_looksTurned 51 = .ok (.goto 20, 3) := by decide +kernel
theorem dX2_looksTurned_54 : decode cX2_looksTurned 54 = .ok (.iload_n 1, 1) := by decide +kernel
theorem dX2_looksTurned_55 : decode cX2_looksTurned 55 = .ok (.iconst 1, 1) := by decide +kernel
theorem dX2_looksTurned_56 : decode cX2_looksTurned 56 = .ok (.if_icmp .ne 14, 3) := by decide +kernel
theorem dX2_looksTurned_59 : decode cX2_looksTurned 59 = .ok (.aload_n 0, 1) := by decide +kernel
theorem dX2_looksTurned_60 : decode cX2_looksTurned 60 = .ok (.getfield 15, 3) := by decide +kernel
theorem dX2_looksTurned_63 : decode cX2_looksTurned 63 = .ok (.iconst 1, 1) := by decide +kernel
theorem dX2_looksTurned_64 : decode cX2_looksTurned 64 = .ok (.isub, 1) := by decide +kernel
theorem dX2_looksTurned_65 : decode cX2_looksTurned 65 = .ok (.iload_n 3, 1) := by decide +kernel
theorem dX2_looksTurned_66 : decode cX2_looksTurned 66 = .ok (.isub, 1) := by decide +kernel
theorem dX2_looksTurned_67 : decode cX2_looksTurned 67 = .ok (.goto 4, 3) := by decide +kernel
theorem dX2_looksTurned_70 : decode cX2_looksTurned 70 = .ok (.iload_n 3, 1) := by decide +kernel
theorem dX2_looksTurned_71 : decode cX2_looksTurned 71 = .ok (.istore 4, 2) := by decide +kernel
theorem dX2_looksTurned_73 : decode cX2_looksTurned 73 = .ok (.iload_n 1, 1) := by decide +kernel
theorem dX2_looksTurned_74 : decode cX2_looksTurned 74 = .ok (.iconst 2, 1) := by decide +kernel
theorem dX2_looksTurned_75 : decode cX2_looksTurned 75 = .ok (.if_icmp .ne 14, 3) := by decide +kernel
theorem dX2_looksTurned_78 : decode cX2_looksTurned 78 = .ok (.aload_n 0, 1) := by decide +kernel
theorem dX2_looksTurned_79 : decode cX2_looksTurned 79 = .ok (.getfield 19, 3) := by decide +kernel
theorem dX2_looksTurned_82 : decode cX2_looksTurned 82 = .ok (.iconst 1, 1) := by decide +kernel
theorem dX2_looksTurned_83 : decode cX2_looksTurned 83 = .ok (.isub, 1) := by decide +kernel
theorem dX2_looksTurned_84 : decode cX2_looksTurned 84 = .ok (.iload_n 3, 1) := by decide +kernel
theorem dX2_looksTurned_85 : decode cX2_looksTurned 85 = .ok (.isub, 1) := by decide +kernel
theorem dX2_looksTurned_86 : decode cX2_looksTurned 86 = .ok (.goto 20, 3) := by decide +kernel
theorem dX2_looksTurned_89 : decode cX2_looksTurned 89 = .ok (.iload_n 1, 1) := by decide +kernel
theorem dX2_looksTurned_90 : decode cX2_looksTurned 90 = .ok (.iconst 1, 1) := by decide +kernel
theorem dX2_looksTurned_91 : decode cX2_looksTurned 91 = .ok (.if_icmp .ne 7, 3) := by decide +kernel
theorem dX2_looksTurned_94 : decode cX2_looksTurned 94 = .ok (.iload_n 2, 1) := by decide +kernel
theorem dX2_looksTurned_95 : decode cX2_looksTurned 95 = .ok (.goto 11, 3) := by decide +kernel
theorem dX2_looksTurned_98 : decode cX2_looksTurned 98 = .ok (.aload_n 0, 1) := by decide +kernel
theorem dX2_looksTurned_99 : decode cX2_looksTurned 99 = .ok (.getfield 19, 3) := by decide +kernel
theorem dX2_looksTurned_102 : decode cX2_looksTurned 102 = .ok (.iconst 1, 1) := by decide +kernel
theorem dX2_looksTurned_103 : decode cX2_looksTurned 103 = .ok (.isub, 1) := by decide +kernel
theorem dX2_looksTurned_104 : decode cX2_looksTurned 104 = .ok (.iload_n 2, 1) := by decide +kernel
theorem dX2_looksTurned_105 : decode cX2_looksTurned 105 = .ok (.isub, 1) := by decide +kernel
theorem dX2_looksTurned_106 : decode cX2_looksTurned 106 = .ok (.istore 5, 2) := by decide +kernel
theorem dX2_looksTurned_108 : decode cX2_looksTurned 108 = .ok (.aload_n 0, 1) := by decide +kernel
theorem dX2_looksTurned_109 : decode cX2_looksTurned 109 = .ok (.iload 4, 2) := by decide +kernel
theorem dX2_looksTurned_111 : decode cX2_looksTurned 111 = .ok (.aload_n 0, 1) := by decide +kernel
theorem dX2_looksTurned_112 : decode cX2_looksTurned 112 = .ok (.getfield 19, 3) := by decide +kernel
theorem dX2_looksTurned_115 : decode cX2_looksTurned 115 = .ok (.imul, 1) := by decide +kernel
theorem dX2_looksTurned_116 : decode cX2_looksTurned 116 = .ok (.iload 5, 2) := by decide +kernel
theorem dX2_looksTurned_118 : decode cX2_looksTurned 118 = .ok (.iadd, 1) := by decide +kernel
theorem dX2_looksTurned_119 : decode cX2_looksTurned 119 = .ok (.invokevirtual 61, 3) := by decide +kernel
theorem dX2_looksTurned_122 : decode cX2_looksTurned 122 = .ok (.aload_n 0, 1) := by decide +kernel
theorem dX2_looksTurned_123 : decode cX2_looksTurned 123 = .ok (.iload_n 2, 1) := by decide +kernel
theorem dX2_looksTurned_124 : decode cX2_looksTurned 124 = .ok (.aload_n 0, 1) := by decide +kernel
theorem dX2_looksTurned_125 : decode cX2_looksTurned 125 = .ok (.getfield 19, 3) := by decide +kernel
theorem dX2_looksTurned_128 : decode cX2_looksTurned 128 = .ok (.imul, 1) := by decide +kernel
theorem dX2_looksTurned_129 : decode cX2_looksTurned 129 = .ok (.iload_n 3, 1) := by decide +kernel
theorem dX2_looksTurned_130 : decode cX2_looksTurned 130 = .ok (.iadd, 1) := by decide +kernel
theorem dX2_looksTurned_131 : decode cX2_looksTurned 131 = .ok (.invokevirtual 61, 3) := by decide +kernel
theorem dX2_looksTurned_134 : decode cX2_looksTurned 134 = .ok (.if_icmp .eq 5, 3) := by decide +kernel
theorem dX2_looksTurned_137 : decode cX2_looksTurned 137 = .ok (.iconst 0, 1) := by decide +kernel
theorem dX2_looksTurned_138 : decode cX2_looksTurned 138 = .ok (.ireturn, 1) := by decide +kernel
theorem dX2_looksTurned_139 : decode cX2_looksTurned 139 = .ok (.iinc 3 1, 3) := by decide +kernel
theorem dX2_looksTurned_142 : decode cX2_looksTurned 142 = .ok (.goto (-112), 3) := by decide +kernel
theorem dX2_looksTurned_145 : decode cX2_looksTurned 145 = .ok (.iinc 2 1, 3) := by decide +kernel
theorem dX2_looksTurned_148 : decode cX2_looksTurned 148 = .ok (.goto (-128), 3) := by decide +kernel
theorem dX2_looksTurned_151 : decode cX2_looksTurned 151 = .ok (.iconst 1, 1) := by decide +kernel
theorem dX2_looksTurned_152 : decode cX2_looksTurned 152 = .ok (.ireturn, 1) := by decide +kernel
theorem dX2_looksMirrored_0 : decode cX2_looksMirrored 0 = .ok (.iconst 0, 1) := by decide +kernel
theorem dX2_looksMirrored_1 : decode cX2_looksMirrored 1 = .ok (.istore_n 1, 1) := by decide +kernel
theorem dX2_looksMirrored_2 : decode cX2_looksMirrored 2 = .ok (.iload_n 1, 1) := by decide +kernel
theorem dX2_looksMirrored_3 : decode cX2_looksMirrored 3 = .ok (.aload_n 0, 1) := by decide +kernel
theorem dX2_looksMirrored_4 : decode cX2_looksMirrored 4 = .ok (.getfield 15, 3) := by decide +kernel
theorem dX2_looksMirrored_7 : decode cX2_looksMirrored 7 = .ok (.if_icmp .ge 61, 3) := by decide +kernel
theorem dX2_looksMirrored_10 : decode cX2_looksMirrored 10 = .ok (.iconst 0, 1) := by decide +kernel
theorem dX2_looksMirrored_11 : decode cX2_looksMirrored 11 = .ok (.istore_n 2, 1) := by decide +kernel
theorem dX2_looksMirrored_12 : decode cX2_looksMirrored 12 = .ok (.iload_n 2, 1) := by decide +kernel
theorem dX2_looksMirrored_13 : decode cX2_looksMirrored 13 = .ok (.aload_n 0, 1) := by decide +kernel
theorem dX2_looksMirrored_14 : decode cX2_looksMirrored 14 = .ok (.getfield 19, 3) := by decide +kernel
theorem dX2_looksMirrored_17 : decode cX2_looksMirrored 17 = .ok (.if_icmp .ge 45, 3) := by decide +kernel
theorem dX2_looksMirrored_20 : decode cX2_looksMirrored 20 = .ok (.aload_n 0, 1) := by decide +kernel
theorem dX2_looksMirrored_21 : decode cX2_looksMirrored 21 = .ok (.iload_n 1, 1) := by decide +kernel
theorem dX2_looksMirrored_22 : decode cX2_looksMirrored 22 = .ok (.aload_n 0, 1) := by decide +kernel
theorem dX2_looksMirrored_23 : decode cX2_looksMirrored 23 = .ok (.getfield 19, 3) := by decide +kernel
theorem dX2_looksMirrored_26 : decode cX2_looksMirrored 26 = .ok (.imul, 1) := by decide +kernel
theorem dX2_looksMirrored_27 : decode cX2_looksMirrored 27 = .ok (.aload_n 0, 1) := by decide +kernel
theorem dX2_looksMirrored_28 : decode cX2_looksMirrored 28 = .ok (.getfield 19, 3) := by decide +kernel
theorem dX2_looksMirrored_31 : decode cX2_looksMirrored 31 = .ok (.iadd, 1) := by decide +kernel
theorem dX2_looksMirrored_32 : decode cX2_looksMirrored 32 = .ok (.iconst 1, 1) := by decide +kernel
theorem dX2_looksMirrored_33 : decode cX2_looksMirrored 33 = .ok (.isub, 1) := by decide +kernel
theorem dX2_looksMirrored_34 : decode cX2_looksMirrored 34 = .ok (.iload_n 2, 1) := by decide +kernel
theorem dX2_looksMirrored_35 : decode cX2_looksMirrored 35 = .ok (.isub, 1) := by decide +kernel
theorem dX2_looksMirrored_36 : decode cX2_looksMirrored 36 = .ok (.invokevirtual 61, 3) := by decide +kernel
theorem dX2_looksMirrored_39 : decode cX2_looksMirrored 39 = .ok (.aload_n 0, 1) := by decide +kernel
theorem dX2_looksMirrored_40 : decode cX2_looksMirrored 40 = .ok (.iload_n 1, 1) := by decide +kernel
theorem dX2_looksMirrored_41 : decode cX2_looksMirrored 41 = .ok (.aload_n 0, 1) := by decide +kernel
theorem dX2_looksMirrored_42 : decode cX2_looksMirrored 42 = .ok (.getfield 19, 3) := by decide +kernel
theorem dX2_looksMirrored_45 : decode cX2_looksMirrored 45 = .ok (.imul, 1) := by decide +kernel
theorem dX2_looksMirrored_46 : decode cX2_looksMirrored 46 = .ok (.iload_n 2, 1) := by decide +kernel
theorem dX2_looksMirrored_47 : decode cX2_looksMirrored 47 = .ok (.iadd, 1) := by decide +kernel
theorem dX2_looksMirrored_48 : decode cX2_looksMirrored 48 = .ok (.invokevirtual 61, 3) := by decide +kernel
theorem dX2_looksMirrored_51 : decode cX2_looksMirrored 51 = .ok (.if_icmp .eq 5, 3) := by decide +kernel
theorem dX2_looksMirrored_54 : decode cX2_looksMirrored 54 = .ok (.iconst 0, 1) := by decide +kernel
theorem dX2_looksMirrored_55 : decode cX2_looksMirrored 55 = .ok (.ireturn, 1) := by decide +kernel
theorem dX2_looksMirrored_56 : decode cX2_looksMirrored 56 = .ok (.iinc 2 1, 3) := by decide +kernel
theorem dX2_looksMirrored_59 : decode cX2_looksMirrored 59 = .ok (.goto (-47), 3) := by decide +kernel
theorem dX2_looksMirrored_62 : decode cX2_looksMirrored 62 = .ok (.iinc 1 1, 3) := by decide +kernel
theorem dX2_looksMirrored_65 : decode cX2_looksMirrored 65 = .ok (.goto (-63), 3) := by decide +kernel
theorem dX2_looksMirrored_68 : decode cX2_looksMirrored 68 = .ok (.iconst 1, 1) := by decide +kernel
theorem dX2_looksMirrored_69 : decode cX2_looksMirrored 69 = .ok (.ireturn, 1) := by decide +kernel
theorem dX3_init_0 : decode cX3_init 0 = .ok (.aload_n 0, 1) := by decide +kernel
theorem dX3_init_1 : decode cX3_init 1 = .ok (.invokespecial 3, 3) := by decide +kernel
theorem dX3_init_4 : decode cX3_init 4 = .ok (.aload_n 0, 1) := by decide +kernel
theorem dX3_init_5 : decode cX3_init 5 = .ok (.bipush 37, 2) := by decide +kernel
theorem dX3_init_7 : decode cX3_init 7 = .ok (.newarray .long, 2) := by decide +kernel
theorem dX3_init_9 : decode cX3_init 9 = .ok (.putfield 11, 3) := by decide +kernel
theorem dX3_init_12 : decode cX3_init 12 = .ok (.aload_n 0, 1) := by decide +kernel
theorem dX3_init_13 : decode cX3_init 13 = .ok (.iconst 0, 1) := by decide +kernel
theorem dX3_init_14 : decode cX3_init 14 = .ok (.putfield 15, 3) := by decide +kernel
theorem dX3_init_17 : decode cX3_init 17 = .ok (.return_, 1) := by decide +kernel
theorem dX3_size_0 : decode cX3_size 0 = .ok (.aload_n 0, 1) := by decide +kernel
theorem dX3_size_1 : decode cX3_size 1 = .ok (.getfield 15, 3) := by decide +kernel
theorem dX3_size_4 : decode cX3_size 4 = .ok (.ireturn, 1) := by decide +kernel
theorem dX3_begin_0 : decode cX3_begin 0 = .ok (.aload_n 0, 1) := by decide +kernel
theorem dX3_begin_1 : decode cX3_begin 1 = .ok (.iconst 0, 1) := by decide +kernel
theorem dX3_begin_2 : decode cX3_begin 2 = .ok (.putfield 15, 3) := by decide +kernel
theorem dX3_begin_5 : decode cX3_begin 5 = .ok (.return_, 1) := by decide +kernel
theorem dX3_add_0 : decode cX3_add 0 = .ok (.aload_n 0, 1) := by decide +kernel
theorem dX3_add_1 : decode cX3_add 1 = .ok (.getfield 15, 3) := by decide +kernel
theorem dX3_add_4 : decode cX3_add 4 = .ok (.ifCond .lt 32, 3) := by decide +kernel
theorem dX3_add_7 : decode cX3_add 7 = .ok (.aload_n 0, 1) := by decide +kernel
theorem dX3_add_8 : decode cX3_add 8 = .ok (.getfield 15, 3) := by decide +kernel
theorem dX3_add_11 : decode cX3_add 11 = .ok (.bipush 37, 2) := by decide +kernel
theorem dX3_add_13 : decode cX3_add 13 = .ok (.if_icmp .ge 23, 3) := by decide +kernel
theorem dX3_add_16 : decode cX3_add 16 = .ok (.aload_n 0, 1) := by decide +kernel
theorem dX3_add_17 : decode cX3_add 17 = .ok (.getfield 11, 3) := by decide +kernel
theorem dX3_add_20 : decode cX3_add 20 = .ok (.aload_n 0, 1) := by decide +kernel
theorem dX3_add_21 : decode cX3_add 21 = .ok (.getfield 15, 3) := by decide +kernel
theorem dX3_add_24 : decode cX3_add 24 = .ok (.lload_n 1, 1) := by decide +kernel
theorem dX3_add_25 : decode cX3_add 25 = .ok (.lastore, 1) := by decide +kernel
theorem dX3_add_26 : decode cX3_add 26 = .ok (.aload_n 0, 1) := by decide +kernel
theorem dX3_add_27 : decode cX3_add 27 = .ok (.dup, 1) := by decide +kernel
theorem dX3_add_28 : decode cX3_add 28 = .ok (.getfield 15, 3) := by decide +kernel
theorem dX3_add_31 : decode cX3_add 31 = .ok (.iconst 1, 1) := by decide +kernel
theorem dX3_add_32 : decode cX3_add 32 = .ok (.iadd, 1) := by decide +kernel
theorem dX3_add_33 : decode cX3_add 33 = .ok (.putfield 15, 3) := by decide +kernel
theorem dX3_add_36 : decode cX3_add 36 = .ok (.return_, 1) := by decide +kernel
theorem dX3_at_0 : decode cX3_at 0 = .ok (.iload_n 1, 1) := by decide +kernel
theorem dX3_at_1 : decode cX3_at 1 = .ok (.ifCond .lt 26, 3) := by decide +kernel
theorem dX3_at_4 : decode cX3_at 4 = .ok (.iload_n 1, 1) := by decide +kernel
theorem dX3_at_5 : decode cX3_at 5 = .ok (.aload_n 0, 1) := by decide +kernel
theorem dX3_at_6 : decode cX3_at 6 = .ok (.getfield 15, 3) := by decide +kernel
theorem dX3_at_9 : decode cX3_at 9 = .ok (.if_icmp .ge 18, 3) := by decide +kernel
theorem dX3_at_12 : decode cX3_at 12 = .ok (.iload_n 1, 1) := by decide +kernel
theorem dX3_at_13 : decode cX3_at 13 = .ok (.bipush 37, 2) := by decide +kernel
theorem dX3_at_15 : decode cX3_at 15 = .ok (.if_icmp .ge 12, 3) := by decide +kernel
theorem dX3_at_18 : decode cX3_at 18 = .ok (.aload_n 0, 1) := by decide +kernel
theorem dX3_at_19 : decode cX3_at 19 = .ok (.getfield 11, 3) := by decide +kernel
theorem dX3_at_22 : decode cX3_at 22 = .ok (.iload_n 1, 1) := by decide +kernel
theorem dX3_at_23 : decode cX3_at 23 = .ok (.laload, 1) := by decide +kernel
theorem dX3_at_24 : decode cX3_at 24 = .ok (.goto 4, 3) := by decide +kernel
theorem dX3_at_27 : decode cX3_at 27 = .ok (.lconst 0, 1) := by decide +kernel
theorem dX3_at_28 : decode cX3_at 28 = .ok (.lreturn, 1) := by decide +kernel
theorem dX4_init_0 : decode cX4_init 0 = .ok (.aload_n 0, 1) := by decide +kernel
theorem dX4_init_1 : decode cX4_init 1 = .ok (.invokespecial 1, 3) := by decide +kernel
theorem dX4_init_4 : decode cX4_init 4 = .ok (.aload_n 0, 1) := by decide +kernel
theorem dX4_init_5 : decode cX4_init 5 = .ok (.bipush 40, 2) := by decide +kernel
theorem dX4_init_7 : decode cX4_init 7 = .ok (.newarray .int, 2) := by decide +kernel
theorem dX4_init_9 : decode cX4_init 9 = .ok (.putfield 9, 3) := by decide +kernel
theorem dX4_init_12 : decode cX4_init 12 = .ok (.aload_n 0, 1) := by decide +kernel
theorem dX4_init_13 : decode cX4_init 13 = .ok (.bipush 40, 2) := by decide +kernel
theorem dX4_init_15 : decode cX4_init 15 = .ok (.newarray .int, 2) := by decide +kernel
theorem dX4_init_17 : decode cX4_init 17 = .ok (.putfield 13, 3) := by decide +kernel
theorem dX4_init_20 : decode cX4_init 20 = .ok (.aload_n 0, 1) := by decide +kernel
theorem dX4_init_21 : decode cX4_init 21 = .ok (.iconst 0, 1) := by decide +kernel
theorem dX4_init_22 : decode cX4_init 22 = .ok (.putfield 16, 3) := by decide +kernel
theorem dX4_init_25 : decode cX4_init 25 = .ok (.return_, 1) := by decide +kernel
theorem dX4_begin_0 : decode cX4_begin 0 = .ok (.aload_n 0, 1) := by decide +kernel
theorem dX4_begin_1 : decode cX4_begin 1 = .ok (.iconst 0, 1) := by decide +kernel
theorem dX4_begin_2 : decode cX4_begin 2 = .ok (.putfield 16, 3) := by decide +kernel
theorem dX4_begin_5 : decode cX4_begin 5 = .ok (.return_, 1) := by decide +kernel
theorem dX4_addNumber_0 : decode cX4_addNumber 0 = .ok (.aload_n 0, 1) := by decide +kernel
theorem dX4_addNumber_1 : decode cX4_addNumber 1 = .ok (.iload_n 1, 1) := by decide +kernel
theorem dX4_addNumber_2 : decode cX4_addNumber 2 = .ok (.invokevirtual 20, 3) := by decide +kernel
theorem dX4_addNumber_5 : decode cX4_addNumber 5 = .ok (.return_, 1) := by decide +kernel
theorem dX4_addSign_0 : decode cX4_addSign 0 = .ok (.aload_n 0, 1) := by decide +kernel
theorem dX4_addSign_1 : decode cX4_addSign 1 = .ok (.iload_n 1, 1) := by decide +kernel
theorem dX4_addSign_2 : decode cX4_addSign 2 = .ok (.ineg, 1) := by decide +kernel
theorem dX4_addSign_3 : decode cX4_addSign 3 = .ok (.invokevirtual 20, 3) := by decide +kernel
theorem dX4_addSign_6 : decode cX4_addSign 6 = .ok (.return_, 1) := by decide +kernel
theorem dX4_add_0 : decode cX4_add 0 = .ok (.aload_n 0, 1) := by decide +kernel
theorem dX4_add_1 : decode cX4_add 1 = .ok (.getfield 16, 3) := by decide +kernel
theorem dX4_add_4 : decode cX4_add 4 = .ok (.ifCond .lt 32, 3) := by decide +kernel
theorem dX4_add_7 : decode cX4_add 7 = .ok (.aload_n 0, 1) := by decide +kernel
theorem dX4_add_8 : decode cX4_add 8 = .ok (.getfield 16, 3) := by decide +kernel
theorem dX4_add_11 : decode cX4_add 11 = .ok (.bipush 40, 2) := by decide +kernel
theorem dX4_add_13 : decode cX4_add 13 = .ok (.if_icmp .ge 23, 3) := by decide +kernel
theorem dX4_add_16 : decode cX4_add 16 = .ok (.aload_n 0, 1) := by decide +kernel
theorem dX4_add_17 : decode cX4_add 17 = .ok (.getfield 9, 3) := by decide +kernel
theorem dX4_add_20 : decode cX4_add 20 = .ok (.aload_n 0, 1) := by decide +kernel
theorem dX4_add_21 : decode cX4_add 21 = .ok (.getfield 16, 3) := by decide +kernel
theorem dX4_add_24 : decode cX4_add 24 = .ok (.iload_n 1, 1) := by decide +kernel
theorem dX4_add_25 : decode cX4_add 25 = .ok (.iastore, 1) := by decide +kernel
theorem dX4_add_26 : decode cX4_add 26 = .ok (.aload_n 0, 1) := by decide +kernel
theorem dX4_add_27 : decode cX4_add 27 = .ok (.dup, 1) := by decide +kernel
theorem dX4_add_28 : decode cX4_add 28 = .ok (.getfield 16, 3) := by decide +kernel
theorem dX4_add_31 : decode cX4_add 31 = .ok (.iconst 1, 1) := by decide +kernel
theorem dX4_add_32 : decode cX4_add 32 = .ok (.iadd, 1) := by decide +kernel
theorem dX4_add_33 : decode cX4_add 33 = .ok (.putfield 16, 3) := by decide +kernel
theorem dX4_add_36 : decode cX4_add 36 = .ok (.return_, 1) := by decide +kernel
theorem dX4_turnOf_0 : decode cX4_turnOf 0 = .ok (.iconst 0, 1) := by decide +kernel
theorem dX4_turnOf_1 : decode cX4_turnOf 1 = .ok (.istore_n 3, 1) := by decide +kernel
theorem dX4_turnOf_2 : decode cX4_turnOf 2 = .ok (.iconst 0, 1) := by decide +kernel
theorem dX4_turnOf_3 : decode cX4_turnOf 3 = .ok (.istore 4, 2) := by decide +kernel
theorem dX4_turnOf_5 : decode cX4_turnOf 5 = .ok (.iload 4, 2) := by decide +kernel
theorem dX4_turnOf_7 : decode cX4_turnOf 7 = .ok (.aload_n 0, 1) := by decide +kernel
theorem dX4_turnOf_8 : decode cX4_turnOf 8 = .ok (.getfield 16, 3) := by decide +kernel
theorem dX4_turnOf_11 : decode cX4_turnOf 11 = .ok (.if_icmp .ge 144, 3) := by decide +kernel
theorem dX4_turnOf_14 : decode cX4_turnOf 14 = .ok (.iload 4, 2) := by decide +kernel
theorem dX4_turnOf_16 : decode cX4_turnOf 16 = .ok (.bipush 40, 2) := by decide +kernel
theorem dX4_turnOf_18 : decode cX4_turnOf 18 = .ok (.if_icmp .ge 137, 3) := by decide +kernel
theorem dX4_turnOf_21 : decode cX4_turnOf 21 = .ok (.aload_n 0, 1) := by decide +kernel
theorem dX4_turnOf_22 : decode cX4_turnOf 22 = .ok (.getfield 9, 3) := by decide +kernel
theorem dX4_turnOf_25 : decode cX4_turnOf 25 = .ok (.iload 4, 2) := by decide +kernel
theorem dX4_turnOf_27 : decode cX4_turnOf 27 = .ok (.iaload, 1) := by decide +kernel
theorem dX4_turnOf_28 : decode cX4_turnOf 28 = .ok (.istore 5, 2) := by decide +kernel
theorem dX4_turnOf_30 : decode cX4_turnOf 30 = .ok (.iload 5, 2) := by decide +kernel
theorem dX4_turnOf_32 : decode cX4_turnOf 32 = .ok (.ifCond .ge 12, 3) := by decide +kernel
theorem dX4_turnOf_35 : decode cX4_turnOf 35 = .ok (.iload 5, 2) := by decide +kernel
theorem dX4_turnOf_37 : decode cX4_turnOf 37 = .ok (.ineg, 1) := by decide +kernel
theorem dX4_turnOf_38 : decode cX4_turnOf 38 = .ok (.invokestatic 24, 3) := by decide +kernel
theorem dX4_turnOf_41 : decode cX4_turnOf 41 = .ok (.ifCond .eq 39, 3) := by decide +kernel
theorem dX4_turnOf_44 : decode cX4_turnOf 44 = .ok (.iload_n 3, 1) := by decide +kernel
theorem dX4_turnOf_45 : decode cX4_turnOf 45 = .ok (.bipush 40, 2) := by decide +kernel
theorem dX4_turnOf_47 : decode cX4_turnOf 47 = .ok (.if_icmp .ge 102, 3) := by decide +kernel
theorem dX4_turnOf_50 : decode cX4_turnOf 50 = .ok (.aload_n 0, 1) := by decide +kernel
theorem dX4_turnOf_51 : decode cX4_turnOf 51 = .ok (.getfield 13, 3) := by decide +kernel
theorem dX4_turnOf_54 : decode cX4_turnOf 54 = .ok (.iload_n 3, 1) := by decide +kernel
theorem dX4_turnOf_55 : decode cX4_turnOf 55 = .ok (.iload 5, 2) := by decide +kernel
theorem dX4_turnOf_57 : decode cX4_turnOf 57 = .ok (.ifCond .lt 8, 3) := by decide +kernel
theorem dX4_turnOf_60 : decode cX4_turnOf 60 = .ok (.iload 5, 2) := by decide +kernel
theorem dX4_turnOf_62 : decode cX4_turnOf 62 = .ok (.goto 11, 3) := by decide +kernel
theorem dX4_turnOf_65 : decode cX4_turnOf 65 = .ok (.iload 5, 2) := by decide +kernel
theorem dX4_turnOf_67 : decode cX4_turnOf 67 = .ok (.ineg, 1) := by decide +kernel
theorem dX4_turnOf_68 : decode cX4_turnOf 68 = .ok (.aload_n 1, 1) := by decide +kernel
theorem dX4_turnOf_69 : decode cX4_turnOf 69 = .ok (.aload_n 2, 1) := by decide +kernel
theorem dX4_turnOf_70 : decode cX4_turnOf 70 = .ok (.invokestatic 28, 3) := by decide +kernel
theorem dX4_turnOf_73 : decode cX4_turnOf 73 = .ok (.iastore, 1) := by decide +kernel
theorem dX4_turnOf_74 : decode cX4_turnOf 74 = .ok (.iinc 3 1, 3) := by decide +kernel
theorem dX4_turnOf_77 : decode cX4_turnOf 77 = .ok (.goto 72, 3) := by decide +kernel
theorem dX4_turnOf_80 : decode cX4_turnOf 80 = .ok (.iload 5, 2) := by decide +kernel
theorem dX4_turnOf_82 : decode cX4_turnOf 82 = .ok (.ineg, 1) := by decide +kernel
theorem dX4_turnOf_83 : decode cX4_turnOf 83 = .ok (.bipush 126, 2) := by decide +kernel
theorem dX4_turnOf_85 : decode cX4_turnOf 85 = .ok (.if_icmp .ne 28, 3) := by decide +kernel
theorem dX4_turnOf_88 : decode cX4_turnOf 88 = .ok (.iload_n 3, 1) := by decide +kernel
theorem dX4_turnOf_89 : decode cX4_turnOf 89 = .ok (.iconst 1, 1) := by decide +kernel
theorem dX4_turnOf_90 : decode cX4_turnOf 90 = .ok (.if_icmp .lt 59, 3) := by decide +kernel
theorem dX4_turnOf_93 : decode cX4_turnOf 93 = .ok (.aload_n 0, 1) := by decide +kernel
theorem dX4_turnOf_94 : decode cX4_turnOf 94 = .ok (.getfield 13, 3) := by decide +kernel
theorem dX4_turnOf_97 : decode cX4_turnOf 97 = .ok (.iload_n 3, 1) := by decide +kernel
theorem dX4_turnOf_98 : decode cX4_turnOf 98 = .ok (.iconst 1, 1) := by decide +kernel
theorem dX4_turnOf_99 : decode cX4_turnOf 99 = .ok (.isub, 1) := by decide +kernel
theorem dX4_turnOf_100 : decode cX4_turnOf 100 = .ok (.aload_n 0, 1) := by decide +kernel
theorem dX4_turnOf_101 : decode cX4_turnOf 101 = .ok (.getfield 13, 3) := by decide +kernel
theorem dX4_turnOf_104 : decode cX4_turnOf 104 = .ok (.iload_n 3, 1) := by decide +kernel
theorem dX4_turnOf_105 : decode cX4_turnOf 105 = .ok (.iconst 1, 1) := by decide +kernel
theorem dX4_turnOf_106 : decode cX4_turnOf 106 = .ok (.isub, 1) := by decide +kernel
theorem dX4_turnOf_107 : decode cX4_turnOf 107 = .ok (.iaload, 1) := by decide +kernel
theorem dX4_turnOf_108 : decode cX4_turnOf 108 = .ok (.ineg, 1) := by decide +kernel
theorem dX4_turnOf_109 : decode cX4_turnOf 109 = .ok (.iastore, 1) := by decide +kernel
theorem dX4_turnOf_110 : decode cX4_turnOf 110 = .ok (.goto 39, 3) := by decide +kernel
theorem dX4_turnOf_113 : decode cX4_turnOf 113 = .ok (.iload_n 3, 1) := by decide +kernel
theorem dX4_turnOf_114 : decode cX4_turnOf 114 = .ok (.iconst 2, 1) := by decide +kernel
theorem dX4_turnOf_115 : decode cX4_turnOf 115 = .ok (.if_icmp .lt 34, 3) := by decide +kernel
theorem dX4_turnOf_118 : decode cX4_turnOf 118 = .ok (.iinc 3 (-1), 3) := by decide +kernel
theorem dX4_turnOf_121 : decode cX4_turnOf 121 = .ok (.aload_n 0, 1) := by decide +kernel
theorem dX4_turnOf_122 : decode cX4_turnOf 122 = .ok (.getfield 13, 3) := by decide +kernel
theorem dX4_turnOf_125 : decode cX4_turnOf 125 = .ok (.iload_n 3, 1) := by decide +kernel
theorem dX4_turnOf_126 : decode cX4_turnOf 126 = .ok (.iconst 1, 1) := by decide +kernel
theorem dX4_turnOf_127 : decode cX4_turnOf 127 = .ok (.isub, 1) := by decide +kernel
theorem dX4_turnOf_128 : decode cX4_turnOf 128 = .ok (.iload 5, 2) := by decide +kernel
theorem dX4_turnOf_130 : decode cX4_turnOf 130 = .ok (.ineg, 1) := by decide +kernel
theorem dX4_turnOf_131 : decode cX4_turnOf 131 = .ok (.aload_n 0, 1) := by decide +kernel
theorem dX4_turnOf_132 : decode cX4_turnOf 132 = .ok (.getfield 13, 3) := by decide +kernel
theorem dX4_turnOf_135 : decode cX4_turnOf 135 = .ok (.iload_n 3, 1) := by decide +kernel
theorem dX4_turnOf_136 : decode cX4_turnOf 136 = .ok (.iconst 1, 1) := by decide +kernel
theorem dX4_turnOf_137 : decode cX4_turnOf 137 = .ok (.isub, 1) := by decide +kernel
theorem dX4_turnOf_138 : decode cX4_turnOf 138 = .ok (.iaload, 1) := by decide +kernel
theorem dX4_turnOf_139 : decode cX4_turnOf 139 = .ok (.aload_n 0, 1) := by decide +kernel
theorem dX4_turnOf_140 : decode cX4_turnOf 140 = .ok (.getfield 13, 3) := by decide +kernel
theorem dX4_turnOf_143 : decode cX4_turnOf 143 = .ok (.iload_n 3, 1) := by decide +kernel
theorem dX4_turnOf_144 : decode cX4_turnOf 144 = .ok (.iaload, 1) := by decide +kernel
theorem dX4_turnOf_145 : decode cX4_turnOf 145 = .ok (.invokestatic 32, 3) := by decide +kernel
theorem dX4_turnOf_148 : decode cX4_turnOf 148 = .ok (.iastore, 1) := by decide +kernel
theorem dX4_turnOf_149 : decode cX4_turnOf 149 = .ok (.iinc 4 1, 3) := by decide +kernel
theorem dX4_turnOf_152 : decode cX4_turnOf 152 = .ok (.goto (-147), 3) := by decide +kernel
theorem dX4_turnOf_155 : decode cX4_turnOf 155 = .ok (.aload_n 0, 1) := by decide +kernel
theorem dX4_turnOf_156 : decode cX4_turnOf 156 = .ok (.getfield 16, 3) := by decide +kernel
theorem dX4_turnOf_159 : decode cX4_turnOf 159 = .ok (.ifCond .ne 7, 3) := by decide +kernel
theorem dX4_turnOf_162 : decode cX4_turnOf 162 = .ok (.iconst 1, 1) := by decide +kernel
theorem dX4_turnOf_163 : decode cX4_turnOf 163 = .ok (.goto 11, 3) := by decide +kernel
theorem dX4_turnOf_166 : decode cX4_turnOf 166 = .ok (.aload_n 0, 1) := by decide +kernel
theorem dX4_turnOf_167 : decode cX4_turnOf 167 = .ok (.getfield 13, 3) := by decide +kernel
theorem dX4_turnOf_170 : decode cX4_turnOf 170 = .ok (.iconst 0, 1) := by decide +kernel
theorem dX4_turnOf_171 : decode cX4_turnOf 171 = .ok (.iaload, 1) := by decide +kernel
theorem dX4_turnOf_172 : decode cX4_turnOf 172 = .ok (.iconst 4, 1) := by decide +kernel
theorem dX4_turnOf_173 : decode cX4_turnOf 173 = .ok (.irem, 1) := by decide +kernel
theorem dX4_turnOf_174 : decode cX4_turnOf 174 = .ok (.istore 4, 2) := by decide +kernel
theorem dX4_turnOf_176 : decode cX4_turnOf 176 = .ok (.iload 4, 2) := by decide +kernel
theorem dX4_turnOf_178 : decode cX4_turnOf 178 = .ok (.ifCond .ge 10, 3) := by decide +kernel
theorem dX4_turnOf_181 : decode cX4_turnOf 181 = .ok (.iload 4, 2) := by decide +kernel
theorem dX4_turnOf_183 : decode cX4_turnOf 183 = .ok (.iconst 4, 1) := by decide +kernel
theorem dX4_turnOf_184 : decode cX4_turnOf 184 = .ok (.iadd, 1) := by decide +kernel
theorem dX4_turnOf_185 : decode cX4_turnOf 185 = .ok (.goto 5, 3) := by decide +kernel
theorem dX4_turnOf_188 : decode cX4_turnOf 188 = .ok (.iload 4, 2) := by decide +kernel
theorem dX4_turnOf_190 : decode cX4_turnOf 190 = .ok (.ireturn, 1) := by decide +kernel
theorem dX4_isThing_0 : decode cX4_isThing 0 = .ok (.iload_n 0, 1) := by decide +kernel
theorem dX4_isThing_1 : decode cX4_isThing 1 = .ok (.bipush 98, 2) := by decide +kernel
theorem dX4_isThing_3 : decode cX4_isThing 3 = .ok (.if_icmp .eq 27, 3) := by decide +kernel
theorem dX4_isThing_6 : decode cX4_isThing 6 = .ok (.iload_n 0, 1) := by decide +kernel
theorem dX4_isThing_7 : decode cX4_isThing 7 = .ok (.bipush 104, 2) := by decide +kernel
theorem dX4_isThing_9 : decode cX4_isThing 9 = .ok (.if_icmp .eq 21, 3) := by decide +kernel
theorem dX4_isThing_12 : decode cX4_isThing 12 = .ok (.iload_n 0, 1) := by decide +kernel
theorem dX4_isThing_13 : decode cX4_isThing 13 = .ok (.bipush 115, 2) := by decide +kernel
theorem dX4_isThing_15 : decode cX4_isThing 15 = .ok (.if_icmp .eq 15, 3) := by decide +kernel
theorem dX4_isThing_18 : decode cX4_isThing 18 = .ok (.iload_n 0, 1) := by decide +kernel
theorem dX4_isThing_19 : decode cX4_isThing 19 = .ok (.bipush 114, 2) := by decide +kernel
theorem dX4_isThing_21 : decode cX4_isThing 21 = .ok (.if_icmp .eq 9, 3) := by decide +kernel
theorem dX4_isThing_24 : decode cX4_isThing 24 = .ok (.iload_n 0, 1) := by decide +kernel
theorem dX4_isThing_25 : decode cX4_isThing 25 = .ok (.bipush 100, 2) := by decide +kernel
theorem dX4_isThing_27 : decode cX4_isThing 27 = .ok (.if_icmp .ne 7, 3) := by decide +kernel
theorem dX4_isThing_30 : decode cX4_isThing 30 = .ok (.iconst 1, 1) := by decide +kernel
theorem dX4_isThing_31 : decode cX4_isThing 31 = .ok (.goto 4, 3) := by decide +kernel
theorem dX4_isThing_34 : decode cX4_isThing 34 = .ok (.iconst 0, 1) := by decide +kernel
theorem dX4_isThing_35 : decode cX4_isThing 35 = .ok (.ireturn, 1) := by decide +kernel
theorem dX4_thing_0 : decode cX4_thing 0 = .ok (.iload_n 0, 1) := by decide +kernel
theorem dX4_thing_1 : decode cX4_thing 1 = .ok (.lookupswitch 76 #[(98, 43), (104, 51), (114, 61), (115, 56)], 43) := by decide +kernel
theorem dX4_thing_44 : decode cX4_thing 44 = .ok (.aload_n 1, 1) := by decide +kernel
theorem dX4_thing_45 : decode cX4_thing 45 = .ok (.getfield 36, 3) := by decide +kernel
theorem dX4_thing_48 : decode cX4_thing 48 = .ok (.bipush 7, 2) := by decide +kernel
theorem dX4_thing_50 : decode cX4_thing 50 = .ok (.iand, 1) := by decide +kernel
theorem dX4_thing_51 : decode cX4_thing 51 = .ok (.ireturn, 1) := by decide +kernel
theorem dX4_thing_52 : decode cX4_thing 52 = .ok (.aload_n 1, 1) := by decide +kernel
theorem dX4_thing_53 : decode cX4_thing 53 = .ok (.getfield 41, 3) := by decide +kernel
theorem dX4_thing_56 : decode cX4_thing 56 = .ok (.ireturn, 1) := by decide +kernel
theorem dX4_thing_57 : decode cX4_thing 57 = .ok (.aload_n 1, 1) := by decide +kernel
theorem dX4_thing_58 : decode cX4_thing 58 = .ok (.getfield 44, 3) := by decide +kernel
theorem dX4_thing_61 : decode cX4_thing 61 = .ok (.ireturn, 1) := by decide +kernel
theorem dX4_thing_62 : decode cX4_thing 62 = .ok (.aload_n 2, 1) := by decide +kernel
theorem dX4_thing_63 : decode cX4_thing 63 = .ok (.getfield 47, 3) := by decide +kernel
theorem dX4_thing_66 : decode cX4_thing 66 = .ok (.aload_n 1, 1) := by decide +kernel
theorem dX4_thing_67 : decode cX4_thing 67 = .ok (.getfield 44, 3) := by decide +kernel
theorem dX4_thing_70 : decode cX4_thing 70 = .ok (.invokestatic 53, 3) := by decide +kernel
theorem dX4_thing_73 : decode cX4_thing 73 = .ok (.invokestatic 59, 3) := by decide +kernel
theorem dX4_thing_76 : decode cX4_thing 76 = .ok (.ireturn, 1) := by decide +kernel
theorem dX4_thing_77 : decode cX4_thing 77 = .ok (.aload_n 1, 1) := by decide +kernel
theorem dX4_thing_78 : decode cX4_thing 78 = .ok (.aload_n 1, 1) := by decide +kernel
theorem dX4_thing_79 : decode cX4_thing 79 = .ok (.getfield 44, 3) := by decide +kernel
theorem dX4_thing_82 : decode cX4_thing 82 = .ok (.invokevirtual 63, 3) := by decide +kernel
theorem dX4_thing_85 : decode cX4_thing 85 = .ok (.ireturn, 1) := by decide +kernel
theorem dX4_reckoned_0 : decode cX4_reckoned 0 = .ok (.iload_n 0, 1) := by decide +kernel
theorem dX4_reckoned_1 : decode cX4_reckoned 1 = .ok (.lookupswitch 111 #[(42, 67), (43, 59), (45, 63), (47, 71), (60, 83), (62, 97)], 59) := by decide +kernel
theorem dX4_reckoned_60 : decode cX4_reckoned 60 = .ok (.iload_n 1, 1) := by decide +kernel
theorem dX4_reckoned_61 : decode cX4_reckoned 61 = .ok (.iload_n 2, 1) := by decide +kernel
theorem dX4_reckoned_62 : decode cX4_reckoned 62 = .ok (.iadd, 1) := by decide +kernel
theorem dX4_reckoned_63 : decode cX4_reckoned 63 = .ok (.ireturn, 1) := by decide +kernel
theorem dX4_reckoned_64 : decode cX4_reckoned 64 = .ok (.iload_n 1, 1) := by decide +kernel
theorem dX4_reckoned_65 : decode cX4_reckoned 65 = .ok (.iload_n 2, 1) := by decide +kernel
theorem dX4_reckoned_66 : decode cX4_reckoned 66 = .ok (.isub, 1) := by decide +kernel
theorem dX4_reckoned_67 : decode cX4_reckoned 67 = .ok (.ireturn, 1) := by decide +kernel
theorem dX4_reckoned_68 : decode cX4_reckoned 68 = .ok (.iload_n 1, 1) := by decide +kernel
theorem dX4_reckoned_69 : decode cX4_reckoned 69 = .ok (.iload_n 2, 1) := by decide +kernel
theorem dX4_reckoned_70 : decode cX4_reckoned 70 = .ok (.imul, 1) := by decide +kernel
theorem dX4_reckoned_71 : decode cX4_reckoned 71 = .ok (.ireturn, 1) := by decide +kernel
theorem dX4_reckoned_72 : decode cX4_reckoned 72 = .ok (.iload_n 2, 1) := by decide +kernel
theorem dX4_reckoned_73 : decode cX4_reckoned 73 = .ok (.ifCond .ne 7, 3) := by decide +kernel
theorem dX4_reckoned_76 : decode cX4_reckoned 76 = .ok (.iconst 0, 1) := by decide +kernel
theorem dX4_reckoned_77 : decode cX4_reckoned 77 = .ok (.goto 6, 3) := by decide +kernel
theorem dX4_reckoned_80 : decode cX4_reckoned 80 = .ok (.iload_n 1, 1) := by decide +kernel
theorem dX4_reckoned_81 : decode cX4_reckoned 81 = .ok (.iload_n 2, 1) := by decide +kernel
theorem dX4_reckoned_82 : decode cX4_reckoned 82 = .ok (.idiv, 1) := by decide +kernel
theorem dX4_reckoned_83 : decode cX4_reckoned 83 = .ok (.ireturn, 1) := by decide +kernel
theorem dX4_reckoned_84 : decode cX4_reckoned 84 = .ok (.iload_n 1, 1) := by decide +kernel
theorem dX4_reckoned_85 : decode cX4_reckoned 85 = .ok (.iload_n 2, 1) := by decide +kernel
theorem dX4_reckoned_86 : decode cX4_reckoned 86 = .ok (.if_icmp .ge 7, 3) := by decide +kernel
theorem dX4_reckoned_89 : decode cX4_reckoned 89 = .ok (.iconst 1, 1) := by decide +kernel
theorem dX4_reckoned_90 : decode cX4_reckoned 90 = .ok (.goto 4, 3) := by decide +kernel
theorem dX4_reckoned_93 : decode cX4_reckoned 93 = .ok (.iconst 0, 1) := by decide +kernel
theorem dX4_reckoned_94 : decode cX4_reckoned 94 = .ok (.invokestatic 59, 3) := by decide +kernel
theorem dX4_reckoned_97 : decode cX4_reckoned 97 = .ok (.ireturn, 1) := by decide +kernel
theorem dX4_reckoned_98 : decode cX4_reckoned 98 = .ok (.iload_n 1, 1) := by decide +kernel
theorem dX4_reckoned_99 : decode cX4_reckoned 99 = .ok (.iload_n 2, 1) := by decide +kernel
theorem dX4_reckoned_100 : decode cX4_reckoned 100 = .ok (.if_icmp .le 7, 3) := by decide +kernel
theorem dX4_reckoned_103 : decode cX4_reckoned 103 = .ok (.iconst 1, 1) := by decide +kernel
theorem dX4_reckoned_104 : decode cX4_reckoned 104 = .ok (.goto 4, 3) := by decide +kernel
theorem dX4_reckoned_107 : decode cX4_reckoned 107 = .ok (.iconst 0, 1) := by decide +kernel
theorem dX4_reckoned_108 : decode cX4_reckoned 108 = .ok (.invokestatic 59, 3) := by decide +kernel
theorem dX4_reckoned_111 : decode cX4_reckoned 111 = .ok (.ireturn, 1) := by decide +kernel
theorem dX4_reckoned_112 : decode cX4_reckoned 112 = .ok (.iload_n 1, 1) := by decide +kernel
theorem dX4_reckoned_113 : decode cX4_reckoned 113 = .ok (.iload_n 2, 1) := by decide +kernel
theorem dX4_reckoned_114 : decode cX4_reckoned 114 = .ok (.if_icmp .ne 7, 3) := by decide +kernel
theorem dX4_reckoned_117 : decode cX4_reckoned 117 = .ok (.iconst 1, 1) := by decide +kernel
theorem dX4_reckoned_118 : decode cX4_reckoned 118 = .ok (.goto 4, 3) := by decide +kernel
theorem dX4_reckoned_121 : decode cX4_reckoned 121 = .ok (.iconst 0, 1) := by decide +kernel
theorem dX4_reckoned_122 : decode cX4_reckoned 122 = .ok (.invokestatic 59, 3) := by decide +kernel
theorem dX4_reckoned_125 : decode cX4_reckoned 125 = .ok (.ireturn, 1) := by decide +kernel
theorem dX5_init_0 : decode cX5_init 0 = .ok (.aload_n 0, 1) := by decide +kernel
theorem dX5_init_1 : decode cX5_init 1 = .ok (.invokespecial 3, 3) := by decide +kernel
theorem dX5_init_4 : decode cX5_init 4 = .ok (.aload_n 0, 1) := by decide +kernel
theorem dX5_init_5 : decode cX5_init 5 = .ok (.aconst_null, 1) := by decide +kernel
theorem dX5_init_6 : decode cX5_init 6 = .ok (.putfield 9, 3) := by decide +kernel
theorem dX5_init_9 : decode cX5_init 9 = .ok (.aload_n 0, 1) := by decide +kernel
theorem dX5_init_10 : decode cX5_init 10 = .ok (.aconst_null, 1) := by decide +kernel
theorem dX5_init_11 : decode cX5_init 11 = .ok (.putfield 15, 3) := by decide +kernel
theorem dX5_init_14 : decode cX5_init 14 = .ok (.aload_n 0, 1) := by decide +kernel
theorem dX5_init_15 : decode cX5_init 15 = .ok (.iconst 0, 1) := by decide +kernel
theorem dX5_init_16 : decode cX5_init 16 = .ok (.putfield 19, 3) := by decide +kernel
theorem dX5_init_19 : decode cX5_init 19 = .ok (.aload_n 0, 1) := by decide +kernel
theorem dX5_init_20 : decode cX5_init 20 = .ok (.iconst 0, 1) := by decide +kernel
theorem dX5_init_21 : decode cX5_init 21 = .ok (.putfield 23, 3) := by decide +kernel
theorem dX5_init_24 : decode cX5_init 24 = .ok (.return_, 1) := by decide +kernel
theorem dX5_read_0 : decode cX5_read 0 = .ok (.aload_n 0, 1) := by decide +kernel
theorem dX5_read_1 : decode cX5_read 1 = .ok (.aload_n 1, 1) := by decide +kernel
theorem dX5_read_2 : decode cX5_read 2 = .ok (.putfield 9, 3) := by decide +kernel
theorem dX5_read_5 : decode cX5_read 5 = .ok (.aload_n 0, 1) := by decide +kernel
theorem dX5_read_6 : decode cX5_read 6 = .ok (.aload_n 2, 1) := by decide +kernel
theorem dX5_read_7 : decode cX5_read 7 = .ok (.putfield 15, 3) := by decide +kernel
theorem dX5_read_10 : decode cX5_read 10 = .ok (.aload_n 0, 1) := by decide +kernel
theorem dX5_read_11 : decode cX5_read 11 = .ok (.aload_n 1, 1) := by decide +kernel
theorem dX5_read_12 : decode cX5_read 12 = .ok (.invokevirtual 26, 3) := by decide +kernel
theorem dX5_read_15 : decode cX5_read 15 = .ok (.bipush 40, 2) := by decide +kernel
theorem dX5_read_17 : decode cX5_read 17 = .ok (.invokestatic 34, 3) := by decide +kernel
theorem dX5_read_20 : decode cX5_read 20 = .ok (.putfield 19, 3) := by decide +kernel
theorem dX5_read_23 : decode cX5_read 23 = .ok (.aload_n 0, 1) := by decide +kernel
theorem dX5_read_24 : decode cX5_read 24 = .ok (.iconst 0, 1) := by decide +kernel
theorem dX5_read_25 : decode cX5_read 25 = .ok (.putfield 23, 3) := by decide +kernel
theorem dX5_read_28 : decode cX5_read 28 = .ok (.aload_n 2, 1) := by decide +kernel
theorem dX5_read_29 : decode cX5_read 29 = .ok (.invokevirtual 40, 3) := by decide +kernel
theorem dX5_read_32 : decode cX5_read 32 = .ok (.aload_n 1, 1) := by decide +kernel
theorem dX5_read_33 : decode cX5_read 33 = .ok (.invokevirtual 26, 3) := by decide +kernel
theorem dX5_read_36 : decode cX5_read 36 = .ok (.ifCond .ne 5, 3) := by decide +kernel
theorem dX5_read_39 : decode cX5_read 39 = .ok (.iconst (-1), 1) := by decide +kernel
theorem dX5_read_40 : decode cX5_read 40 = .ok (.ireturn, 1) := by decide +kernel
theorem dX5_read_41 : decode cX5_read 41 = .ok (.aload_n 0, 1) := by decide +kernel
theorem dX5_read_42 : decode cX5_read 42 = .ok (.iconst 0, 1) := by decide +kernel
theorem dX5_read_43 : decode cX5_read 43 = .ok (.iconst 0, 1) := by decide +kernel
theorem dX5_read_44 : decode cX5_read 44 = .ok (.invokevirtual 43, 3) := by decide +kernel
theorem dX5_read_47 : decode cX5_read 47 = .ok (.ifCond .eq 29, 3) := by decide +kernel
theorem dX5_read_50 : decode cX5_read 50 = .ok (.aload_n 0, 1) := by decide +kernel
theorem dX5_read_51 : decode cX5_read 51 = .ok (.getfield 23, 3) := by decide +kernel
theorem dX5_read_54 : decode cX5_read 54 = .ok (.aload_n 0, 1) := by decide +kernel
theorem dX5_read_55 : decode cX5_read 55 = .ok (.getfield 19, 3) := by decide +kernel
theorem dX5_read_58 : decode cX5_read 58 = .ok (.if_icmp .ne 18, 3) := by decide +kernel
theorem dX5_read_61 : decode cX5_read 61 = .ok (.aload_n 1, 1) := by decide +kernel
theorem dX5_read_62 : decode cX5_read 62 = .ok (.invokevirtual 26, 3) := by decide +kernel
theorem dX5_read_65 : decode cX5_read 65 = .ok (.aload_n 0, 1) := by decide +kernel
theorem dX5_read_66 : decode cX5_read 66 = .ok (.getfield 19, 3) := by decide +kernel
theorem dX5_read_69 : decode cX5_read 69 = .ok (.if_icmp .ne 7, 3) := by decide +kernel
theorem dX5_read_72 : decode cX5_read 72 = .ok (.iconst 1, 1) := by decide +kernel
theorem dX5_read_73 : decode cX5_read 73 = .ok (.goto 4, 3) := by decide +kernel
theorem dX5_read_76 : decode cX5_read 76 = .ok (.iconst 0, 1) := by decide +kernel
theorem dX5_read_77 : decode cX5_read 77 = .ok (.istore_n 3, 1) := by decide +kernel
theorem dX5_read_78 : decode cX5_read 78 = .ok (.iload_n 3, 1) := by decide +kernel
theorem dX5_read_79 : decode cX5_read 79 = .ok (.ifCond .eq 7, 3) := by decide +kernel
theorem dX5_read_82 : decode cX5_read 82 = .ok (.iconst (-1), 1) := by decide +kernel
theorem dX5_read_83 : decode cX5_read 83 = .ok (.goto 7, 3) := by decide +kernel
theorem dX5_read_86 : decode cX5_read 86 = .ok (.aload_n 0, 1) := by decide +kernel
theorem dX5_read_87 : decode cX5_read 87 = .ok (.getfield 23, 3) := by decide +kernel
theorem dX5_read_90 : decode cX5_read 90 = .ok (.ireturn, 1) := by decide +kernel
theorem dX5_here_0 : decode cX5_here 0 = .ok (.aload_n 0, 1) := by decide +kernel
theorem dX5_here_1 : decode cX5_here 1 = .ok (.getfield 9, 3) := by decide +kernel
theorem dX5_here_4 : decode cX5_here 4 = .ok (.ifnull 28, 3) := by decide +kernel
theorem dX5_here_7 : decode cX5_here 7 = .ok (.aload_n 0, 1) := by decide +kernel
theorem dX5_here_8 : decode cX5_here 8 = .ok (.getfield 23, 3) := by decide +kernel
theorem dX5_here_11 : decode cX5_here 11 = .ok (.aload_n 0, 1) := by decide +kernel
theorem dX5_here_12 : decode cX5_here 12 = .ok (.getfield 19, 3) := by decide +kernel
theorem dX5_here_15 : decode cX5_here 15 = .ok (.if_icmp .ge 17, 3) := by decide +kernel
theorem dX5_here_18 : decode cX5_here 18 = .ok (.aload_n 0, 1) := by decide +kernel
theorem dX5_here_19 : decode cX5_here 19 = .ok (.getfield 9, 3) := by decide +kernel
theorem dX5_here_22 : decode cX5_here 22 = .ok (.aload_n 0, 1) := by decide +kernel
theorem dX5_here_23 : decode cX5_here 23 = .ok (.getfield 23, 3) := by decide +kernel
theorem dX5_here_26 : decode cX5_here 26 = .ok (.invokevirtual 47, 3) := by decide +kernel
theorem dX5_here_29 : decode cX5_here 29 = .ok (.goto 4, 3) := by decide +kernel
theorem dX5_here_32 : decode cX5_here 32 = .ok (.iconst (-1), 1) := by decide +kernel
theorem dX5_here_33 : decode cX5_here 33 = .ok (.ireturn, 1) := by decide +kernel
theorem dX5_emit_0 : decode cX5_emit 0 = .ok (.aload_n 0, 1) := by decide +kernel
theorem dX5_emit_1 : decode cX5_emit 1 = .ok (.getfield 15, 3) := by decide +kernel
theorem dX5_emit_4 : decode cX5_emit 4 = .ok (.ifnull 11, 3) := by decide +kernel
theorem dX5_emit_7 : decode cX5_emit 7 = .ok (.aload_n 0, 1) := by decide +kernel
theorem dX5_emit_8 : decode cX5_emit 8 = .ok (.getfield 15, 3) := by decide +kernel
theorem dX5_emit_11 : decode cX5_emit 11 = .ok (.iload_n 1, 1) := by decide +kernel
theorem dX5_emit_12 : decode cX5_emit 12 = .ok (.invokevirtual 50, 3) := by decide +kernel
theorem dX5_emit_15 : decode cX5_emit 15 = .ok (.return_, 1) := by decide +kernel
theorem dX5_readLevel_0 : decode cX5_readLevel 0 = .ok (.iload_n 1, 1) := by decide +kernel
theorem dX5_readLevel_1 : decode cX5_readLevel 1 = .ok (.iconst 3, 1) := by decide +kernel
theorem dX5_readLevel_2 : decode cX5_readLevel 2 = .ok (.if_icmp .lt 9, 3) := by decide +kernel
theorem dX5_readLevel_5 : decode cX5_readLevel 5 = .ok (.aload_n 0, 1) := by decide +kernel
theorem dX5_readLevel_6 : decode cX5_readLevel 6 = .ok (.iload_n 2, 1) := by decide +kernel
theorem dX5_readLevel_7 : decode cX5_readLevel 7 = .ok (.invokevirtual 54, 3) := by decide +kernel
theorem dX5_readLevel_10 : decode cX5_readLevel 10 = .ok (.ireturn, 1) := by decide +kernel
theorem dX5_readLevel_11 : decode cX5_readLevel 11 = .ok (.iload_n 1, 1) := by decide +kernel
theorem dX5_readLevel_12 : decode cX5_readLevel 12 = .ok (.ifCond .lt 14, 3) := by decide +kernel
theorem dX5_readLevel_15 : decode cX5_readLevel 15 = .ok (.aload_n 0, 1) := by decide +kernel
theorem dX5_readLevel_16 : decode cX5_readLevel 16 = .ok (.iload_n 1, 1) := by decide +kernel
theorem dX5_readLevel_17 : decode cX5_readLevel 17 = .ok (.iconst 1, 1) := by decide +kernel
theorem dX5_readLevel_18 : decode cX5_readLevel 18 = .ok (.iadd, 1) := by decide +kernel
theorem dX5_readLevel_19 : decode cX5_readLevel 19 = .ok (.iload_n 2, 1) := by decide +kernel
theorem dX5_readLevel_20 : decode cX5_readLevel 20 = .ok (.invokevirtual 43, 3) := by decide +kernel
theorem dX5_readLevel_23 : decode cX5_readLevel 23 = .ok (.ifCond .ne 5, 3) := by decide +kernel
theorem dX5_readLevel_26 : decode cX5_readLevel 26 = .ok (.iconst 0, 1) := by decide +kernel
theorem dX5_readLevel_27 : decode cX5_readLevel 27 = .ok (.ireturn, 1) := by decide +kernel
theorem dX5_readLevel_28 : decode cX5_readLevel 28 = .ok (.iload_n 1, 1) := by decide +kernel
theorem dX5_readLevel_29 : decode cX5_readLevel 29 = .ok (.ifCond .ne 7, 3) := by decide +kernel
theorem dX5_readLevel_32 : decode cX5_readLevel 32 = .ok (.iconst 1, 1) := by decide +kernel
theorem dX5_readLevel_33 : decode cX5_readLevel 33 = .ok (.goto 5, 3) := by decide +kernel
theorem dX5_readLevel_36 : decode cX5_readLevel 36 = .ok (.bipush 40, 2) := by decide +kernel
theorem dX5_readLevel_38 : decode cX5_readLevel 38 = .ok (.istore_n 3, 1) := by decide +kernel
theorem dX5_readLevel_39 : decode cX5_readLevel 39 = .ok (.iconst 0, 1) := by decide +kernel
theorem dX5_readLevel_40 : decode cX5_readLevel 40 = .ok (.istore 4, 2) := by decide +kernel
theorem dX5_readLevel_42 : decode cX5_readLevel 42 = .ok (.iload 4, 2) := by decide +kernel
theorem dX5_readLevel_44 : decode cX5_readLevel 44 = .ok (.iload_n 3, 1) := by decide +kernel
theorem dX5_readLevel_45 : decode cX5_readLevel 45 = .ok (.if_icmp .ge 55, 3) := by decide +kernel
theorem dX5_readLevel_48 : decode cX5_readLevel 48 = .ok (.aload_n 0, 1) := by decide +kernel
theorem dX5_readLevel_49 : decode cX5_readLevel 49 = .ok (.invokevirtual 58, 3) := by decide +kernel
theorem dX5_readLevel_52 : decode cX5_readLevel 52 = .ok (.invokestatic 61, 3) := by decide +kernel
theorem dX5_readLevel_55 : decode cX5_readLevel 55 = .ok (.iload_n 1, 1) := by decide +kernel
theorem dX5_readLevel_56 : decode cX5_readLevel 56 = .ok (.if_icmp .ne 44, 3) := by decide +kernel
theorem dX5_readLevel_59 : decode cX5_readLevel 59 = .ok (.aload_n 0, 1) := by decide +kernel
theorem dX5_readLevel_60 : decode cX5_readLevel 60 = .ok (.invokevirtual 58, 3) := by decide +kernel
theorem dX5_readLevel_63 : decode cX5_readLevel 63 = .ok (.istore 5, 2) := by decide +kernel
theorem dX5_readLevel_65 : decode cX5_readLevel 65 = .ok (.aload_n 0, 1) := by decide +kernel
theorem dX5_readLevel_66 : decode cX5_readLevel 66 = .ok (.dup, 1) := by decide +kernel
theorem dX5_readLevel_67 : decode cX5_readLevel 67 = .ok (.getfield 23, 3) := by decide +kernel
theorem dX5_readLevel_70 : decode cX5_readLevel 70 = .ok (.iconst 1, 1) := by decide +kernel
theorem dX5_readLevel_71 : decode cX5_readLevel 71 = .ok (.iadd, 1) := by decide +kernel
theorem dX5_readLevel_72 : decode cX5_readLevel 72 = .ok (.putfield 23, 3) := by decide +kernel
theorem dX5_readLevel_75 : decode cX5_readLevel 75 = .ok (.aload_n 0, 1) := by decide +kernel
theorem dX5_readLevel_76 : decode cX5_readLevel 76 = .ok (.iload_n 1, 1) := by decide +kernel
theorem dX5_readLevel_77 : decode cX5_readLevel 77 = .ok (.iconst 1, 1) := by decide +kernel
theorem dX5_readLevel_78 : decode cX5_readLevel 78 = .ok (.iadd, 1) := by decide +kernel
theorem dX5_readLevel_79 : decode cX5_readLevel 79 = .ok (.iload_n 2, 1) := by decide +kernel
theorem dX5_readLevel_80 : decode cX5_readLevel 80 = .ok (.invokevirtual 43, 3) := by decide +kernel
theorem dX5_readLevel_83 : decode cX5_readLevel 83 = .ok (.ifCond .ne 5, 3) := by decide +kernel
theorem dX5_readLevel_86 : decode cX5_readLevel 86 = .ok (.iconst 0, 1) := by decide +kernel
theorem dX5_readLevel_87 : decode cX5_readLevel 87 = .ok (.ireturn, 1) := by decide +kernel
theorem dX5_readLevel_88 : decode cX5_readLevel 88 = .ok (.aload_n 0, 1) := by decide +kernel
theorem dX5_readLevel_89 : decode cX5_readLevel 89 = .ok (.iload 5, 2) := by decide +kernel
theorem dX5_readLevel_91 : decode cX5_readLevel 91 = .ok (.invokevirtual 64, 3) := by decide +kernel
theorem dX5_readLevel_94 : decode cX5_readLevel 94 = .ok (.iinc 4 1, 3) := by decide +kernel
theorem dX5_readLevel_97 : decode cX5_readLevel 97 = .ok (.goto (-55), 3) := by decide +kernel
theorem dX5_readLevel_100 : decode cX5_readLevel 100 = .ok (.iconst 1, 1) := by decide +kernel
theorem dX5_readLevel_101 : decode cX5_readLevel 101 = .ok (.ireturn, 1) := by decide +kernel
theorem dX5_levelOf_0 : decode cX5_levelOf 0 = .ok (.iload_n 0, 1) := by decide +kernel
theorem dX5_levelOf_1 : decode cX5_levelOf 1 = .ok (.tableswitch 105 42 62 #[103, 101, 105, 101, 105, 103, 105, 105, 105, 105, 105, 105, 105, 105, 105, 105, 105, 105, 99, 99, 99], 99) := by decide +kernel
theorem dX5_levelOf_100 : decode cX5_levelOf 100 = .ok (.iconst 0, 1) := by decide +kernel
theorem dX5_levelOf_101 : decode cX5_levelOf 101 = .ok (.ireturn, 1) := by decide +kernel
theorem dX5_levelOf_102 : decode cX5_levelOf 102 = .ok (.iconst 1, 1) := by decide +kernel
theorem dX5_levelOf_103 : decode cX5_levelOf 103 = .ok (.ireturn, 1) := by decide +kernel
theorem dX5_levelOf_104 : decode cX5_levelOf 104 = .ok (.iconst 2, 1) := by decide +kernel
theorem dX5_levelOf_105 : decode cX5_levelOf 105 = .ok (.ireturn, 1) := by decide +kernel
theorem dX5_levelOf_106 : decode cX5_levelOf 106 = .ok (.iconst (-1), 1) := by decide +kernel
theorem dX5_levelOf_107 : decode cX5_levelOf 107 = .ok (.ireturn, 1) := by decide +kernel
theorem dX5_readSigned_0 : decode cX5_readSigned 0 = .ok (.iconst 0, 1) := by decide +kernel
theorem dX5_readSigned_1 : decode cX5_readSigned 1 = .ok (.istore_n 2, 1) := by decide +kernel
theorem dX5_readSigned_2 : decode cX5_readSigned 2 = .ok (.iload_n 2, 1) := by decide +kernel
theorem dX5_readSigned_3 : decode cX5_readSigned 3 = .ok (.bipush 40, 2) := by decide +kernel
theorem dX5_readSigned_5 : decode cX5_readSigned 5 = .ok (.if_icmp .ge 28, 3) := by decide +kernel
theorem dX5_readSigned_8 : decode cX5_readSigned 8 = .ok (.aload_n 0, 1) := by decide +kernel
theorem dX5_readSigned_9 : decode cX5_readSigned 9 = .ok (.invokevirtual 58, 3) := by decide +kernel
theorem dX5_readSigned_12 : decode cX5_readSigned 12 = .ok (.bipush 45, 2) := by decide +kernel
theorem dX5_readSigned_14 : decode cX5_readSigned 14 = .ok (.if_icmp .ne 19, 3) := by decide +kernel
theorem dX5_readSigned_17 : decode cX5_readSigned 17 = .ok (.aload_n 0, 1) := by decide +kernel
theorem dX5_readSigned_18 : decode cX5_readSigned 18 = .ok (.dup, 1) := by decide +kernel
theorem dX5_readSigned_19 : decode cX5_readSigned 19 = .ok (.getfield 23, 3) := by decide +kernel
theorem dX5_readSigned_22 : decode cX5_readSigned 22 = .ok (.iconst 1, 1) := by decide +kernel
theorem dX5_readSigned_23 : decode cX5_readSigned 23 = .ok (.iadd, 1) := by decide +kernel
theorem dX5_readSigned_24 : decode cX5_readSigned 24 = .ok (.putfield 23, 3) := by decide +kernel
theorem dX5_readSigned_27 : decode cX5_readSigned 27 = .ok (.iinc 2 1, 3) := by decide +kernel
theorem dX5_readSigned_30 : decode cX5_readSigned 30 = .ok (.goto (-28), 3) := by decide +kernel
theorem dX5_readSigned_33 : decode cX5_readSigned 33 = .ok (.aload_n 0, 1) := by decide +kernel
theorem dX5_readSigned_34 : decode cX5_readSigned 34 = .ok (.iload_n 1, 1) := by decide +kernel
theorem dX5_readSigned_35 : decode cX5_readSigned 35 = .ok (.invokevirtual 67, 3) := by decide +kernel
theorem dX5_readSigned_38 : decode cX5_readSigned 38 = .ok (.ifCond .ne 5, 3) := by decide +kernel
theorem dX5_readSigned_41 : decode cX5_readSigned 41 = .ok (.iconst 0, 1) := by decide +kernel
theorem dX5_readSigned_42 : decode cX5_readSigned 42 = .ok (.ireturn, 1) := by decide +kernel
theorem dX5_readSigned_43 : decode cX5_readSigned 43 = .ok (.iconst 0, 1) := by decide +kernel
theorem dX5_readSigned_44 : decode cX5_readSigned 44 = .ok (.istore_n 3, 1) := by decide +kernel
theorem dX5_readSigned_45 : decode cX5_readSigned 45 = .ok (.iload_n 3, 1) := by decide +kernel
theorem dX5_readSigned_46 : decode cX5_readSigned 46 = .ok (.iload_n 2, 1) := by decide +kernel
theorem dX5_readSigned_47 : decode cX5_readSigned 47 = .ok (.if_icmp .ge 15, 3) := by decide +kernel
theorem dX5_readSigned_50 : decode cX5_readSigned 50 = .ok (.aload_n 0, 1) := by decide +kernel
theorem dX5_readSigned_51 : decode cX5_readSigned 51 = .ok (.bipush 126, 2) := by decide +kernel
theorem dX5_readSigned_53 : decode cX5_readSigned 53 = .ok (.invokevirtual 64, 3) := by decide +kernel
theorem dX5_readSigned_56 : decode cX5_readSigned 56 = .ok (.iinc 3 1, 3) := by decide +kernel
theorem dX5_readSigned_59 : decode cX5_readSigned 59 = .ok (.goto (-14), 3) := by decide +kernel
theorem dX5_readSigned_62 : decode cX5_readSigned 62 = .ok (.iconst 1, 1) := by decide +kernel
theorem dX5_readSigned_63 : decode cX5_readSigned 63 = .ok (.ireturn, 1) := by decide +kernel
theorem dX5_readThing_0 : decode cX5_readThing 0 = .ok (.aload_n 0, 1) := by decide +kernel
theorem dX5_readThing_1 : decode cX5_readThing 1 = .ok (.invokevirtual 58, 3) := by decide +kernel
theorem dX5_readThing_4 : decode cX5_readThing 4 = .ok (.istore_n 2, 1) := by decide +kernel
theorem dX5_readThing_5 : decode cX5_readThing 5 = .ok (.iload_n 2, 1) := by decide +kernel
theorem dX5_readThing_6 : decode cX5_readThing 6 = .ok (.invokestatic 70, 3) := by decide +kernel
theorem dX5_readThing_9 : decode cX5_readThing 9 = .ok (.ifCond .eq 9, 3) := by decide +kernel
theorem dX5_readThing_12 : decode cX5_readThing 12 = .ok (.aload_n 0, 1) := by decide +kernel
theorem dX5_readThing_13 : decode cX5_readThing 13 = .ok (.invokevirtual 73, 3) := by decide +kernel
theorem dX5_readThing_16 : decode cX5_readThing 16 = .ok (.iconst 1, 1) := by decide +kernel
theorem dX5_readThing_17 : decode cX5_readThing 17 = .ok (.ireturn, 1) := by decide +kernel
theorem dX5_readThing_18 : decode cX5_readThing 18 = .ok (.iload_n 2, 1) := by decide +kernel
theorem dX5_readThing_19 : decode cX5_readThing 19 = .ok (.invokestatic 76, 3) := by decide +kernel
theorem dX5_readThing_22 : decode cX5_readThing 22 = .ok (.ifCond .eq 20, 3) := by decide +kernel
theorem dX5_readThing_25 : decode cX5_readThing 25 = .ok (.aload_n 0, 1) := by decide +kernel
theorem dX5_readThing_26 : decode cX5_readThing 26 = .ok (.dup, 1) := by decide +kernel
theorem dX5_readThing_27 : decode cX5_readThing 27 = .ok (.getfield 23, 3) := by decide +kernel
theorem dX5_readThing_30 : decode cX5_readThing 30 = .ok (.iconst 1, 1) := by decide +kernel
theorem dX5_readThing_31 : decode cX5_readThing 31 = .ok (.iadd, 1) := by decide +kernel
theorem dX5_readThing_32 : decode cX5_readThing 32 = .ok (.putfield 23, 3) := by decide +kernel
theorem dX5_readThing_35 : decode cX5_readThing 35 = .ok (.aload_n 0, 1) := by decide +kernel
theorem dX5_readThing_36 : decode cX5_readThing 36 = .ok (.iload_n 2, 1) := by decide +kernel
theorem dX5_readThing_37 : decode cX5_readThing 37 = .ok (.invokevirtual 64, 3) := by decide +kernel
theorem dX5_readThing_40 : decode cX5_readThing 40 = .ok (.iconst 1, 1) := by decide +kernel
theorem dX5_readThing_41 : decode cX5_readThing 41 = .ok (.ireturn, 1) := by decide +kernel
theorem dX5_readThing_42 : decode cX5_readThing 42 = .ok (.iload_n 2, 1) := by decide +kernel
theorem dX5_readThing_43 : decode cX5_readThing 43 = .ok (.bipush 40, 2) := by decide +kernel
theorem dX5_readThing_45 : decode cX5_readThing 45 = .ok (.if_icmp .ne 8, 3) := by decide +kernel
theorem dX5_readThing_48 : decode cX5_readThing 48 = .ok (.iload_n 1, 1) := by decide +kernel
theorem dX5_readThing_49 : decode cX5_readThing 49 = .ok (.iconst 4, 1) := by decide +kernel
theorem dX5_readThing_50 : decode cX5_readThing 50 = .ok (.if_icmp .lt 5, 3) := by decide +kernel
theorem dX5_readThing_53 : decode cX5_readThing 53 = .ok (.iconst 0, 1) := by decide +kernel
theorem dX5_readThing_54 : decode cX5_readThing 54 = .ok (.ireturn, 1) := by decide +kernel
theorem dX5_readThing_55 : decode cX5_readThing 55 = .ok (.aload_n 0, 1) := by decide +kernel
theorem dX5_readThing_56 : decode cX5_readThing 56 = .ok (.dup, 1) := by decide +kernel
theorem dX5_readThing_57 : decode cX5_readThing 57 = .ok (.getfield 23, 3) := by decide +kernel
theorem dX5_readThing_60 : decode cX5_readThing 60 = .ok (.iconst 1, 1) := by decide +kernel
theorem dX5_readThing_61 : decode cX5_readThing 61 = .ok (.iadd, 1) := by decide +kernel
theorem dX5_readThing_62 : decode cX5_readThing 62 = .ok (.putfield 23, 3) := by decide +kernel
theorem dX5_readThing_65 : decode cX5_readThing 65 = .ok (.aload_n 0, 1) := by decide +kernel
theorem dX5_readThing_66 : decode cX5_readThing 66 = .ok (.iconst 0, 1) := by decide +kernel
theorem dX5_readThing_67 : decode cX5_readThing 67 = .ok (.iload_n 1, 1) := by decide +kernel
theorem dX5_readThing_68 : decode cX5_readThing 68 = .ok (.iconst 1, 1) := by decide +kernel
theorem dX5_readThing_69 : decode cX5_readThing 69 = .ok (.iadd, 1) := by decide +kernel
theorem dX5_readThing_70 : decode cX5_readThing 70 = .ok (.invokevirtual 43, 3) := by decide +kernel
theorem dX5_readThing_73 : decode cX5_readThing 73 = .ok (.ifCond .eq 12, 3) := by decide +kernel
theorem dX5_readThing_76 : decode cX5_readThing 76 = .ok (.aload_n 0, 1) := by decide +kernel
theorem dX5_readThing_77 : decode cX5_readThing 77 = .ok (.invokevirtual 58, 3) := by decide +kernel
theorem dX5_readThing_80 : decode cX5_readThing 80 = .ok (.bipush 41, 2) := by decide +kernel
theorem dX5_readThing_82 : decode cX5_readThing 82 = .ok (.if_icmp .eq 5, 3) := by decide +kernel
theorem dX5_readThing_85 : decode cX5_readThing 85 = .ok (.iconst 0, 1) := by decide +kernel
theorem dX5_readThing_86 : decode cX5_readThing 86 = .ok (.ireturn, 1) := by decide +kernel
theorem dX5_readThing_87 : decode cX5_readThing 87 = .ok (.aload_n 0, 1) := by decide +kernel
theorem dX5_readThing_88 : decode cX5_readThing 88 = .ok (.dup, 1) := by decide +kernel
theorem dX5_readThing_89 : decode cX5_readThing 89 = .ok (.getfield 23, 3) := by decide +kernel
theorem dX5_readThing_92 : decode cX5_readThing 92 = .ok (.iconst 1, 1) := by decide +kernel
theorem dX5_readThing_93 : decode cX5_readThing 93 = .ok (.iadd, 1) := by decide +kernel
theorem dX5_readThing_94 : decode cX5_readThing 94 = .ok (.putfield 23, 3) := by decide +kernel
theorem dX5_readThing_97 : decode cX5_readThing 97 = .ok (.iconst 1, 1) := by decide +kernel
theorem dX5_readThing_98 : decode cX5_readThing 98 = .ok (.ireturn, 1) := by decide +kernel
theorem dX5_readNumber_0 : decode cX5_readNumber 0 = .ok (.iconst 0, 1) := by decide +kernel
theorem dX5_readNumber_1 : decode cX5_readNumber 1 = .ok (.istore_n 1, 1) := by decide +kernel
theorem dX5_readNumber_2 : decode cX5_readNumber 2 = .ok (.iconst 0, 1) := by decide +kernel
theorem dX5_readNumber_3 : decode cX5_readNumber 3 = .ok (.istore_n 2, 1) := by decide +kernel
theorem dX5_readNumber_4 : decode cX5_readNumber 4 = .ok (.iload_n 2, 1) := by decide +kernel
theorem dX5_readNumber_5 : decode cX5_readNumber 5 = .ok (.iconst 3, 1) := by decide +kernel
theorem dX5_readNumber_6 : decode cX5_readNumber 6 = .ok (.if_icmp .ge 42, 3) := by decide +kernel
theorem dX5_readNumber_9 : decode cX5_readNumber 9 = .ok (.aload_n 0, 1) := by decide +kernel
theorem dX5_readNumber_10 : decode cX5_readNumber 10 = .ok (.invokevirtual 58, 3) := by decide +kernel
theorem dX5_readNumber_13 : decode cX5_readNumber 13 = .ok (.invokestatic 70, 3) := by decide +kernel
theorem dX5_readNumber_16 : decode cX5_readNumber 16 = .ok (.ifCond .eq 32, 3) := by decide +kernel
theorem dX5_readNumber_19 : decode cX5_readNumber 19 = .ok (.iload_n 1, 1) := by decide +kernel
theorem dX5_readNumber_20 : decode cX5_readNumber 20 = .ok (.bipush 10, 2) := by decide +kernel
theorem dX5_readNumber_22 : decode cX5_readNumber 22 = .ok (.imul, 1) := by decide +kernel
theorem dX5_readNumber_23 : decode cX5_readNumber 23 = .ok (.aload_n 0, 1) := by decide +kernel
theorem dX5_readNumber_24 : decode cX5_readNumber 24 = .ok (.invokevirtual 58, 3) := by decide +kernel
theorem dX5_readNumber_27 : decode cX5_readNumber 27 = .ok (.iadd, 1) := by decide +kernel
theorem dX5_readNumber_28 : decode cX5_readNumber 28 = .ok (.bipush 48, 2) := by decide +kernel
theorem dX5_readNumber_30 : decode cX5_readNumber 30 = .ok (.isub, 1) := by decide +kernel
theorem dX5_readNumber_31 : decode cX5_readNumber 31 = .ok (.istore_n 1, 1) := by decide +kernel
theorem dX5_readNumber_32 : decode cX5_readNumber 32 = .ok (.aload_n 0, 1) := by decide +kernel
theorem dX5_readNumber_33 : decode cX5_readNumber 33 = .ok (.dup, 1) := by decide +kernel
theorem dX5_readNumber_34 : decode cX5_readNumber 34 = .ok (.getfield 23, 3) := by decide +kernel
theorem dX5_readNumber_37 : decode cX5_readNumber 37 = .ok (.iconst 1, 1) := by decide +kernel
theorem dX5_readNumber_38 : decode cX5_readNumber 38 = .ok (.iadd, 1) := by decide +kernel
theorem dX5_readNumber_39 : decode cX5_readNumber 39 = .ok (.putfield 23, 3) := by decide +kernel
theorem dX5_readNumber_42 : decode cX5_readNumber 42 = .ok (.iinc 2 1, 3) := by decide +kernel
theorem dX5_readNumber_45 : decode cX5_readNumber 45 = .ok (.goto (-41), 3) := by decide +kernel
theorem dX5_readNumber_48 : decode cX5_readNumber 48 = .ok (.aload_n 0, 1) := by decide +kernel
theorem dX5_readNumber_49 : decode cX5_readNumber 49 = .ok (.getfield 15, 3) := by decide +kernel
theorem dX5_readNumber_52 : decode cX5_readNumber 52 = .ok (.ifnull 11, 3) := by decide +kernel
theorem dX5_readNumber_55 : decode cX5_readNumber 55 = .ok (.aload_n 0, 1) := by decide +kernel
theorem dX5_readNumber_56 : decode cX5_readNumber 56 = .ok (.getfield 15, 3) := by decide +kernel
theorem dX5_readNumber_59 : decode cX5_readNumber 59 = .ok (.iload_n 1, 1) := by decide +kernel
theorem dX5_readNumber_60 : decode cX5_readNumber 60 = .ok (.invokevirtual 79, 3) := by decide +kernel
theorem dX5_readNumber_63 : decode cX5_readNumber 63 = .ok (.return_, 1) := by decide +kernel
theorem dX5_isDigit_0 : decode cX5_isDigit 0 = .ok (.iload_n 0, 1) := by decide +kernel
theorem dX5_isDigit_1 : decode cX5_isDigit 1 = .ok (.bipush 48, 2) := by decide +kernel
theorem dX5_isDigit_3 : decode cX5_isDigit 3 = .ok (.if_icmp .lt 13, 3) := by decide +kernel
theorem dX5_isDigit_6 : decode cX5_isDigit 6 = .ok (.iload_n 0, 1) := by decide +kernel
theorem dX5_isDigit_7 : decode cX5_isDigit 7 = .ok (.bipush 57, 2) := by decide +kernel
theorem dX5_isDigit_9 : decode cX5_isDigit 9 = .ok (.if_icmp .gt 7, 3) := by decide +kernel
theorem dX5_isDigit_12 : decode cX5_isDigit 12 = .ok (.iconst 1, 1) := by decide +kernel
theorem dX5_isDigit_13 : decode cX5_isDigit 13 = .ok (.goto 4, 3) := by decide +kernel
theorem dX5_isDigit_16 : decode cX5_isDigit 16 = .ok (.iconst 0, 1) := by decide +kernel
theorem dX5_isDigit_17 : decode cX5_isDigit 17 = .ok (.ireturn, 1) := by decide +kernel
theorem dX6_init_0 : decode cX6_init 0 = .ok (.aload_n 0, 1) := by decide +kernel
theorem dX6_init_1 : decode cX6_init 1 = .ok (.invokespecial 3, 3) := by decide +kernel
theorem dX6_init_4 : decode cX6_init 4 = .ok (.aload_n 0, 1) := by decide +kernel
theorem dX6_init_5 : decode cX6_init 5 = .ok (.bipush 36, 2) := by decide +kernel
theorem dX6_init_7 : decode cX6_init 7 = .ok (.newarray .int, 2) := by decide +kernel
theorem dX6_init_9 : decode cX6_init 9 = .ok (.putfield 9, 3) := by decide +kernel
theorem dX6_init_12 : decode cX6_init 12 = .ok (.aload_n 0, 1) := by decide +kernel
theorem dX6_init_13 : decode cX6_init 13 = .ok (.iconst 0, 1) := by decide +kernel
theorem dX6_init_14 : decode cX6_init 14 = .ok (.putfield 15, 3) := by decide +kernel
theorem dX6_init_17 : decode cX6_init 17 = .ok (.aload_n 0, 1) := by decide +kernel
theorem dX6_init_18 : decode cX6_init 18 = .ok (.iconst 0, 1) := by decide +kernel
theorem dX6_init_19 : decode cX6_init 19 = .ok (.putfield 19, 3) := by decide +kernel
theorem dX6_init_22 : decode cX6_init 22 = .ok (.aload_n 0, 1) := by decide +kernel
theorem dX6_init_23 : decode cX6_init 23 = .ok (.bipush 100, 2) := by decide +kernel
theorem dX6_init_25 : decode cX6_init 25 = .ok (.putfield 22, 3) := by decide +kernel
theorem dX6_init_28 : decode cX6_init 28 = .ok (.aload_n 0, 1) := by decide +kernel
theorem dX6_init_29 : decode cX6_init 29 = .ok (.iconst 0, 1) := by decide +kernel
theorem dX6_init_30 : decode cX6_init 30 = .ok (.putfield 25, 3) := by decide +kernel
theorem dX6_init_33 : decode cX6_init 33 = .ok (.aload_n 0, 1) := by decide +kernel
theorem dX6_init_34 : decode cX6_init 34 = .ok (.iconst 0, 1) := by decide +kernel
theorem dX6_init_35 : decode cX6_init 35 = .ok (.putfield 28, 3) := by decide +kernel
theorem dX6_init_38 : decode cX6_init 38 = .ok (.aload_n 0, 1) := by decide +kernel
theorem dX6_init_39 : decode cX6_init 39 = .ok (.iconst 0, 1) := by decide +kernel
theorem dX6_init_40 : decode cX6_init 40 = .ok (.putfield 31, 3) := by decide +kernel
theorem dX6_init_43 : decode cX6_init 43 = .ok (.aload_n 0, 1) := by decide +kernel
theorem dX6_init_44 : decode cX6_init 44 = .ok (.iconst 0, 1) := by decide +kernel
theorem dX6_init_45 : decode cX6_init 45 = .ok (.putfield 34, 3) := by decide +kernel
theorem dX6_init_48 : decode cX6_init 48 = .ok (.aload_n 0, 1) := by decide +kernel
theorem dX6_init_49 : decode cX6_init 49 = .ok (.lconst 0, 1) := by decide +kernel
theorem dX6_init_50 : decode cX6_init 50 = .ok (.putfield 37, 3) := by decide +kernel
theorem dX6_init_53 : decode cX6_init 53 = .ok (.return_, 1) := by decide +kernel
theorem dX6_begin_0 : decode cX6_begin 0 = .ok (.aload_n 0, 1) := by decide +kernel
theorem dX6_begin_1 : decode cX6_begin 1 = .ok (.invokevirtual 41, 3) := by decide +kernel
theorem dX6_begin_4 : decode cX6_begin 4 = .ok (.aload_n 0, 1) := by decide +kernel
theorem dX6_begin_5 : decode cX6_begin 5 = .ok (.iload_n 1, 1) := by decide +kernel
theorem dX6_begin_6 : decode cX6_begin 6 = .ok (.putfield 15, 3) := by decide +kernel
theorem dX6_begin_9 : decode cX6_begin 9 = .ok (.aload_n 0, 1) := by decide +kernel
theorem dX6_begin_10 : decode cX6_begin 10 = .ok (.iconst 0, 1) := by decide +kernel
theorem dX6_begin_11 : decode cX6_begin 11 = .ok (.putfield 19, 3) := by decide +kernel
theorem dX6_begin_14 : decode cX6_begin 14 = .ok (.aload_n 0, 1) := by decide +kernel
theorem dX6_begin_15 : decode cX6_begin 15 = .ok (.bipush 100, 2) := by decide +kernel
theorem dX6_begin_17 : decode cX6_begin 17 = .ok (.putfield 22, 3) := by decide +kernel
theorem dX6_begin_20 : decode cX6_begin 20 = .ok (.aload_n 0, 1) := by decide +kernel
theorem dX6_begin_21 : decode cX6_begin 21 = .ok (.iconst 0, 1) := by decide +kernel
theorem dX6_begin_22 : decode cX6_begin 22 = .ok (.putfield 25, 3) := by decide +kernel
theorem dX6_begin_25 : decode cX6_begin 25 = .ok (.aload_n 0, 1) := by decide +kernel
theorem dX6_begin_26 : decode cX6_begin 26 = .ok (.iconst 0, 1) := by decide +kernel
theorem dX6_begin_27 : decode cX6_begin 27 = .ok (.putfield 28, 3) := by decide +kernel
theorem dX6_begin_30 : decode cX6_begin 30 = .ok (.aload_n 0, 1) := by decide +kernel
theorem dX6_begin_31 : decode cX6_begin 31 = .ok (.iconst 0, 1) := by decide +kernel
theorem dX6_begin_32 : decode cX6_begin 32 = .ok (.putfield 31, 3) := by decide +kernel
theorem dX6_begin_35 : decode cX6_begin 35 = .ok (.aload_n 0, 1) := by decide +kernel
theorem dX6_begin_36 : decode cX6_begin 36 = .ok (.iconst 0, 1) := by decide +kernel
theorem dX6_begin_37 : decode cX6_begin 37 = .ok (.putfield 34, 3) := by decide +kernel
theorem dX6_begin_40 : decode cX6_begin 40 = .ok (.aload_n 0, 1) := by decide +kernel
theorem dX6_begin_41 : decode cX6_begin 41 = .ok (.lconst 0, 1) := by decide +kernel
theorem dX6_begin_42 : decode cX6_begin 42 = .ok (.putfield 37, 3) := by decide +kernel
theorem dX6_begin_45 : decode cX6_begin 45 = .ok (.return_, 1) := by decide +kernel
theorem dX6_copyFrom_0 : decode cX6_copyFrom 0 = .ok (.aload_n 1, 1) := by decide +kernel
theorem dX6_copyFrom_1 : decode cX6_copyFrom 1 = .ok (.ifnonnull 4, 3) := by decide +kernel
theorem dX6_copyFrom_4 : decode cX6_copyFrom 4 = .ok (.return_, 1) := by decide +kernel
theorem dX6_copyFrom_5 : decode cX6_copyFrom 5 = .ok (.aload_n 1, 1) := by decide +kernel
theorem dX6_copyFrom_6 : decode cX6_copyFrom 6 = .ok (.getfield 9, 3) := by decide +kernel
theorem dX6_copyFrom_9 : decode cX6_copyFrom 9 = .ok (.iconst 0, 1) := by decide +kernel
theorem dX6_copyFrom_10 : decode cX6_copyFrom 10 = .ok (.aload_n 0, 1) := by decide +kernel
theorem dX6_copyFrom_11 : decode cX6_copyFrom 11 = .ok (.getfield 9, 3) := by decide +kernel
theorem dX6_copyFrom_14 : decode cX6_copyFrom 14 = .ok (.iconst 0, 1) := by decide +kernel
theorem dX6_copyFrom_15 : decode cX6_copyFrom 15 = .ok (.bipush 36, 2) := by decide +kernel
theorem dX6_copyFrom_17 : decode cX6_copyFrom 17 = .ok (.invokestatic 44, 3) := by decide +kernel
theorem dX6_copyFrom_20 : decode cX6_copyFrom 20 = .ok (.aload_n 0, 1) := by decide +kernel
theorem dX6_copyFrom_21 : decode cX6_copyFrom 21 = .ok (.aload_n 1, 1) := by decide +kernel
theorem dX6_copyFrom_22 : decode cX6_copyFrom 22 = .ok (.getfield 15, 3) := by decide +kernel
theorem dX6_copyFrom_25 : decode cX6_copyFrom 25 = .ok (.putfield 15, 3) := by decide +kernel
theorem dX6_copyFrom_28 : decode cX6_copyFrom 28 = .ok (.aload_n 0, 1) := by decide +kernel
theorem dX6_copyFrom_29 : decode cX6_copyFrom 29 = .ok (.aload_n 1, 1) := by decide +kernel
theorem dX6_copyFrom_30 : decode cX6_copyFrom 30 = .ok (.getfield 19, 3) := by decide +kernel
theorem dX6_copyFrom_33 : decode cX6_copyFrom 33 = .ok (.putfield 19, 3) := by decide +kernel
theorem dX6_copyFrom_36 : decode cX6_copyFrom 36 = .ok (.aload_n 0, 1) := by decide +kernel
theorem dX6_copyFrom_37 : decode cX6_copyFrom 37 = .ok (.aload_n 1, 1) := by decide +kernel
theorem dX6_copyFrom_38 : decode cX6_copyFrom 38 = .ok (.getfield 22, 3) := by decide +kernel
theorem dX6_copyFrom_41 : decode cX6_copyFrom 41 = .ok (.putfield 22, 3) := by decide +kernel
theorem dX6_copyFrom_44 : decode cX6_copyFrom 44 = .ok (.aload_n 0, 1) := by decide +kernel
theorem dX6_copyFrom_45 : decode cX6_copyFrom 45 = .ok (.aload_n 1, 1) := by decide +kernel
theorem dX6_copyFrom_46 : decode cX6_copyFrom 46 = .ok (.getfield 25, 3) := by decide +kernel
theorem dX6_copyFrom_49 : decode cX6_copyFrom 49 = .ok (.putfield 25, 3) := by decide +kernel
theorem dX6_copyFrom_52 : decode cX6_copyFrom 52 = .ok (.aload_n 0, 1) := by decide +kernel
theorem dX6_copyFrom_53 : decode cX6_copyFrom 53 = .ok (.aload_n 1, 1) := by decide +kernel
theorem dX6_copyFrom_54 : decode cX6_copyFrom 54 = .ok (.getfield 28, 3) := by decide +kernel
theorem dX6_copyFrom_57 : decode cX6_copyFrom 57 = .ok (.putfield 28, 3) := by decide +kernel
theorem dX6_copyFrom_60 : decode cX6_copyFrom 60 = .ok (.aload_n 0, 1) := by decide +kernel
theorem dX6_copyFrom_61 : decode cX6_copyFrom 61 = .ok (.aload_n 1, 1) := by decide +kernel
theorem dX6_copyFrom_62 : decode cX6_copyFrom 62 = .ok (.getfield 31, 3) := by decide +kernel
theorem dX6_copyFrom_65 : decode cX6_copyFrom 65 = .ok (.putfield 31, 3) := by decide +kernel
theorem dX6_copyFrom_68 : decode cX6_copyFrom 68 = .ok (.aload_n 0, 1) := by decide +kernel
theorem dX6_copyFrom_69 : decode cX6_copyFrom 69 = .ok (.aload_n 1, 1) := by decide +kernel
theorem dX6_copyFrom_70 : decode cX6_copyFrom 70 = .ok (.getfield 34, 3) := by decide +kernel
theorem dX6_copyFrom_73 : decode cX6_copyFrom 73 = .ok (.putfield 34, 3) := by decide +kernel
theorem dX6_copyFrom_76 : decode cX6_copyFrom 76 = .ok (.aload_n 0, 1) := by decide +kernel
theorem dX6_copyFrom_77 : decode cX6_copyFrom 77 = .ok (.aload_n 1, 1) := by decide +kernel
theorem dX6_copyFrom_78 : decode cX6_copyFrom 78 = .ok (.getfield 37, 3) := by decide +kernel
theorem dX6_copyFrom_81 : decode cX6_copyFrom 81 = .ok (.putfield 37, 3) := by decide +kernel
theorem dX6_copyFrom_84 : decode cX6_copyFrom 84 = .ok (.return_, 1) := by decide +kernel
theorem dX6_clearDust_0 : decode cX6_clearDust 0 = .ok (.aload_n 0, 1) := by decide +kernel
theorem dX6_clearDust_1 : decode cX6_clearDust 1 = .ok (.getfield 9, 3) := by decide +kernel
theorem dX6_clearDust_4 : decode cX6_clearDust 4 = .ok (.iconst 0, 1) := by decide +kernel
theorem dX6_clearDust_5 : decode cX6_clearDust 5 = .ok (.invokestatic 50, 3) := by decide +kernel
theorem dX6_clearDust_8 : decode cX6_clearDust 8 = .ok (.return_, 1) := by decide +kernel
theorem dX6_dustAt_0 : decode cX6_dustAt 0 = .ok (.iload_n 1, 1) := by decide +kernel
theorem dX6_dustAt_1 : decode cX6_dustAt 1 = .ok (.ifCond .lt 18, 3) := by decide +kernel
theorem dX6_dustAt_4 : decode cX6_dustAt 4 = .ok (.iload_n 1, 1) := by decide +kernel
theorem dX6_dustAt_5 : decode cX6_dustAt 5 = .ok (.bipush 36, 2) := by decide +kernel
theorem dX6_dustAt_7 : decode cX6_dustAt 7 = .ok (.if_icmp .ge 12, 3) := by decide +kernel
theorem dX6_dustAt_10 : decode cX6_dustAt 10 = .ok (.aload_n 0, 1) := by decide +kernel
theorem dX6_dustAt_11 : decode cX6_dustAt 11 = .ok (.getfield 9, 3) := by decide +kernel
theorem dX6_dustAt_14 : decode cX6_dustAt 14 = .ok (.iload_n 1, 1) := by decide +kernel
theorem dX6_dustAt_15 : decode cX6_dustAt 15 = .ok (.iaload, 1) := by decide +kernel
theorem dX6_dustAt_16 : decode cX6_dustAt 16 = .ok (.goto 4, 3) := by decide +kernel
theorem dX6_dustAt_19 : decode cX6_dustAt 19 = .ok (.iconst 0, 1) := by decide +kernel
theorem dX6_dustAt_20 : decode cX6_dustAt 20 = .ok (.ireturn, 1) := by decide +kernel
theorem dX6_putDust_0 : decode cX6_putDust 0 = .ok (.iload_n 1, 1) := by decide +kernel
theorem dX6_putDust_1 : decode cX6_putDust 1 = .ok (.ifCond .lt 25, 3) := by decide +kernel
theorem dX6_putDust_4 : decode cX6_putDust 4 = .ok (.iload_n 1, 1) := by decide +kernel
theorem dX6_putDust_5 : decode cX6_putDust 5 = .ok (.bipush 36, 2) := by decide +kernel
theorem dX6_putDust_7 : decode cX6_putDust 7 = .ok (.if_icmp .ge 19, 3) := by decide +kernel
theorem dX6_putDust_10 : decode cX6_putDust 10 = .ok (.aload_n 0, 1) := by decide +kernel
theorem dX6_putDust_11 : decode cX6_putDust 11 = .ok (.getfield 9, 3) := by decide +kernel
theorem dX6_putDust_14 : decode cX6_putDust 14 = .ok (.iload_n 1, 1) := by decide +kernel
theorem dX6_putDust_15 : decode cX6_putDust 15 = .ok (.iconst 0, 1) := by decide +kernel
theorem dX6_putDust_16 : decode cX6_putDust 16 = .ok (.iload_n 2, 1) := by decide +kernel
theorem dX6_putDust_17 : decode cX6_putDust 17 = .ok (.bipush 99, 2) := by decide +kernel
theorem dX6_putDust_19 : decode cX6_putDust 19 = .ok (.invokestatic 56, 3) := by decide +kernel
theorem dX6_putDust_22 : decode cX6_putDust 22 = .ok (.invokestatic 62, 3) := by decide +kernel
theorem dX6_putDust_25 : decode cX6_putDust 25 = .ok (.iastore, 1) := by decide +kernel
theorem dX6_putDust_26 : decode cX6_putDust 26 = .ok (.return_, 1) := by decide +kernel
theorem dX6_dustOfAll_0 : decode cX6_dustOfAll 0 = .ok (.iconst 0, 1) := by decide +kernel
theorem dX6_dustOfAll_1 : decode cX6_dustOfAll 1 = .ok (.istore_n 1, 1) := by decide +kernel
theorem dX6_dustOfAll_2 : decode cX6_dustOfAll 2 = .ok (.iconst 0, 1) := by decide +kernel
theorem dX6_dustOfAll_3 : decode cX6_dustOfAll 3 = .ok (.istore_n 2, 1) := by decide +kernel
theorem dX6_dustOfAll_4 : decode cX6_dustOfAll 4 = .ok (.iload_n 2, 1) := by decide +kernel
theorem dX6_dustOfAll_5 : decode cX6_dustOfAll 5 = .ok (.bipush 36, 2) := by decide +kernel
theorem dX6_dustOfAll_7 : decode cX6_dustOfAll 7 = .ok (.if_icmp .ge 18, 3) := by decide +kernel
theorem dX6_dustOfAll_10 : decode cX6_dustOfAll 10 = .ok (.iload_n 1, 1) := by decide +kernel
theorem dX6_dustOfAll_11 : decode cX6_dustOfAll 11 = .ok (.aload_n 0, 1) := by decide +kernel
theorem dX6_dustOfAll_12 : decode cX6_dustOfAll 12 = .ok (.getfield 9, 3) := by decide +kernel
theorem dX6_dustOfAll_15 : decode cX6_dustOfAll 15 = .ok (.iload_n 2, 1) := by decide +kernel
theorem dX6_dustOfAll_16 : decode cX6_dustOfAll 16 = .ok (.iaload, 1) := by decide +kernel
theorem dX6_dustOfAll_17 : decode cX6_dustOfAll 17 = .ok (.iadd, 1) := by decide +kernel
theorem dX6_dustOfAll_18 : decode cX6_dustOfAll 18 = .ok (.istore_n 1, 1) := by decide +kernel
theorem dX6_dustOfAll_19 : decode cX6_dustOfAll 19 = .ok (.iinc 2 1, 3) := by decide +kernel
theorem dX6_dustOfAll_22 : decode cX6_dustOfAll 22 = .ok (.goto (-18), 3) := by decide +kernel
theorem dX6_dustOfAll_25 : decode cX6_dustOfAll 25 = .ok (.iload_n 1, 1) := by decide +kernel
theorem dX6_dustOfAll_26 : decode cX6_dustOfAll 26 = .ok (.ireturn, 1) := by decide +kernel
theorem dX6_dusty_0 : decode cX6_dusty 0 = .ok (.lconst 0, 1) := by decide +kernel
theorem dX6_dusty_1 : decode cX6_dusty 1 = .ok (.lstore_n 1, 1) := by decide +kernel
theorem dX6_dusty_2 : decode cX6_dusty 2 = .ok (.iconst 0, 1) := by decide +kernel
theorem dX6_dusty_3 : decode cX6_dusty 3 = .ok (.istore_n 3, 1) := by decide +kernel
theorem dX6_dusty_4 : decode cX6_dusty 4 = .ok (.iload_n 3, 1) := by decide +kernel
theorem dX6_dusty_5 : decode cX6_dusty 5 = .ok (.bipush 36, 2) := by decide +kernel
theorem dX6_dusty_7 : decode cX6_dusty 7 = .ok (.if_icmp .ge 29, 3) := by decide +kernel
theorem dX6_dusty_10 : decode cX6_dusty 10 = .ok (.lload_n 1, 1) := by decide +kernel
theorem dX6_dusty_11 : decode cX6_dusty 11 = .ok (.aload_n 0, 1) := by decide +kernel
theorem dX6_dusty_12 : decode cX6_dusty 12 = .ok (.getfield 9, 3) := by decide +kernel
theorem dX6_dusty_15 : decode cX6_dusty 15 = .ok (.iload_n 3, 1) := by decide +kernel
theorem dX6_dusty_16 : decode cX6_dusty 16 = .ok (.iaload, 1) := by decide +kernel
theorem dX6_dusty_17 : decode cX6_dusty 17 = .ok (.ifCond .le 10, 3) := by decide +kernel
theorem dX6_dusty_20 : decode cX6_dusty 20 = .ok (.iload_n 3, 1) := by decide +kernel
theorem dX6_dusty_21 : decode cX6_dusty 21 = .ok (.invokestatic 65, 3) := by decide +kernel
theorem dX6_dusty_24 : decode cX6_dusty 24 = .ok (.goto 4, 3) := by decide +kernel
theorem dX6_dusty_27 : decode cX6_dusty 27 = .ok (.lconst 0, 1) := by decide +kernel
theorem dX6_dusty_28 : decode cX6_dusty 28 = .ok (.lor, 1) := by decide +kernel
theorem dX6_dusty_29 : decode cX6_dusty 29 = .ok (.lstore_n 1, 1) := by decide +kernel
theorem dX6_dusty_30 : decode cX6_dusty 30 = .ok (.iinc 3 1, 3) := by decide +kernel
theorem dX6_dusty_33 : decode cX6_dusty 33 = .ok (.goto (-29), 3) := by decide +kernel
theorem dX6_dusty_36 : decode cX6_dusty 36 = .ok (.lload_n 1, 1) := by decide +kernel
theorem dX6_dusty_37 : decode cX6_dusty 37 = .ok (.lreturn, 1) := by decide +kernel
