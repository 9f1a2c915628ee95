theorem dX11_init_0 : decode cX11_init 0 = .ok (.aload_n 0, 1) := by decide +kernel
theorem dX11_init_1 : decode cX11_init 1 = .ok (.invokespecial 22, 3) := by decide +kernel
theorem dX11_init_4 : decode cX11_init 4 = .ok (.aload_n 0, 1) := by decide +kernel
theorem dX11_init_5 : decode cX11_init 5 = .ok (.bipush 48, 2) := by decide +kernel
theorem dX11_init_7 : decode cX11_init 7 = .ok (.newarray .long, 2) := by decide +kernel
theorem dX11_init_9 : decode cX11_init 9 = .ok (.putfield 11, 3) := by decide +kernel
theorem dX11_init_12 : decode cX11_init 12 = .ok (.aload_n 0, 1) := by decide +kernel
theorem dX11_init_13 : decode cX11_init 13 = .ok (.iconst 1, 1) := by decide +kernel
theorem dX11_init_14 : decode cX11_init 14 = .ok (.putfield 28, 3) := by decide +kernel
theorem dX11_init_17 : decode cX11_init 17 = .ok (.aload_n 0, 1) := by decide +kernel
theorem dX11_init_18 : decode cX11_init 18 = .ok (.iconst 1, 1) := by decide +kernel
theorem dX11_init_19 : decode cX11_init 19 = .ok (.putfield 31, 3) := by decide +kernel
theorem dX11_init_22 : decode cX11_init 22 = .ok (.aload_n 0, 1) := by decide +kernel
theorem dX11_init_23 : decode cX11_init 23 = .ok (.iconst (-1), 1) := by decide +kernel
theorem dX11_init_24 : decode cX11_init 24 = .ok (.putfield 34, 3) := by decide +kernel
theorem dX11_init_27 : decode cX11_init 27 = .ok (.aload_n 0, 1) := by decide +kernel
theorem dX11_init_28 : decode cX11_init 28 = .ok (.bipush 36, 2) := by decide +kernel
theorem dX11_init_30 : decode cX11_init 30 = .ok (.newarray .int, 2) := by decide +kernel
theorem dX11_init_32 : decode cX11_init 32 = .ok (.putfield 37, 3) := by decide +kernel
theorem dX11_init_35 : decode cX11_init 35 = .ok (.aload_n 0, 1) := by decide +kernel
theorem dX11_init_36 : decode cX11_init 36 = .ok (.bipush 79, 2) := by decide +kernel
theorem dX11_init_38 : decode cX11_init 38 = .ok (.newarray .int, 2) := by decide +kernel
theorem dX11_init_40 : decode cX11_init 40 = .ok (.putfield 41, 3) := by decide +kernel
theorem dX11_init_43 : decode cX11_init 43 = .ok (.aload_n 0, 1) := by decide +kernel
theorem dX11_init_44 : decode cX11_init 44 = .ok (.bipush 79, 2) := by decide +kernel
theorem dX11_init_46 : decode cX11_init 46 = .ok (.newarray .int, 2) := by decide +kernel
theorem dX11_init_48 : decode cX11_init 48 = .ok (.putfield 44, 3) := by decide +kernel
theorem dX11_init_51 : decode cX11_init 51 = .ok (.aload_n 0, 1) := by decide +kernel
theorem dX11_init_52 : decode cX11_init 52 = .ok (.bipush 80, 2) := by decide +kernel
theorem dX11_init_54 : decode cX11_init 54 = .ok (.newarray .int, 2) := by decide +kernel
theorem dX11_init_56 : decode cX11_init 56 = .ok (.putfield 47, 3) := by decide +kernel
theorem dX11_init_59 : decode cX11_init 59 = .ok (.aload_n 0, 1) := by decide +kernel
theorem dX11_init_60 : decode cX11_init 60 = .ok (.bipush 36, 2) := by decide +kernel
theorem dX11_init_62 : decode cX11_init 62 = .ok (.newarray .int, 2) := by decide +kernel
theorem dX11_init_64 : decode cX11_init 64 = .ok (.putfield 50, 3) := by decide +kernel
theorem dX11_init_67 : decode cX11_init 67 = .ok (.aload_n 0, 1) := by decide +kernel
theorem dX11_init_68 : decode cX11_init 68 = .ok (.bipush 80, 2) := by decide +kernel
theorem dX11_init_70 : decode cX11_init 70 = .ok (.newarray .int, 2) := by decide +kernel
theorem dX11_init_72 : decode cX11_init 72 = .ok (.putfield 53, 3) := by decide +kernel
theorem dX11_init_75 : decode cX11_init 75 = .ok (.aload_n 0, 1) := by decide +kernel
theorem dX11_init_76 : decode cX11_init 76 = .ok (.bipush 80, 2) := by decide +kernel
theorem dX11_init_78 : decode cX11_init 78 = .ok (.newarray .int, 2) := by decide +kernel
theorem dX11_init_80 : decode cX11_init 80 = .ok (.putfield 56, 3) := by decide +kernel
theorem dX11_init_83 : decode cX11_init 83 = .ok (.aload_n 0, 1) := by decide +kernel
theorem dX11_init_84 : decode cX11_init 84 = .ok (.bipush 80, 2) := by decide +kernel
theorem dX11_init_86 : decode cX11_init 86 = .ok (.newarray .int, 2) := by decide +kernel
theorem dX11_init_88 : decode cX11_init 88 = .ok (.putfield 59, 3) := by decide +kernel
theorem dX11_init_91 : decode cX11_init 91 = .ok (.aload_n 0, 1) := by decide +kernel
theorem dX11_init_92 : decode cX11_init 92 = .ok (.iconst 5, 1) := by decide +kernel
theorem dX11_init_93 : decode cX11_init 93 = .ok (.newarray .int, 2) := by decide +kernel
theorem dX11_init_95 : decode cX11_init 95 = .ok (.putfield 62, 3) := by decide +kernel
theorem dX11_init_98 : decode cX11_init 98 = .ok (.aload_n 0, 1) := by decide +kernel
theorem dX11_init_99 : decode cX11_init 99 = .ok (.iconst (-1), 1) := by decide +kernel
theorem dX11_init_100 : decode cX11_init 100 = .ok (.putfield 65, 3) := by decide +kernel
theorem dX11_init_103 : decode cX11_init 103 = .ok (.aload_n 0, 1) := by decide +kernel
theorem dX11_init_104 : decode cX11_init 104 = .ok (.sipush 1264, 3) := by decide +kernel
theorem dX11_init_107 : decode cX11_init 107 = .ok (.newarray .int, 2) := by decide +kernel
theorem dX11_init_109 : decode cX11_init 109 = .ok (.putfield 68, 3) := by decide +kernel
theorem dX11_init_112 : decode cX11_init 112 = .ok (.aload_n 0, 1) := by decide +kernel
theorem dX11_init_113 : decode cX11_init 113 = .ok (.bipush 60, 2) := by decide +kernel
theorem dX11_init_115 : decode cX11_init 115 = .ok (.newarray .int, 2) := by decide +kernel
theorem dX11_init_117 : decode cX11_init 117 = .ok (.putfield 71, 3) := by decide +kernel
theorem dX11_init_120 : decode cX11_init 120 = .ok (.aload_n 0, 1) := by decide +kernel
theorem dX11_init_121 : decode cX11_init 121 = .ok (.bipush 60, 2) := by decide +kernel
theorem dX11_init_123 : decode cX11_init 123 = .ok (.newarray .int, 2) := by decide +kernel
theorem dX11_init_125 : decode cX11_init 125 = .ok (.putfield 74, 3) := by decide +kernel
theorem dX11_init_128 : decode cX11_init 128 = .ok (.aload_n 0, 1) := by decide +kernel
theorem dX11_init_129 : decode cX11_init 129 = .ok (.bipush 36, 2) := by decide +kernel
theorem dX11_init_131 : decode cX11_init 131 = .ok (.newarray .int, 2) := by decide +kernel
theorem dX11_init_133 : decode cX11_init 133 = .ok (.putfield 77, 3) := by decide +kernel
theorem dX11_init_136 : decode cX11_init 136 = .ok (.aload_n 0, 1) := by decide +kernel
theorem dX11_init_137 : decode cX11_init 137 = .ok (.bipush 36, 2) := by decide +kernel
theorem dX11_init_139 : decode cX11_init 139 = .ok (.newarray .int, 2) := by decide +kernel
theorem dX11_init_141 : decode cX11_init 141 = .ok (.putfield 80, 3) := by decide +kernel
theorem dX11_init_144 : decode cX11_init 144 = .ok (.aload_n 0, 1) := by decide +kernel
theorem dX11_init_145 : decode cX11_init 145 = .ok (.bipush 6, 2) := by decide +kernel
theorem dX11_init_147 : decode cX11_init 147 = .ok (.newarray .int, 2) := by decide +kernel
theorem dX11_init_149 : decode cX11_init 149 = .ok (.putfield 83, 3) := by decide +kernel
theorem dX11_init_152 : decode cX11_init 152 = .ok (.aload_n 0, 1) := by decide +kernel
theorem dX11_init_153 : decode cX11_init 153 = .ok (.bipush 6, 2) := by decide +kernel
theorem dX11_init_155 : decode cX11_init 155 = .ok (.newarray .int, 2) := by decide +kernel
theorem dX11_init_157 : decode cX11_init 157 = .ok (.putfield 86, 3) := by decide +kernel
theorem dX11_init_160 : decode cX11_init 160 = .ok (.aload_n 0, 1) := by decide +kernel
theorem dX11_init_161 : decode cX11_init 161 = .ok (.bipush 12, 2) := by decide +kernel
theorem dX11_init_163 : decode cX11_init 163 = .ok (.newarray .int, 2) := by decide +kernel
theorem dX11_init_165 : decode cX11_init 165 = .ok (.putfield 89, 3) := by decide +kernel
theorem dX11_init_168 : decode cX11_init 168 = .ok (.aload_n 0, 1) := by decide +kernel
theorem dX11_init_169 : decode cX11_init 169 = .ok (.sipush 144, 3) := by decide +kernel
theorem dX11_init_172 : decode cX11_init 172 = .ok (.newarray .boolean, 2) := by decide +kernel
theorem dX11_init_174 : decode cX11_init 174 = .ok (.putfield 92, 3) := by decide +kernel
theorem dX11_init_177 : decode cX11_init 177 = .ok (.aload_n 0, 1) := by decide +kernel
theorem dX11_init_178 : decode cX11_init 178 = .ok (.sipush 144, 3) := by decide +kernel
theorem dX11_init_181 : decode cX11_init 181 = .ok (.newarray .boolean, 2) := by decide +kernel
theorem dX11_init_183 : decode cX11_init 183 = .ok (.putfield 96, 3) := by decide +kernel
theorem dX11_init_186 : decode cX11_init 186 = .ok (.aload_n 0, 1) := by decide +kernel
theorem dX11_init_187 : decode cX11_init 187 = .ok (.bipush 36, 2) := by decide +kernel
theorem dX11_init_189 : decode cX11_init 189 = .ok (.newarray .long, 2) := by decide +kernel
theorem dX11_init_191 : decode cX11_init 191 = .ok (.putfield 99, 3) := by decide +kernel
theorem dX11_init_194 : decode cX11_init 194 = .ok (.aload_n 0, 1) := by decide +kernel
theorem dX11_init_195 : decode cX11_init 195 = .ok (.bipush 36, 2) := by decide +kernel
theorem dX11_init_197 : decode cX11_init 197 = .ok (.newarray .long, 2) := by decide +kernel
theorem dX11_init_199 : decode cX11_init 199 = .ok (.putfield 102, 3) := by decide +kernel
theorem dX11_init_202 : decode cX11_init 202 = .ok (.aload_n 0, 1) := by decide +kernel
theorem dX11_init_203 : decode cX11_init 203 = .ok (.sipush 1000, 3) := by decide +kernel
theorem dX11_init_206 : decode cX11_init 206 = .ok (.newarray .int, 2) := by decide +kernel
theorem dX11_init_208 : decode cX11_init 208 = .ok (.putfield 105, 3) := by decide +kernel
theorem dX11_init_211 : decode cX11_init 211 = .ok (.aload_n 0, 1) := by decide +kernel
theorem dX11_init_212 : decode cX11_init 212 = .ok (.iconst 3, 1) := by decide +kernel
theorem dX11_init_213 : decode cX11_init 213 = .ok (.newarray .boolean, 2) := by decide +kernel
theorem dX11_init_215 : decode cX11_init 215 = .ok (.putfield 108, 3) := by decide +kernel
theorem dX11_init_218 : decode cX11_init 218 = .ok (.aload_n 0, 1) := by decide +kernel
theorem dX11_init_219 : decode cX11_init 219 = .ok (.sipush 237, 3) := by decide +kernel
theorem dX11_init_222 : decode cX11_init 222 = .ok (.newarray .int, 2) := by decide +kernel
theorem dX11_init_224 : decode cX11_init 224 = .ok (.putfield 111, 3) := by decide +kernel
theorem dX11_init_227 : decode cX11_init 227 = .ok (.aload_n 0, 1) := by decide +kernel
theorem dX11_init_228 : decode cX11_init 228 = .ok (.getfield 37, 3) := by decide +kernel
theorem dX11_init_231 : decode cX11_init 231 = .ok (.iconst 0, 1) := by decide +kernel
theorem dX11_init_232 : decode cX11_init 232 = .ok (.iconst 1, 1) := by decide +kernel
theorem dX11_init_233 : decode cX11_init 233 = .ok (.iastore, 1) := by decide +kernel
theorem dX11_init_234 : decode cX11_init 234 = .ok (.aload_n 0, 1) := by decide +kernel
theorem dX11_init_235 : decode cX11_init 235 = .ok (.getfield 41, 3) := by decide +kernel
theorem dX11_init_238 : decode cX11_init 238 = .ok (.bipush 74, 2) := by decide +kernel
theorem dX11_init_240 : decode cX11_init 240 = .ok (.bipush 100, 2) := by decide +kernel
theorem dX11_init_242 : decode cX11_init 242 = .ok (.iastore, 1) := by decide +kernel
theorem dX11_init_243 : decode cX11_init 243 = .ok (.return_, 1) := by decide +kernel
theorem dX11_spots_0 : decode cX11_spots 0 = .ok (.aload_n 0, 1) := by decide +kernel
theorem dX11_spots_1 : decode cX11_spots 1 = .ok (.getfield 28, 3) := by decide +kernel
theorem dX11_spots_4 : decode cX11_spots 4 = .ok (.aload_n 0, 1) := by decide +kernel
theorem dX11_spots_5 : decode cX11_spots 5 = .ok (.getfield 31, 3) := by decide +kernel
theorem dX11_spots_8 : decode cX11_spots 8 = .ok (.imul, 1) := by decide +kernel
theorem dX11_spots_9 : decode cX11_spots 9 = .ok (.ireturn, 1) := by decide +kernel
theorem dX11_isSpot_0 : decode cX11_isSpot 0 = .ok (.iload_n 1, 1) := by decide +kernel
theorem dX11_isSpot_1 : decode cX11_isSpot 1 = .ok (.i2l, 1) := by decide +kernel
theorem dX11_isSpot_2 : decode cX11_isSpot 2 = .ok (.lconst 0, 1) := by decide +kernel
theorem dX11_isSpot_3 : decode cX11_isSpot 3 = .ok (.aload_n 0, 1) := by decide +kernel
theorem dX11_isSpot_4 : decode cX11_isSpot 4 = .ok (.invokevirtual 114, 3) := by decide +kernel
theorem dX11_isSpot_7 : decode cX11_isSpot 7 = .ok (.iconst 1, 1) := by decide +kernel
theorem dX11_isSpot_8 : decode cX11_isSpot 8 = .ok (.isub, 1) := by decide +kernel
theorem dX11_isSpot_9 : decode cX11_isSpot 9 = .ok (.i2l, 1) := by decide +kernel
theorem dX11_isSpot_10 : decode cX11_isSpot 10 = .ok (.invokestatic 118, 3) := by decide +kernel
theorem dX11_isSpot_13 : decode cX11_isSpot 13 = .ok (.ireturn, 1) := by decide +kernel
theorem dX11_isFree_0 : decode cX11_isFree 0 = .ok (.iload_n 2, 1) := by decide +kernel
theorem dX11_isFree_1 : decode cX11_isFree 1 = .ok (.ifCond .lt 25, 3) := by decide +kernel
theorem dX11_isFree_4 : decode cX11_isFree 4 = .ok (.aload_n 0, 1) := by decide +kernel
theorem dX11_isFree_5 : decode cX11_isFree 5 = .ok (.getfield 37, 3) := by decide +kernel
theorem dX11_isFree_8 : decode cX11_isFree 8 = .ok (.iload_n 2, 1) := by decide +kernel
theorem dX11_isFree_9 : decode cX11_isFree 9 = .ok (.iaload, 1) := by decide +kernel
theorem dX11_isFree_10 : decode cX11_isFree 10 = .ok (.ifCond .eq 16, 3) := by decide +kernel
theorem dX11_isFree_13 : decode cX11_isFree 13 = .ok (.aload_n 1, 1) := by decide +kernel
theorem dX11_isFree_14 : decode cX11_isFree 14 = .ok (.bipush 36, 2) := by decide +kernel
theorem dX11_isFree_16 : decode cX11_isFree 16 = .ok (.iload_n 2, 1) := by decide +kernel
theorem dX11_isFree_17 : decode cX11_isFree 17 = .ok (.iadd, 1) := by decide +kernel
theorem dX11_isFree_18 : decode cX11_isFree 18 = .ok (.iaload, 1) := by decide +kernel
theorem dX11_isFree_19 : decode cX11_isFree 19 = .ok (.ifCond .ne 7, 3) := by decide +kernel
theorem dX11_isFree_22 : decode cX11_isFree 22 = .ok (.iconst 1, 1) := by decide +kernel
theorem dX11_isFree_23 : decode cX11_isFree 23 = .ok (.goto 4, 3) := by decide +kernel
theorem dX11_isFree_26 : decode cX11_isFree 26 = .ok (.iconst 0, 1) := by decide +kernel
theorem dX11_isFree_27 : decode cX11_isFree 27 = .ok (.ireturn, 1) := by decide +kernel
theorem dX11_beside_0 : decode cX11_beside 0 = .ok (.iload_n 1, 1) := by decide +kernel
theorem dX11_beside_1 : decode cX11_beside 1 = .ok (.aload_n 0, 1) := by decide +kernel
theorem dX11_beside_2 : decode cX11_beside 2 = .ok (.getfield 31, 3) := by decide +kernel
theorem dX11_beside_5 : decode cX11_beside 5 = .ok (.idiv, 1) := by decide +kernel
theorem dX11_beside_6 : decode cX11_beside 6 = .ok (.iload_n 2, 1) := by decide +kernel
theorem dX11_beside_7 : decode cX11_beside 7 = .ok (.iconst 2, 1) := by decide +kernel
theorem dX11_beside_8 : decode cX11_beside 8 = .ok (.if_icmp .ne 7, 3) := by decide +kernel
theorem dX11_beside_11 : decode cX11_beside 11 = .ok (.iconst 1, 1) := by decide +kernel
theorem dX11_beside_12 : decode cX11_beside 12 = .ok (.goto 12, 3) := by decide +kernel
theorem dX11_beside_15 : decode cX11_beside 15 = .ok (.iload_n 2, 1) := by decide +kernel
theorem dX11_beside_16 : decode cX11_beside 16 = .ok (.ifCond .ne 7, 3) := by decide +kernel
theorem dX11_beside_19 : decode cX11_beside 19 = .ok (.iconst (-1), 1) := by decide +kernel
theorem dX11_beside_20 : decode cX11_beside 20 = .ok (.goto 4, 3) := by decide +kernel
theorem dX11_beside_23 : decode cX11_beside 23 = .ok (.iconst 0, 1) := by decide +kernel
theorem dX11_beside_24 : decode cX11_beside 24 = .ok (.iadd, 1) := by decide +kernel
theorem dX11_beside_25 : decode cX11_beside 25 = .ok (.istore_n 3, 1) := by decide +kernel
theorem dX11_beside_26 : decode cX11_beside 26 = .ok (.iload_n 1, 1) := by decide +kernel
theorem dX11_beside_27 : decode cX11_beside 27 = .ok (.aload_n 0, 1) := by decide +kernel
theorem dX11_beside_28 : decode cX11_beside 28 = .ok (.getfield 31, 3) := by decide +kernel
theorem dX11_beside_31 : decode cX11_beside 31 = .ok (.irem, 1) := by decide +kernel
theorem dX11_beside_32 : decode cX11_beside 32 = .ok (.iload_n 2, 1) := by decide +kernel
theorem dX11_beside_33 : decode cX11_beside 33 = .ok (.iconst 1, 1) := by decide +kernel
theorem dX11_beside_34 : decode cX11_beside 34 = .ok (.if_icmp .ne 7, 3) := by decide +kernel
theorem dX11_beside_37 : decode cX11_beside 37 = .ok (.iconst 1, 1) := by decide +kernel
theorem dX11_beside_38 : decode cX11_beside 38 = .ok (.goto 13, 3) := by decide +kernel
theorem dX11_beside_41 : decode cX11_beside 41 = .ok (.iload_n 2, 1) := by decide +kernel
theorem dX11_beside_42 : decode cX11_beside 42 = .ok (.iconst 3, 1) := by decide +kernel
theorem dX11_beside_43 : decode cX11_beside 43 = .ok (.if_icmp .ne 7, 3) := by decide +kernel
theorem dX11_beside_46 : decode cX11_beside 46 = .ok (.iconst (-1), 1) := by decide +kernel
theorem dX11_beside_47 : decode cX11_beside 47 = .ok (.goto 4, 3) := by decide +kernel
theorem dX11_beside_50 : decode cX11_beside 50 = .ok (.iconst 0, 1) := by decide +kernel
theorem dX11_beside_51 : decode cX11_beside 51 = .ok (.iadd, 1) := by decide +kernel
theorem dX11_beside_52 : decode cX11_beside 52 = .ok (.istore 4, 2) := by decide +kernel
theorem dX11_beside_54 : decode cX11_beside 54 = .ok (.iload_n 3, 1) := by decide +kernel
theorem dX11_beside_55 : decode cX11_beside 55 = .ok (.i2l, 1) := by decide +kernel
theorem dX11_beside_56 : decode cX11_beside 56 = .ok (.lconst 0, 1) := by decide +kernel
theorem dX11_beside_57 : decode cX11_beside 57 = .ok (.aload_n 0, 1) := by decide +kernel
theorem dX11_beside_58 : decode cX11_beside 58 = .ok (.getfield 28, 3) := by decide +kernel
theorem dX11_beside_61 : decode cX11_beside 61 = .ok (.iconst 1, 1) := by decide +kernel
theorem dX11_beside_62 : decode cX11_beside 62 = .ok (.isub, 1) := by decide +kernel
theorem dX11_beside_63 : decode cX11_beside 63 = .ok (.i2l, 1) := by decide +kernel
theorem dX11_beside_64 : decode cX11_beside 64 = .ok (.invokestatic 118, 3) := by decide +kernel
theorem dX11_beside_67 : decode cX11_beside 67 = .ok (.ifCond .eq 32, 3) := by decide +kernel
theorem dX11_beside_70 : decode cX11_beside 70 = .ok (.iload 4, 2) := by decide +kernel
theorem dX11_beside_72 : decode cX11_beside 72 = .ok (.i2l, 1) := by decide +kernel
theorem dX11_beside_73 : decode cX11_beside 73 = .ok (.lconst 0, 1) := by decide +kernel
theorem dX11_beside_74 : decode cX11_beside 74 = .ok (.aload_n 0, 1) := by decide +kernel
theorem dX11_beside_75 : decode cX11_beside 75 = .ok (.getfield 31, 3) := by decide +kernel
theorem dX11_beside_78 : decode cX11_beside 78 = .ok (.iconst 1, 1) := by decide +kernel
theorem dX11_beside_79 : decode cX11_beside 79 = .ok (.isub, 1) := by decide +kernel
theorem dX11_beside_80 : decode cX11_beside 80 = .ok (.i2l, 1) := by decide +kernel
theorem dX11_beside_81 : decode cX11_beside 81 = .ok (.invokestatic 118, 3) := by decide +kernel
theorem dX11_beside_84 : decode cX11_beside 84 = .ok (.ifCond .eq 15, 3) := by decide +kernel
theorem dX11_beside_87 : decode cX11_beside 87 = .ok (.aload_n 0, 1) := by decide +kernel
theorem dX11_beside_88 : decode cX11_beside 88 = .ok (.getfield 31, 3) := by decide +kernel
theorem dX11_beside_91 : decode cX11_beside 91 = .ok (.iload_n 3, 1) := by decide +kernel
theorem dX11_beside_92 : decode cX11_beside 92 = .ok (.imul, 1) := by decide +kernel
theorem dX11_beside_93 : decode cX11_beside 93 = .ok (.iload 4, 2) := by decide +kernel
theorem dX11_beside_95 : decode cX11_beside 95 = .ok (.iadd, 1) := by decide +kernel
theorem dX11_beside_96 : decode cX11_beside 96 = .ok (.goto 4, 3) := by decide +kernel
theorem dX11_beside_99 : decode cX11_beside 99 = .ok (.iconst (-1), 1) := by decide +kernel
theorem dX11_beside_100 : decode cX11_beside 100 = .ok (.ireturn, 1) := by decide +kernel
theorem dX11_costOf_0 : decode cX11_costOf 0 = .ok (.aload_n 0, 1) := by decide +kernel
theorem dX11_costOf_1 : decode cX11_costOf 1 = .ok (.getfield 37, 3) := by decide +kernel
theorem dX11_costOf_4 : decode cX11_costOf 4 = .ok (.iload_n 1, 1) := by decide +kernel
theorem dX11_costOf_5 : decode cX11_costOf 5 = .ok (.iaload, 1) := by decide +kernel
theorem dX11_costOf_6 : decode cX11_costOf 6 = .ok (.iconst 2, 1) := by decide +kernel
theorem dX11_costOf_7 : decode cX11_costOf 7 = .ok (.if_icmp .ne 7, 3) := by decide +kernel
theorem dX11_costOf_10 : decode cX11_costOf 10 = .ok (.iconst 2, 1) := by decide +kernel
theorem dX11_costOf_11 : decode cX11_costOf 11 = .ok (.goto 4, 3) := by decide +kernel
theorem dX11_costOf_14 : decode cX11_costOf 14 = .ok (.iconst 1, 1) := by decide +kernel
theorem dX11_costOf_15 : decode cX11_costOf 15 = .ok (.ireturn, 1) := by decide +kernel
theorem dX11_dustAll_0 : decode cX11_dustAll 0 = .ok (.iconst 0, 1) := by decide +kernel
theorem dX11_dustAll_1 : decode cX11_dustAll 1 = .ok (.istore_n 2, 1) := by decide +kernel
theorem dX11_dustAll_2 : decode cX11_dustAll 2 = .ok (.iconst 0, 1) := by decide +kernel
theorem dX11_dustAll_3 : decode cX11_dustAll 3 = .ok (.istore_n 3, 1) := by decide +kernel
theorem dX11_dustAll_4 : decode cX11_dustAll 4 = .ok (.iload_n 3, 1) := by decide +kernel
theorem dX11_dustAll_5 : decode cX11_dustAll 5 = .ok (.bipush 36, 2) := by decide +kernel
theorem dX11_dustAll_7 : decode cX11_dustAll 7 = .ok (.if_icmp .ge 15, 3) := by decide +kernel
theorem dX11_dustAll_10 : decode cX11_dustAll 10 = .ok (.iload_n 2, 1) := by decide +kernel
theorem dX11_dustAll_11 : decode cX11_dustAll 11 = .ok (.aload_n 1, 1) := by decide +kernel
theorem dX11_dustAll_12 : decode cX11_dustAll 12 = .ok (.iload_n 3, 1) := by decide +kernel
theorem dX11_dustAll_13 : decode cX11_dustAll 13 = .ok (.iaload, 1) := by decide +kernel
theorem dX11_dustAll_14 : decode cX11_dustAll 14 = .ok (.iadd, 1) := by decide +kernel
theorem dX11_dustAll_15 : decode cX11_dustAll 15 = .ok (.istore_n 2, 1) := by decide +kernel
theorem dX11_dustAll_16 : decode cX11_dustAll 16 = .ok (.iinc 3 1, 3) := by decide +kernel
theorem dX11_dustAll_19 : decode cX11_dustAll 19 = .ok (.goto (-15), 3) := by decide +kernel
theorem dX11_dustAll_22 : decode cX11_dustAll 22 = .ok (.iload_n 2, 1) := by decide +kernel
theorem dX11_dustAll_23 : decode cX11_dustAll 23 = .ok (.ireturn, 1) := by decide +kernel
theorem dX11_chairMany_0 : decode cX11_chairMany 0 = .ok (.iconst 0, 1) := by decide +kernel
theorem dX11_chairMany_1 : decode cX11_chairMany 1 = .ok (.istore_n 2, 1) := by decide +kernel
theorem dX11_chairMany_2 : decode cX11_chairMany 2 = .ok (.iconst 0, 1) := by decide +kernel
theorem dX11_chairMany_3 : decode cX11_chairMany 3 = .ok (.istore_n 3, 1) := by decide +kernel
theorem dX11_chairMany_4 : decode cX11_chairMany 4 = .ok (.iload_n 3, 1) := by decide +kernel
theorem dX11_chairMany_5 : decode cX11_chairMany 5 = .ok (.bipush 36, 2) := by decide +kernel
theorem dX11_chairMany_7 : decode cX11_chairMany 7 = .ok (.if_icmp .ge 18, 3) := by decide +kernel
theorem dX11_chairMany_10 : decode cX11_chairMany 10 = .ok (.iload_n 2, 1) := by decide +kernel
theorem dX11_chairMany_11 : decode cX11_chairMany 11 = .ok (.aload_n 1, 1) := by decide +kernel
theorem dX11_chairMany_12 : decode cX11_chairMany 12 = .ok (.bipush 36, 2) := by decide +kernel
theorem dX11_chairMany_14 : decode cX11_chairMany 14 = .ok (.iload_n 3, 1) := by decide +kernel
theorem dX11_chairMany_15 : decode cX11_chairMany 15 = .ok (.iadd, 1) := by decide +kernel
theorem dX11_chairMany_16 : decode cX11_chairMany 16 = .ok (.iaload, 1) := by decide +kernel
theorem dX11_chairMany_17 : decode cX11_chairMany 17 = .ok (.iadd, 1) := by decide +kernel
theorem dX11_chairMany_18 : decode cX11_chairMany 18 = .ok (.istore_n 2, 1) := by decide +kernel
theorem dX11_chairMany_19 : decode cX11_chairMany 19 = .ok (.iinc 3 1, 3) := by decide +kernel
theorem dX11_chairMany_22 : decode cX11_chairMany 22 = .ok (.goto (-18), 3) := by decide +kernel
theorem dX11_chairMany_25 : decode cX11_chairMany 25 = .ok (.iload_n 2, 1) := by decide +kernel
theorem dX11_chairMany_26 : decode cX11_chairMany 26 = .ok (.ireturn, 1) := by decide +kernel
theorem dX11_openMany_0 : decode cX11_openMany 0 = .ok (.iconst 0, 1) := by decide +kernel
theorem dX11_openMany_1 : decode cX11_openMany 1 = .ok (.istore_n 1, 1) := by decide +kernel
theorem dX11_openMany_2 : decode cX11_openMany 2 = .ok (.iconst 0, 1) := by decide +kernel
theorem dX11_openMany_3 : decode cX11_openMany 3 = .ok (.istore_n 2, 1) := by decide +kernel
theorem dX11_openMany_4 : decode cX11_openMany 4 = .ok (.iload_n 2, 1) := by decide +kernel
theorem dX11_openMany_5 : decode cX11_openMany 5 = .ok (.aload_n 0, 1) := by decide +kernel
theorem dX11_openMany_6 : decode cX11_openMany 6 = .ok (.invokevirtual 114, 3) := by decide +kernel
theorem dX11_openMany_9 : decode cX11_openMany 9 = .ok (.if_icmp .ge 29, 3) := by decide +kernel
theorem dX11_openMany_12 : decode cX11_openMany 12 = .ok (.iload_n 1, 1) := by decide +kernel
theorem dX11_openMany_13 : decode cX11_openMany 13 = .ok (.aload_n 0, 1) := by decide +kernel
theorem dX11_openMany_14 : decode cX11_openMany 14 = .ok (.getfield 37, 3) := by decide +kernel
theorem dX11_openMany_17 : decode cX11_openMany 17 = .ok (.iload_n 2, 1) := by decide +kernel
theorem dX11_openMany_18 : decode cX11_openMany 18 = .ok (.iaload, 1) := by decide +kernel
theorem dX11_openMany_19 : decode cX11_openMany 19 = .ok (.ifCond .eq 7, 3) := by decide +kernel
theorem dX11_openMany_22 : decode cX11_openMany 22 = .ok (.iconst 1, 1) := by decide +kernel
theorem dX11_openMany_23 : decode cX11_openMany 23 = .ok (.goto 4, 3) := by decide +kernel
theorem dX11_openMany_26 : decode cX11_openMany 26 = .ok (.iconst 0, 1) := by decide +kernel
theorem dX11_openMany_27 : decode cX11_openMany 27 = .ok (.invokestatic 122, 3) := by decide +kernel
theorem dX11_openMany_30 : decode cX11_openMany 30 = .ok (.iadd, 1) := by decide +kernel
theorem dX11_openMany_31 : decode cX11_openMany 31 = .ok (.istore_n 1, 1) := by decide +kernel
theorem dX11_openMany_32 : decode cX11_openMany 32 = .ok (.iinc 2 1, 3) := by decide +kernel
theorem dX11_openMany_35 : decode cX11_openMany 35 = .ok (.goto (-31), 3) := by decide +kernel
theorem dX11_openMany_38 : decode cX11_openMany 38 = .ok (.iload_n 1, 1) := by decide +kernel
theorem dX11_openMany_39 : decode cX11_openMany 39 = .ok (.ireturn, 1) := by decide +kernel
theorem dX11_sign_0 : decode cX11_sign 0 = .ok (.aload_n 0, 1) := by decide +kernel
theorem dX11_sign_1 : decode cX11_sign 1 = .ok (.iconst 0, 1) := by decide +kernel
theorem dX11_sign_2 : decode cX11_sign 2 = .ok (.putfield 3, 3) := by decide +kernel
theorem dX11_sign_5 : decode cX11_sign 5 = .ok (.aload_n 0, 1) := by decide +kernel
theorem dX11_sign_6 : decode cX11_sign 6 = .ok (.getfield 126, 3) := by decide +kernel
theorem dX11_sign_9 : decode cX11_sign 9 = .ok (.bipush 76, 2) := by decide +kernel
theorem dX11_sign_11 : decode cX11_sign 11 = .ok (.if_icmp .le 5, 3) := by decide +kernel
theorem dX11_sign_14 : decode cX11_sign 14 = .ok (.iconst (-1), 1) := by decide +kernel
theorem dX11_sign_15 : decode cX11_sign 15 = .ok (.ireturn, 1) := by decide +kernel
theorem dX11_sign_16 : decode cX11_sign 16 = .ok (.iconst 0, 1) := by decide +kernel
theorem dX11_sign_17 : decode cX11_sign 17 = .ok (.istore_n 2, 1) := by decide +kernel
theorem dX11_sign_18 : decode cX11_sign 18 = .ok (.iload_n 2, 1) := by decide +kernel
theorem dX11_sign_19 : decode cX11_sign 19 = .ok (.iconst 4, 1) := by decide +kernel
theorem dX11_sign_20 : decode cX11_sign 20 = .ok (.if_icmp .ge 33, 3) := by decide +kernel
theorem dX11_sign_23 : decode cX11_sign 23 = .ok (.aload_n 0, 1) := by decide +kernel
theorem dX11_sign_24 : decode cX11_sign 24 = .ok (.getfield 47, 3) := by decide +kernel
theorem dX11_sign_27 : decode cX11_sign 27 = .ok (.aload_n 0, 1) := by decide +kernel
theorem dX11_sign_28 : decode cX11_sign 28 = .ok (.getfield 126, 3) := by decide +kernel
theorem dX11_sign_31 : decode cX11_sign 31 = .ok (.iload_n 2, 1) := by decide +kernel
theorem dX11_sign_32 : decode cX11_sign 32 = .ok (.iadd, 1) := by decide +kernel
theorem dX11_sign_33 : decode cX11_sign 33 = .ok (.iload_n 1, 1) := by decide +kernel
theorem dX11_sign_34 : decode cX11_sign 34 = .ok (.bipush 24, 2) := by decide +kernel
theorem dX11_sign_36 : decode cX11_sign 36 = .ok (.bipush 8, 2) := by decide +kernel
theorem dX11_sign_38 : decode cX11_sign 38 = .ok (.iload_n 2, 1) := by decide +kernel
theorem dX11_sign_39 : decode cX11_sign 39 = .ok (.imul, 1) := by decide +kernel
theorem dX11_sign_40 : decode cX11_sign 40 = .ok (.isub, 1) := by decide +kernel
theorem dX11_sign_41 : decode cX11_sign 41 = .ok (.ishr, 1) := by decide +kernel
theorem dX11_sign_42 : decode cX11_sign 42 = .ok (.sipush 255, 3) := by decide +kernel
theorem dX11_sign_45 : decode cX11_sign 45 = .ok (.iand, 1) := by decide +kernel
theorem dX11_sign_46 : decode cX11_sign 46 = .ok (.iastore, 1) := by decide +kernel
theorem dX11_sign_47 : decode cX11_sign 47 = .ok (.iinc 2 1, 3) := by decide +kernel
theorem dX11_sign_50 : decode cX11_sign 50 = .ok (.goto (-32), 3) := by decide +kernel
theorem dX11_sign_53 : decode cX11_sign 53 = .ok (.aload_n 0, 1) := by decide +kernel
theorem dX11_sign_54 : decode cX11_sign 54 = .ok (.dup, 1) := by decide +kernel
theorem dX11_sign_55 : decode cX11_sign 55 = .ok (.getfield 126, 3) := by decide +kernel
theorem dX11_sign_58 : decode cX11_sign 58 = .ok (.iconst 4, 1) := by decide +kernel
theorem dX11_sign_59 : decode cX11_sign 59 = .ok (.iadd, 1) := by decide +kernel
theorem dX11_sign_60 : decode cX11_sign 60 = .ok (.putfield 126, 3) := by decide +kernel
theorem dX11_sign_63 : decode cX11_sign 63 = .ok (.aload_n 0, 1) := by decide +kernel
theorem dX11_sign_64 : decode cX11_sign 64 = .ok (.getfield 126, 3) := by decide +kernel
theorem dX11_sign_67 : decode cX11_sign 67 = .ok (.ireturn, 1) := by decide +kernel
theorem dX11_end_0 : decode cX11_end 0 = .ok (.aload_n 0, 1) := by decide +kernel
theorem dX11_end_1 : decode cX11_end 1 = .ok (.iconst 0, 1) := by decide +kernel
theorem dX11_end_2 : decode cX11_end 2 = .ok (.putfield 3, 3) := by decide +kernel
theorem dX11_end_5 : decode cX11_end 5 = .ok (.iload_n 1, 1) := by decide +kernel
theorem dX11_end_6 : decode cX11_end 6 = .ok (.i2l, 1) := by decide +kernel
theorem dX11_end_7 : decode cX11_end 7 = .ok (.lconst 0, 1) := by decide +kernel
theorem dX11_end_8 : decode cX11_end 8 = .ok (.aload_n 0, 1) := by decide +kernel
theorem dX11_end_9 : decode cX11_end 9 = .ok (.getfield 126, 3) := by decide +kernel
theorem dX11_end_12 : decode cX11_end 12 = .ok (.i2l, 1) := by decide +kernel
theorem dX11_end_13 : decode cX11_end 13 = .ok (.invokestatic 118, 3) := by decide +kernel
theorem dX11_end_16 : decode cX11_end 16 = .ok (.ifCond .ne 5, 3) := by decide +kernel
theorem dX11_end_19 : decode cX11_end 19 = .ok (.iconst 0, 1) := by decide +kernel
theorem dX11_end_20 : decode cX11_end 20 = .ok (.ireturn, 1) := by decide +kernel
theorem dX11_end_21 : decode cX11_end 21 = .ok (.aload_n 0, 1) := by decide +kernel
theorem dX11_end_22 : decode cX11_end 22 = .ok (.iload_n 1, 1) := by decide +kernel
theorem dX11_end_23 : decode cX11_end 23 = .ok (.putfield 126, 3) := by decide +kernel
theorem dX11_end_26 : decode cX11_end 26 = .ok (.iconst 1, 1) := by decide +kernel
theorem dX11_end_27 : decode cX11_end 27 = .ok (.ireturn, 1) := by decide +kernel
theorem dX11_begins_0 : decode cX11_begins 0 = .ok (.aload_n 0, 1) := by decide +kernel
theorem dX11_begins_1 : decode cX11_begins 1 = .ok (.getfield 126, 3) := by decide +kernel
theorem dX11_begins_4 : decode cX11_begins 4 = .ok (.istore_n 2, 1) := by decide +kernel
theorem dX11_begins_5 : decode cX11_begins 5 = .ok (.aload_n 0, 1) := by decide +kernel
theorem dX11_begins_6 : decode cX11_begins 6 = .ok (.iconst 0, 1) := by decide +kernel
theorem dX11_begins_7 : decode cX11_begins 7 = .ok (.putfield 126, 3) := by decide +kernel
theorem dX11_begins_10 : decode cX11_begins 10 = .ok (.aload_n 0, 1) := by decide +kernel
theorem dX11_begins_11 : decode cX11_begins 11 = .ok (.iconst 0, 1) := by decide +kernel
theorem dX11_begins_12 : decode cX11_begins 12 = .ok (.putfield 129, 3) := by decide +kernel
theorem dX11_begins_15 : decode cX11_begins 15 = .ok (.aload_n 0, 1) := by decide +kernel
theorem dX11_begins_16 : decode cX11_begins 16 = .ok (.iconst 0, 1) := by decide +kernel
theorem dX11_begins_17 : decode cX11_begins 17 = .ok (.putfield 132, 3) := by decide +kernel
theorem dX11_begins_20 : decode cX11_begins 20 = .ok (.aload_n 0, 1) := by decide +kernel
theorem dX11_begins_21 : decode cX11_begins 21 = .ok (.iload_n 2, 1) := by decide +kernel
theorem dX11_begins_22 : decode cX11_begins 22 = .ok (.iload_n 1, 1) := by decide +kernel
theorem dX11_begins_23 : decode cX11_begins 23 = .ok (.invokestatic 135, 3) := by decide +kernel
theorem dX11_begins_26 : decode cX11_begins 26 = .ok (.putfield 141, 3) := by decide +kernel
theorem dX11_begins_29 : decode cX11_begins 29 = .ok (.iload_n 2, 1) := by decide +kernel
theorem dX11_begins_30 : decode cX11_begins 30 = .ok (.ireturn, 1) := by decide +kernel
theorem dX11_takes_0 : decode cX11_takes 0 = .ok (.aload_n 0, 1) := by decide +kernel
theorem dX11_takes_1 : decode cX11_takes 1 = .ok (.getfield 129, 3) := by decide +kernel
theorem dX11_takes_4 : decode cX11_takes 4 = .ok (.aload_n 0, 1) := by decide +kernel
theorem dX11_takes_5 : decode cX11_takes 5 = .ok (.getfield 141, 3) := by decide +kernel
theorem dX11_takes_8 : decode cX11_takes 8 = .ok (.if_icmp .ge 20, 3) := by decide +kernel
theorem dX11_takes_11 : decode cX11_takes 11 = .ok (.aload_n 0, 1) := by decide +kernel
theorem dX11_takes_12 : decode cX11_takes 12 = .ok (.getfield 47, 3) := by decide +kernel
theorem dX11_takes_15 : decode cX11_takes 15 = .ok (.aload_n 0, 1) := by decide +kernel
theorem dX11_takes_16 : decode cX11_takes 16 = .ok (.getfield 129, 3) := by decide +kernel
theorem dX11_takes_19 : decode cX11_takes 19 = .ok (.iaload, 1) := by decide +kernel
theorem dX11_takes_20 : decode cX11_takes 20 = .ok (.iload_n 1, 1) := by decide +kernel
theorem dX11_takes_21 : decode cX11_takes 21 = .ok (.if_icmp .ne 7, 3) := by decide +kernel
theorem dX11_takes_24 : decode cX11_takes 24 = .ok (.iconst 1, 1) := by decide +kernel
theorem dX11_takes_25 : decode cX11_takes 25 = .ok (.goto 4, 3) := by decide +kernel
theorem dX11_takes_28 : decode cX11_takes 28 = .ok (.iconst 0, 1) := by decide +kernel
theorem dX11_takes_29 : decode cX11_takes 29 = .ok (.istore_n 2, 1) := by decide +kernel
theorem dX11_takes_30 : decode cX11_takes 30 = .ok (.aload_n 0, 1) := by decide +kernel
theorem dX11_takes_31 : decode cX11_takes 31 = .ok (.dup, 1) := by decide +kernel
theorem dX11_takes_32 : decode cX11_takes 32 = .ok (.getfield 129, 3) := by decide +kernel
theorem dX11_takes_35 : decode cX11_takes 35 = .ok (.iload_n 2, 1) := by decide +kernel
theorem dX11_takes_36 : decode cX11_takes 36 = .ok (.invokestatic 122, 3) := by decide +kernel
theorem dX11_takes_39 : decode cX11_takes 39 = .ok (.iadd, 1) := by decide +kernel
theorem dX11_takes_40 : decode cX11_takes 40 = .ok (.putfield 129, 3) := by decide +kernel
theorem dX11_takes_43 : decode cX11_takes 43 = .ok (.iload_n 2, 1) := by decide +kernel
theorem dX11_takes_44 : decode cX11_takes 44 = .ok (.ireturn, 1) := by decide +kernel
theorem dX11_isDigit_0 : decode cX11_isDigit 0 = .ok (.aload_n 0, 1) := by decide +kernel
theorem dX11_isDigit_1 : decode cX11_isDigit 1 = .ok (.getfield 129, 3) := by decide +kernel
theorem dX11_isDigit_4 : decode cX11_isDigit 4 = .ok (.aload_n 0, 1) := by decide +kernel
theorem dX11_isDigit_5 : decode cX11_isDigit 5 = .ok (.getfield 141, 3) := by decide +kernel
theorem dX11_isDigit_8 : decode cX11_isDigit 8 = .ok (.if_icmp .ge 29, 3) := by decide +kernel
theorem dX11_isDigit_11 : decode cX11_isDigit 11 = .ok (.aload_n 0, 1) := by decide +kernel
theorem dX11_isDigit_12 : decode cX11_isDigit 12 = .ok (.getfield 47, 3) := by decide +kernel
theorem dX11_isDigit_15 : decode cX11_isDigit 15 = .ok (.aload_n 0, 1) := by decide +kernel
theorem dX11_isDigit_16 : decode cX11_isDigit 16 = .ok (.getfield 129, 3) := by decide +kernel
theorem dX11_isDigit_19 : decode cX11_isDigit 19 = .ok (.iaload, 1) := by decide +kernel
theorem dX11_isDigit_20 : decode cX11_isDigit 20 = .ok (.i2l, 1) := by decide +kernel
theorem dX11_isDigit_21 : decode cX11_isDigit 21 = .ok (.ldc2_w 144, 3) := by decide +kernel
theorem dX11_isDigit_24 : decode cX11_isDigit 24 = .ok (.ldc2_w 146, 3) := by decide +kernel
theorem dX11_isDigit_27 : decode cX11_isDigit 27 = .ok (.invokestatic 118, 3) := by decide +kernel
theorem dX11_isDigit_30 : decode cX11_isDigit 30 = .ok (.ifCond .eq 7, 3) := by decide +kernel
theorem dX11_isDigit_33 : decode cX11_isDigit 33 = .ok (.iconst 1, 1) := by decide +kernel
theorem dX11_isDigit_34 : decode cX11_isDigit 34 = .ok (.goto 4, 3) := by decide +kernel
theorem dX11_isDigit_37 : decode cX11_isDigit 37 = .ok (.iconst 0, 1) := by decide +kernel
theorem dX11_isDigit_38 : decode cX11_isDigit 38 = .ok (.ireturn, 1) := by decide +kernel
theorem dX11_among_0 : decode cX11_among 0 = .ok (.iconst 0, 1) := by decide +kernel
theorem dX11_among_1 : decode cX11_among 1 = .ok (.istore_n 2, 1) := by decide +kernel
theorem dX11_among_2 : decode cX11_among 2 = .ok (.iload_n 2, 1) := by decide +kernel
theorem dX11_among_3 : decode cX11_among 3 = .ok (.aload_n 1, 1) := by decide +kernel
theorem dX11_among_4 : decode cX11_among 4 = .ok (.invokevirtual 148, 3) := by decide +kernel
theorem dX11_among_7 : decode cX11_among 7 = .ok (.if_icmp .ge 39, 3) := by decide +kernel
theorem dX11_among_10 : decode cX11_among 10 = .ok (.aload_n 0, 1) := by decide +kernel
theorem dX11_among_11 : decode cX11_among 11 = .ok (.getfield 129, 3) := by decide +kernel
theorem dX11_among_14 : decode cX11_among 14 = .ok (.aload_n 0, 1) := by decide +kernel
theorem dX11_among_15 : decode cX11_among 15 = .ok (.getfield 141, 3) := by decide +kernel
theorem dX11_among_18 : decode cX11_among 18 = .ok (.if_icmp .ge 28, 3) := by decide +kernel
theorem dX11_among_21 : decode cX11_among 21 = .ok (.aload_n 1, 1) := by decide +kernel
theorem dX11_among_22 : decode cX11_among 22 = .ok (.iload_n 2, 1) := by decide +kernel
theorem dX11_among_23 : decode cX11_among 23 = .ok (.invokevirtual 153, 3) := by decide +kernel
theorem dX11_among_26 : decode cX11_among 26 = .ok (.aload_n 0, 1) := by decide +kernel
theorem dX11_among_27 : decode cX11_among 27 = .ok (.getfield 47, 3) := by decide +kernel
theorem dX11_among_30 : decode cX11_among 30 = .ok (.aload_n 0, 1) := by decide +kernel
theorem dX11_among_31 : decode cX11_among 31 = .ok (.getfield 129, 3) := by decide +kernel
theorem dX11_among_34 : decode cX11_among 34 = .ok (.iaload, 1) := by decide +kernel
theorem dX11_among_35 : decode cX11_among 35 = .ok (.if_icmp .ne 5, 3) := by decide +kernel
theorem dX11_among_38 : decode cX11_among 38 = .ok (.iload_n 2, 1) := by decide +kernel
theorem dX11_among_39 : decode cX11_among 39 = .ok (.ireturn, 1) := by decide +kernel
theorem dX11_among_40 : decode cX11_among 40 = .ok (.iinc 2 1, 3) := by decide +kernel
theorem dX11_among_43 : decode cX11_among 43 = .ok (.goto (-41), 3) := by decide +kernel
theorem dX11_among_46 : decode cX11_among 46 = .ok (.iconst (-1), 1) := by decide +kernel
theorem dX11_among_47 : decode cX11_among 47 = .ok (.ireturn, 1) := by decide +kernel
theorem dX11_takesOf_0 : decode cX11_takesOf 0 = .ok (.aload_n 0, 1) := by decide +kernel
theorem dX11_takesOf_1 : decode cX11_takesOf 1 = .ok (.aload_n 1, 1) := by decide +kernel
theorem dX11_takesOf_2 : decode cX11_takesOf 2 = .ok (.invokevirtual 157, 3) := by decide +kernel
theorem dX11_takesOf_5 : decode cX11_takesOf 5 = .ok (.istore_n 2, 1) := by decide +kernel
theorem dX11_takesOf_6 : decode cX11_takesOf 6 = .ok (.aload_n 0, 1) := by decide +kernel
theorem dX11_takesOf_7 : decode cX11_takesOf 7 = .ok (.dup, 1) := by decide +kernel
theorem dX11_takesOf_8 : decode cX11_takesOf 8 = .ok (.getfield 129, 3) := by decide +kernel
theorem dX11_takesOf_11 : decode cX11_takesOf 11 = .ok (.iload_n 2, 1) := by decide +kernel
theorem dX11_takesOf_12 : decode cX11_takesOf 12 = .ok (.ifCond .lt 7, 3) := by decide +kernel
theorem dX11_takesOf_15 : decode cX11_takesOf 15 = .ok (.iconst 1, 1) := by decide +kernel
theorem dX11_takesOf_16 : decode cX11_takesOf 16 = .ok (.goto 4, 3) := by decide +kernel
theorem dX11_takesOf_19 : decode cX11_takesOf 19 = .ok (.iconst 0, 1) := by decide +kernel
theorem dX11_takesOf_20 : decode cX11_takesOf 20 = .ok (.invokestatic 122, 3) := by decide +kernel
theorem dX11_takesOf_23 : decode cX11_takesOf 23 = .ok (.iadd, 1) := by decide +kernel
theorem dX11_takesOf_24 : decode cX11_takesOf 24 = .ok (.putfield 129, 3) := by decide +kernel
theorem dX11_takesOf_27 : decode cX11_takesOf 27 = .ok (.iload_n 2, 1) := by decide +kernel
theorem dX11_takesOf_28 : decode cX11_takesOf 28 = .ok (.ireturn, 1) := by decide +kernel
theorem dX11_number_0 : decode cX11_number 0 = .ok (.aload_n 0, 1) := by decide +kernel
theorem dX11_number_1 : decode cX11_number 1 = .ok (.invokevirtual 161, 3) := by decide +kernel
theorem dX11_number_4 : decode cX11_number 4 = .ok (.ifCond .ne 5, 3) := by decide +kernel
theorem dX11_number_7 : decode cX11_number 7 = .ok (.iconst (-1), 1) := by decide +kernel
theorem dX11_number_8 : decode cX11_number 8 = .ok (.ireturn, 1) := by decide +kernel
theorem dX11_number_9 : decode cX11_number 9 = .ok (.iconst 0, 1) := by decide +kernel
theorem dX11_number_10 : decode cX11_number 10 = .ok (.istore_n 2, 1) := by decide +kernel
theorem dX11_number_11 : decode cX11_number 11 = .ok (.iconst 0, 1) := by decide +kernel
theorem dX11_number_12 : decode cX11_number 12 = .ok (.istore_n 3, 1) := by decide +kernel
theorem dX11_number_13 : decode cX11_number 13 = .ok (.iload_n 3, 1) := by decide +kernel
theorem dX11_number_14 : decode cX11_number 14 = .ok (.iload_n 1, 1) := by decide +kernel
theorem dX11_number_15 : decode cX11_number 15 = .ok (.if_icmp .ge 44, 3) := by decide +kernel
theorem dX11_number_18 : decode cX11_number 18 = .ok (.aload_n 0, 1) := by decide +kernel
theorem dX11_number_19 : decode cX11_number 19 = .ok (.invokevirtual 161, 3) := by decide +kernel
theorem dX11_number_22 : decode cX11_number 22 = .ok (.ifCond .eq 37, 3) := by decide +kernel
theorem dX11_number_25 : decode cX11_number 25 = .ok (.bipush 10, 2) := by decide +kernel
theorem dX11_number_27 : decode cX11_number 27 = .ok (.iload_n 2, 1) := by decide +kernel
theorem dX11_number_28 : decode cX11_number 28 = .ok (.imul, 1) := by decide +kernel
theorem dX11_number_29 : decode cX11_number 29 = .ok (.aload_n 0, 1) := by decide +kernel
theorem dX11_number_30 : decode cX11_number 30 = .ok (.getfield 47, 3) := by decide +kernel
theorem dX11_number_33 : decode cX11_number 33 = .ok (.aload_n 0, 1) := by decide +kernel
theorem dX11_number_34 : decode cX11_number 34 = .ok (.getfield 129, 3) := by decide +kernel
theorem dX11_number_37 : decode cX11_number 37 = .ok (.iaload, 1) := by decide +kernel
theorem dX11_number_38 : decode cX11_number 38 = .ok (.iadd, 1) := by decide +kernel
theorem dX11_number_39 : decode cX11_number 39 = .ok (.bipush 48, 2) := by decide +kernel
theorem dX11_number_41 : decode cX11_number 41 = .ok (.isub, 1) := by decide +kernel
theorem dX11_number_42 : decode cX11_number 42 = .ok (.istore_n 2, 1) := by decide +kernel
theorem dX11_number_43 : decode cX11_number 43 = .ok (.aload_n 0, 1) := by decide +kernel
theorem dX11_number_44 : decode cX11_number 44 = .ok (.dup, 1) := by decide +kernel
theorem dX11_number_45 : decode cX11_number 45 = .ok (.getfield 129, 3) := by decide +kernel
theorem dX11_number_48 : decode cX11_number 48 = .ok (.iconst 1, 1) := by decide +kernel
theorem dX11_number_49 : decode cX11_number 49 = .ok (.iadd, 1) := by decide +kernel
theorem dX11_number_50 : decode cX11_number 50 = .ok (.putfield 129, 3) := by decide +kernel
theorem dX11_number_53 : decode cX11_number 53 = .ok (.iinc 3 1, 3) := by decide +kernel
theorem dX11_number_56 : decode cX11_number 56 = .ok (.goto (-43), 3) := by decide +kernel
theorem dX11_number_59 : decode cX11_number 59 = .ok (.iload_n 2, 1) := by decide +kernel
theorem dX11_number_60 : decode cX11_number 60 = .ok (.ireturn, 1) := by decide +kernel
theorem dX11_signIn_0 : decode cX11_signIn 0 = .ok (.aload_n 0, 1) := by decide +kernel
theorem dX11_signIn_1 : decode cX11_signIn 1 = .ok (.getfield 129, 3) := by decide +kernel
theorem dX11_signIn_4 : decode cX11_signIn 4 = .ok (.aload_n 0, 1) := by decide +kernel
theorem dX11_signIn_5 : decode cX11_signIn 5 = .ok (.getfield 141, 3) := by decide +kernel
theorem dX11_signIn_8 : decode cX11_signIn 8 = .ok (.if_icmp .ge 25, 3) := by decide +kernel
theorem dX11_signIn_11 : decode cX11_signIn 11 = .ok (.aload_n 0, 1) := by decide +kernel
theorem dX11_signIn_12 : decode cX11_signIn 12 = .ok (.getfield 47, 3) := by decide +kernel
theorem dX11_signIn_15 : decode cX11_signIn 15 = .ok (.aload_n 0, 1) := by decide +kernel
theorem dX11_signIn_16 : decode cX11_signIn 16 = .ok (.getfield 129, 3) := by decide +kernel
theorem dX11_signIn_19 : decode cX11_signIn 19 = .ok (.iaload, 1) := by decide +kernel
theorem dX11_signIn_20 : decode cX11_signIn 20 = .ok (.iload_n 1, 1) := by decide +kernel
theorem dX11_signIn_21 : decode cX11_signIn 21 = .ok (.isub, 1) := by decide +kernel
theorem dX11_signIn_22 : decode cX11_signIn 22 = .ok (.i2l, 1) := by decide +kernel
theorem dX11_signIn_23 : decode cX11_signIn 23 = .ok (.iload_n 2, 1) := by decide +kernel
theorem dX11_signIn_24 : decode cX11_signIn 24 = .ok (.i2l, 1) := by decide +kernel
theorem dX11_signIn_25 : decode cX11_signIn 25 = .ok (.iload_n 3, 1) := by decide +kernel
theorem dX11_signIn_26 : decode cX11_signIn 26 = .ok (.i2l, 1) := by decide +kernel
theorem dX11_signIn_27 : decode cX11_signIn 27 = .ok (.invokestatic 118, 3) := by decide +kernel
theorem dX11_signIn_30 : decode cX11_signIn 30 = .ok (.ifCond .ne 5, 3) := by decide +kernel
theorem dX11_signIn_33 : decode cX11_signIn 33 = .ok (.iconst (-1), 1) := by decide +kernel
theorem dX11_signIn_34 : decode cX11_signIn 34 = .ok (.ireturn, 1) := by decide +kernel
theorem dX11_signIn_35 : decode cX11_signIn 35 = .ok (.aload_n 0, 1) := by decide +kernel
theorem dX11_signIn_36 : decode cX11_signIn 36 = .ok (.dup, 1) := by decide +kernel
theorem dX11_signIn_37 : decode cX11_signIn 37 = .ok (.getfield 129, 3) := by decide +kernel
theorem dX11_signIn_40 : decode cX11_signIn 40 = .ok (.iconst 1, 1) := by decide +kernel
theorem dX11_signIn_41 : decode cX11_signIn 41 = .ok (.iadd, 1) := by decide +kernel
theorem dX11_signIn_42 : decode cX11_signIn 42 = .ok (.putfield 129, 3) := by decide +kernel
theorem dX11_signIn_45 : decode cX11_signIn 45 = .ok (.aload_n 0, 1) := by decide +kernel
theorem dX11_signIn_46 : decode cX11_signIn 46 = .ok (.getfield 47, 3) := by decide +kernel
theorem dX11_signIn_49 : decode cX11_signIn 49 = .ok (.aload_n 0, 1) := by decide +kernel
theorem dX11_signIn_50 : decode cX11_signIn 50 = .ok (.getfield 129, 3) := by decide +kernel
theorem dX11_signIn_53 : decode cX11_signIn 53 = .ok (.iconst 1, 1) := by decide +kernel
theorem dX11_signIn_54 : decode cX11_signIn 54 = .ok (.isub, 1) := by decide +kernel
theorem dX11_signIn_55 : decode cX11_signIn 55 = .ok (.iaload, 1) := by decide +kernel
theorem dX11_signIn_56 : decode cX11_signIn 56 = .ok (.iload_n 1, 1) := by decide +kernel
theorem dX11_signIn_57 : decode cX11_signIn 57 = .ok (.isub, 1) := by decide +kernel
theorem dX11_signIn_58 : decode cX11_signIn 58 = .ok (.ireturn, 1) := by decide +kernel
theorem dX11_faultOf_0 : decode cX11_faultOf 0 = .ok (.iload_n 3, 1) := by decide +kernel
theorem dX11_faultOf_1 : decode cX11_faultOf 1 = .ok (.ifCond .eq 18, 3) := by decide +kernel
theorem dX11_faultOf_4 : decode cX11_faultOf 4 = .ok (.aload_n 0, 1) := by decide +kernel
theorem dX11_faultOf_5 : decode cX11_faultOf 5 = .ok (.getfield 129, 3) := by decide +kernel
theorem dX11_faultOf_8 : decode cX11_faultOf 8 = .ok (.aload_n 0, 1) := by decide +kernel
theorem dX11_faultOf_9 : decode cX11_faultOf 9 = .ok (.getfield 141, 3) := by decide +kernel
theorem dX11_faultOf_12 : decode cX11_faultOf 12 = .ok (.if_icmp .ne 7, 3) := by decide +kernel
theorem dX11_faultOf_15 : decode cX11_faultOf 15 = .ok (.iconst 1, 1) := by decide +kernel
theorem dX11_faultOf_16 : decode cX11_faultOf 16 = .ok (.goto 4, 3) := by decide +kernel
theorem dX11_faultOf_19 : decode cX11_faultOf 19 = .ok (.iconst 0, 1) := by decide +kernel
theorem dX11_faultOf_20 : decode cX11_faultOf 20 = .ok (.istore 4, 2) := by decide +kernel
theorem dX11_faultOf_22 : decode cX11_faultOf 22 = .ok (.iload_n 1, 1) := by decide +kernel
theorem dX11_faultOf_23 : decode cX11_faultOf 23 = .ok (.iload_n 2, 1) := by decide +kernel
theorem dX11_faultOf_24 : decode cX11_faultOf 24 = .ok (.if_icmp .le 20, 3) := by decide +kernel
theorem dX11_faultOf_27 : decode cX11_faultOf 27 = .ok (.iload 4, 2) := by decide +kernel
theorem dX11_faultOf_29 : decode cX11_faultOf 29 = .ok (.ifCond .ne 11, 3) := by decide +kernel
theorem dX11_faultOf_32 : decode cX11_faultOf 32 = .ok (.aload_n 0, 1) := by decide +kernel
theorem dX11_faultOf_33 : decode cX11_faultOf 33 = .ok (.getfield 129, 3) := by decide +kernel
theorem dX11_faultOf_36 : decode cX11_faultOf 36 = .ok (.iload_n 2, 1) := by decide +kernel
theorem dX11_faultOf_37 : decode cX11_faultOf 37 = .ok (.if_icmp .lt 7, 3) := by decide +kernel
theorem dX11_faultOf_40 : decode cX11_faultOf 40 = .ok (.iconst (-1), 1) := by decide +kernel
theorem dX11_faultOf_41 : decode cX11_faultOf 41 = .ok (.iload_n 2, 1) := by decide +kernel
theorem dX11_faultOf_42 : decode cX11_faultOf 42 = .ok (.isub, 1) := by decide +kernel
theorem dX11_faultOf_43 : decode cX11_faultOf 43 = .ok (.ireturn, 1) := by decide +kernel
theorem dX11_faultOf_44 : decode cX11_faultOf 44 = .ok (.iload 4, 2) := by decide +kernel
theorem dX11_faultOf_46 : decode cX11_faultOf 46 = .ok (.ifCond .eq 7, 3) := by decide +kernel
theorem dX11_faultOf_49 : decode cX11_faultOf 49 = .ok (.iconst 0, 1) := by decide +kernel
theorem dX11_faultOf_50 : decode cX11_faultOf 50 = .ok (.goto 9, 3) := by decide +kernel
theorem dX11_faultOf_53 : decode cX11_faultOf 53 = .ok (.iconst (-1), 1) := by decide +kernel
theorem dX11_faultOf_54 : decode cX11_faultOf 54 = .ok (.aload_n 0, 1) := by decide +kernel
theorem dX11_faultOf_55 : decode cX11_faultOf 55 = .ok (.getfield 129, 3) := by decide +kernel
theorem dX11_faultOf_58 : decode cX11_faultOf 58 = .ok (.isub, 1) := by decide +kernel
theorem dX11_faultOf_59 : decode cX11_faultOf 59 = .ok (.ireturn, 1) := by decide +kernel
theorem dX11_readsRow_0 : decode cX11_readsRow 0 = .ok (.iload_n 1, 1) := by decide +kernel
theorem dX11_readsRow_1 : decode cX11_readsRow 1 = .ok (.ifCond .ne 8, 3) := by decide +kernel
theorem dX11_readsRow_4 : decode cX11_readsRow 4 = .ok (.bipush 6, 2) := by decide +kernel
theorem dX11_readsRow_6 : decode cX11_readsRow 6 = .ok (.goto 7, 3) := by decide +kernel
theorem dX11_readsRow_9 : decode cX11_readsRow 9 = .ok (.aload_n 0, 1) := by decide +kernel
theorem dX11_readsRow_10 : decode cX11_readsRow 10 = .ok (.getfield 165, 3) := by decide +kernel
theorem dX11_readsRow_13 : decode cX11_readsRow 13 = .ok (.istore_n 2, 1) := by decide +kernel
theorem dX11_readsRow_14 : decode cX11_readsRow 14 = .ok (.iconst 0, 1) := by decide +kernel
theorem dX11_readsRow_15 : decode cX11_readsRow 15 = .ok (.istore_n 3, 1) := by decide +kernel
theorem dX11_readsRow_16 : decode cX11_readsRow 16 = .ok (.aload_n 0, 1) := by decide +kernel
theorem dX11_readsRow_17 : decode cX11_readsRow 17 = .ok (.aload_n 0, 1) := by decide +kernel
theorem dX11_readsRow_18 : decode cX11_readsRow 18 = .ok (.getfield 168, 3) := by decide +kernel
theorem dX11_readsRow_21 : decode cX11_readsRow 21 = .ok (.ifCond .ge 8, 3) := by decide +kernel
theorem dX11_readsRow_24 : decode cX11_readsRow 24 = .ok (.ldc 171, 2) := by decide +kernel
theorem dX11_readsRow_26 : decode cX11_readsRow 26 = .ok (.goto 5, 3) := by decide +kernel
theorem dX11_readsRow_29 : decode cX11_readsRow 29 = .ok (.ldc 173, 2) := by decide +kernel
theorem dX11_readsRow_31 : decode cX11_readsRow 31 = .ok (.invokevirtual 157, 3) := by decide +kernel
theorem dX11_readsRow_34 : decode cX11_readsRow 34 = .ok (.istore 4, 2) := by decide +kernel
theorem dX11_readsRow_36 : decode cX11_readsRow 36 = .ok (.iload_n 3, 1) := by decide +kernel
theorem dX11_readsRow_37 : decode cX11_readsRow 37 = .ok (.iload_n 2, 1) := by decide +kernel
theorem dX11_readsRow_38 : decode cX11_readsRow 38 = .ok (.if_icmp .ge 122, 3) := by decide +kernel
theorem dX11_readsRow_41 : decode cX11_readsRow 41 = .ok (.iload 4, 2) := by decide +kernel
theorem dX11_readsRow_43 : decode cX11_readsRow 43 = .ok (.ifCond .lt 117, 3) := by decide +kernel
theorem dX11_readsRow_46 : decode cX11_readsRow 46 = .ok (.aload_n 0, 1) := by decide +kernel
theorem dX11_readsRow_47 : decode cX11_readsRow 47 = .ok (.dup, 1) := by decide +kernel
theorem dX11_readsRow_48 : decode cX11_readsRow 48 = .ok (.getfield 129, 3) := by decide +kernel
theorem dX11_readsRow_51 : decode cX11_readsRow 51 = .ok (.iconst 1, 1) := by decide +kernel
theorem dX11_readsRow_52 : decode cX11_readsRow 52 = .ok (.iadd, 1) := by decide +kernel
theorem dX11_readsRow_53 : decode cX11_readsRow 53 = .ok (.putfield 129, 3) := by decide +kernel
theorem dX11_readsRow_56 : decode cX11_readsRow 56 = .ok (.iload_n 2, 1) := by decide +kernel
theorem dX11_readsRow_57 : decode cX11_readsRow 57 = .ok (.aload_n 0, 1) := by decide +kernel
theorem dX11_readsRow_58 : decode cX11_readsRow 58 = .ok (.getfield 165, 3) := by decide +kernel
theorem dX11_readsRow_61 : decode cX11_readsRow 61 = .ok (.if_icmp .eq 7, 3) := by decide +kernel
theorem dX11_readsRow_64 : decode cX11_readsRow 64 = .ok (.iload_n 1, 1) := by decide +kernel
theorem dX11_readsRow_65 : decode cX11_readsRow 65 = .ok (.ifCond .le 14, 3) := by decide +kernel
theorem dX11_readsRow_68 : decode cX11_readsRow 68 = .ok (.aload_n 0, 1) := by decide +kernel
theorem dX11_readsRow_69 : decode cX11_readsRow 69 = .ok (.getfield 165, 3) := by decide +kernel
theorem dX11_readsRow_72 : decode cX11_readsRow 72 = .ok (.iload_n 1, 1) := by decide +kernel
theorem dX11_readsRow_73 : decode cX11_readsRow 73 = .ok (.imul, 1) := by decide +kernel
theorem dX11_readsRow_74 : decode cX11_readsRow 74 = .ok (.iload_n 3, 1) := by decide +kernel
theorem dX11_readsRow_75 : decode cX11_readsRow 75 = .ok (.iadd, 1) := by decide +kernel
theorem dX11_readsRow_76 : decode cX11_readsRow 76 = .ok (.goto 4, 3) := by decide +kernel
theorem dX11_readsRow_79 : decode cX11_readsRow 79 = .ok (.iload_n 3, 1) := by decide +kernel
theorem dX11_readsRow_80 : decode cX11_readsRow 80 = .ok (.istore 5, 2) := by decide +kernel
theorem dX11_readsRow_82 : decode cX11_readsRow 82 = .ok (.aload_n 0, 1) := by decide +kernel
theorem dX11_readsRow_83 : decode cX11_readsRow 83 = .ok (.getfield 50, 3) := by decide +kernel
theorem dX11_readsRow_86 : decode cX11_readsRow 86 = .ok (.iload 5, 2) := by decide +kernel
theorem dX11_readsRow_88 : decode cX11_readsRow 88 = .ok (.iload 4, 2) := by decide +kernel
theorem dX11_readsRow_90 : decode cX11_readsRow 90 = .ok (.ifCond .ne 7, 3) := by decide +kernel
theorem dX11_readsRow_93 : decode cX11_readsRow 93 = .ok (.iconst 0, 1) := by decide +kernel
theorem dX11_readsRow_94 : decode cX11_readsRow 94 = .ok (.goto 20, 3) := by decide +kernel
theorem dX11_readsRow_97 : decode cX11_readsRow 97 = .ok (.iload 4, 2) := by decide +kernel
theorem dX11_readsRow_99 : decode cX11_readsRow 99 = .ok (.iconst 1, 1) := by decide +kernel
theorem dX11_readsRow_100 : decode cX11_readsRow 100 = .ok (.if_icmp .eq 9, 3) := by decide +kernel
theorem dX11_readsRow_103 : decode cX11_readsRow 103 = .ok (.iload 4, 2) := by decide +kernel
theorem dX11_readsRow_105 : decode cX11_readsRow 105 = .ok (.iconst 3, 1) := by decide +kernel
theorem dX11_readsRow_106 : decode cX11_readsRow 106 = .ok (.if_icmp .ne 7, 3) := by decide +kernel
theorem dX11_readsRow_109 : decode cX11_readsRow 109 = .ok (.iconst 1, 1) := by decide +kernel
theorem dX11_readsRow_110 : decode cX11_readsRow 110 = .ok (.goto 4, 3) := by decide +kernel
theorem dX11_readsRow_113 : decode cX11_readsRow 113 = .ok (.iconst 2, 1) := by decide +kernel
theorem dX11_readsRow_114 : decode cX11_readsRow 114 = .ok (.iastore, 1) := by decide +kernel
theorem dX11_readsRow_115 : decode cX11_readsRow 115 = .ok (.aload_n 0, 1) := by decide +kernel
theorem dX11_readsRow_116 : decode cX11_readsRow 116 = .ok (.iload 4, 2) := by decide +kernel
theorem dX11_readsRow_118 : decode cX11_readsRow 118 = .ok (.iconst 2, 1) := by decide +kernel
theorem dX11_readsRow_119 : decode cX11_readsRow 119 = .ok (.if_icmp .le 8, 3) := by decide +kernel
theorem dX11_readsRow_122 : decode cX11_readsRow 122 = .ok (.iload 5, 2) := by decide +kernel
theorem dX11_readsRow_124 : decode cX11_readsRow 124 = .ok (.goto 7, 3) := by decide +kernel
theorem dX11_readsRow_127 : decode cX11_readsRow 127 = .ok (.aload_n 0, 1) := by decide +kernel
theorem dX11_readsRow_128 : decode cX11_readsRow 128 = .ok (.getfield 168, 3) := by decide +kernel
theorem dX11_readsRow_131 : decode cX11_readsRow 131 = .ok (.putfield 168, 3) := by decide +kernel
theorem dX11_readsRow_134 : decode cX11_readsRow 134 = .ok (.iinc 3 1, 3) := by decide +kernel
theorem dX11_readsRow_137 : decode cX11_readsRow 137 = .ok (.aload_n 0, 1) := by decide +kernel
theorem dX11_readsRow_138 : decode cX11_readsRow 138 = .ok (.aload_n 0, 1) := by decide +kernel
theorem dX11_readsRow_139 : decode cX11_readsRow 139 = .ok (.getfield 168, 3) := by decide +kernel
theorem dX11_readsRow_142 : decode cX11_readsRow 142 = .ok (.ifCond .ge 8, 3) := by decide +kernel
theorem dX11_readsRow_145 : decode cX11_readsRow 145 = .ok (.ldc 171, 2) := by decide +kernel
theorem dX11_readsRow_147 : decode cX11_readsRow 147 = .ok (.goto 5, 3) := by decide +kernel
theorem dX11_readsRow_150 : decode cX11_readsRow 150 = .ok (.ldc 173, 2) := by decide +kernel
theorem dX11_readsRow_152 : decode cX11_readsRow 152 = .ok (.invokevirtual 157, 3) := by decide +kernel
theorem dX11_readsRow_155 : decode cX11_readsRow 155 = .ok (.istore 4, 2) := by decide +kernel
theorem dX11_readsRow_157 : decode cX11_readsRow 157 = .ok (.goto (-121), 3) := by decide +kernel
theorem dX11_readsRow_160 : decode cX11_readsRow 160 = .ok (.iload_n 1, 1) := by decide +kernel
theorem dX11_readsRow_161 : decode cX11_readsRow 161 = .ok (.ifCond .ne 8, 3) := by decide +kernel
theorem dX11_readsRow_164 : decode cX11_readsRow 164 = .ok (.aload_n 0, 1) := by decide +kernel
theorem dX11_readsRow_165 : decode cX11_readsRow 165 = .ok (.iload_n 3, 1) := by decide +kernel
theorem dX11_readsRow_166 : decode cX11_readsRow 166 = .ok (.putfield 165, 3) := by decide +kernel
theorem dX11_readsRow_169 : decode cX11_readsRow 169 = .ok (.iload_n 3, 1) := by decide +kernel
theorem dX11_readsRow_170 : decode cX11_readsRow 170 = .ok (.ifCond .le 15, 3) := by decide +kernel
theorem dX11_readsRow_173 : decode cX11_readsRow 173 = .ok (.iload_n 3, 1) := by decide +kernel
theorem dX11_readsRow_174 : decode cX11_readsRow 174 = .ok (.aload_n 0, 1) := by decide +kernel
theorem dX11_readsRow_175 : decode cX11_readsRow 175 = .ok (.getfield 165, 3) := by decide +kernel
theorem dX11_readsRow_178 : decode cX11_readsRow 178 = .ok (.if_icmp .ne 7, 3) := by decide +kernel
theorem dX11_readsRow_181 : decode cX11_readsRow 181 = .ok (.iconst 1, 1) := by decide +kernel
theorem dX11_readsRow_182 : decode cX11_readsRow 182 = .ok (.goto 4, 3) := by decide +kernel
theorem dX11_readsRow_185 : decode cX11_readsRow 185 = .ok (.iconst 0, 1) := by decide +kernel
theorem dX11_readsRow_186 : decode cX11_readsRow 186 = .ok (.ireturn, 1) := by decide +kernel
theorem dX11_flat_0 : decode cX11_flat 0 = .ok (.aload_n 0, 1) := by decide +kernel
theorem dX11_flat_1 : decode cX11_flat 1 = .ok (.iconst 0, 1) := by decide +kernel
theorem dX11_flat_2 : decode cX11_flat 2 = .ok (.putfield 3, 3) := by decide +kernel
theorem dX11_flat_5 : decode cX11_flat 5 = .ok (.aload_n 0, 1) := by decide +kernel
theorem dX11_flat_6 : decode cX11_flat 6 = .ok (.bipush 80, 2) := by decide +kernel
theorem dX11_flat_8 : decode cX11_flat 8 = .ok (.invokevirtual 175, 3) := by decide +kernel
theorem dX11_flat_11 : decode cX11_flat 11 = .ok (.pop, 1) := by decide +kernel
theorem dX11_flat_12 : decode cX11_flat 12 = .ok (.aload_n 0, 1) := by decide +kernel
theorem dX11_flat_13 : decode cX11_flat 13 = .ok (.iconst 0, 1) := by decide +kernel
theorem dX11_flat_14 : decode cX11_flat 14 = .ok (.putfield 165, 3) := by decide +kernel
theorem dX11_flat_17 : decode cX11_flat 17 = .ok (.aload_n 0, 1) := by decide +kernel
theorem dX11_flat_18 : decode cX11_flat 18 = .ok (.iconst (-1), 1) := by decide +kernel
theorem dX11_flat_19 : decode cX11_flat 19 = .ok (.putfield 168, 3) := by decide +kernel
theorem dX11_flat_22 : decode cX11_flat 22 = .ok (.iconst 0, 1) := by decide +kernel
theorem dX11_flat_23 : decode cX11_flat 23 = .ok (.istore_n 1, 1) := by decide +kernel
theorem dX11_flat_24 : decode cX11_flat 24 = .ok (.aload_n 0, 1) := by decide +kernel
theorem dX11_flat_25 : decode cX11_flat 25 = .ok (.iconst 0, 1) := by decide +kernel
theorem dX11_flat_26 : decode cX11_flat 26 = .ok (.invokevirtual 179, 3) := by decide +kernel
theorem dX11_flat_29 : decode cX11_flat 29 = .ok (.istore_n 2, 1) := by decide +kernel
theorem dX11_flat_30 : decode cX11_flat 30 = .ok (.iinc 1 1, 3) := by decide +kernel
theorem dX11_flat_33 : decode cX11_flat 33 = .ok (.iload_n 2, 1) := by decide +kernel
theorem dX11_flat_34 : decode cX11_flat 34 = .ok (.ifCond .eq 30, 3) := by decide +kernel
theorem dX11_flat_37 : decode cX11_flat 37 = .ok (.iload_n 1, 1) := by decide +kernel
theorem dX11_flat_38 : decode cX11_flat 38 = .ok (.bipush 6, 2) := by decide +kernel
theorem dX11_flat_40 : decode cX11_flat 40 = .ok (.if_icmp .ge 24, 3) := by decide +kernel
theorem dX11_flat_43 : decode cX11_flat 43 = .ok (.aload_n 0, 1) := by decide +kernel
theorem dX11_flat_44 : decode cX11_flat 44 = .ok (.bipush 47, 2) := by decide +kernel
theorem dX11_flat_46 : decode cX11_flat 46 = .ok (.invokevirtual 183, 3) := by decide +kernel
theorem dX11_flat_49 : decode cX11_flat 49 = .ok (.ifCond .eq 15, 3) := by decide +kernel
theorem dX11_flat_52 : decode cX11_flat 52 = .ok (.aload_n 0, 1) := by decide +kernel
theorem dX11_flat_53 : decode cX11_flat 53 = .ok (.iload_n 1, 1) := by decide +kernel
theorem dX11_flat_54 : decode cX11_flat 54 = .ok (.invokevirtual 179, 3) := by decide +kernel
theorem dX11_flat_57 : decode cX11_flat 57 = .ok (.istore_n 2, 1) := by decide +kernel
theorem dX11_flat_58 : decode cX11_flat 58 = .ok (.iinc 1 1, 3) := by decide +kernel
theorem dX11_flat_61 : decode cX11_flat 61 = .ok (.goto (-28), 3) := by decide +kernel
theorem dX11_flat_64 : decode cX11_flat 64 = .ok (.iload_n 2, 1) := by decide +kernel
theorem dX11_flat_65 : decode cX11_flat 65 = .ok (.ifCond .eq 14, 3) := by decide +kernel
theorem dX11_flat_68 : decode cX11_flat 68 = .ok (.aload_n 0, 1) := by decide +kernel
theorem dX11_flat_69 : decode cX11_flat 69 = .ok (.getfield 129, 3) := by decide +kernel
theorem dX11_flat_72 : decode cX11_flat 72 = .ok (.aload_n 0, 1) := by decide +kernel
theorem dX11_flat_73 : decode cX11_flat 73 = .ok (.getfield 141, 3) := by decide +kernel
theorem dX11_flat_76 : decode cX11_flat 76 = .ok (.if_icmp .ge 10, 3) := by decide +kernel
theorem dX11_flat_79 : decode cX11_flat 79 = .ok (.iconst (-1), 1) := by decide +kernel
theorem dX11_flat_80 : decode cX11_flat 80 = .ok (.aload_n 0, 1) := by decide +kernel
theorem dX11_flat_81 : decode cX11_flat 81 = .ok (.getfield 129, 3) := by decide +kernel
theorem dX11_flat_84 : decode cX11_flat 84 = .ok (.isub, 1) := by decide +kernel
theorem dX11_flat_85 : decode cX11_flat 85 = .ok (.ireturn, 1) := by decide +kernel
theorem dX11_flat_86 : decode cX11_flat 86 = .ok (.iconst 0, 1) := by decide +kernel
theorem dX11_flat_87 : decode cX11_flat 87 = .ok (.istore_n 3, 1) := by decide +kernel
theorem dX11_flat_88 : decode cX11_flat 88 = .ok (.iconst (-1), 1) := by decide +kernel
theorem dX11_flat_89 : decode cX11_flat 89 = .ok (.istore 4, 2) := by decide +kernel
theorem dX11_flat_91 : decode cX11_flat 91 = .ok (.iconst 0, 1) := by decide +kernel
theorem dX11_flat_92 : decode cX11_flat 92 = .ok (.istore 5, 2) := by decide +kernel
theorem dX11_flat_94 : decode cX11_flat 94 = .ok (.iload 5, 2) := by decide +kernel
theorem dX11_flat_96 : decode cX11_flat 96 = .ok (.iload_n 1, 1) := by decide +kernel
theorem dX11_flat_97 : decode cX11_flat 97 = .ok (.aload_n 0, 1) := by decide +kernel
theorem dX11_flat_98 : decode cX11_flat 98 = .ok (.getfield 165, 3) := by decide +kernel
theorem dX11_flat_101 : decode cX11_flat 101 = .ok (.imul, 1) := by decide +kernel
theorem dX11_flat_102 : decode cX11_flat 102 = .ok (.if_icmp .ge 54, 3) := by decide +kernel
theorem dX11_flat_105 : decode cX11_flat 105 = .ok (.iload_n 3, 1) := by decide +kernel
theorem dX11_flat_106 : decode cX11_flat 106 = .ok (.aload_n 0, 1) := by decide +kernel
theorem dX11_flat_107 : decode cX11_flat 107 = .ok (.getfield 50, 3) := by decide +kernel
theorem dX11_flat_110 : decode cX11_flat 110 = .ok (.iload 5, 2) := by decide +kernel
theorem dX11_flat_112 : decode cX11_flat 112 = .ok (.iaload, 1) := by decide +kernel
theorem dX11_flat_113 : decode cX11_flat 113 = .ok (.ifCond .eq 7, 3) := by decide +kernel
theorem dX11_flat_116 : decode cX11_flat 116 = .ok (.iconst 1, 1) := by decide +kernel
theorem dX11_flat_117 : decode cX11_flat 117 = .ok (.goto 4, 3) := by decide +kernel
theorem dX11_flat_120 : decode cX11_flat 120 = .ok (.iconst 0, 1) := by decide +kernel
theorem dX11_flat_121 : decode cX11_flat 121 = .ok (.invokestatic 122, 3) := by decide +kernel
theorem dX11_flat_124 : decode cX11_flat 124 = .ok (.iadd, 1) := by decide +kernel
theorem dX11_flat_125 : decode cX11_flat 125 = .ok (.istore_n 3, 1) := by decide +kernel
theorem dX11_flat_126 : decode cX11_flat 126 = .ok (.iload 4, 2) := by decide +kernel
theorem dX11_flat_128 : decode cX11_flat 128 = .ok (.ifCond .ge 18, 3) := by decide +kernel
theorem dX11_flat_131 : decode cX11_flat 131 = .ok (.aload_n 0, 1) := by decide +kernel
theorem dX11_flat_132 : decode cX11_flat 132 = .ok (.getfield 50, 3) := by decide +kernel
theorem dX11_flat_135 : decode cX11_flat 135 = .ok (.iload 5, 2) := by decide +kernel
theorem dX11_flat_137 : decode cX11_flat 137 = .ok (.iaload, 1) := by decide +kernel
theorem dX11_flat_138 : decode cX11_flat 138 = .ok (.ifCond .eq 8, 3) := by decide +kernel
theorem dX11_flat_141 : decode cX11_flat 141 = .ok (.iload 5, 2) := by decide +kernel
theorem dX11_flat_143 : decode cX11_flat 143 = .ok (.goto 5, 3) := by decide +kernel
theorem dX11_flat_146 : decode cX11_flat 146 = .ok (.iload 4, 2) := by decide +kernel
theorem dX11_flat_148 : decode cX11_flat 148 = .ok (.istore 4, 2) := by decide +kernel
theorem dX11_flat_150 : decode cX11_flat 150 = .ok (.iinc 5 1, 3) := by decide +kernel
theorem dX11_flat_153 : decode cX11_flat 153 = .ok (.goto (-59), 3) := by decide +kernel
theorem dX11_flat_156 : decode cX11_flat 156 = .ok (.iload_n 3, 1) := by decide +kernel
theorem dX11_flat_157 : decode cX11_flat 157 = .ok (.ifCond .ne 6, 3) := by decide +kernel
theorem dX11_flat_160 : decode cX11_flat 160 = .ok (.bipush (-100), 2) := by decide +kernel
theorem dX11_flat_162 : decode cX11_flat 162 = .ok (.ireturn, 1) := by decide +kernel
theorem dX11_flat_163 : decode cX11_flat 163 = .ok (.aload_n 0, 1) := by decide +kernel
theorem dX11_flat_164 : decode cX11_flat 164 = .ok (.iload_n 1, 1) := by decide +kernel
theorem dX11_flat_165 : decode cX11_flat 165 = .ok (.putfield 28, 3) := by decide +kernel
theorem dX11_flat_168 : decode cX11_flat 168 = .ok (.aload_n 0, 1) := by decide +kernel
theorem dX11_flat_169 : decode cX11_flat 169 = .ok (.aload_n 0, 1) := by decide +kernel
theorem dX11_flat_170 : decode cX11_flat 170 = .ok (.getfield 165, 3) := by decide +kernel
theorem dX11_flat_173 : decode cX11_flat 173 = .ok (.putfield 31, 3) := by decide +kernel
theorem dX11_flat_176 : decode cX11_flat 176 = .ok (.aload_n 0, 1) := by decide +kernel
theorem dX11_flat_177 : decode cX11_flat 177 = .ok (.aload_n 0, 1) := by decide +kernel
theorem dX11_flat_178 : decode cX11_flat 178 = .ok (.getfield 168, 3) := by decide +kernel
theorem dX11_flat_181 : decode cX11_flat 181 = .ok (.putfield 34, 3) := by decide +kernel
theorem dX11_flat_184 : decode cX11_flat 184 = .ok (.iconst 0, 1) := by decide +kernel
theorem dX11_flat_185 : decode cX11_flat 185 = .ok (.istore 5, 2) := by decide +kernel
theorem dX11_flat_187 : decode cX11_flat 187 = .ok (.iload 5, 2) := by decide +kernel
theorem dX11_flat_189 : decode cX11_flat 189 = .ok (.bipush 36, 2) := by decide +kernel
theorem dX11_flat_191 : decode cX11_flat 191 = .ok (.if_icmp .ge 41, 3) := by decide +kernel
theorem dX11_flat_194 : decode cX11_flat 194 = .ok (.aload_n 0, 1) := by decide +kernel
theorem dX11_flat_195 : decode cX11_flat 195 = .ok (.getfield 37, 3) := by decide +kernel
theorem dX11_flat_198 : decode cX11_flat 198 = .ok (.iload 5, 2) := by decide +kernel
theorem dX11_flat_200 : decode cX11_flat 200 = .ok (.iload 5, 2) := by decide +kernel
theorem dX11_flat_202 : decode cX11_flat 202 = .ok (.aload_n 0, 1) := by decide +kernel
theorem dX11_flat_203 : decode cX11_flat 203 = .ok (.getfield 28, 3) := by decide +kernel
theorem dX11_flat_206 : decode cX11_flat 206 = .ok (.aload_n 0, 1) := by decide +kernel
theorem dX11_flat_207 : decode cX11_flat 207 = .ok (.getfield 31, 3) := by decide +kernel
theorem dX11_flat_210 : decode cX11_flat 210 = .ok (.imul, 1) := by decide +kernel
theorem dX11_flat_211 : decode cX11_flat 211 = .ok (.if_icmp .ge 13, 3) := by decide +kernel
theorem dX11_flat_214 : decode cX11_flat 214 = .ok (.aload_n 0, 1) := by decide +kernel
theorem dX11_flat_215 : decode cX11_flat 215 = .ok (.getfield 50, 3) := by decide +kernel
theorem dX11_flat_218 : decode cX11_flat 218 = .ok (.iload 5, 2) := by decide +kernel
theorem dX11_flat_220 : decode cX11_flat 220 = .ok (.iaload, 1) := by decide +kernel
theorem dX11_flat_221 : decode cX11_flat 221 = .ok (.goto 4, 3) := by decide +kernel
theorem dX11_flat_224 : decode cX11_flat 224 = .ok (.iconst 0, 1) := by decide +kernel
theorem dX11_flat_225 : decode cX11_flat 225 = .ok (.iastore, 1) := by decide +kernel
theorem dX11_flat_226 : decode cX11_flat 226 = .ok (.iinc 5 1, 3) := by decide +kernel
theorem dX11_flat_229 : decode cX11_flat 229 = .ok (.goto (-42), 3) := by decide +kernel
theorem dX11_flat_232 : decode cX11_flat 232 = .ok (.iconst 0, 1) := by decide +kernel
theorem dX11_flat_233 : decode cX11_flat 233 = .ok (.istore 5, 2) := by decide +kernel
theorem dX11_flat_235 : decode cX11_flat 235 = .ok (.iload 5, 2) := by decide +kernel
theorem dX11_flat_237 : decode cX11_flat 237 = .ok (.bipush 79, 2) := by decide +kernel
theorem dX11_flat_239 : decode cX11_flat 239 = .ok (.if_icmp .ge 17, 3) := by decide +kernel
theorem dX11_flat_242 : decode cX11_flat 242 = .ok (.aload_n 0, 1) := by decide +kernel
theorem dX11_flat_243 : decode cX11_flat 243 = .ok (.getfield 41, 3) := by decide +kernel
theorem dX11_flat_246 : decode cX11_flat 246 = .ok (.iload 5, 2) := by decide +kernel
theorem dX11_flat_248 : decode cX11_flat 248 = .ok (.iconst 0, 1) := by decide +kernel
theorem dX11_flat_249 : decode cX11_flat 249 = .ok (.iastore, 1) := by decide +kernel
theorem dX11_flat_250 : decode cX11_flat 250 = .ok (.iinc 5 1, 3) := by decide +kernel
theorem dX11_flat_253 : decode cX11_flat 253 = .ok (.goto (-18), 3) := by decide +kernel
theorem dX11_flat_256 : decode cX11_flat 256 = .ok (.aload_n 0, 1) := by decide +kernel
theorem dX11_flat_257 : decode cX11_flat 257 = .ok (.getfield 41, 3) := by decide +kernel
theorem dX11_flat_260 : decode cX11_flat 260 = .ok (.bipush 72, 2) := by decide +kernel
theorem dX11_flat_262 : decode cX11_flat 262 = .ok (.aload_n 0, 1) := by decide +kernel
theorem dX11_flat_263 : decode cX11_flat 263 = .ok (.getfield 34, 3) := by decide +kernel
theorem dX11_flat_266 : decode cX11_flat 266 = .ok (.ifCond .ge 8, 3) := by decide +kernel
theorem dX11_flat_269 : decode cX11_flat 269 = .ok (.iload 4, 2) := by decide +kernel
theorem dX11_flat_271 : decode cX11_flat 271 = .ok (.goto 7, 3) := by decide +kernel
theorem dX11_flat_274 : decode cX11_flat 274 = .ok (.aload_n 0, 1) := by decide +kernel
theorem dX11_flat_275 : decode cX11_flat 275 = .ok (.getfield 34, 3) := by decide +kernel
theorem dX11_flat_278 : decode cX11_flat 278 = .ok (.iastore, 1) := by decide +kernel
theorem dX11_flat_279 : decode cX11_flat 279 = .ok (.aload_n 0, 1) := by decide +kernel
theorem dX11_flat_280 : decode cX11_flat 280 = .ok (.getfield 41, 3) := by decide +kernel
theorem dX11_flat_283 : decode cX11_flat 283 = .ok (.bipush 74, 2) := by decide +kernel
theorem dX11_flat_285 : decode cX11_flat 285 = .ok (.bipush 100, 2) := by decide +kernel
theorem dX11_flat_287 : decode cX11_flat 287 = .ok (.iastore, 1) := by decide +kernel
theorem dX11_flat_288 : decode cX11_flat 288 = .ok (.aload_n 0, 1) := by decide +kernel
theorem dX11_flat_289 : decode cX11_flat 289 = .ok (.iconst 0, 1) := by decide +kernel
theorem dX11_flat_290 : decode cX11_flat 290 = .ok (.putfield 186, 3) := by decide +kernel
theorem dX11_flat_293 : decode cX11_flat 293 = .ok (.aload_n 0, 1) := by decide +kernel
theorem dX11_flat_294 : decode cX11_flat 294 = .ok (.iconst 0, 1) := by decide +kernel
theorem dX11_flat_295 : decode cX11_flat 295 = .ok (.putfield 189, 3) := by decide +kernel
theorem dX11_flat_298 : decode cX11_flat 298 = .ok (.iconst 0, 1) := by decide +kernel
theorem dX11_flat_299 : decode cX11_flat 299 = .ok (.istore 5, 2) := by decide +kernel
theorem dX11_flat_301 : decode cX11_flat 301 = .ok (.iload 5, 2) := by decide +kernel
theorem dX11_flat_303 : decode cX11_flat 303 = .ok (.iconst 3, 1) := by decide +kernel
theorem dX11_flat_304 : decode cX11_flat 304 = .ok (.if_icmp .ge 17, 3) := by decide +kernel
theorem dX11_flat_307 : decode cX11_flat 307 = .ok (.aload_n 0, 1) := by decide +kernel
theorem dX11_flat_308 : decode cX11_flat 308 = .ok (.getfield 108, 3) := by decide +kernel
theorem dX11_flat_311 : decode cX11_flat 311 = .ok (.iload 5, 2) := by decide +kernel
theorem dX11_flat_313 : decode cX11_flat 313 = .ok (.iconst 0, 1) := by decide +kernel
theorem dX11_flat_314 : decode cX11_flat 314 = .ok (.bastore, 1) := by decide +kernel
theorem dX11_flat_315 : decode cX11_flat 315 = .ok (.iinc 5 1, 3) := by decide +kernel
theorem dX11_flat_318 : decode cX11_flat 318 = .ok (.goto (-17), 3) := by decide +kernel
theorem dX11_flat_321 : decode cX11_flat 321 = .ok (.iload_n 3, 1) := by decide +kernel
theorem dX11_flat_322 : decode cX11_flat 322 = .ok (.ireturn, 1) := by decide +kernel
theorem dX11_codes_0 : decode cX11_codes 0 = .ok (.aload_n 0, 1) := by decide +kernel
theorem dX11_codes_1 : decode cX11_codes 1 = .ok (.getfield 56, 3) := by decide +kernel
theorem dX11_codes_4 : decode cX11_codes 4 = .ok (.aload_n 0, 1) := by decide +kernel
theorem dX11_codes_5 : decode cX11_codes 5 = .ok (.getfield 192, 3) := by decide +kernel
theorem dX11_codes_8 : decode cX11_codes 8 = .ok (.iload_n 1, 1) := by decide +kernel
theorem dX11_codes_9 : decode cX11_codes 9 = .ok (.iastore, 1) := by decide +kernel
theorem dX11_codes_10 : decode cX11_codes 10 = .ok (.aload_n 0, 1) := by decide +kernel
theorem dX11_codes_11 : decode cX11_codes 11 = .ok (.dup, 1) := by decide +kernel
theorem dX11_codes_12 : decode cX11_codes 12 = .ok (.getfield 192, 3) := by decide +kernel
theorem dX11_codes_15 : decode cX11_codes 15 = .ok (.iconst 1, 1) := by decide +kernel
theorem dX11_codes_16 : decode cX11_codes 16 = .ok (.iadd, 1) := by decide +kernel
theorem dX11_codes_17 : decode cX11_codes 17 = .ok (.putfield 192, 3) := by decide +kernel
theorem dX11_codes_20 : decode cX11_codes 20 = .ok (.return_, 1) := by decide +kernel
