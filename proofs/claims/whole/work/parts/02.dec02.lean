theorem dX6_dayFalls_0 : decode cX6_dayFalls 0 = .ok (.aload_n 0, 1) := by decide +kernel
theorem dX6_dayFalls_1 : decode cX6_dayFalls 1 = .ok (.dup, 1) := by decide +kernel
theorem dX6_dayFalls_2 : decode cX6_dayFalls 2 = .ok (.getfield 34, 3) := by decide +kernel
theorem dX6_dayFalls_5 : decode cX6_dayFalls 5 = .ok (.iconst 1, 1) := by decide +kernel
theorem dX6_dayFalls_6 : decode cX6_dayFalls 6 = .ok (.iadd, 1) := by decide +kernel
theorem dX6_dayFalls_7 : decode cX6_dayFalls 7 = .ok (.putfield 34, 3) := by decide +kernel
theorem dX6_dayFalls_10 : decode cX6_dayFalls 10 = .ok (.iconst 0, 1) := by decide +kernel
theorem dX6_dayFalls_11 : decode cX6_dayFalls 11 = .ok (.istore_n 2, 1) := by decide +kernel
theorem dX6_dayFalls_12 : decode cX6_dayFalls 12 = .ok (.iload_n 2, 1) := by decide +kernel
theorem dX6_dayFalls_13 : decode cX6_dayFalls 13 = .ok (.bipush 36, 2) := by decide +kernel
theorem dX6_dayFalls_15 : decode cX6_dayFalls 15 = .ok (.if_icmp .ge 48, 3) := by decide +kernel
theorem dX6_dayFalls_18 : decode cX6_dayFalls 18 = .ok (.aload_n 1, 1) := by decide +kernel
theorem dX6_dayFalls_19 : decode cX6_dayFalls 19 = .ok (.getfield 69, 3) := by decide +kernel
theorem dX6_dayFalls_22 : decode cX6_dayFalls 22 = .ok (.iload_n 2, 1) := by decide +kernel
theorem dX6_dayFalls_23 : decode cX6_dayFalls 23 = .ok (.invokestatic 74, 3) := by decide +kernel
theorem dX6_dayFalls_26 : decode cX6_dayFalls 26 = .ok (.ifCond .eq 31, 3) := by decide +kernel
theorem dX6_dayFalls_29 : decode cX6_dayFalls 29 = .ok (.aload_n 0, 1) := by decide +kernel
theorem dX6_dayFalls_30 : decode cX6_dayFalls 30 = .ok (.iload_n 2, 1) := by decide +kernel
theorem dX6_dayFalls_31 : decode cX6_dayFalls 31 = .ok (.aload_n 0, 1) := by decide +kernel
theorem dX6_dayFalls_32 : decode cX6_dayFalls 32 = .ok (.getfield 9, 3) := by decide +kernel
theorem dX6_dayFalls_35 : decode cX6_dayFalls 35 = .ok (.iload_n 2, 1) := by decide +kernel
theorem dX6_dayFalls_36 : decode cX6_dayFalls 36 = .ok (.iaload, 1) := by decide +kernel
theorem dX6_dayFalls_37 : decode cX6_dayFalls 37 = .ok (.aload_n 1, 1) := by decide +kernel
theorem dX6_dayFalls_38 : decode cX6_dayFalls 38 = .ok (.getfield 78, 3) := by decide +kernel
theorem dX6_dayFalls_41 : decode cX6_dayFalls 41 = .ok (.iload_n 2, 1) := by decide +kernel
theorem dX6_dayFalls_42 : decode cX6_dayFalls 42 = .ok (.invokestatic 74, 3) := by decide +kernel
theorem dX6_dayFalls_45 : decode cX6_dayFalls 45 = .ok (.ifCond .eq 7, 3) := by decide +kernel
theorem dX6_dayFalls_48 : decode cX6_dayFalls 48 = .ok (.iconst 2, 1) := by decide +kernel
theorem dX6_dayFalls_49 : decode cX6_dayFalls 49 = .ok (.goto 4, 3) := by decide +kernel
theorem dX6_dayFalls_52 : decode cX6_dayFalls 52 = .ok (.iconst 1, 1) := by decide +kernel
theorem dX6_dayFalls_53 : decode cX6_dayFalls 53 = .ok (.iadd, 1) := by decide +kernel
theorem dX6_dayFalls_54 : decode cX6_dayFalls 54 = .ok (.invokevirtual 81, 3) := by decide +kernel
theorem dX6_dayFalls_57 : decode cX6_dayFalls 57 = .ok (.iinc 2 1, 3) := by decide +kernel
theorem dX6_dayFalls_60 : decode cX6_dayFalls 60 = .ok (.goto (-48), 3) := by decide +kernel
theorem dX6_dayFalls_63 : decode cX6_dayFalls 63 = .ok (.return_, 1) := by decide +kernel
theorem dX6_enter_0 : decode cX6_enter 0 = .ok (.aload_n 0, 1) := by decide +kernel
theorem dX6_enter_1 : decode cX6_enter 1 = .ok (.iload_n 1, 1) := by decide +kernel
theorem dX6_enter_2 : decode cX6_enter 2 = .ok (.putfield 15, 3) := by decide +kernel
theorem dX6_enter_5 : decode cX6_enter 5 = .ok (.aload_n 0, 1) := by decide +kernel
theorem dX6_enter_6 : decode cX6_enter 6 = .ok (.dup, 1) := by decide +kernel
theorem dX6_enter_7 : decode cX6_enter 7 = .ok (.getfield 25, 3) := by decide +kernel
theorem dX6_enter_10 : decode cX6_enter 10 = .ok (.aload_n 0, 1) := by decide +kernel
theorem dX6_enter_11 : decode cX6_enter 11 = .ok (.iload_n 1, 1) := by decide +kernel
theorem dX6_enter_12 : decode cX6_enter 12 = .ok (.invokevirtual 85, 3) := by decide +kernel
theorem dX6_enter_15 : decode cX6_enter 15 = .ok (.iadd, 1) := by decide +kernel
theorem dX6_enter_16 : decode cX6_enter 16 = .ok (.putfield 25, 3) := by decide +kernel
theorem dX6_enter_19 : decode cX6_enter 19 = .ok (.aload_n 0, 1) := by decide +kernel
theorem dX6_enter_20 : decode cX6_enter 20 = .ok (.iload_n 1, 1) := by decide +kernel
theorem dX6_enter_21 : decode cX6_enter 21 = .ok (.iconst 0, 1) := by decide +kernel
theorem dX6_enter_22 : decode cX6_enter 22 = .ok (.invokevirtual 81, 3) := by decide +kernel
theorem dX6_enter_25 : decode cX6_enter 25 = .ok (.return_, 1) := by decide +kernel
theorem dX6_strike_0 : decode cX6_strike 0 = .ok (.aload_n 0, 1) := by decide +kernel
theorem dX6_strike_1 : decode cX6_strike 1 = .ok (.iload_n 1, 1) := by decide +kernel
theorem dX6_strike_2 : decode cX6_strike 2 = .ok (.invokevirtual 89, 3) := by decide +kernel
theorem dX6_strike_5 : decode cX6_strike 5 = .ok (.aload_n 0, 1) := by decide +kernel
theorem dX6_strike_6 : decode cX6_strike 6 = .ok (.dup, 1) := by decide +kernel
theorem dX6_strike_7 : decode cX6_strike 7 = .ok (.getfield 31, 3) := by decide +kernel
theorem dX6_strike_10 : decode cX6_strike 10 = .ok (.iconst 1, 1) := by decide +kernel
theorem dX6_strike_11 : decode cX6_strike 11 = .ok (.iadd, 1) := by decide +kernel
theorem dX6_strike_12 : decode cX6_strike 12 = .ok (.putfield 31, 3) := by decide +kernel
theorem dX6_strike_15 : decode cX6_strike 15 = .ok (.return_, 1) := by decide +kernel
theorem dX6_turnBy_0 : decode cX6_turnBy 0 = .ok (.aload_n 0, 1) := by decide +kernel
theorem dX6_turnBy_1 : decode cX6_turnBy 1 = .ok (.aload_n 0, 1) := by decide +kernel
theorem dX6_turnBy_2 : decode cX6_turnBy 2 = .ok (.getfield 19, 3) := by decide +kernel
theorem dX6_turnBy_5 : decode cX6_turnBy 5 = .ok (.iload_n 1, 1) := by decide +kernel
theorem dX6_turnBy_6 : decode cX6_turnBy 6 = .ok (.iadd, 1) := by decide +kernel
theorem dX6_turnBy_7 : decode cX6_turnBy 7 = .ok (.iconst 3, 1) := by decide +kernel
theorem dX6_turnBy_8 : decode cX6_turnBy 8 = .ok (.iand, 1) := by decide +kernel
theorem dX6_turnBy_9 : decode cX6_turnBy 9 = .ok (.putfield 19, 3) := by decide +kernel
theorem dX6_turnBy_12 : decode cX6_turnBy 12 = .ok (.return_, 1) := by decide +kernel
theorem dX7_init_0 : decode cX7_init 0 = .ok (.aload_n 0, 1) := by decide +kernel
theorem dX7_init_1 : decode cX7_init 1 = .ok (.invokespecial 3, 3) := by decide +kernel
theorem dX7_init_4 : decode cX7_init 4 = .ok (.aload_n 0, 1) := by decide +kernel
theorem dX7_init_5 : decode cX7_init 5 = .ok (.bipush 6, 2) := by decide +kernel
theorem dX7_init_7 : decode cX7_init 7 = .ok (.newarray .int, 2) := by decide +kernel
theorem dX7_init_9 : decode cX7_init 9 = .ok (.putfield 11, 3) := by decide +kernel
theorem dX7_init_12 : decode cX7_init 12 = .ok (.aload_n 0, 1) := by decide +kernel
theorem dX7_init_13 : decode cX7_init 13 = .ok (.bipush 6, 2) := by decide +kernel
theorem dX7_init_15 : decode cX7_init 15 = .ok (.newarray .int, 2) := by decide +kernel
theorem dX7_init_17 : decode cX7_init 17 = .ok (.putfield 15, 3) := by decide +kernel
theorem dX7_init_20 : decode cX7_init 20 = .ok (.aload_n 0, 1) := by decide +kernel
theorem dX7_init_21 : decode cX7_init 21 = .ok (.aconst_null, 1) := by decide +kernel
theorem dX7_init_22 : decode cX7_init 22 = .ok (.putfield 18, 3) := by decide +kernel
theorem dX7_init_25 : decode cX7_init 25 = .ok (.aload_n 0, 1) := by decide +kernel
theorem dX7_init_26 : decode cX7_init 26 = .ok (.aconst_null, 1) := by decide +kernel
theorem dX7_init_27 : decode cX7_init 27 = .ok (.putfield 22, 3) := by decide +kernel
theorem dX7_init_30 : decode cX7_init 30 = .ok (.aload_n 0, 1) := by decide +kernel
theorem dX7_init_31 : decode cX7_init 31 = .ok (.lconst 0, 1) := by decide +kernel
theorem dX7_init_32 : decode cX7_init 32 = .ok (.putfield 26, 3) := by decide +kernel
theorem dX7_init_35 : decode cX7_init 35 = .ok (.aload_n 0, 1) := by decide +kernel
theorem dX7_init_36 : decode cX7_init 36 = .ok (.iconst 0, 1) := by decide +kernel
theorem dX7_init_37 : decode cX7_init 37 = .ok (.putfield 30, 3) := by decide +kernel
theorem dX7_init_40 : decode cX7_init 40 = .ok (.aload_n 0, 1) := by decide +kernel
theorem dX7_init_41 : decode cX7_init 41 = .ok (.iconst 0, 1) := by decide +kernel
theorem dX7_init_42 : decode cX7_init 42 = .ok (.putfield 34, 3) := by decide +kernel
theorem dX7_init_45 : decode cX7_init 45 = .ok (.aload_n 0, 1) := by decide +kernel
theorem dX7_init_46 : decode cX7_init 46 = .ok (.iconst 0, 1) := by decide +kernel
theorem dX7_init_47 : decode cX7_init 47 = .ok (.putfield 37, 3) := by decide +kernel
theorem dX7_init_50 : decode cX7_init 50 = .ok (.aload_n 0, 1) := by decide +kernel
theorem dX7_init_51 : decode cX7_init 51 = .ok (.iconst 0, 1) := by decide +kernel
theorem dX7_init_52 : decode cX7_init 52 = .ok (.putfield 40, 3) := by decide +kernel
theorem dX7_init_55 : decode cX7_init 55 = .ok (.return_, 1) := by decide +kernel
theorem dX7_seek_0 : decode cX7_seek 0 = .ok (.aload_n 0, 1) := by decide +kernel
theorem dX7_seek_1 : decode cX7_seek 1 = .ok (.aload_n 1, 1) := by decide +kernel
theorem dX7_seek_2 : decode cX7_seek 2 = .ok (.putfield 18, 3) := by decide +kernel
theorem dX7_seek_5 : decode cX7_seek 5 = .ok (.aload_n 0, 1) := by decide +kernel
theorem dX7_seek_6 : decode cX7_seek 6 = .ok (.aload_n 2, 1) := by decide +kernel
theorem dX7_seek_7 : decode cX7_seek 7 = .ok (.putfield 22, 3) := by decide +kernel
theorem dX7_seek_10 : decode cX7_seek 10 = .ok (.aload_n 0, 1) := by decide +kernel
theorem dX7_seek_11 : decode cX7_seek 11 = .ok (.aload_n 1, 1) := by decide +kernel
theorem dX7_seek_12 : decode cX7_seek 12 = .ok (.getfield 43, 3) := by decide +kernel
theorem dX7_seek_15 : decode cX7_seek 15 = .ok (.aload_n 2, 1) := by decide +kernel
theorem dX7_seek_16 : decode cX7_seek 16 = .ok (.getfield 48, 3) := by decide +kernel
theorem dX7_seek_19 : decode cX7_seek 19 = .ok (.ldc2_w 53, 3) := by decide +kernel
theorem dX7_seek_22 : decode cX7_seek 22 = .ok (.lxor, 1) := by decide +kernel
theorem dX7_seek_23 : decode cX7_seek 23 = .ok (.land, 1) := by decide +kernel
theorem dX7_seek_24 : decode cX7_seek 24 = .ok (.putfield 26, 3) := by decide +kernel
theorem dX7_seek_27 : decode cX7_seek 27 = .ok (.aload_n 0, 1) := by decide +kernel
theorem dX7_seek_28 : decode cX7_seek 28 = .ok (.iload_n 3, 1) := by decide +kernel
theorem dX7_seek_29 : decode cX7_seek 29 = .ok (.bipush 6, 2) := by decide +kernel
theorem dX7_seek_31 : decode cX7_seek 31 = .ok (.invokestatic 55, 3) := by decide +kernel
theorem dX7_seek_34 : decode cX7_seek 34 = .ok (.putfield 30, 3) := by decide +kernel
theorem dX7_seek_37 : decode cX7_seek 37 = .ok (.aload_n 0, 1) := by decide +kernel
theorem dX7_seek_38 : decode cX7_seek 38 = .ok (.iconst 0, 1) := by decide +kernel
theorem dX7_seek_39 : decode cX7_seek 39 = .ok (.putfield 37, 3) := by decide +kernel
theorem dX7_seek_42 : decode cX7_seek 42 = .ok (.aload_n 0, 1) := by decide +kernel
theorem dX7_seek_43 : decode cX7_seek 43 = .ok (.iconst 0, 1) := by decide +kernel
theorem dX7_seek_44 : decode cX7_seek 44 = .ok (.putfield 40, 3) := by decide +kernel
theorem dX7_seek_47 : decode cX7_seek 47 = .ok (.aload_n 0, 1) := by decide +kernel
theorem dX7_seek_48 : decode cX7_seek 48 = .ok (.iconst 0, 1) := by decide +kernel
theorem dX7_seek_49 : decode cX7_seek 49 = .ok (.putfield 34, 3) := by decide +kernel
theorem dX7_seek_52 : decode cX7_seek 52 = .ok (.iconst 0, 1) := by decide +kernel
theorem dX7_seek_53 : decode cX7_seek 53 = .ok (.istore 4, 2) := by decide +kernel
theorem dX7_seek_55 : decode cX7_seek 55 = .ok (.iload 4, 2) := by decide +kernel
theorem dX7_seek_57 : decode cX7_seek 57 = .ok (.bipush 36, 2) := by decide +kernel
theorem dX7_seek_59 : decode cX7_seek 59 = .ok (.if_icmp .ge 42, 3) := by decide +kernel
theorem dX7_seek_62 : decode cX7_seek 62 = .ok (.aload_n 0, 1) := by decide +kernel
theorem dX7_seek_63 : decode cX7_seek 63 = .ok (.aload_n 0, 1) := by decide +kernel
theorem dX7_seek_64 : decode cX7_seek 64 = .ok (.getfield 34, 3) := by decide +kernel
theorem dX7_seek_67 : decode cX7_seek 67 = .ok (.aload_n 0, 1) := by decide +kernel
theorem dX7_seek_68 : decode cX7_seek 68 = .ok (.getfield 26, 3) := by decide +kernel
theorem dX7_seek_71 : decode cX7_seek 71 = .ok (.iload 4, 2) := by decide +kernel
theorem dX7_seek_73 : decode cX7_seek 73 = .ok (.invokestatic 61, 3) := by decide +kernel
theorem dX7_seek_76 : decode cX7_seek 76 = .ok (.ifCond .eq 12, 3) := by decide +kernel
theorem dX7_seek_79 : decode cX7_seek 79 = .ok (.aload_n 2, 1) := by decide +kernel
theorem dX7_seek_80 : decode cX7_seek 80 = .ok (.iload 4, 2) := by decide +kernel
theorem dX7_seek_82 : decode cX7_seek 82 = .ok (.invokevirtual 65, 3) := by decide +kernel
theorem dX7_seek_85 : decode cX7_seek 85 = .ok (.goto 4, 3) := by decide +kernel
theorem dX7_seek_88 : decode cX7_seek 88 = .ok (.iconst 0, 1) := by decide +kernel
theorem dX7_seek_89 : decode cX7_seek 89 = .ok (.invokestatic 69, 3) := by decide +kernel
theorem dX7_seek_92 : decode cX7_seek 92 = .ok (.putfield 34, 3) := by decide +kernel
theorem dX7_seek_95 : decode cX7_seek 95 = .ok (.iinc 4 1, 3) := by decide +kernel
theorem dX7_seek_98 : decode cX7_seek 98 = .ok (.goto (-43), 3) := by decide +kernel
theorem dX7_seek_101 : decode cX7_seek 101 = .ok (.aload_n 0, 1) := by decide +kernel
theorem dX7_seek_102 : decode cX7_seek 102 = .ok (.aload_n 2, 1) := by decide +kernel
theorem dX7_seek_103 : decode cX7_seek 103 = .ok (.getfield 72, 3) := by decide +kernel
theorem dX7_seek_106 : decode cX7_seek 106 = .ok (.iconst 0, 1) := by decide +kernel
theorem dX7_seek_107 : decode cX7_seek 107 = .ok (.iconst 0, 1) := by decide +kernel
theorem dX7_seek_108 : decode cX7_seek 108 = .ok (.aload_n 2, 1) := by decide +kernel
theorem dX7_seek_109 : decode cX7_seek 109 = .ok (.getfield 72, 3) := by decide +kernel
theorem dX7_seek_112 : decode cX7_seek 112 = .ok (.invokestatic 75, 3) := by decide +kernel
theorem dX7_seek_115 : decode cX7_seek 115 = .ok (.invokevirtual 79, 3) := by decide +kernel
theorem dX7_seek_118 : decode cX7_seek 118 = .ok (.return_, 1) := by decide +kernel
theorem dX7_foundAt_0 : decode cX7_foundAt 0 = .ok (.iload_n 1, 1) := by decide +kernel
theorem dX7_foundAt_1 : decode cX7_foundAt 1 = .ok (.ifCond .lt 18, 3) := by decide +kernel
theorem dX7_foundAt_4 : decode cX7_foundAt 4 = .ok (.iload_n 1, 1) := by decide +kernel
theorem dX7_foundAt_5 : decode cX7_foundAt 5 = .ok (.bipush 6, 2) := by decide +kernel
theorem dX7_foundAt_7 : decode cX7_foundAt 7 = .ok (.if_icmp .ge 12, 3) := by decide +kernel
theorem dX7_foundAt_10 : decode cX7_foundAt 10 = .ok (.aload_n 0, 1) := by decide +kernel
theorem dX7_foundAt_11 : decode cX7_foundAt 11 = .ok (.getfield 15, 3) := by decide +kernel
theorem dX7_foundAt_14 : decode cX7_foundAt 14 = .ok (.iload_n 1, 1) := by decide +kernel
theorem dX7_foundAt_15 : decode cX7_foundAt 15 = .ok (.iaload, 1) := by decide +kernel
theorem dX7_foundAt_16 : decode cX7_foundAt 16 = .ok (.goto 4, 3) := by decide +kernel
theorem dX7_foundAt_19 : decode cX7_foundAt 19 = .ok (.iconst (-1), 1) := by decide +kernel
theorem dX7_foundAt_20 : decode cX7_foundAt 20 = .ok (.ireturn, 1) := by decide +kernel
theorem dX7_goFarther_0 : decode cX7_goFarther 0 = .ok (.iload_n 3, 1) := by decide +kernel
theorem dX7_goFarther_1 : decode cX7_goFarther 1 = .ok (.aload_n 0, 1) := by decide +kernel
theorem dX7_goFarther_2 : decode cX7_goFarther 2 = .ok (.getfield 37, 3) := by decide +kernel
theorem dX7_goFarther_5 : decode cX7_goFarther 5 = .ok (.if_icmp .gt 19, 3) := by decide +kernel
theorem dX7_goFarther_8 : decode cX7_goFarther 8 = .ok (.iload_n 3, 1) := by decide +kernel
theorem dX7_goFarther_9 : decode cX7_goFarther 9 = .ok (.aload_n 0, 1) := by decide +kernel
theorem dX7_goFarther_10 : decode cX7_goFarther 10 = .ok (.getfield 37, 3) := by decide +kernel
theorem dX7_goFarther_13 : decode cX7_goFarther 13 = .ok (.if_icmp .ne 17, 3) := by decide +kernel
theorem dX7_goFarther_16 : decode cX7_goFarther 16 = .ok (.iload_n 2, 1) := by decide +kernel
theorem dX7_goFarther_17 : decode cX7_goFarther 17 = .ok (.aload_n 0, 1) := by decide +kernel
theorem dX7_goFarther_18 : decode cX7_goFarther 18 = .ok (.getfield 40, 3) := by decide +kernel
theorem dX7_goFarther_21 : decode cX7_goFarther 21 = .ok (.if_icmp .ge 9, 3) := by decide +kernel
theorem dX7_goFarther_24 : decode cX7_goFarther 24 = .ok (.aload_n 0, 1) := by decide +kernel
theorem dX7_goFarther_25 : decode cX7_goFarther 25 = .ok (.iload_n 2, 1) := by decide +kernel
theorem dX7_goFarther_26 : decode cX7_goFarther 26 = .ok (.iload_n 3, 1) := by decide +kernel
theorem dX7_goFarther_27 : decode cX7_goFarther 27 = .ok (.invokevirtual 83, 3) := by decide +kernel
theorem dX7_goFarther_30 : decode cX7_goFarther 30 = .ok (.iload_n 2, 1) := by decide +kernel
theorem dX7_goFarther_31 : decode cX7_goFarther 31 = .ok (.ifCond .lt 26, 3) := by decide +kernel
theorem dX7_goFarther_34 : decode cX7_goFarther 34 = .ok (.iload_n 2, 1) := by decide +kernel
theorem dX7_goFarther_35 : decode cX7_goFarther 35 = .ok (.aload_n 0, 1) := by decide +kernel
theorem dX7_goFarther_36 : decode cX7_goFarther 36 = .ok (.getfield 30, 3) := by decide +kernel
theorem dX7_goFarther_39 : decode cX7_goFarther 39 = .ok (.if_icmp .ge 18, 3) := by decide +kernel
theorem dX7_goFarther_42 : decode cX7_goFarther 42 = .ok (.iload_n 2, 1) := by decide +kernel
theorem dX7_goFarther_43 : decode cX7_goFarther 43 = .ok (.bipush 6, 2) := by decide +kernel
theorem dX7_goFarther_45 : decode cX7_goFarther 45 = .ok (.if_icmp .ge 12, 3) := by decide +kernel
theorem dX7_goFarther_48 : decode cX7_goFarther 48 = .ok (.aload_n 0, 1) := by decide +kernel
theorem dX7_goFarther_49 : decode cX7_goFarther 49 = .ok (.iload_n 2, 1) := by decide +kernel
theorem dX7_goFarther_50 : decode cX7_goFarther 50 = .ok (.iload_n 3, 1) := by decide +kernel
theorem dX7_goFarther_51 : decode cX7_goFarther 51 = .ok (.invokevirtual 87, 3) := by decide +kernel
theorem dX7_goFarther_54 : decode cX7_goFarther 54 = .ok (.ifCond .ne 4, 3) := by decide +kernel
theorem dX7_goFarther_57 : decode cX7_goFarther 57 = .ok (.return_, 1) := by decide +kernel
theorem dX7_goFarther_58 : decode cX7_goFarther 58 = .ok (.aload_n 0, 1) := by decide +kernel
theorem dX7_goFarther_59 : decode cX7_goFarther 59 = .ok (.getfield 18, 3) := by decide +kernel
theorem dX7_goFarther_62 : decode cX7_goFarther 62 = .ok (.ifnull 10, 3) := by decide +kernel
theorem dX7_goFarther_65 : decode cX7_goFarther 65 = .ok (.aload_n 0, 1) := by decide +kernel
theorem dX7_goFarther_66 : decode cX7_goFarther 66 = .ok (.getfield 22, 3) := by decide +kernel
theorem dX7_goFarther_69 : decode cX7_goFarther 69 = .ok (.ifnonnull 4, 3) := by decide +kernel
theorem dX7_goFarther_72 : decode cX7_goFarther 72 = .ok (.return_, 1) := by decide +kernel
theorem dX7_goFarther_73 : decode cX7_goFarther 73 = .ok (.iconst 0, 1) := by decide +kernel
theorem dX7_goFarther_74 : decode cX7_goFarther 74 = .ok (.istore 6, 2) := by decide +kernel
theorem dX7_goFarther_76 : decode cX7_goFarther 76 = .ok (.iload 6, 2) := by decide +kernel
theorem dX7_goFarther_78 : decode cX7_goFarther 78 = .ok (.getstatic 91, 3) := by decide +kernel
theorem dX7_goFarther_81 : decode cX7_goFarther 81 = .ok (.arraylength, 1) := by decide +kernel
theorem dX7_goFarther_82 : decode cX7_goFarther 82 = .ok (.if_icmp .ge 91, 3) := by decide +kernel
theorem dX7_goFarther_85 : decode cX7_goFarther 85 = .ok (.aload_n 0, 1) := by decide +kernel
theorem dX7_goFarther_86 : decode cX7_goFarther 86 = .ok (.getfield 18, 3) := by decide +kernel
theorem dX7_goFarther_89 : decode cX7_goFarther 89 = .ok (.iload_n 1, 1) := by decide +kernel
theorem dX7_goFarther_90 : decode cX7_goFarther 90 = .ok (.getstatic 91, 3) := by decide +kernel
theorem dX7_goFarther_93 : decode cX7_goFarther 93 = .ok (.iload 6, 2) := by decide +kernel
theorem dX7_goFarther_95 : decode cX7_goFarther 95 = .ok (.iaload, 1) := by decide +kernel
theorem dX7_goFarther_96 : decode cX7_goFarther 96 = .ok (.invokevirtual 94, 3) := by decide +kernel
theorem dX7_goFarther_99 : decode cX7_goFarther 99 = .ok (.istore 7, 2) := by decide +kernel
theorem dX7_goFarther_101 : decode cX7_goFarther 101 = .ok (.aload_n 0, 1) := by decide +kernel
theorem dX7_goFarther_102 : decode cX7_goFarther 102 = .ok (.getfield 26, 3) := by decide +kernel
theorem dX7_goFarther_105 : decode cX7_goFarther 105 = .ok (.iload 7, 2) := by decide +kernel
theorem dX7_goFarther_107 : decode cX7_goFarther 107 = .ok (.invokestatic 61, 3) := by decide +kernel
theorem dX7_goFarther_110 : decode cX7_goFarther 110 = .ok (.ifCond .eq 57, 3) := by decide +kernel
theorem dX7_goFarther_113 : decode cX7_goFarther 113 = .ok (.aload_n 0, 1) := by decide +kernel
theorem dX7_goFarther_114 : decode cX7_goFarther 114 = .ok (.getfield 11, 3) := by decide +kernel
theorem dX7_goFarther_117 : decode cX7_goFarther 117 = .ok (.iload_n 2, 1) := by decide +kernel
theorem dX7_goFarther_118 : decode cX7_goFarther 118 = .ok (.iload 7, 2) := by decide +kernel
theorem dX7_goFarther_120 : decode cX7_goFarther 120 = .ok (.iastore, 1) := by decide +kernel
theorem dX7_goFarther_121 : decode cX7_goFarther 121 = .ok (.lload 4, 2) := by decide +kernel
theorem dX7_goFarther_123 : decode cX7_goFarther 123 = .ok (.iload 7, 2) := by decide +kernel
theorem dX7_goFarther_125 : decode cX7_goFarther 125 = .ok (.invokestatic 61, 3) := by decide +kernel
theorem dX7_goFarther_128 : decode cX7_goFarther 128 = .ok (.ifCond .eq 7, 3) := by decide +kernel
theorem dX7_goFarther_131 : decode cX7_goFarther 131 = .ok (.iconst 0, 1) := by decide +kernel
theorem dX7_goFarther_132 : decode cX7_goFarther 132 = .ok (.goto 12, 3) := by decide +kernel
theorem dX7_goFarther_135 : decode cX7_goFarther 135 = .ok (.aload_n 0, 1) := by decide +kernel
theorem dX7_goFarther_136 : decode cX7_goFarther 136 = .ok (.getfield 22, 3) := by decide +kernel
theorem dX7_goFarther_139 : decode cX7_goFarther 139 = .ok (.iload 7, 2) := by decide +kernel
theorem dX7_goFarther_141 : decode cX7_goFarther 141 = .ok (.invokevirtual 65, 3) := by decide +kernel
theorem dX7_goFarther_144 : decode cX7_goFarther 144 = .ok (.istore 8, 2) := by decide +kernel
theorem dX7_goFarther_146 : decode cX7_goFarther 146 = .ok (.aload_n 0, 1) := by decide +kernel
theorem dX7_goFarther_147 : decode cX7_goFarther 147 = .ok (.iload 7, 2) := by decide +kernel
theorem dX7_goFarther_149 : decode cX7_goFarther 149 = .ok (.iload_n 2, 1) := by decide +kernel
theorem dX7_goFarther_150 : decode cX7_goFarther 150 = .ok (.iconst 1, 1) := by decide +kernel
theorem dX7_goFarther_151 : decode cX7_goFarther 151 = .ok (.iadd, 1) := by decide +kernel
theorem dX7_goFarther_152 : decode cX7_goFarther 152 = .ok (.iload_n 3, 1) := by decide +kernel
theorem dX7_goFarther_153 : decode cX7_goFarther 153 = .ok (.iload 8, 2) := by decide +kernel
theorem dX7_goFarther_155 : decode cX7_goFarther 155 = .ok (.iadd, 1) := by decide +kernel
theorem dX7_goFarther_156 : decode cX7_goFarther 156 = .ok (.lload 4, 2) := by decide +kernel
theorem dX7_goFarther_158 : decode cX7_goFarther 158 = .ok (.iload 7, 2) := by decide +kernel
theorem dX7_goFarther_160 : decode cX7_goFarther 160 = .ok (.invokestatic 75, 3) := by decide +kernel
theorem dX7_goFarther_163 : decode cX7_goFarther 163 = .ok (.lor, 1) := by decide +kernel
theorem dX7_goFarther_164 : decode cX7_goFarther 164 = .ok (.invokevirtual 79, 3) := by decide +kernel
theorem dX7_goFarther_167 : decode cX7_goFarther 167 = .ok (.iinc 6 1, 3) := by decide +kernel
theorem dX7_goFarther_170 : decode cX7_goFarther 170 = .ok (.goto (-94), 3) := by decide +kernel
theorem dX7_goFarther_173 : decode cX7_goFarther 173 = .ok (.return_, 1) := by decide +kernel
theorem dX7_canBeBetter_0 : decode cX7_canBeBetter 0 = .ok (.iload_n 2, 1) := by decide +kernel
theorem dX7_canBeBetter_1 : decode cX7_canBeBetter 1 = .ok (.aload_n 0, 1) := by decide +kernel
theorem dX7_canBeBetter_2 : decode cX7_canBeBetter 2 = .ok (.getfield 30, 3) := by decide +kernel
theorem dX7_canBeBetter_5 : decode cX7_canBeBetter 5 = .ok (.iload_n 1, 1) := by decide +kernel
theorem dX7_canBeBetter_6 : decode cX7_canBeBetter 6 = .ok (.isub, 1) := by decide +kernel
theorem dX7_canBeBetter_7 : decode cX7_canBeBetter 7 = .ok (.aload_n 0, 1) := by decide +kernel
theorem dX7_canBeBetter_8 : decode cX7_canBeBetter 8 = .ok (.getfield 34, 3) := by decide +kernel
theorem dX7_canBeBetter_11 : decode cX7_canBeBetter 11 = .ok (.imul, 1) := by decide +kernel
theorem dX7_canBeBetter_12 : decode cX7_canBeBetter 12 = .ok (.iadd, 1) := by decide +kernel
theorem dX7_canBeBetter_13 : decode cX7_canBeBetter 13 = .ok (.aload_n 0, 1) := by decide +kernel
theorem dX7_canBeBetter_14 : decode cX7_canBeBetter 14 = .ok (.getfield 37, 3) := by decide +kernel
theorem dX7_canBeBetter_17 : decode cX7_canBeBetter 17 = .ok (.if_icmp .le 7, 3) := by decide +kernel
theorem dX7_canBeBetter_20 : decode cX7_canBeBetter 20 = .ok (.iconst 1, 1) := by decide +kernel
theorem dX7_canBeBetter_21 : decode cX7_canBeBetter 21 = .ok (.goto 4, 3) := by decide +kernel
theorem dX7_canBeBetter_24 : decode cX7_canBeBetter 24 = .ok (.iconst 0, 1) := by decide +kernel
theorem dX7_canBeBetter_25 : decode cX7_canBeBetter 25 = .ok (.ireturn, 1) := by decide +kernel
theorem dX7_noteFound_0 : decode cX7_noteFound 0 = .ok (.aload_n 0, 1) := by decide +kernel
theorem dX7_noteFound_1 : decode cX7_noteFound 1 = .ok (.iload_n 2, 1) := by decide +kernel
theorem dX7_noteFound_2 : decode cX7_noteFound 2 = .ok (.putfield 37, 3) := by decide +kernel
theorem dX7_noteFound_5 : decode cX7_noteFound 5 = .ok (.aload_n 0, 1) := by decide +kernel
theorem dX7_noteFound_6 : decode cX7_noteFound 6 = .ok (.iload_n 1, 1) := by decide +kernel
theorem dX7_noteFound_7 : decode cX7_noteFound 7 = .ok (.putfield 40, 3) := by decide +kernel
theorem dX7_noteFound_10 : decode cX7_noteFound 10 = .ok (.iconst 0, 1) := by decide +kernel
theorem dX7_noteFound_11 : decode cX7_noteFound 11 = .ok (.istore_n 3, 1) := by decide +kernel
theorem dX7_noteFound_12 : decode cX7_noteFound 12 = .ok (.iload_n 3, 1) := by decide +kernel
theorem dX7_noteFound_13 : decode cX7_noteFound 13 = .ok (.iload_n 1, 1) := by decide +kernel
theorem dX7_noteFound_14 : decode cX7_noteFound 14 = .ok (.if_icmp .ge 27, 3) := by decide +kernel
theorem dX7_noteFound_17 : decode cX7_noteFound 17 = .ok (.iload_n 3, 1) := by decide +kernel
theorem dX7_noteFound_18 : decode cX7_noteFound 18 = .ok (.bipush 6, 2) := by decide +kernel
theorem dX7_noteFound_20 : decode cX7_noteFound 20 = .ok (.if_icmp .ge 21, 3) := by decide +kernel
theorem dX7_noteFound_23 : decode cX7_noteFound 23 = .ok (.aload_n 0, 1) := by decide +kernel
theorem dX7_noteFound_24 : decode cX7_noteFound 24 = .ok (.getfield 15, 3) := by decide +kernel
theorem dX7_noteFound_27 : decode cX7_noteFound 27 = .ok (.iload_n 3, 1) := by decide +kernel
theorem dX7_noteFound_28 : decode cX7_noteFound 28 = .ok (.aload_n 0, 1) := by decide +kernel
theorem dX7_noteFound_29 : decode cX7_noteFound 29 = .ok (.getfield 11, 3) := by decide +kernel
theorem dX7_noteFound_32 : decode cX7_noteFound 32 = .ok (.iload_n 3, 1) := by decide +kernel
theorem dX7_noteFound_33 : decode cX7_noteFound 33 = .ok (.iaload, 1) := by decide +kernel
theorem dX7_noteFound_34 : decode cX7_noteFound 34 = .ok (.iastore, 1) := by decide +kernel
theorem dX7_noteFound_35 : decode cX7_noteFound 35 = .ok (.iinc 3 1, 3) := by decide +kernel
theorem dX7_noteFound_38 : decode cX7_noteFound 38 = .ok (.goto (-26), 3) := by decide +kernel
theorem dX7_noteFound_41 : decode cX7_noteFound 41 = .ok (.return_, 1) := by decide +kernel
theorem dX8_init_0 : decode cX8_init 0 = .ok (.aload_n 0, 1) := by decide +kernel
theorem dX8_init_1 : decode cX8_init 1 = .ok (.invokespecial 3, 3) := by decide +kernel
theorem dX8_init_4 : decode cX8_init 4 = .ok (.aload_n 0, 1) := by decide +kernel
theorem dX8_init_5 : decode cX8_init 5 = .ok (.bipush 80, 2) := by decide +kernel
theorem dX8_init_7 : decode cX8_init 7 = .ok (.newarray .int, 2) := by decide +kernel
theorem dX8_init_9 : decode cX8_init 9 = .ok (.putfield 11, 3) := by decide +kernel
theorem dX8_init_12 : decode cX8_init 12 = .ok (.aload_n 0, 1) := by decide +kernel
theorem dX8_init_13 : decode cX8_init 13 = .ok (.iconst 0, 1) := by decide +kernel
theorem dX8_init_14 : decode cX8_init 14 = .ok (.putfield 15, 3) := by decide +kernel
theorem dX8_init_17 : decode cX8_init 17 = .ok (.return_, 1) := by decide +kernel
theorem dX8_size_0 : decode cX8_size 0 = .ok (.aload_n 0, 1) := by decide +kernel
theorem dX8_size_1 : decode cX8_size 1 = .ok (.getfield 15, 3) := by decide +kernel
theorem dX8_size_4 : decode cX8_size 4 = .ok (.ireturn, 1) := by decide +kernel
theorem dX8_at_0 : decode cX8_at 0 = .ok (.iload_n 1, 1) := by decide +kernel
theorem dX8_at_1 : decode cX8_at 1 = .ok (.ifCond .lt 26, 3) := by decide +kernel
theorem dX8_at_4 : decode cX8_at 4 = .ok (.iload_n 1, 1) := by decide +kernel
theorem dX8_at_5 : decode cX8_at 5 = .ok (.aload_n 0, 1) := by decide +kernel
theorem dX8_at_6 : decode cX8_at 6 = .ok (.getfield 15, 3) := by decide +kernel
theorem dX8_at_9 : decode cX8_at 9 = .ok (.if_icmp .ge 18, 3) := by decide +kernel
theorem dX8_at_12 : decode cX8_at 12 = .ok (.iload_n 1, 1) := by decide +kernel
theorem dX8_at_13 : decode cX8_at 13 = .ok (.bipush 80, 2) := by decide +kernel
theorem dX8_at_15 : decode cX8_at 15 = .ok (.if_icmp .ge 12, 3) := by decide +kernel
theorem dX8_at_18 : decode cX8_at 18 = .ok (.aload_n 0, 1) := by decide +kernel
theorem dX8_at_19 : decode cX8_at 19 = .ok (.getfield 11, 3) := by decide +kernel
theorem dX8_at_22 : decode cX8_at 22 = .ok (.iload_n 1, 1) := by decide +kernel
theorem dX8_at_23 : decode cX8_at 23 = .ok (.iaload, 1) := by decide +kernel
theorem dX8_at_24 : decode cX8_at 24 = .ok (.goto 4, 3) := by decide +kernel
theorem dX8_at_27 : decode cX8_at 27 = .ok (.iconst (-1), 1) := by decide +kernel
theorem dX8_at_28 : decode cX8_at 28 = .ok (.ireturn, 1) := by decide +kernel
theorem dX8_addFour_0 : decode cX8_addFour 0 = .ok (.aload_n 0, 1) := by decide +kernel
theorem dX8_addFour_1 : decode cX8_addFour 1 = .ok (.getfield 15, 3) := by decide +kernel
theorem dX8_addFour_4 : decode cX8_addFour 4 = .ok (.ifCond .lt 14, 3) := by decide +kernel
theorem dX8_addFour_7 : decode cX8_addFour 7 = .ok (.aload_n 0, 1) := by decide +kernel
theorem dX8_addFour_8 : decode cX8_addFour 8 = .ok (.getfield 15, 3) := by decide +kernel
theorem dX8_addFour_11 : decode cX8_addFour 11 = .ok (.iconst 4, 1) := by decide +kernel
theorem dX8_addFour_12 : decode cX8_addFour 12 = .ok (.iadd, 1) := by decide +kernel
theorem dX8_addFour_13 : decode cX8_addFour 13 = .ok (.bipush 80, 2) := by decide +kernel
theorem dX8_addFour_15 : decode cX8_addFour 15 = .ok (.if_icmp .le 5, 3) := by decide +kernel
theorem dX8_addFour_18 : decode cX8_addFour 18 = .ok (.iconst 0, 1) := by decide +kernel
theorem dX8_addFour_19 : decode cX8_addFour 19 = .ok (.ireturn, 1) := by decide +kernel
theorem dX8_addFour_20 : decode cX8_addFour 20 = .ok (.iconst 0, 1) := by decide +kernel
theorem dX8_addFour_21 : decode cX8_addFour 21 = .ok (.istore_n 2, 1) := by decide +kernel
theorem dX8_addFour_22 : decode cX8_addFour 22 = .ok (.iload_n 2, 1) := by decide +kernel
theorem dX8_addFour_23 : decode cX8_addFour 23 = .ok (.iconst 4, 1) := by decide +kernel
theorem dX8_addFour_24 : decode cX8_addFour 24 = .ok (.if_icmp .ge 33, 3) := by decide +kernel
theorem dX8_addFour_27 : decode cX8_addFour 27 = .ok (.aload_n 0, 1) := by decide +kernel
theorem dX8_addFour_28 : decode cX8_addFour 28 = .ok (.getfield 11, 3) := by decide +kernel
theorem dX8_addFour_31 : decode cX8_addFour 31 = .ok (.aload_n 0, 1) := by decide +kernel
theorem dX8_addFour_32 : decode cX8_addFour 32 = .ok (.getfield 15, 3) := by decide +kernel
theorem dX8_addFour_35 : decode cX8_addFour 35 = .ok (.iload_n 2, 1) := by decide +kernel
theorem dX8_addFour_36 : decode cX8_addFour 36 = .ok (.iadd, 1) := by decide +kernel
theorem dX8_addFour_37 : decode cX8_addFour 37 = .ok (.iload_n 1, 1) := by decide +kernel
theorem dX8_addFour_38 : decode cX8_addFour 38 = .ok (.bipush 24, 2) := by decide +kernel
theorem dX8_addFour_40 : decode cX8_addFour 40 = .ok (.bipush 8, 2) := by decide +kernel
theorem dX8_addFour_42 : decode cX8_addFour 42 = .ok (.iload_n 2, 1) := by decide +kernel
theorem dX8_addFour_43 : decode cX8_addFour 43 = .ok (.imul, 1) := by decide +kernel
theorem dX8_addFour_44 : decode cX8_addFour 44 = .ok (.isub, 1) := by decide +kernel
theorem dX8_addFour_45 : decode cX8_addFour 45 = .ok (.iushr, 1) := by decide +kernel
theorem dX8_addFour_46 : decode cX8_addFour 46 = .ok (.sipush 255, 3) := by decide +kernel
theorem dX8_addFour_49 : decode cX8_addFour 49 = .ok (.iand, 1) := by decide +kernel
theorem dX8_addFour_50 : decode cX8_addFour 50 = .ok (.iastore, 1) := by decide +kernel
theorem dX8_addFour_51 : decode cX8_addFour 51 = .ok (.iinc 2 1, 3) := by decide +kernel
theorem dX8_addFour_54 : decode cX8_addFour 54 = .ok (.goto (-32), 3) := by decide +kernel
theorem dX8_addFour_57 : decode cX8_addFour 57 = .ok (.aload_n 0, 1) := by decide +kernel
theorem dX8_addFour_58 : decode cX8_addFour 58 = .ok (.dup, 1) := by decide +kernel
theorem dX8_addFour_59 : decode cX8_addFour 59 = .ok (.getfield 15, 3) := by decide +kernel
theorem dX8_addFour_62 : decode cX8_addFour 62 = .ok (.iconst 4, 1) := by decide +kernel
theorem dX8_addFour_63 : decode cX8_addFour 63 = .ok (.iadd, 1) := by decide +kernel
theorem dX8_addFour_64 : decode cX8_addFour 64 = .ok (.putfield 15, 3) := by decide +kernel
theorem dX8_addFour_67 : decode cX8_addFour 67 = .ok (.iconst 1, 1) := by decide +kernel
theorem dX8_addFour_68 : decode cX8_addFour 68 = .ok (.ireturn, 1) := by decide +kernel
theorem dX8_cut_0 : decode cX8_cut 0 = .ok (.iload_n 1, 1) := by decide +kernel
theorem dX8_cut_1 : decode cX8_cut 1 = .ok (.ifCond .lt 11, 3) := by decide +kernel
theorem dX8_cut_4 : decode cX8_cut 4 = .ok (.iload_n 1, 1) := by decide +kernel
theorem dX8_cut_5 : decode cX8_cut 5 = .ok (.aload_n 0, 1) := by decide +kernel
theorem dX8_cut_6 : decode cX8_cut 6 = .ok (.getfield 15, 3) := by decide +kernel
theorem dX8_cut_9 : decode cX8_cut 9 = .ok (.if_icmp .le 5, 3) := by decide +kernel
theorem dX8_cut_12 : decode cX8_cut 12 = .ok (.iconst 0, 1) := by decide +kernel
theorem dX8_cut_13 : decode cX8_cut 13 = .ok (.ireturn, 1) := by decide +kernel
theorem dX8_cut_14 : decode cX8_cut 14 = .ok (.aload_n 0, 1) := by decide +kernel
theorem dX8_cut_15 : decode cX8_cut 15 = .ok (.iload_n 1, 1) := by decide +kernel
theorem dX8_cut_16 : decode cX8_cut 16 = .ok (.putfield 15, 3) := by decide +kernel
theorem dX8_cut_19 : decode cX8_cut 19 = .ok (.iconst 1, 1) := by decide +kernel
theorem dX8_cut_20 : decode cX8_cut 20 = .ok (.ireturn, 1) := by decide +kernel
theorem dX9_init_0 : decode cX9_init 0 = .ok (.aload_n 0, 1) := by decide +kernel
theorem dX9_init_1 : decode cX9_init 1 = .ok (.invokespecial 3, 3) := by decide +kernel
theorem dX9_init_4 : decode cX9_init 4 = .ok (.aload_n 0, 1) := by decide +kernel
theorem dX9_init_5 : decode cX9_init 5 = .ok (.bipush 74, 2) := by decide +kernel
theorem dX9_init_7 : decode cX9_init 7 = .ok (.newarray .long, 2) := by decide +kernel
theorem dX9_init_9 : decode cX9_init 9 = .ok (.putfield 11, 3) := by decide +kernel
theorem dX9_init_12 : decode cX9_init 12 = .ok (.aload_n 0, 1) := by decide +kernel
theorem dX9_init_13 : decode cX9_init 13 = .ok (.lconst 0, 1) := by decide +kernel
theorem dX9_init_14 : decode cX9_init 14 = .ok (.putfield 15, 3) := by decide +kernel
theorem dX9_init_17 : decode cX9_init 17 = .ok (.return_, 1) := by decide +kernel
theorem dX9_measure_0 : decode cX9_measure 0 = .ok (.aload_n 0, 1) := by decide +kernel
theorem dX9_measure_1 : decode cX9_measure 1 = .ok (.getfield 11, 3) := by decide +kernel
theorem dX9_measure_4 : decode cX9_measure 4 = .ok (.lconst 0, 1) := by decide +kernel
theorem dX9_measure_5 : decode cX9_measure 5 = .ok (.invokestatic 19, 3) := by decide +kernel
theorem dX9_measure_8 : decode cX9_measure 8 = .ok (.aload_n 0, 1) := by decide +kernel
theorem dX9_measure_9 : decode cX9_measure 9 = .ok (.iload 4, 2) := by decide +kernel
theorem dX9_measure_11 : decode cX9_measure 11 = .ok (.invokestatic 25, 3) := by decide +kernel
theorem dX9_measure_14 : decode cX9_measure 14 = .ok (.lload_n 2, 1) := by decide +kernel
theorem dX9_measure_15 : decode cX9_measure 15 = .ok (.land, 1) := by decide +kernel
theorem dX9_measure_16 : decode cX9_measure 16 = .ok (.putfield 15, 3) := by decide +kernel
theorem dX9_measure_19 : decode cX9_measure 19 = .ok (.aload_n 0, 1) := by decide +kernel
theorem dX9_measure_20 : decode cX9_measure 20 = .ok (.getfield 11, 3) := by decide +kernel
theorem dX9_measure_23 : decode cX9_measure 23 = .ok (.iconst 0, 1) := by decide +kernel
theorem dX9_measure_24 : decode cX9_measure 24 = .ok (.aload_n 0, 1) := by decide +kernel
theorem dX9_measure_25 : decode cX9_measure 25 = .ok (.getfield 15, 3) := by decide +kernel
theorem dX9_measure_28 : decode cX9_measure 28 = .ok (.lastore, 1) := by decide +kernel
theorem dX9_measure_29 : decode cX9_measure 29 = .ok (.iconst 0, 1) := by decide +kernel
theorem dX9_measure_30 : decode cX9_measure 30 = .ok (.istore 5, 2) := by decide +kernel
theorem dX9_measure_32 : decode cX9_measure 32 = .ok (.iload 5, 2) := by decide +kernel
theorem dX9_measure_34 : decode cX9_measure 34 = .ok (.iconst 2, 1) := by decide +kernel
theorem dX9_measure_35 : decode cX9_measure 35 = .ok (.iadd, 1) := by decide +kernel
theorem dX9_measure_36 : decode cX9_measure 36 = .ok (.bipush 74, 2) := by decide +kernel
theorem dX9_measure_38 : decode cX9_measure 38 = .ok (.if_icmp .ge 101, 3) := by decide +kernel
theorem dX9_measure_41 : decode cX9_measure 41 = .ok (.aload_n 0, 1) := by decide +kernel
theorem dX9_measure_42 : decode cX9_measure 42 = .ok (.getfield 11, 3) := by decide +kernel
theorem dX9_measure_45 : decode cX9_measure 45 = .ok (.iload 5, 2) := by decide +kernel
theorem dX9_measure_47 : decode cX9_measure 47 = .ok (.laload, 1) := by decide +kernel
theorem dX9_measure_48 : decode cX9_measure 48 = .ok (.lconst 0, 1) := by decide +kernel
theorem dX9_measure_49 : decode cX9_measure 49 = .ok (.lcmp, 1) := by decide +kernel
theorem dX9_measure_50 : decode cX9_measure 50 = .ok (.ifCond .ne 6, 3) := by decide +kernel
theorem dX9_measure_53 : decode cX9_measure 53 = .ok (.goto 80, 3) := by decide +kernel
theorem dX9_measure_56 : decode cX9_measure 56 = .ok (.aload_n 1, 1) := by decide +kernel
theorem dX9_measure_57 : decode cX9_measure 57 = .ok (.aload_n 0, 1) := by decide +kernel
theorem dX9_measure_58 : decode cX9_measure 58 = .ok (.getfield 11, 3) := by decide +kernel
theorem dX9_measure_61 : decode cX9_measure 61 = .ok (.iload 5, 2) := by decide +kernel
theorem dX9_measure_63 : decode cX9_measure 63 = .ok (.laload, 1) := by decide +kernel
theorem dX9_measure_64 : decode cX9_measure 64 = .ok (.invokevirtual 29, 3) := by decide +kernel
theorem dX9_measure_67 : decode cX9_measure 67 = .ok (.lload_n 2, 1) := by decide +kernel
theorem dX9_measure_68 : decode cX9_measure 68 = .ok (.land, 1) := by decide +kernel
theorem dX9_measure_69 : decode cX9_measure 69 = .ok (.aload_n 0, 1) := by decide +kernel
theorem dX9_measure_70 : decode cX9_measure 70 = .ok (.getfield 15, 3) := by decide +kernel
theorem dX9_measure_73 : decode cX9_measure 73 = .ok (.ldc2_w 35, 3) := by decide +kernel
theorem dX9_measure_76 : decode cX9_measure 76 = .ok (.lxor, 1) := by decide +kernel
theorem dX9_measure_77 : decode cX9_measure 77 = .ok (.land, 1) := by decide +kernel
theorem dX9_measure_78 : decode cX9_measure 78 = .ok (.lstore 6, 2) := by decide +kernel
theorem dX9_measure_80 : decode cX9_measure 80 = .ok (.aload_n 0, 1) := by decide +kernel
theorem dX9_measure_81 : decode cX9_measure 81 = .ok (.dup, 1) := by decide +kernel
theorem dX9_measure_82 : decode cX9_measure 82 = .ok (.getfield 15, 3) := by decide +kernel
theorem dX9_measure_85 : decode cX9_measure 85 = .ok (.lload 6, 2) := by decide +kernel
theorem dX9_measure_87 : decode cX9_measure 87 = .ok (.lor, 1) := by decide +kernel
theorem dX9_measure_88 : decode cX9_measure 88 = .ok (.putfield 15, 3) := by decide +kernel
theorem dX9_measure_91 : decode cX9_measure 91 = .ok (.aload_n 0, 1) := by decide +kernel
theorem dX9_measure_92 : decode cX9_measure 92 = .ok (.getfield 11, 3) := by decide +kernel
theorem dX9_measure_95 : decode cX9_measure 95 = .ok (.iload 5, 2) := by decide +kernel
theorem dX9_measure_97 : decode cX9_measure 97 = .ok (.iconst 1, 1) := by decide +kernel
theorem dX9_measure_98 : decode cX9_measure 98 = .ok (.iadd, 1) := by decide +kernel
theorem dX9_measure_99 : decode cX9_measure 99 = .ok (.dup2, 1) := by decide +kernel
theorem dX9_measure_100 : decode cX9_measure 100 = .ok (.laload, 1) := by decide +kernel
theorem dX9_measure_101 : decode cX9_measure 101 = .ok (.lload 6, 2) := by decide +kernel
theorem dX9_measure_103 : decode cX9_measure 103 = .ok (.aload_n 1, 1) := by decide +kernel
theorem dX9_measure_104 : decode cX9_measure 104 = .ok (.getfield 37, 3) := by decide +kernel
theorem dX9_measure_107 : decode cX9_measure 107 = .ok (.ldc2_w 35, 3) := by decide +kernel
theorem dX9_measure_110 : decode cX9_measure 110 = .ok (.lxor, 1) := by decide +kernel
theorem dX9_measure_111 : decode cX9_measure 111 = .ok (.land, 1) := by decide +kernel
theorem dX9_measure_112 : decode cX9_measure 112 = .ok (.lor, 1) := by decide +kernel
theorem dX9_measure_113 : decode cX9_measure 113 = .ok (.lastore, 1) := by decide +kernel
theorem dX9_measure_114 : decode cX9_measure 114 = .ok (.aload_n 0, 1) := by decide +kernel
theorem dX9_measure_115 : decode cX9_measure 115 = .ok (.getfield 11, 3) := by decide +kernel
theorem dX9_measure_118 : decode cX9_measure 118 = .ok (.iload 5, 2) := by decide +kernel
theorem dX9_measure_120 : decode cX9_measure 120 = .ok (.iconst 2, 1) := by decide +kernel
theorem dX9_measure_121 : decode cX9_measure 121 = .ok (.iadd, 1) := by decide +kernel
theorem dX9_measure_122 : decode cX9_measure 122 = .ok (.dup2, 1) := by decide +kernel
theorem dX9_measure_123 : decode cX9_measure 123 = .ok (.laload, 1) := by decide +kernel
theorem dX9_measure_124 : decode cX9_measure 124 = .ok (.lload 6, 2) := by decide +kernel
theorem dX9_measure_126 : decode cX9_measure 126 = .ok (.aload_n 1, 1) := by decide +kernel
theorem dX9_measure_127 : decode cX9_measure 127 = .ok (.getfield 37, 3) := by decide +kernel
theorem dX9_measure_130 : decode cX9_measure 130 = .ok (.land, 1) := by decide +kernel
theorem dX9_measure_131 : decode cX9_measure 131 = .ok (.lor, 1) := by decide +kernel
theorem dX9_measure_132 : decode cX9_measure 132 = .ok (.lastore, 1) := by decide +kernel
theorem dX9_measure_133 : decode cX9_measure 133 = .ok (.iinc 5 1, 3) := by decide +kernel
theorem dX9_measure_136 : decode cX9_measure 136 = .ok (.goto (-104), 3) := by decide +kernel
theorem dX9_measure_139 : decode cX9_measure 139 = .ok (.return_, 1) := by decide +kernel
theorem dX9_costFrom_0 : decode cX9_costFrom 0 = .ok (.iconst 0, 1) := by decide +kernel
theorem dX9_costFrom_1 : decode cX9_costFrom 1 = .ok (.istore_n 2, 1) := by decide +kernel
theorem dX9_costFrom_2 : decode cX9_costFrom 2 = .ok (.iload_n 2, 1) := by decide +kernel
theorem dX9_costFrom_3 : decode cX9_costFrom 3 = .ok (.bipush 74, 2) := by decide +kernel
theorem dX9_costFrom_5 : decode cX9_costFrom 5 = .ok (.if_icmp .ge 35, 3) := by decide +kernel
theorem dX9_costFrom_8 : decode cX9_costFrom 8 = .ok (.aload_n 0, 1) := by decide +kernel
theorem dX9_costFrom_9 : decode cX9_costFrom 9 = .ok (.getfield 15, 3) := by decide +kernel
theorem dX9_costFrom_12 : decode cX9_costFrom 12 = .ok (.iload_n 1, 1) := by decide +kernel
theorem dX9_costFrom_13 : decode cX9_costFrom 13 = .ok (.invokestatic 40, 3) := by decide +kernel
theorem dX9_costFrom_16 : decode cX9_costFrom 16 = .ok (.ifCond .eq 24, 3) := by decide +kernel
theorem dX9_costFrom_19 : decode cX9_costFrom 19 = .ok (.aload_n 0, 1) := by decide +kernel
theorem dX9_costFrom_20 : decode cX9_costFrom 20 = .ok (.getfield 11, 3) := by decide +kernel
theorem dX9_costFrom_23 : decode cX9_costFrom 23 = .ok (.iload_n 2, 1) := by decide +kernel
theorem dX9_costFrom_24 : decode cX9_costFrom 24 = .ok (.laload, 1) := by decide +kernel
theorem dX9_costFrom_25 : decode cX9_costFrom 25 = .ok (.iload_n 1, 1) := by decide +kernel
theorem dX9_costFrom_26 : decode cX9_costFrom 26 = .ok (.invokestatic 40, 3) := by decide +kernel
theorem dX9_costFrom_29 : decode cX9_costFrom 29 = .ok (.ifCond .eq 5, 3) := by decide +kernel
theorem dX9_costFrom_32 : decode cX9_costFrom 32 = .ok (.iload_n 2, 1) := by decide +kernel
theorem dX9_costFrom_33 : decode cX9_costFrom 33 = .ok (.ireturn, 1) := by decide +kernel
theorem dX9_costFrom_34 : decode cX9_costFrom 34 = .ok (.iinc 2 1, 3) := by decide +kernel
theorem dX9_costFrom_37 : decode cX9_costFrom 37 = .ok (.goto (-35), 3) := by decide +kernel
theorem dX9_costFrom_40 : decode cX9_costFrom 40 = .ok (.sipush 500, 3) := by decide +kernel
theorem dX9_costFrom_43 : decode cX9_costFrom 43 = .ok (.ireturn, 1) := by decide +kernel
theorem dX9_greatest_0 : decode cX9_greatest 0 = .ok (.aload_n 0, 1) := by decide +kernel
theorem dX9_greatest_1 : decode cX9_greatest 1 = .ok (.getfield 15, 3) := by decide +kernel
theorem dX9_greatest_4 : decode cX9_greatest 4 = .ok (.lload_n 1, 1) := by decide +kernel
theorem dX9_greatest_5 : decode cX9_greatest 5 = .ok (.lcmp, 1) := by decide +kernel
theorem dX9_greatest_6 : decode cX9_greatest 6 = .ok (.ifCond .eq 7, 3) := by decide +kernel
theorem dX9_greatest_9 : decode cX9_greatest 9 = .ok (.sipush 500, 3) := by decide +kernel
theorem dX9_greatest_12 : decode cX9_greatest 12 = .ok (.ireturn, 1) := by decide +kernel
theorem dX9_greatest_13 : decode cX9_greatest 13 = .ok (.iconst 0, 1) := by decide +kernel
theorem dX9_greatest_14 : decode cX9_greatest 14 = .ok (.istore_n 3, 1) := by decide +kernel
theorem dX9_greatest_15 : decode cX9_greatest 15 = .ok (.iconst 0, 1) := by decide +kernel
theorem dX9_greatest_16 : decode cX9_greatest 16 = .ok (.istore 4, 2) := by decide +kernel
theorem dX9_greatest_18 : decode cX9_greatest 18 = .ok (.iload 4, 2) := by decide +kernel
theorem dX9_greatest_20 : decode cX9_greatest 20 = .ok (.bipush 74, 2) := by decide +kernel
theorem dX9_greatest_22 : decode cX9_greatest 22 = .ok (.if_icmp .ge 28, 3) := by decide +kernel
theorem dX9_greatest_25 : decode cX9_greatest 25 = .ok (.aload_n 0, 1) := by decide +kernel
theorem dX9_greatest_26 : decode cX9_greatest 26 = .ok (.getfield 11, 3) := by decide +kernel
theorem dX9_greatest_29 : decode cX9_greatest 29 = .ok (.iload 4, 2) := by decide +kernel
theorem dX9_greatest_31 : decode cX9_greatest 31 = .ok (.laload, 1) := by decide +kernel
theorem dX9_greatest_32 : decode cX9_greatest 32 = .ok (.lconst 0, 1) := by decide +kernel
theorem dX9_greatest_33 : decode cX9_greatest 33 = .ok (.lcmp, 1) := by decide +kernel
theorem dX9_greatest_34 : decode cX9_greatest 34 = .ok (.ifCond .eq 8, 3) := by decide +kernel
theorem dX9_greatest_37 : decode cX9_greatest 37 = .ok (.iload 4, 2) := by decide +kernel
theorem dX9_greatest_39 : decode cX9_greatest 39 = .ok (.goto 4, 3) := by decide +kernel
theorem dX9_greatest_42 : decode cX9_greatest 42 = .ok (.iload_n 3, 1) := by decide +kernel
theorem dX9_greatest_43 : decode cX9_greatest 43 = .ok (.istore_n 3, 1) := by decide +kernel
theorem dX9_greatest_44 : decode cX9_greatest 44 = .ok (.iinc 4 1, 3) := by decide +kernel
theorem dX9_greatest_47 : decode cX9_greatest 47 = .ok (.goto (-29), 3) := by decide +kernel
theorem dX9_greatest_50 : decode cX9_greatest 50 = .ok (.iload_n 3, 1) := by decide +kernel
theorem dX9_greatest_51 : decode cX9_greatest 51 = .ok (.ireturn, 1) := by decide +kernel
theorem dX9_firstAt_0 : decode cX9_firstAt 0 = .ok (.iload_n 1, 1) := by decide +kernel
theorem dX9_firstAt_1 : decode cX9_firstAt 1 = .ok (.ifCond .lt 23, 3) := by decide +kernel
theorem dX9_firstAt_4 : decode cX9_firstAt 4 = .ok (.iload_n 1, 1) := by decide +kernel
theorem dX9_firstAt_5 : decode cX9_firstAt 5 = .ok (.bipush 74, 2) := by decide +kernel
theorem dX9_firstAt_7 : decode cX9_firstAt 7 = .ok (.if_icmp .ge 17, 3) := by decide +kernel
theorem dX9_firstAt_10 : decode cX9_firstAt 10 = .ok (.aload_n 0, 1) := by decide +kernel
theorem dX9_firstAt_11 : decode cX9_firstAt 11 = .ok (.getfield 11, 3) := by decide +kernel
theorem dX9_firstAt_14 : decode cX9_firstAt 14 = .ok (.iload_n 1, 1) := by decide +kernel
theorem dX9_firstAt_15 : decode cX9_firstAt 15 = .ok (.laload, 1) := by decide +kernel
theorem dX9_firstAt_16 : decode cX9_firstAt 16 = .ok (.lload_n 2, 1) := by decide +kernel
theorem dX9_firstAt_17 : decode cX9_firstAt 17 = .ok (.land, 1) := by decide +kernel
theorem dX9_firstAt_18 : decode cX9_firstAt 18 = .ok (.invokestatic 44, 3) := by decide +kernel
theorem dX9_firstAt_21 : decode cX9_firstAt 21 = .ok (.goto 4, 3) := by decide +kernel
theorem dX9_firstAt_24 : decode cX9_firstAt 24 = .ok (.iconst (-1), 1) := by decide +kernel
theorem dX9_firstAt_25 : decode cX9_firstAt 25 = .ok (.ireturn, 1) := by decide +kernel
theorem dX10_init_0 : decode cX10_init 0 = .ok (.aload_n 0, 1) := by decide +kernel
theorem dX10_init_1 : decode cX10_init 1 = .ok (.invokespecial 3, 3) := by decide +kernel
theorem dX10_init_4 : decode cX10_init 4 = .ok (.aload_n 0, 1) := by decide +kernel
theorem dX10_init_5 : decode cX10_init 5 = .ok (.new 9, 3) := by decide +kernel
theorem dX10_init_8 : decode cX10_init 8 = .ok (.dup, 1) := by decide +kernel
theorem dX10_init_9 : decode cX10_init 9 = .ok (.invokespecial 11, 3) := by decide +kernel
theorem dX10_init_12 : decode cX10_init 12 = .ok (.putfield 12, 3) := by decide +kernel
theorem dX10_init_15 : decode cX10_init 15 = .ok (.aload_n 0, 1) := by decide +kernel
theorem dX10_init_16 : decode cX10_init 16 = .ok (.new 16, 3) := by decide +kernel
theorem dX10_init_19 : decode cX10_init 19 = .ok (.dup, 1) := by decide +kernel
theorem dX10_init_20 : decode cX10_init 20 = .ok (.invokespecial 18, 3) := by decide +kernel
theorem dX10_init_23 : decode cX10_init 23 = .ok (.putfield 19, 3) := by decide +kernel
theorem dX10_init_26 : decode cX10_init 26 = .ok (.aload_n 0, 1) := by decide +kernel
theorem dX10_init_27 : decode cX10_init 27 = .ok (.new 23, 3) := by decide +kernel
theorem dX10_init_30 : decode cX10_init 30 = .ok (.dup, 1) := by decide +kernel
theorem dX10_init_31 : decode cX10_init 31 = .ok (.invokespecial 25, 3) := by decide +kernel
theorem dX10_init_34 : decode cX10_init 34 = .ok (.putfield 26, 3) := by decide +kernel
theorem dX10_init_37 : decode cX10_init 37 = .ok (.aload_n 0, 1) := by decide +kernel
theorem dX10_init_38 : decode cX10_init 38 = .ok (.new 30, 3) := by decide +kernel
theorem dX10_init_41 : decode cX10_init 41 = .ok (.dup, 1) := by decide +kernel
theorem dX10_init_42 : decode cX10_init 42 = .ok (.invokespecial 32, 3) := by decide +kernel
theorem dX10_init_45 : decode cX10_init 45 = .ok (.putfield 33, 3) := by decide +kernel
theorem dX10_init_48 : decode cX10_init 48 = .ok (.aload_n 0, 1) := by decide +kernel
theorem dX10_init_49 : decode cX10_init 49 = .ok (.new 37, 3) := by decide +kernel
theorem dX10_init_52 : decode cX10_init 52 = .ok (.dup, 1) := by decide +kernel
theorem dX10_init_53 : decode cX10_init 53 = .ok (.invokespecial 39, 3) := by decide +kernel
theorem dX10_init_56 : decode cX10_init 56 = .ok (.putfield 40, 3) := by decide +kernel
theorem dX10_init_59 : decode cX10_init 59 = .ok (.aload_n 0, 1) := by decide +kernel
theorem dX10_init_60 : decode cX10_init 60 = .ok (.new 44, 3) := by decide +kernel
theorem dX10_init_63 : decode cX10_init 63 = .ok (.dup, 1) := by decide +kernel
theorem dX10_init_64 : decode cX10_init 64 = .ok (.invokespecial 46, 3) := by decide +kernel
theorem dX10_init_67 : decode cX10_init 67 = .ok (.putfield 47, 3) := by decide +kernel
theorem dX10_init_70 : decode cX10_init 70 = .ok (.aload_n 0, 1) := by decide +kernel
theorem dX10_init_71 : decode cX10_init 71 = .ok (.new 51, 3) := by decide +kernel
theorem dX10_init_74 : decode cX10_init 74 = .ok (.dup, 1) := by decide +kernel
theorem dX10_init_75 : decode cX10_init 75 = .ok (.invokespecial 53, 3) := by decide +kernel
theorem dX10_init_78 : decode cX10_init 78 = .ok (.putfield 54, 3) := by decide +kernel
theorem dX10_init_81 : decode cX10_init 81 = .ok (.aload_n 0, 1) := by decide +kernel
theorem dX10_init_82 : decode cX10_init 82 = .ok (.new 58, 3) := by decide +kernel
theorem dX10_init_85 : decode cX10_init 85 = .ok (.dup, 1) := by decide +kernel
theorem dX10_init_86 : decode cX10_init 86 = .ok (.invokespecial 60, 3) := by decide +kernel
theorem dX10_init_89 : decode cX10_init 89 = .ok (.putfield 61, 3) := by decide +kernel
theorem dX10_init_92 : decode cX10_init 92 = .ok (.aload_n 0, 1) := by decide +kernel
theorem dX10_init_93 : decode cX10_init 93 = .ok (.new 58, 3) := by decide +kernel
theorem dX10_init_96 : decode cX10_init 96 = .ok (.dup, 1) := by decide +kernel
theorem dX10_init_97 : decode cX10_init 97 = .ok (.invokespecial 60, 3) := by decide +kernel
theorem dX10_init_100 : decode cX10_init 100 = .ok (.putfield 65, 3) := by decide +kernel
theorem dX10_init_103 : decode cX10_init 103 = .ok (.aload_n 0, 1) := by decide +kernel
theorem dX10_init_104 : decode cX10_init 104 = .ok (.new 58, 3) := by decide +kernel
theorem dX10_init_107 : decode cX10_init 107 = .ok (.dup, 1) := by decide +kernel
theorem dX10_init_108 : decode cX10_init 108 = .ok (.invokespecial 60, 3) := by decide +kernel
theorem dX10_init_111 : decode cX10_init 111 = .ok (.putfield 68, 3) := by decide +kernel
theorem dX10_init_114 : decode cX10_init 114 = .ok (.aload_n 0, 1) := by decide +kernel
theorem dX10_init_115 : decode cX10_init 115 = .ok (.iconst 3, 1) := by decide +kernel
theorem dX10_init_116 : decode cX10_init 116 = .ok (.anewarray 58, 3) := by decide +kernel
theorem dX10_init_119 : decode cX10_init 119 = .ok (.putfield 71, 3) := by decide +kernel
theorem dX10_init_122 : decode cX10_init 122 = .ok (.iconst 0, 1) := by decide +kernel
theorem dX10_init_123 : decode cX10_init 123 = .ok (.istore_n 1, 1) := by decide +kernel
theorem dX10_init_124 : decode cX10_init 124 = .ok (.iload_n 1, 1) := by decide +kernel
theorem dX10_init_125 : decode cX10_init 125 = .ok (.iconst 3, 1) := by decide +kernel
theorem dX10_init_126 : decode cX10_init 126 = .ok (.if_icmp .ge 22, 3) := by decide +kernel
theorem dX10_init_129 : decode cX10_init 129 = .ok (.aload_n 0, 1) := by decide +kernel
theorem dX10_init_130 : decode cX10_init 130 = .ok (.getfield 71, 3) := by decide +kernel
theorem dX10_init_133 : decode cX10_init 133 = .ok (.iload_n 1, 1) := by decide +kernel
theorem dX10_init_134 : decode cX10_init 134 = .ok (.new 58, 3) := by decide +kernel
theorem dX10_init_137 : decode cX10_init 137 = .ok (.dup, 1) := by decide +kernel
theorem dX10_init_138 : decode cX10_init 138 = .ok (.invokespecial 60, 3) := by decide +kernel
theorem dX10_init_141 : decode cX10_init 141 = .ok (.aastore, 1) := by decide +kernel
theorem dX10_init_142 : decode cX10_init 142 = .ok (.iinc 1 1, 3) := by decide +kernel
theorem dX10_init_145 : decode cX10_init 145 = .ok (.goto (-21), 3) := by decide +kernel
theorem dX10_init_148 : decode cX10_init 148 = .ok (.aload_n 0, 1) := by decide +kernel
theorem dX10_init_149 : decode cX10_init 149 = .ok (.sipush 1000, 3) := by decide +kernel
theorem dX10_init_152 : decode cX10_init 152 = .ok (.newarray .int, 2) := by decide +kernel
theorem dX10_init_154 : decode cX10_init 154 = .ok (.putfield 75, 3) := by decide +kernel
theorem dX10_init_157 : decode cX10_init 157 = .ok (.aload_n 0, 1) := by decide +kernel
theorem dX10_init_158 : decode cX10_init 158 = .ok (.bipush 36, 2) := by decide +kernel
theorem dX10_init_160 : decode cX10_init 160 = .ok (.newarray .int, 2) := by decide +kernel
theorem dX10_init_162 : decode cX10_init 162 = .ok (.putfield 79, 3) := by decide +kernel
theorem dX10_init_165 : decode cX10_init 165 = .ok (.aload_n 0, 1) := by decide +kernel
theorem dX10_init_166 : decode cX10_init 166 = .ok (.bipush 36, 2) := by decide +kernel
theorem dX10_init_168 : decode cX10_init 168 = .ok (.newarray .long, 2) := by decide +kernel
theorem dX10_init_170 : decode cX10_init 170 = .ok (.putfield 82, 3) := by decide +kernel
theorem dX10_init_173 : decode cX10_init 173 = .ok (.aload_n 0, 1) := by decide +kernel
theorem dX10_init_174 : decode cX10_init 174 = .ok (.bipush 36, 2) := by decide +kernel
theorem dX10_init_176 : decode cX10_init 176 = .ok (.newarray .long, 2) := by decide +kernel
theorem dX10_init_178 : decode cX10_init 178 = .ok (.putfield 86, 3) := by decide +kernel
theorem dX10_init_181 : decode cX10_init 181 = .ok (.aload_n 0, 1) := by decide +kernel
theorem dX10_init_182 : decode cX10_init 182 = .ok (.new 89, 3) := by decide +kernel
theorem dX10_init_185 : decode cX10_init 185 = .ok (.dup, 1) := by decide +kernel
theorem dX10_init_186 : decode cX10_init 186 = .ok (.invokespecial 91, 3) := by decide +kernel
theorem dX10_init_189 : decode cX10_init 189 = .ok (.putfield 92, 3) := by decide +kernel
theorem dX10_init_192 : decode cX10_init 192 = .ok (.aload_n 0, 1) := by decide +kernel
theorem dX10_init_193 : decode cX10_init 193 = .ok (.new 89, 3) := by decide +kernel
theorem dX10_init_196 : decode cX10_init 196 = .ok (.dup, 1) := by decide +kernel
theorem dX10_init_197 : decode cX10_init 197 = .ok (.invokespecial 91, 3) := by decide +kernel
theorem dX10_init_200 : decode cX10_init 200 = .ok (.putfield 96, 3) := by decide +kernel
theorem dX10_init_203 : decode cX10_init 203 = .ok (.aload_n 0, 1) := by decide +kernel
theorem dX10_init_204 : decode cX10_init 204 = .ok (.new 99, 3) := by decide +kernel
theorem dX10_init_207 : decode cX10_init 207 = .ok (.dup, 1) := by decide +kernel
theorem dX10_init_208 : decode cX10_init 208 = .ok (.invokespecial 101, 3) := by decide +kernel
theorem dX10_init_211 : decode cX10_init 211 = .ok (.putfield 102, 3) := by decide +kernel
theorem dX10_init_214 : decode cX10_init 214 = .ok (.aload_n 0, 1) := by decide +kernel
theorem dX10_init_215 : decode cX10_init 215 = .ok (.new 99, 3) := by decide +kernel
theorem dX10_init_218 : decode cX10_init 218 = .ok (.dup, 1) := by decide +kernel
theorem dX10_init_219 : decode cX10_init 219 = .ok (.invokespecial 101, 3) := by decide +kernel
theorem dX10_init_222 : decode cX10_init 222 = .ok (.putfield 106, 3) := by decide +kernel
theorem dX10_init_225 : decode cX10_init 225 = .ok (.aload_n 0, 1) := by decide +kernel
theorem dX10_init_226 : decode cX10_init 226 = .ok (.iconst 0, 1) := by decide +kernel
theorem dX10_init_227 : decode cX10_init 227 = .ok (.putfield 109, 3) := by decide +kernel
theorem dX10_init_230 : decode cX10_init 230 = .ok (.return_, 1) := by decide +kernel
theorem dX10_sign_0 : decode cX10_sign 0 = .ok (.aload_n 0, 1) := by decide +kernel
theorem dX10_sign_1 : decode cX10_sign 1 = .ok (.getfield 12, 3) := by decide +kernel
theorem dX10_sign_4 : decode cX10_sign 4 = .ok (.iload_n 1, 1) := by decide +kernel
theorem dX10_sign_5 : decode cX10_sign 5 = .ok (.invokevirtual 113, 3) := by decide +kernel
theorem dX10_sign_8 : decode cX10_sign 8 = .ok (.ifCond .eq 13, 3) := by decide +kernel
theorem dX10_sign_11 : decode cX10_sign 11 = .ok (.aload_n 0, 1) := by decide +kernel
theorem dX10_sign_12 : decode cX10_sign 12 = .ok (.getfield 12, 3) := by decide +kernel
theorem dX10_sign_15 : decode cX10_sign 15 = .ok (.invokevirtual 117, 3) := by decide +kernel
theorem dX10_sign_18 : decode cX10_sign 18 = .ok (.goto 4, 3) := by decide +kernel
theorem dX10_sign_21 : decode cX10_sign 21 = .ok (.iconst (-1), 1) := by decide +kernel
theorem dX10_sign_22 : decode cX10_sign 22 = .ok (.ireturn, 1) := by decide +kernel
theorem dX10_end_0 : decode cX10_end 0 = .ok (.aload_n 0, 1) := by decide +kernel
theorem dX10_end_1 : decode cX10_end 1 = .ok (.getfield 12, 3) := by decide +kernel
theorem dX10_end_4 : decode cX10_end 4 = .ok (.iload_n 1, 1) := by decide +kernel
theorem dX10_end_5 : decode cX10_end 5 = .ok (.invokevirtual 121, 3) := by decide +kernel
theorem dX10_end_8 : decode cX10_end 8 = .ok (.ireturn, 1) := by decide +kernel
theorem dX10_flat_0 : decode cX10_flat 0 = .ok (.aload_n 0, 1) := by decide +kernel
theorem dX10_flat_1 : decode cX10_flat 1 = .ok (.getfield 96, 3) := by decide +kernel
theorem dX10_flat_4 : decode cX10_flat 4 = .ok (.aload_n 0, 1) := by decide +kernel
theorem dX10_flat_5 : decode cX10_flat 5 = .ok (.getfield 12, 3) := by decide +kernel
theorem dX10_flat_8 : decode cX10_flat 8 = .ok (.invokevirtual 124, 3) := by decide +kernel
theorem dX10_flat_11 : decode cX10_flat 11 = .ok (.istore_n 1, 1) := by decide +kernel
theorem dX10_flat_12 : decode cX10_flat 12 = .ok (.aload_n 0, 1) := by decide +kernel
theorem dX10_flat_13 : decode cX10_flat 13 = .ok (.getfield 12, 3) := by decide +kernel
theorem dX10_flat_16 : decode cX10_flat 16 = .ok (.iconst 0, 1) := by decide +kernel
theorem dX10_flat_17 : decode cX10_flat 17 = .ok (.invokevirtual 121, 3) := by decide +kernel
theorem dX10_flat_20 : decode cX10_flat 20 = .ok (.pop, 1) := by decide +kernel
theorem dX10_flat_21 : decode cX10_flat 21 = .ok (.iload_n 1, 1) := by decide +kernel
theorem dX10_flat_22 : decode cX10_flat 22 = .ok (.iconst (-1), 1) := by decide +kernel
theorem dX10_flat_23 : decode cX10_flat 23 = .ok (.if_icmp .eq 7, 3) := by decide +kernel
theorem dX10_flat_26 : decode cX10_flat 26 = .ok (.iconst (-1), 1) := by decide +kernel
theorem dX10_flat_27 : decode cX10_flat 27 = .ok (.iload_n 1, 1) := by decide +kernel
theorem dX10_flat_28 : decode cX10_flat 28 = .ok (.isub, 1) := by decide +kernel
theorem dX10_flat_29 : decode cX10_flat 29 = .ok (.ireturn, 1) := by decide +kernel
theorem dX10_flat_30 : decode cX10_flat 30 = .ok (.aload_n 0, 1) := by decide +kernel
theorem dX10_flat_31 : decode cX10_flat 31 = .ok (.getfield 96, 3) := by decide +kernel
theorem dX10_flat_34 : decode cX10_flat 34 = .ok (.getfield 128, 3) := by decide +kernel
theorem dX10_flat_37 : decode cX10_flat 37 = .ok (.lconst 0, 1) := by decide +kernel
theorem dX10_flat_38 : decode cX10_flat 38 = .ok (.lcmp, 1) := by decide +kernel
theorem dX10_flat_39 : decode cX10_flat 39 = .ok (.ifCond .ne 6, 3) := by decide +kernel
theorem dX10_flat_42 : decode cX10_flat 42 = .ok (.bipush (-100), 2) := by decide +kernel
theorem dX10_flat_44 : decode cX10_flat 44 = .ok (.ireturn, 1) := by decide +kernel
theorem dX10_flat_45 : decode cX10_flat 45 = .ok (.aload_n 0, 1) := by decide +kernel
theorem dX10_flat_46 : decode cX10_flat 46 = .ok (.getfield 92, 3) := by decide +kernel
theorem dX10_flat_49 : decode cX10_flat 49 = .ok (.astore_n 2, 1) := by decide +kernel
theorem dX10_flat_50 : decode cX10_flat 50 = .ok (.aload_n 0, 1) := by decide +kernel
theorem dX10_flat_51 : decode cX10_flat 51 = .ok (.aload_n 0, 1) := by decide +kernel
theorem dX10_flat_52 : decode cX10_flat 52 = .ok (.getfield 96, 3) := by decide +kernel
theorem dX10_flat_55 : decode cX10_flat 55 = .ok (.putfield 92, 3) := by decide +kernel
theorem dX10_flat_58 : decode cX10_flat 58 = .ok (.aload_n 0, 1) := by decide +kernel
theorem dX10_flat_59 : decode cX10_flat 59 = .ok (.aload_n 2, 1) := by decide +kernel
theorem dX10_flat_60 : decode cX10_flat 60 = .ok (.putfield 96, 3) := by decide +kernel
theorem dX10_flat_63 : decode cX10_flat 63 = .ok (.aload_n 0, 1) := by decide +kernel
theorem dX10_flat_64 : decode cX10_flat 64 = .ok (.getfield 61, 3) := by decide +kernel
theorem dX10_flat_67 : decode cX10_flat 67 = .ok (.aload_n 0, 1) := by decide +kernel
theorem dX10_flat_68 : decode cX10_flat 68 = .ok (.getfield 92, 3) := by decide +kernel
theorem dX10_flat_71 : decode cX10_flat 71 = .ok (.invokevirtual 132, 3) := by decide +kernel
theorem dX10_flat_74 : decode cX10_flat 74 = .ok (.invokevirtual 135, 3) := by decide +kernel
theorem dX10_flat_77 : decode cX10_flat 77 = .ok (.aload_n 0, 1) := by decide +kernel
theorem dX10_flat_78 : decode cX10_flat 78 = .ok (.getfield 47, 3) := by decide +kernel
theorem dX10_flat_81 : decode cX10_flat 81 = .ok (.invokevirtual 139, 3) := by decide +kernel
theorem dX10_flat_84 : decode cX10_flat 84 = .ok (.aload_n 0, 1) := by decide +kernel
theorem dX10_flat_85 : decode cX10_flat 85 = .ok (.getfield 33, 3) := by decide +kernel
theorem dX10_flat_88 : decode cX10_flat 88 = .ok (.invokevirtual 142, 3) := by decide +kernel
theorem dX10_flat_91 : decode cX10_flat 91 = .ok (.aload_n 0, 1) := by decide +kernel
theorem dX10_flat_92 : decode cX10_flat 92 = .ok (.iconst 0, 1) := by decide +kernel
theorem dX10_flat_93 : decode cX10_flat 93 = .ok (.putfield 109, 3) := by decide +kernel
theorem dX10_flat_96 : decode cX10_flat 96 = .ok (.aload_n 0, 1) := by decide +kernel
theorem dX10_flat_97 : decode cX10_flat 97 = .ok (.getfield 92, 3) := by decide +kernel
theorem dX10_flat_100 : decode cX10_flat 100 = .ok (.getfield 128, 3) := by decide +kernel
theorem dX10_flat_103 : decode cX10_flat 103 = .ok (.invokestatic 143, 3) := by decide +kernel
theorem dX10_flat_106 : decode cX10_flat 106 = .ok (.ireturn, 1) := by decide +kernel
theorem dX10_rule_0 : decode cX10_rule 0 = .ok (.aload_n 0, 1) := by decide +kernel
theorem dX10_rule_1 : decode cX10_rule 1 = .ok (.getfield 26, 3) := by decide +kernel
theorem dX10_rule_4 : decode cX10_rule 4 = .ok (.aload_n 0, 1) := by decide +kernel
theorem dX10_rule_5 : decode cX10_rule 5 = .ok (.getfield 12, 3) := by decide +kernel
theorem dX10_rule_8 : decode cX10_rule 8 = .ok (.aload_n 0, 1) := by decide +kernel
theorem dX10_rule_9 : decode cX10_rule 9 = .ok (.getfield 106, 3) := by decide +kernel
theorem dX10_rule_12 : decode cX10_rule 12 = .ok (.invokevirtual 149, 3) := by decide +kernel
theorem dX10_rule_15 : decode cX10_rule 15 = .ok (.istore_n 1, 1) := by decide +kernel
theorem dX10_rule_16 : decode cX10_rule 16 = .ok (.aload_n 0, 1) := by decide +kernel
theorem dX10_rule_17 : decode cX10_rule 17 = .ok (.getfield 12, 3) := by decide +kernel
theorem dX10_rule_20 : decode cX10_rule 20 = .ok (.iconst 0, 1) := by decide +kernel
theorem dX10_rule_21 : decode cX10_rule 21 = .ok (.invokevirtual 121, 3) := by decide +kernel
theorem dX10_rule_24 : decode cX10_rule 24 = .ok (.pop, 1) := by decide +kernel
theorem dX10_rule_25 : decode cX10_rule 25 = .ok (.iload_n 1, 1) := by decide +kernel
theorem dX10_rule_26 : decode cX10_rule 26 = .ok (.iconst (-1), 1) := by decide +kernel
theorem dX10_rule_27 : decode cX10_rule 27 = .ok (.if_icmp .eq 7, 3) := by decide +kernel
theorem dX10_rule_30 : decode cX10_rule 30 = .ok (.iconst (-1), 1) := by decide +kernel
theorem dX10_rule_31 : decode cX10_rule 31 = .ok (.iload_n 1, 1) := by decide +kernel
theorem dX10_rule_32 : decode cX10_rule 32 = .ok (.isub, 1) := by decide +kernel
theorem dX10_rule_33 : decode cX10_rule 33 = .ok (.ireturn, 1) := by decide +kernel
theorem dX10_rule_34 : decode cX10_rule 34 = .ok (.aload_n 0, 1) := by decide +kernel
theorem dX10_rule_35 : decode cX10_rule 35 = .ok (.getfield 102, 3) := by decide +kernel
theorem dX10_rule_38 : decode cX10_rule 38 = .ok (.astore_n 2, 1) := by decide +kernel
theorem dX10_rule_39 : decode cX10_rule 39 = .ok (.aload_n 0, 1) := by decide +kernel
theorem dX10_rule_40 : decode cX10_rule 40 = .ok (.aload_n 0, 1) := by decide +kernel
theorem dX10_rule_41 : decode cX10_rule 41 = .ok (.getfield 106, 3) := by decide +kernel
theorem dX10_rule_44 : decode cX10_rule 44 = .ok (.putfield 102, 3) := by decide +kernel
theorem dX10_rule_47 : decode cX10_rule 47 = .ok (.aload_n 0, 1) := by decide +kernel
theorem dX10_rule_48 : decode cX10_rule 48 = .ok (.aload_n 2, 1) := by decide +kernel
theorem dX10_rule_49 : decode cX10_rule 49 = .ok (.putfield 106, 3) := by decide +kernel
theorem dX10_rule_52 : decode cX10_rule 52 = .ok (.iconst 0, 1) := by decide +kernel
theorem dX10_rule_53 : decode cX10_rule 53 = .ok (.ireturn, 1) := by decide +kernel
theorem dX10_spot_0 : decode cX10_spot 0 = .ok (.aload_n 0, 1) := by decide +kernel
theorem dX10_spot_1 : decode cX10_spot 1 = .ok (.getfield 92, 3) := by decide +kernel
theorem dX10_spot_4 : decode cX10_spot 4 = .ok (.iload_n 1, 1) := by decide +kernel
theorem dX10_spot_5 : decode cX10_spot 5 = .ok (.invokevirtual 152, 3) := by decide +kernel
theorem dX10_spot_8 : decode cX10_spot 8 = .ok (.ifCond .ne 13, 3) := by decide +kernel
theorem dX10_spot_11 : decode cX10_spot 11 = .ok (.new 155, 3) := by decide +kernel
theorem dX10_spot_14 : decode cX10_spot 14 = .ok (.dup, 1) := by decide +kernel
theorem dX10_spot_15 : decode cX10_spot 15 = .ok (.ldc 157, 2) := by decide +kernel
theorem dX10_spot_17 : decode cX10_spot 17 = .ok (.invokespecial 159, 3) := by decide +kernel
theorem dX10_spot_20 : decode cX10_spot 20 = .ok (.athrow, 1) := by decide +kernel
theorem dX10_spot_21 : decode cX10_spot 21 = .ok (.iload_n 2, 1) := by decide +kernel
theorem dX10_spot_22 : decode cX10_spot 22 = .ok (.tableswitch 123 0 5 #[38, 47, 62, 71, 91, 111], 38) := by decide +kernel
theorem dX10_spot_60 : decode cX10_spot 60 = .ok (.aload_n 0, 1) := by decide +kernel
theorem dX10_spot_61 : decode cX10_spot 61 = .ok (.getfield 92, 3) := by decide +kernel
theorem dX10_spot_64 : decode cX10_spot 64 = .ok (.iload_n 1, 1) := by decide +kernel
theorem dX10_spot_65 : decode cX10_spot 65 = .ok (.invokevirtual 162, 3) := by decide +kernel
theorem dX10_spot_68 : decode cX10_spot 68 = .ok (.ireturn, 1) := by decide +kernel
theorem dX10_spot_69 : decode cX10_spot 69 = .ok (.aload_n 0, 1) := by decide +kernel
theorem dX10_spot_70 : decode cX10_spot 70 = .ok (.getfield 61, 3) := by decide +kernel
theorem dX10_spot_73 : decode cX10_spot 73 = .ok (.getfield 166, 3) := by decide +kernel
theorem dX10_spot_76 : decode cX10_spot 76 = .ok (.iload_n 1, 1) := by decide +kernel
theorem dX10_spot_77 : decode cX10_spot 77 = .ok (.invokestatic 169, 3) := by decide +kernel
theorem dX10_spot_80 : decode cX10_spot 80 = .ok (.invokestatic 173, 3) := by decide +kernel
theorem dX10_spot_83 : decode cX10_spot 83 = .ok (.ireturn, 1) := by decide +kernel
theorem dX10_spot_84 : decode cX10_spot 84 = .ok (.aload_n 0, 1) := by decide +kernel
theorem dX10_spot_85 : decode cX10_spot 85 = .ok (.getfield 61, 3) := by decide +kernel
theorem dX10_spot_88 : decode cX10_spot 88 = .ok (.iload_n 1, 1) := by decide +kernel
theorem dX10_spot_89 : decode cX10_spot 89 = .ok (.invokevirtual 177, 3) := by decide +kernel
theorem dX10_spot_92 : decode cX10_spot 92 = .ok (.ireturn, 1) := by decide +kernel
theorem dX10_spot_93 : decode cX10_spot 93 = .ok (.iload_n 1, 1) := by decide +kernel
theorem dX10_spot_94 : decode cX10_spot 94 = .ok (.aload_n 0, 1) := by decide +kernel
theorem dX10_spot_95 : decode cX10_spot 95 = .ok (.getfield 92, 3) := by decide +kernel
theorem dX10_spot_98 : decode cX10_spot 98 = .ok (.getfield 180, 3) := by decide +kernel
theorem dX10_spot_101 : decode cX10_spot 101 = .ok (.if_icmp .ne 7, 3) := by decide +kernel
theorem dX10_spot_104 : decode cX10_spot 104 = .ok (.iconst 1, 1) := by decide +kernel
theorem dX10_spot_105 : decode cX10_spot 105 = .ok (.goto 4, 3) := by decide +kernel
theorem dX10_spot_108 : decode cX10_spot 108 = .ok (.iconst 0, 1) := by decide +kernel
theorem dX10_spot_109 : decode cX10_spot 109 = .ok (.invokestatic 173, 3) := by decide +kernel
theorem dX10_spot_112 : decode cX10_spot 112 = .ok (.ireturn, 1) := by decide +kernel
theorem dX10_spot_113 : decode cX10_spot 113 = .ok (.iload_n 1, 1) := by decide +kernel
theorem dX10_spot_114 : decode cX10_spot 114 = .ok (.aload_n 0, 1) := by decide +kernel
theorem dX10_spot_115 : decode cX10_spot 115 = .ok (.getfield 61, 3) := by decide +kernel
theorem dX10_spot_118 : decode cX10_spot 118 = .ok (.getfield 183, 3) := by decide +kernel
theorem dX10_spot_121 : decode cX10_spot 121 = .ok (.if_icmp .ne 7, 3) := by decide +kernel
theorem dX10_spot_124 : decode cX10_spot 124 = .ok (.iconst 1, 1) := by decide +kernel
theorem dX10_spot_125 : decode cX10_spot 125 = .ok (.goto 4, 3) := by decide +kernel
theorem dX10_spot_128 : decode cX10_spot 128 = .ok (.iconst 0, 1) := by decide +kernel
theorem dX10_spot_129 : decode cX10_spot 129 = .ok (.invokestatic 173, 3) := by decide +kernel
theorem dX10_spot_132 : decode cX10_spot 132 = .ok (.ireturn, 1) := by decide +kernel
theorem dX10_spot_133 : decode cX10_spot 133 = .ok (.aload_n 0, 1) := by decide +kernel
theorem dX10_spot_134 : decode cX10_spot 134 = .ok (.invokevirtual 186, 3) := by decide +kernel
theorem dX10_spot_137 : decode cX10_spot 137 = .ok (.iload_n 1, 1) := by decide +kernel
theorem dX10_spot_138 : decode cX10_spot 138 = .ok (.invokestatic 169, 3) := by decide +kernel
theorem dX10_spot_141 : decode cX10_spot 141 = .ok (.invokestatic 173, 3) := by decide +kernel
theorem dX10_spot_144 : decode cX10_spot 144 = .ok (.ireturn, 1) := by decide +kernel
theorem dX10_spot_145 : decode cX10_spot 145 = .ok (.new 155, 3) := by decide +kernel
theorem dX10_spot_148 : decode cX10_spot 148 = .ok (.dup, 1) := by decide +kernel
theorem dX10_spot_149 : decode cX10_spot 149 = .ok (.ldc 190, 2) := by decide +kernel
theorem dX10_spot_151 : decode cX10_spot 151 = .ok (.invokespecial 159, 3) := by decide +kernel
theorem dX10_spot_154 : decode cX10_spot 154 = .ok (.athrow, 1) := by decide +kernel
theorem dX10_machine_0 : decode cX10_machine 0 = .ok (.iload_n 1, 1) := by decide +kernel
theorem dX10_machine_1 : decode cX10_machine 1 = .ok (.tableswitch 133 0 7 #[47, 55, 63, 71, 79, 87, 95, 111], 47) := by decide +kernel
theorem dX10_machine_48 : decode cX10_machine 48 = .ok (.aload_n 0, 1) := by decide +kernel
theorem dX10_machine_49 : decode cX10_machine 49 = .ok (.getfield 61, 3) := by decide +kernel
theorem dX10_machine_52 : decode cX10_machine 52 = .ok (.getfield 183, 3) := by decide +kernel
theorem dX10_machine_55 : decode cX10_machine 55 = .ok (.ireturn, 1) := by decide +kernel
theorem dX10_machine_56 : decode cX10_machine 56 = .ok (.aload_n 0, 1) := by decide +kernel
theorem dX10_machine_57 : decode cX10_machine 57 = .ok (.getfield 61, 3) := by decide +kernel
theorem dX10_machine_60 : decode cX10_machine 60 = .ok (.getfield 192, 3) := by decide +kernel
theorem dX10_machine_63 : decode cX10_machine 63 = .ok (.ireturn, 1) := by decide +kernel
theorem dX10_machine_64 : decode cX10_machine 64 = .ok (.aload_n 0, 1) := by decide +kernel
theorem dX10_machine_65 : decode cX10_machine 65 = .ok (.getfield 61, 3) := by decide +kernel
theorem dX10_machine_68 : decode cX10_machine 68 = .ok (.getfield 195, 3) := by decide +kernel
theorem dX10_machine_71 : decode cX10_machine 71 = .ok (.ireturn, 1) := by decide +kernel
theorem dX10_machine_72 : decode cX10_machine 72 = .ok (.aload_n 0, 1) := by decide +kernel
theorem dX10_machine_73 : decode cX10_machine 73 = .ok (.getfield 61, 3) := by decide +kernel
theorem dX10_machine_76 : decode cX10_machine 76 = .ok (.getfield 198, 3) := by decide +kernel
theorem dX10_machine_79 : decode cX10_machine 79 = .ok (.ireturn, 1) := by decide +kernel
theorem dX10_machine_80 : decode cX10_machine 80 = .ok (.aload_n 0, 1) := by decide +kernel
theorem dX10_machine_81 : decode cX10_machine 81 = .ok (.getfield 61, 3) := by decide +kernel
theorem dX10_machine_84 : decode cX10_machine 84 = .ok (.getfield 201, 3) := by decide +kernel
theorem dX10_machine_87 : decode cX10_machine 87 = .ok (.ireturn, 1) := by decide +kernel
theorem dX10_machine_88 : decode cX10_machine 88 = .ok (.aload_n 0, 1) := by decide +kernel
theorem dX10_machine_89 : decode cX10_machine 89 = .ok (.getfield 61, 3) := by decide +kernel
theorem dX10_machine_92 : decode cX10_machine 92 = .ok (.getfield 204, 3) := by decide +kernel
theorem dX10_machine_95 : decode cX10_machine 95 = .ok (.ireturn, 1) := by decide +kernel
theorem dX10_machine_96 : decode cX10_machine 96 = .ok (.aload_n 0, 1) := by decide +kernel
theorem dX10_machine_97 : decode cX10_machine 97 = .ok (.getfield 102, 3) := by decide +kernel
theorem dX10_machine_100 : decode cX10_machine 100 = .ok (.aload_n 0, 1) := by decide +kernel
theorem dX10_machine_101 : decode cX10_machine 101 = .ok (.getfield 61, 3) := by decide +kernel
theorem dX10_machine_104 : decode cX10_machine 104 = .ok (.aload_n 0, 1) := by decide +kernel
theorem dX10_machine_105 : decode cX10_machine 105 = .ok (.getfield 92, 3) := by decide +kernel
theorem dX10_machine_108 : decode cX10_machine 108 = .ok (.invokevirtual 207, 3) := by decide +kernel
theorem dX10_machine_111 : decode cX10_machine 111 = .ok (.ireturn, 1) := by decide +kernel
theorem dX10_machine_112 : decode cX10_machine 112 = .ok (.aload_n 0, 1) := by decide +kernel
theorem dX10_machine_113 : decode cX10_machine 113 = .ok (.getfield 92, 3) := by decide +kernel
theorem dX10_machine_116 : decode cX10_machine 116 = .ok (.aload_n 0, 1) := by decide +kernel
theorem dX10_machine_117 : decode cX10_machine 117 = .ok (.getfield 61, 3) := by decide +kernel
theorem dX10_machine_120 : decode cX10_machine 120 = .ok (.getfield 183, 3) := by decide +kernel
theorem dX10_machine_123 : decode cX10_machine 123 = .ok (.aload_n 0, 1) := by decide +kernel
theorem dX10_machine_124 : decode cX10_machine 124 = .ok (.getfield 61, 3) := by decide +kernel
theorem dX10_machine_127 : decode cX10_machine 127 = .ok (.getfield 192, 3) := by decide +kernel
theorem dX10_machine_130 : decode cX10_machine 130 = .ok (.invokevirtual 211, 3) := by decide +kernel
theorem dX10_machine_133 : decode cX10_machine 133 = .ok (.ireturn, 1) := by decide +kernel
theorem dX10_machine_134 : decode cX10_machine 134 = .ok (.new 155, 3) := by decide +kernel
theorem dX10_machine_137 : decode cX10_machine 137 = .ok (.dup, 1) := by decide +kernel
theorem dX10_machine_138 : decode cX10_machine 138 = .ok (.ldc 215, 2) := by decide +kernel
theorem dX10_machine_140 : decode cX10_machine 140 = .ok (.invokespecial 159, 3) := by decide +kernel
theorem dX10_machine_143 : decode cX10_machine 143 = .ok (.athrow, 1) := by decide +kernel
