theorem dX0_init_0 : decode cX0_init 0 = .ok (.aload_n 0, 1) := by decide +kernel
theorem dX0_init_1 : decode cX0_init 1 = .ok (.invokespecial 3, 3) := by decide +kernel
theorem dX0_init_4 : decode cX0_init 4 = .ok (.aload_n 0, 1) := by decide +kernel
theorem dX0_init_5 : decode cX0_init 5 = .ok (.bipush 12, 2) := by decide +kernel
theorem dX0_init_7 : decode cX0_init 7 = .ok (.newarray .int, 2) := by decide +kernel
theorem dX0_init_9 : decode cX0_init 9 = .ok (.putfield 11, 3) := by decide +kernel
theorem dX0_init_12 : decode cX0_init 12 = .ok (.aload_n 0, 1) := by decide +kernel
theorem dX0_init_13 : decode cX0_init 13 = .ok (.iconst 4, 1) := by decide +kernel
theorem dX0_init_14 : decode cX0_init 14 = .ok (.newarray .long, 2) := by decide +kernel
theorem dX0_init_16 : decode cX0_init 16 = .ok (.putfield 15, 3) := by decide +kernel
theorem dX0_init_19 : decode cX0_init 19 = .ok (.aload_n 0, 1) := by decide +kernel
theorem dX0_init_20 : decode cX0_init 20 = .ok (.iconst 0, 1) := by decide +kernel
theorem dX0_init_21 : decode cX0_init 21 = .ok (.putfield 19, 3) := by decide +kernel
theorem dX0_init_24 : decode cX0_init 24 = .ok (.return_, 1) := by decide +kernel
theorem dX0_size_0 : decode cX0_size 0 = .ok (.aload_n 0, 1) := by decide +kernel
theorem dX0_size_1 : decode cX0_size 1 = .ok (.getfield 19, 3) := by decide +kernel
theorem dX0_size_4 : decode cX0_size 4 = .ok (.ireturn, 1) := by decide +kernel
theorem dX0_clear_0 : decode cX0_clear 0 = .ok (.aload_n 0, 1) := by decide +kernel
theorem dX0_clear_1 : decode cX0_clear 1 = .ok (.iconst 0, 1) := by decide +kernel
theorem dX0_clear_2 : decode cX0_clear 2 = .ok (.putfield 19, 3) := by decide +kernel
theorem dX0_clear_5 : decode cX0_clear 5 = .ok (.return_, 1) := by decide +kernel
theorem dX0_add_0 : decode cX0_add 0 = .ok (.aload_n 0, 1) := by decide +kernel
theorem dX0_add_1 : decode cX0_add 1 = .ok (.getfield 19, 3) := by decide +kernel
theorem dX0_add_4 : decode cX0_add 4 = .ok (.ifCond .lt 12, 3) := by decide +kernel
theorem dX0_add_7 : decode cX0_add 7 = .ok (.aload_n 0, 1) := by decide +kernel
theorem dX0_add_8 : decode cX0_add 8 = .ok (.getfield 19, 3) := by decide +kernel
theorem dX0_add_11 : decode cX0_add 11 = .ok (.bipush 12, 2) := by decide +kernel
theorem dX0_add_13 : decode cX0_add 13 = .ok (.if_icmp .lt 5, 3) := by decide +kernel
theorem dX0_add_16 : decode cX0_add 16 = .ok (.iconst 0, 1) := by decide +kernel
theorem dX0_add_17 : decode cX0_add 17 = .ok (.ireturn, 1) := by decide +kernel
theorem dX0_add_18 : decode cX0_add 18 = .ok (.aload_n 0, 1) := by decide +kernel
theorem dX0_add_19 : decode cX0_add 19 = .ok (.getfield 11, 3) := by decide +kernel
theorem dX0_add_22 : decode cX0_add 22 = .ok (.aload_n 0, 1) := by decide +kernel
theorem dX0_add_23 : decode cX0_add 23 = .ok (.getfield 19, 3) := by decide +kernel
theorem dX0_add_26 : decode cX0_add 26 = .ok (.iload_n 1, 1) := by decide +kernel
theorem dX0_add_27 : decode cX0_add 27 = .ok (.iastore, 1) := by decide +kernel
theorem dX0_add_28 : decode cX0_add 28 = .ok (.aload_n 0, 1) := by decide +kernel
theorem dX0_add_29 : decode cX0_add 29 = .ok (.dup, 1) := by decide +kernel
theorem dX0_add_30 : decode cX0_add 30 = .ok (.getfield 19, 3) := by decide +kernel
theorem dX0_add_33 : decode cX0_add 33 = .ok (.iconst 1, 1) := by decide +kernel
theorem dX0_add_34 : decode cX0_add 34 = .ok (.iadd, 1) := by decide +kernel
theorem dX0_add_35 : decode cX0_add 35 = .ok (.putfield 19, 3) := by decide +kernel
theorem dX0_add_38 : decode cX0_add 38 = .ok (.iconst 1, 1) := by decide +kernel
theorem dX0_add_39 : decode cX0_add 39 = .ok (.ireturn, 1) := by decide +kernel
theorem dX0_find_0 : decode cX0_find 0 = .ok (.aload_n 0, 1) := by decide +kernel
theorem dX0_find_1 : decode cX0_find 1 = .ok (.getfield 15, 3) := by decide +kernel
theorem dX0_find_4 : decode cX0_find 4 = .ok (.lload_n 2, 1) := by decide +kernel
theorem dX0_find_5 : decode cX0_find 5 = .ok (.invokestatic 23, 3) := by decide +kernel
theorem dX0_find_8 : decode cX0_find 8 = .ok (.iconst 0, 1) := by decide +kernel
theorem dX0_find_9 : decode cX0_find 9 = .ok (.istore 4, 2) := by decide +kernel
theorem dX0_find_11 : decode cX0_find 11 = .ok (.iload 4, 2) := by decide +kernel
theorem dX0_find_13 : decode cX0_find 13 = .ok (.aload_n 0, 1) := by decide +kernel
theorem dX0_find_14 : decode cX0_find 14 = .ok (.getfield 19, 3) := by decide +kernel
theorem dX0_find_17 : decode cX0_find 17 = .ok (.if_icmp .ge 66, 3) := by decide +kernel
theorem dX0_find_20 : decode cX0_find 20 = .ok (.iload 4, 2) := by decide +kernel
theorem dX0_find_22 : decode cX0_find 22 = .ok (.bipush 12, 2) := by decide +kernel
theorem dX0_find_24 : decode cX0_find 24 = .ok (.if_icmp .ge 59, 3) := by decide +kernel
theorem dX0_find_27 : decode cX0_find 27 = .ok (.aload_n 0, 1) := by decide +kernel
theorem dX0_find_28 : decode cX0_find 28 = .ok (.getfield 11, 3) := by decide +kernel
theorem dX0_find_31 : decode cX0_find 31 = .ok (.iload 4, 2) := by decide +kernel
theorem dX0_find_33 : decode cX0_find 33 = .ok (.iaload, 1) := by decide +kernel
theorem dX0_find_34 : decode cX0_find 34 = .ok (.ifCond .ne 12, 3) := by decide +kernel
theorem dX0_find_37 : decode cX0_find 37 = .ok (.aload_n 0, 1) := by decide +kernel
theorem dX0_find_38 : decode cX0_find 38 = .ok (.aload_n 1, 1) := by decide +kernel
theorem dX0_find_39 : decode cX0_find 39 = .ok (.lload_n 2, 1) := by decide +kernel
theorem dX0_find_40 : decode cX0_find 40 = .ok (.invokevirtual 29, 3) := by decide +kernel
theorem dX0_find_43 : decode cX0_find 43 = .ok (.goto 34, 3) := by decide +kernel
theorem dX0_find_46 : decode cX0_find 46 = .ok (.aload_n 0, 1) := by decide +kernel
theorem dX0_find_47 : decode cX0_find 47 = .ok (.getfield 11, 3) := by decide +kernel
theorem dX0_find_50 : decode cX0_find 50 = .ok (.iload 4, 2) := by decide +kernel
theorem dX0_find_52 : decode cX0_find 52 = .ok (.iaload, 1) := by decide +kernel
theorem dX0_find_53 : decode cX0_find 53 = .ok (.iconst 4, 1) := by decide +kernel
theorem dX0_find_54 : decode cX0_find 54 = .ok (.if_icmp .ne 12, 3) := by decide +kernel
theorem dX0_find_57 : decode cX0_find 57 = .ok (.aload_n 0, 1) := by decide +kernel
theorem dX0_find_58 : decode cX0_find 58 = .ok (.aload_n 1, 1) := by decide +kernel
theorem dX0_find_59 : decode cX0_find 59 = .ok (.lload_n 2, 1) := by decide +kernel
theorem dX0_find_60 : decode cX0_find 60 = .ok (.invokevirtual 33, 3) := by decide +kernel
theorem dX0_find_63 : decode cX0_find 63 = .ok (.goto 14, 3) := by decide +kernel
theorem dX0_find_66 : decode cX0_find 66 = .ok (.aload_n 0, 1) := by decide +kernel
theorem dX0_find_67 : decode cX0_find 67 = .ok (.aload_n 0, 1) := by decide +kernel
theorem dX0_find_68 : decode cX0_find 68 = .ok (.getfield 11, 3) := by decide +kernel
theorem dX0_find_71 : decode cX0_find 71 = .ok (.iload 4, 2) := by decide +kernel
theorem dX0_find_73 : decode cX0_find 73 = .ok (.iaload, 1) := by decide +kernel
theorem dX0_find_74 : decode cX0_find 74 = .ok (.invokevirtual 36, 3) := by decide +kernel
theorem dX0_find_77 : decode cX0_find 77 = .ok (.iinc 4 1, 3) := by decide +kernel
theorem dX0_find_80 : decode cX0_find 80 = .ok (.goto (-69), 3) := by decide +kernel
theorem dX0_find_83 : decode cX0_find 83 = .ok (.return_, 1) := by decide +kernel
theorem dX0_goOnAll_0 : decode cX0_goOnAll 0 = .ok (.iconst 0, 1) := by decide +kernel
theorem dX0_goOnAll_1 : decode cX0_goOnAll 1 = .ok (.istore 4, 2) := by decide +kernel
theorem dX0_goOnAll_3 : decode cX0_goOnAll 3 = .ok (.iload 4, 2) := by decide +kernel
theorem dX0_goOnAll_5 : decode cX0_goOnAll 5 = .ok (.iconst 4, 1) := by decide +kernel
theorem dX0_goOnAll_6 : decode cX0_goOnAll 6 = .ok (.if_icmp .ge 31, 3) := by decide +kernel
theorem dX0_goOnAll_9 : decode cX0_goOnAll 9 = .ok (.aload_n 0, 1) := by decide +kernel
theorem dX0_goOnAll_10 : decode cX0_goOnAll 10 = .ok (.getfield 15, 3) := by decide +kernel
theorem dX0_goOnAll_13 : decode cX0_goOnAll 13 = .ok (.iload 4, 2) := by decide +kernel
theorem dX0_goOnAll_15 : decode cX0_goOnAll 15 = .ok (.aload_n 1, 1) := by decide +kernel
theorem dX0_goOnAll_16 : decode cX0_goOnAll 16 = .ok (.aload_n 0, 1) := by decide +kernel
theorem dX0_goOnAll_17 : decode cX0_goOnAll 17 = .ok (.getfield 15, 3) := by decide +kernel
theorem dX0_goOnAll_20 : decode cX0_goOnAll 20 = .ok (.iload 4, 2) := by decide +kernel
theorem dX0_goOnAll_22 : decode cX0_goOnAll 22 = .ok (.laload, 1) := by decide +kernel
theorem dX0_goOnAll_23 : decode cX0_goOnAll 23 = .ok (.iload 4, 2) := by decide +kernel
theorem dX0_goOnAll_25 : decode cX0_goOnAll 25 = .ok (.invokevirtual 40, 3) := by decide +kernel
theorem dX0_goOnAll_28 : decode cX0_goOnAll 28 = .ok (.lload_n 2, 1) := by decide +kernel
theorem dX0_goOnAll_29 : decode cX0_goOnAll 29 = .ok (.land, 1) := by decide +kernel
theorem dX0_goOnAll_30 : decode cX0_goOnAll 30 = .ok (.lastore, 1) := by decide +kernel
theorem dX0_goOnAll_31 : decode cX0_goOnAll 31 = .ok (.iinc 4 1, 3) := by decide +kernel
theorem dX0_goOnAll_34 : decode cX0_goOnAll 34 = .ok (.goto (-31), 3) := by decide +kernel
theorem dX0_goOnAll_37 : decode cX0_goOnAll 37 = .ok (.return_, 1) := by decide +kernel
theorem dX0_strikeAll_0 : decode cX0_strikeAll 0 = .ok (.iconst 0, 1) := by decide +kernel
theorem dX0_strikeAll_1 : decode cX0_strikeAll 1 = .ok (.istore 4, 2) := by decide +kernel
theorem dX0_strikeAll_3 : decode cX0_strikeAll 3 = .ok (.iload 4, 2) := by decide +kernel
theorem dX0_strikeAll_5 : decode cX0_strikeAll 5 = .ok (.iconst 4, 1) := by decide +kernel
theorem dX0_strikeAll_6 : decode cX0_strikeAll 6 = .ok (.if_icmp .ge 30, 3) := by decide +kernel
theorem dX0_strikeAll_9 : decode cX0_strikeAll 9 = .ok (.aload_n 0, 1) := by decide +kernel
theorem dX0_strikeAll_10 : decode cX0_strikeAll 10 = .ok (.getfield 15, 3) := by decide +kernel
theorem dX0_strikeAll_13 : decode cX0_strikeAll 13 = .ok (.iload 4, 2) := by decide +kernel
theorem dX0_strikeAll_15 : decode cX0_strikeAll 15 = .ok (.dup2, 1) := by decide +kernel
theorem dX0_strikeAll_16 : decode cX0_strikeAll 16 = .ok (.laload, 1) := by decide +kernel
theorem dX0_strikeAll_17 : decode cX0_strikeAll 17 = .ok (.aload_n 1, 1) := by decide +kernel
theorem dX0_strikeAll_18 : decode cX0_strikeAll 18 = .ok (.lload_n 2, 1) := by decide +kernel
theorem dX0_strikeAll_19 : decode cX0_strikeAll 19 = .ok (.iload 4, 2) := by decide +kernel
theorem dX0_strikeAll_21 : decode cX0_strikeAll 21 = .ok (.invokestatic 46, 3) := by decide +kernel
theorem dX0_strikeAll_24 : decode cX0_strikeAll 24 = .ok (.ldc2_w 50, 3) := by decide +kernel
theorem dX0_strikeAll_27 : decode cX0_strikeAll 27 = .ok (.lxor, 1) := by decide +kernel
theorem dX0_strikeAll_28 : decode cX0_strikeAll 28 = .ok (.land, 1) := by decide +kernel
theorem dX0_strikeAll_29 : decode cX0_strikeAll 29 = .ok (.lastore, 1) := by decide +kernel
theorem dX0_strikeAll_30 : decode cX0_strikeAll 30 = .ok (.iinc 4 1, 3) := by decide +kernel
theorem dX0_strikeAll_33 : decode cX0_strikeAll 33 = .ok (.goto (-30), 3) := by decide +kernel
theorem dX0_strikeAll_36 : decode cX0_strikeAll 36 = .ok (.return_, 1) := by decide +kernel
theorem dX0_swingAll_0 : decode cX0_swingAll 0 = .ok (.iconst 0, 1) := by decide +kernel
theorem dX0_swingAll_1 : decode cX0_swingAll 1 = .ok (.istore_n 2, 1) := by decide +kernel
theorem dX0_swingAll_2 : decode cX0_swingAll 2 = .ok (.iload_n 2, 1) := by decide +kernel
theorem dX0_swingAll_3 : decode cX0_swingAll 3 = .ok (.iload_n 1, 1) := by decide +kernel
theorem dX0_swingAll_4 : decode cX0_swingAll 4 = .ok (.if_icmp .ge 59, 3) := by decide +kernel
theorem dX0_swingAll_7 : decode cX0_swingAll 7 = .ok (.aload_n 0, 1) := by decide +kernel
theorem dX0_swingAll_8 : decode cX0_swingAll 8 = .ok (.getfield 15, 3) := by decide +kernel
theorem dX0_swingAll_11 : decode cX0_swingAll 11 = .ok (.iconst 3, 1) := by decide +kernel
theorem dX0_swingAll_12 : decode cX0_swingAll 12 = .ok (.laload, 1) := by decide +kernel
theorem dX0_swingAll_13 : decode cX0_swingAll 13 = .ok (.lstore_n 3, 1) := by decide +kernel
theorem dX0_swingAll_14 : decode cX0_swingAll 14 = .ok (.aload_n 0, 1) := by decide +kernel
theorem dX0_swingAll_15 : decode cX0_swingAll 15 = .ok (.getfield 15, 3) := by decide +kernel
theorem dX0_swingAll_18 : decode cX0_swingAll 18 = .ok (.iconst 3, 1) := by decide +kernel
theorem dX0_swingAll_19 : decode cX0_swingAll 19 = .ok (.aload_n 0, 1) := by decide +kernel
theorem dX0_swingAll_20 : decode cX0_swingAll 20 = .ok (.getfield 15, 3) := by decide +kernel
theorem dX0_swingAll_23 : decode cX0_swingAll 23 = .ok (.iconst 2, 1) := by decide +kernel
theorem dX0_swingAll_24 : decode cX0_swingAll 24 = .ok (.laload, 1) := by decide +kernel
theorem dX0_swingAll_25 : decode cX0_swingAll 25 = .ok (.lastore, 1) := by decide +kernel
theorem dX0_swingAll_26 : decode cX0_swingAll 26 = .ok (.aload_n 0, 1) := by decide +kernel
theorem dX0_swingAll_27 : decode cX0_swingAll 27 = .ok (.getfield 15, 3) := by decide +kernel
theorem dX0_swingAll_30 : decode cX0_swingAll 30 = .ok (.iconst 2, 1) := by decide +kernel
theorem dX0_swingAll_31 : decode cX0_swingAll 31 = .ok (.aload_n 0, 1) := by decide +kernel
theorem dX0_swingAll_32 : decode cX0_swingAll 32 = .ok (.getfield 15, 3) := by decide +kernel
theorem dX0_swingAll_35 : decode cX0_swingAll 35 = .ok (.iconst 1, 1) := by decide +kernel
theorem dX0_swingAll_36 : decode cX0_swingAll 36 = .ok (.laload, 1) := by decide +kernel
theorem dX0_swingAll_37 : decode cX0_swingAll 37 = .ok (.lastore, 1) := by decide +kernel
theorem dX0_swingAll_38 : decode cX0_swingAll 38 = .ok (.aload_n 0, 1) := by decide +kernel
theorem dX0_swingAll_39 : decode cX0_swingAll 39 = .ok (.getfield 15, 3) := by decide +kernel
theorem dX0_swingAll_42 : decode cX0_swingAll 42 = .ok (.iconst 1, 1) := by decide +kernel
theorem dX0_swingAll_43 : decode cX0_swingAll 43 = .ok (.aload_n 0, 1) := by decide +kernel
theorem dX0_swingAll_44 : decode cX0_swingAll 44 = .ok (.getfield 15, 3) := by decide +kernel
theorem dX0_swingAll_47 : decode cX0_swingAll 47 = .ok (.iconst 0, 1) := by decide +kernel
theorem dX0_swingAll_48 : decode cX0_swingAll 48 = .ok (.laload, 1) := by decide +kernel
theorem dX0_swingAll_49 : decode cX0_swingAll 49 = .ok (.lastore, 1) := by decide +kernel
theorem dX0_swingAll_50 : decode cX0_swingAll 50 = .ok (.aload_n 0, 1) := by decide +kernel
theorem dX0_swingAll_51 : decode cX0_swingAll 51 = .ok (.getfield 15, 3) := by decide +kernel
theorem dX0_swingAll_54 : decode cX0_swingAll 54 = .ok (.iconst 0, 1) := by decide +kernel
theorem dX0_swingAll_55 : decode cX0_swingAll 55 = .ok (.lload_n 3, 1) := by decide +kernel
theorem dX0_swingAll_56 : decode cX0_swingAll 56 = .ok (.lastore, 1) := by decide +kernel
theorem dX0_swingAll_57 : decode cX0_swingAll 57 = .ok (.iinc 2 1, 3) := by decide +kernel
theorem dX0_swingAll_60 : decode cX0_swingAll 60 = .ok (.goto (-58), 3) := by decide +kernel
theorem dX0_swingAll_63 : decode cX0_swingAll 63 = .ok (.return_, 1) := by decide +kernel
theorem dX0_canGo_0 : decode cX0_canGo 0 = .ok (.aload_n 0, 1) := by decide +kernel
theorem dX0_canGo_1 : decode cX0_canGo 1 = .ok (.lload_n 1, 1) := by decide +kernel
theorem dX0_canGo_2 : decode cX0_canGo 2 = .ok (.iload_n 3, 1) := by decide +kernel
theorem dX0_canGo_3 : decode cX0_canGo 3 = .ok (.iconst 2, 1) := by decide +kernel
theorem dX0_canGo_4 : decode cX0_canGo 4 = .ok (.iadd, 1) := by decide +kernel
theorem dX0_canGo_5 : decode cX0_canGo 5 = .ok (.iconst 3, 1) := by decide +kernel
theorem dX0_canGo_6 : decode cX0_canGo 6 = .ok (.iand, 1) := by decide +kernel
theorem dX0_canGo_7 : decode cX0_canGo 7 = .ok (.invokevirtual 40, 3) := by decide +kernel
theorem dX0_canGo_10 : decode cX0_canGo 10 = .ok (.lreturn, 1) := by decide +kernel
theorem dX0_places_0 : decode cX0_places 0 = .ok (.iconst 0, 1) := by decide +kernel
theorem dX0_places_1 : decode cX0_places 1 = .ok (.istore_n 1, 1) := by decide +kernel
theorem dX0_places_2 : decode cX0_places 2 = .ok (.iconst 0, 1) := by decide +kernel
theorem dX0_places_3 : decode cX0_places 3 = .ok (.istore_n 2, 1) := by decide +kernel
theorem dX0_places_4 : decode cX0_places 4 = .ok (.iload_n 2, 1) := by decide +kernel
theorem dX0_places_5 : decode cX0_places 5 = .ok (.iconst 4, 1) := by decide +kernel
theorem dX0_places_6 : decode cX0_places 6 = .ok (.if_icmp .ge 21, 3) := by decide +kernel
theorem dX0_places_9 : decode cX0_places 9 = .ok (.iload_n 1, 1) := by decide +kernel
theorem dX0_places_10 : decode cX0_places 10 = .ok (.aload_n 0, 1) := by decide +kernel
theorem dX0_places_11 : decode cX0_places 11 = .ok (.getfield 15, 3) := by decide +kernel
theorem dX0_places_14 : decode cX0_places 14 = .ok (.iload_n 2, 1) := by decide +kernel
theorem dX0_places_15 : decode cX0_places 15 = .ok (.laload, 1) := by decide +kernel
theorem dX0_places_16 : decode cX0_places 16 = .ok (.invokestatic 52, 3) := by decide +kernel
theorem dX0_places_19 : decode cX0_places 19 = .ok (.iadd, 1) := by decide +kernel
theorem dX0_places_20 : decode cX0_places 20 = .ok (.istore_n 1, 1) := by decide +kernel
theorem dX0_places_21 : decode cX0_places 21 = .ok (.iinc 2 1, 3) := by decide +kernel
theorem dX0_places_24 : decode cX0_places 24 = .ok (.goto (-20), 3) := by decide +kernel
theorem dX0_places_27 : decode cX0_places 27 = .ok (.iload_n 1, 1) := by decide +kernel
theorem dX0_places_28 : decode cX0_places 28 = .ok (.ireturn, 1) := by decide +kernel
theorem dX0_spots_0 : decode cX0_spots 0 = .ok (.aload_n 0, 1) := by decide +kernel
theorem dX0_spots_1 : decode cX0_spots 1 = .ok (.getfield 15, 3) := by decide +kernel
theorem dX0_spots_4 : decode cX0_spots 4 = .ok (.iconst 0, 1) := by decide +kernel
theorem dX0_spots_5 : decode cX0_spots 5 = .ok (.laload, 1) := by decide +kernel
theorem dX0_spots_6 : decode cX0_spots 6 = .ok (.aload_n 0, 1) := by decide +kernel
theorem dX0_spots_7 : decode cX0_spots 7 = .ok (.getfield 15, 3) := by decide +kernel
theorem dX0_spots_10 : decode cX0_spots 10 = .ok (.iconst 1, 1) := by decide +kernel
theorem dX0_spots_11 : decode cX0_spots 11 = .ok (.laload, 1) := by decide +kernel
theorem dX0_spots_12 : decode cX0_spots 12 = .ok (.lor, 1) := by decide +kernel
theorem dX0_spots_13 : decode cX0_spots 13 = .ok (.aload_n 0, 1) := by decide +kernel
theorem dX0_spots_14 : decode cX0_spots 14 = .ok (.getfield 15, 3) := by decide +kernel
theorem dX0_spots_17 : decode cX0_spots 17 = .ok (.iconst 2, 1) := by decide +kernel
theorem dX0_spots_18 : decode cX0_spots 18 = .ok (.laload, 1) := by decide +kernel
theorem dX0_spots_19 : decode cX0_spots 19 = .ok (.lor, 1) := by decide +kernel
theorem dX0_spots_20 : decode cX0_spots 20 = .ok (.aload_n 0, 1) := by decide +kernel
theorem dX0_spots_21 : decode cX0_spots 21 = .ok (.getfield 15, 3) := by decide +kernel
theorem dX0_spots_24 : decode cX0_spots 24 = .ok (.iconst 3, 1) := by decide +kernel
theorem dX0_spots_25 : decode cX0_spots 25 = .ok (.laload, 1) := by decide +kernel
theorem dX0_spots_26 : decode cX0_spots 26 = .ok (.lor, 1) := by decide +kernel
theorem dX0_spots_27 : decode cX0_spots 27 = .ok (.lreturn, 1) := by decide +kernel
theorem dX0_strikes_0 : decode cX0_strikes 0 = .ok (.iconst 0, 1) := by decide +kernel
theorem dX0_strikes_1 : decode cX0_strikes 1 = .ok (.istore 5, 2) := by decide +kernel
theorem dX0_strikes_3 : decode cX0_strikes 3 = .ok (.iconst 0, 1) := by decide +kernel
theorem dX0_strikes_4 : decode cX0_strikes 4 = .ok (.istore 6, 2) := by decide +kernel
theorem dX0_strikes_6 : decode cX0_strikes 6 = .ok (.iload 6, 2) := by decide +kernel
theorem dX0_strikes_8 : decode cX0_strikes 8 = .ok (.iconst 4, 1) := by decide +kernel
theorem dX0_strikes_9 : decode cX0_strikes 9 = .ok (.if_icmp .ge 41, 3) := by decide +kernel
theorem dX0_strikes_12 : decode cX0_strikes 12 = .ok (.iload 5, 2) := by decide +kernel
theorem dX0_strikes_14 : decode cX0_strikes 14 = .ok (.aload_n 0, 1) := by decide +kernel
theorem dX0_strikes_15 : decode cX0_strikes 15 = .ok (.getfield 15, 3) := by decide +kernel
theorem dX0_strikes_18 : decode cX0_strikes 18 = .ok (.iload 6, 2) := by decide +kernel
theorem dX0_strikes_20 : decode cX0_strikes 20 = .ok (.laload, 1) := by decide +kernel
theorem dX0_strikes_21 : decode cX0_strikes 21 = .ok (.aload_n 1, 1) := by decide +kernel
theorem dX0_strikes_22 : decode cX0_strikes 22 = .ok (.lload_n 2, 1) := by decide +kernel
theorem dX0_strikes_23 : decode cX0_strikes 23 = .ok (.iload 6, 2) := by decide +kernel
theorem dX0_strikes_25 : decode cX0_strikes 25 = .ok (.iload 4, 2) := by decide +kernel
theorem dX0_strikes_27 : decode cX0_strikes 27 = .ok (.iadd, 1) := by decide +kernel
theorem dX0_strikes_28 : decode cX0_strikes 28 = .ok (.iconst 3, 1) := by decide +kernel
theorem dX0_strikes_29 : decode cX0_strikes 29 = .ok (.iand, 1) := by decide +kernel
theorem dX0_strikes_30 : decode cX0_strikes 30 = .ok (.invokestatic 46, 3) := by decide +kernel
theorem dX0_strikes_33 : decode cX0_strikes 33 = .ok (.ldc2_w 50, 3) := by decide +kernel
theorem dX0_strikes_36 : decode cX0_strikes 36 = .ok (.lxor, 1) := by decide +kernel
theorem dX0_strikes_37 : decode cX0_strikes 37 = .ok (.land, 1) := by decide +kernel
theorem dX0_strikes_38 : decode cX0_strikes 38 = .ok (.invokestatic 52, 3) := by decide +kernel
theorem dX0_strikes_41 : decode cX0_strikes 41 = .ok (.iadd, 1) := by decide +kernel
theorem dX0_strikes_42 : decode cX0_strikes 42 = .ok (.istore 5, 2) := by decide +kernel
theorem dX0_strikes_44 : decode cX0_strikes 44 = .ok (.iinc 6 1, 3) := by decide +kernel
theorem dX0_strikes_47 : decode cX0_strikes 47 = .ok (.goto (-41), 3) := by decide +kernel
theorem dX0_strikes_50 : decode cX0_strikes 50 = .ok (.iload 5, 2) := by decide +kernel
theorem dX0_strikes_52 : decode cX0_strikes 52 = .ok (.ireturn, 1) := by decide +kernel
theorem dX1_init_0 : decode cX1_init 0 = .ok (.aload_n 0, 1) := by decide +kernel
theorem dX1_init_1 : decode cX1_init 1 = .ok (.invokespecial 1, 3) := by decide +kernel
theorem dX1_init_4 : decode cX1_init 4 = .ok (.aload_n 0, 1) := by decide +kernel
theorem dX1_init_5 : decode cX1_init 5 = .ok (.bipush 15, 2) := by decide +kernel
theorem dX1_init_7 : decode cX1_init 7 = .ok (.anewarray 9, 3) := by decide +kernel
theorem dX1_init_10 : decode cX1_init 10 = .ok (.putfield 11, 3) := by decide +kernel
theorem dX1_init_13 : decode cX1_init 13 = .ok (.aload_n 0, 1) := by decide +kernel
theorem dX1_init_14 : decode cX1_init 14 = .ok (.iconst 0, 1) := by decide +kernel
theorem dX1_init_15 : decode cX1_init 15 = .ok (.putfield 15, 3) := by decide +kernel
theorem dX1_init_18 : decode cX1_init 18 = .ok (.aload_n 0, 1) := by decide +kernel
theorem dX1_init_19 : decode cX1_init 19 = .ok (.iconst 0, 1) := by decide +kernel
theorem dX1_init_20 : decode cX1_init 20 = .ok (.putfield 19, 3) := by decide +kernel
theorem dX1_init_23 : decode cX1_init 23 = .ok (.iconst 0, 1) := by decide +kernel
theorem dX1_init_24 : decode cX1_init 24 = .ok (.istore_n 1, 1) := by decide +kernel
theorem dX1_init_25 : decode cX1_init 25 = .ok (.iload_n 1, 1) := by decide +kernel
theorem dX1_init_26 : decode cX1_init 26 = .ok (.bipush 15, 2) := by decide +kernel
theorem dX1_init_28 : decode cX1_init 28 = .ok (.if_icmp .ge 22, 3) := by decide +kernel
theorem dX1_init_31 : decode cX1_init 31 = .ok (.aload_n 0, 1) := by decide +kernel
theorem dX1_init_32 : decode cX1_init 32 = .ok (.getfield 11, 3) := by decide +kernel
theorem dX1_init_35 : decode cX1_init 35 = .ok (.iload_n 1, 1) := by decide +kernel
theorem dX1_init_36 : decode cX1_init 36 = .ok (.new 9, 3) := by decide +kernel
theorem dX1_init_39 : decode cX1_init 39 = .ok (.dup, 1) := by decide +kernel
theorem dX1_init_40 : decode cX1_init 40 = .ok (.invokespecial 22, 3) := by decide +kernel
theorem dX1_init_43 : decode cX1_init 43 = .ok (.aastore, 1) := by decide +kernel
theorem dX1_init_44 : decode cX1_init 44 = .ok (.iinc 1 1, 3) := by decide +kernel
theorem dX1_init_47 : decode cX1_init 47 = .ok (.goto (-22), 3) := by decide +kernel
theorem dX1_init_50 : decode cX1_init 50 = .ok (.return_, 1) := by decide +kernel
theorem dX1_size_0 : decode cX1_size 0 = .ok (.aload_n 0, 1) := by decide +kernel
theorem dX1_size_1 : decode cX1_size 1 = .ok (.getfield 19, 3) := by decide +kernel
theorem dX1_size_4 : decode cX1_size 4 = .ok (.ireturn, 1) := by decide +kernel
theorem dX1_clear_0 : decode cX1_clear 0 = .ok (.aload_n 0, 1) := by decide +kernel
theorem dX1_clear_1 : decode cX1_clear 1 = .ok (.iconst 0, 1) := by decide +kernel
theorem dX1_clear_2 : decode cX1_clear 2 = .ok (.putfield 19, 3) := by decide +kernel
theorem dX1_clear_5 : decode cX1_clear 5 = .ok (.return_, 1) := by decide +kernel
theorem dX1_push_0 : decode cX1_push 0 = .ok (.aload_n 0, 1) := by decide +kernel
theorem dX1_push_1 : decode cX1_push 1 = .ok (.getfield 15, 3) := by decide +kernel
theorem dX1_push_4 : decode cX1_push 4 = .ok (.ifCond .lt 24, 3) := by decide +kernel
theorem dX1_push_7 : decode cX1_push 7 = .ok (.aload_n 0, 1) := by decide +kernel
theorem dX1_push_8 : decode cX1_push 8 = .ok (.getfield 15, 3) := by decide +kernel
theorem dX1_push_11 : decode cX1_push 11 = .ok (.bipush 15, 2) := by decide +kernel
theorem dX1_push_13 : decode cX1_push 13 = .ok (.if_icmp .ge 15, 3) := by decide +kernel
theorem dX1_push_16 : decode cX1_push 16 = .ok (.aload_n 0, 1) := by decide +kernel
theorem dX1_push_17 : decode cX1_push 17 = .ok (.getfield 11, 3) := by decide +kernel
theorem dX1_push_20 : decode cX1_push 20 = .ok (.aload_n 0, 1) := by decide +kernel
theorem dX1_push_21 : decode cX1_push 21 = .ok (.getfield 15, 3) := by decide +kernel
theorem dX1_push_24 : decode cX1_push 24 = .ok (.aaload, 1) := by decide +kernel
theorem dX1_push_25 : decode cX1_push 25 = .ok (.ifnonnull 4, 3) := by decide +kernel
theorem dX1_push_28 : decode cX1_push 28 = .ok (.return_, 1) := by decide +kernel
theorem dX1_push_29 : decode cX1_push 29 = .ok (.aload_n 0, 1) := by decide +kernel
theorem dX1_push_30 : decode cX1_push 30 = .ok (.getfield 11, 3) := by decide +kernel
theorem dX1_push_33 : decode cX1_push 33 = .ok (.aload_n 0, 1) := by decide +kernel
theorem dX1_push_34 : decode cX1_push 34 = .ok (.getfield 15, 3) := by decide +kernel
theorem dX1_push_37 : decode cX1_push 37 = .ok (.aaload, 1) := by decide +kernel
theorem dX1_push_38 : decode cX1_push 38 = .ok (.aload_n 1, 1) := by decide +kernel
theorem dX1_push_39 : decode cX1_push 39 = .ok (.invokevirtual 23, 3) := by decide +kernel
theorem dX1_push_42 : decode cX1_push 42 = .ok (.aload_n 0, 1) := by decide +kernel
theorem dX1_push_43 : decode cX1_push 43 = .ok (.aload_n 0, 1) := by decide +kernel
theorem dX1_push_44 : decode cX1_push 44 = .ok (.getfield 15, 3) := by decide +kernel
theorem dX1_push_47 : decode cX1_push 47 = .ok (.iconst 1, 1) := by decide +kernel
theorem dX1_push_48 : decode cX1_push 48 = .ok (.iadd, 1) := by decide +kernel
theorem dX1_push_49 : decode cX1_push 49 = .ok (.bipush 15, 2) := by decide +kernel
theorem dX1_push_51 : decode cX1_push 51 = .ok (.if_icmp .ge 12, 3) := by decide +kernel
theorem dX1_push_54 : decode cX1_push 54 = .ok (.aload_n 0, 1) := by decide +kernel
theorem dX1_push_55 : decode cX1_push 55 = .ok (.getfield 15, 3) := by decide +kernel
theorem dX1_push_58 : decode cX1_push 58 = .ok (.iconst 1, 1) := by decide +kernel
theorem dX1_push_59 : decode cX1_push 59 = .ok (.iadd, 1) := by decide +kernel
theorem dX1_push_60 : decode cX1_push 60 = .ok (.goto 4, 3) := by decide +kernel
theorem dX1_push_63 : decode cX1_push 63 = .ok (.iconst 0, 1) := by decide +kernel
theorem dX1_push_64 : decode cX1_push 64 = .ok (.putfield 15, 3) := by decide +kernel
theorem dX1_push_67 : decode cX1_push 67 = .ok (.aload_n 0, 1) := by decide +kernel
theorem dX1_push_68 : decode cX1_push 68 = .ok (.aload_n 0, 1) := by decide +kernel
theorem dX1_push_69 : decode cX1_push 69 = .ok (.getfield 19, 3) := by decide +kernel
theorem dX1_push_72 : decode cX1_push 72 = .ok (.iconst 1, 1) := by decide +kernel
theorem dX1_push_73 : decode cX1_push 73 = .ok (.iadd, 1) := by decide +kernel
theorem dX1_push_74 : decode cX1_push 74 = .ok (.bipush 15, 2) := by decide +kernel
theorem dX1_push_76 : decode cX1_push 76 = .ok (.invokestatic 27, 3) := by decide +kernel
theorem dX1_push_79 : decode cX1_push 79 = .ok (.putfield 19, 3) := by decide +kernel
theorem dX1_push_82 : decode cX1_push 82 = .ok (.return_, 1) := by decide +kernel
theorem dX1_pop_0 : decode cX1_pop 0 = .ok (.aload_n 0, 1) := by decide +kernel
theorem dX1_pop_1 : decode cX1_pop 1 = .ok (.getfield 19, 3) := by decide +kernel
theorem dX1_pop_4 : decode cX1_pop 4 = .ok (.ifCond .gt 5, 3) := by decide +kernel
theorem dX1_pop_7 : decode cX1_pop 7 = .ok (.iconst 0, 1) := by decide +kernel
theorem dX1_pop_8 : decode cX1_pop 8 = .ok (.ireturn, 1) := by decide +kernel
theorem dX1_pop_9 : decode cX1_pop 9 = .ok (.aload_n 0, 1) := by decide +kernel
theorem dX1_pop_10 : decode cX1_pop 10 = .ok (.aload_n 0, 1) := by decide +kernel
theorem dX1_pop_11 : decode cX1_pop 11 = .ok (.getfield 15, 3) := by decide +kernel
theorem dX1_pop_14 : decode cX1_pop 14 = .ok (.ifCond .le 12, 3) := by decide +kernel
theorem dX1_pop_17 : decode cX1_pop 17 = .ok (.aload_n 0, 1) := by decide +kernel
theorem dX1_pop_18 : decode cX1_pop 18 = .ok (.getfield 15, 3) := by decide +kernel
theorem dX1_pop_21 : decode cX1_pop 21 = .ok (.iconst 1, 1) := by decide +kernel
theorem dX1_pop_22 : decode cX1_pop 22 = .ok (.isub, 1) := by decide +kernel
theorem dX1_pop_23 : decode cX1_pop 23 = .ok (.goto 5, 3) := by decide +kernel
theorem dX1_pop_26 : decode cX1_pop 26 = .ok (.bipush 14, 2) := by decide +kernel
theorem dX1_pop_28 : decode cX1_pop 28 = .ok (.putfield 15, 3) := by decide +kernel
theorem dX1_pop_31 : decode cX1_pop 31 = .ok (.aload_n 0, 1) := by decide +kernel
theorem dX1_pop_32 : decode cX1_pop 32 = .ok (.dup, 1) := by decide +kernel
theorem dX1_pop_33 : decode cX1_pop 33 = .ok (.getfield 19, 3) := by decide +kernel
theorem dX1_pop_36 : decode cX1_pop 36 = .ok (.iconst 1, 1) := by decide +kernel
theorem dX1_pop_37 : decode cX1_pop 37 = .ok (.isub, 1) := by decide +kernel
theorem dX1_pop_38 : decode cX1_pop 38 = .ok (.putfield 19, 3) := by decide +kernel
theorem dX1_pop_41 : decode cX1_pop 41 = .ok (.aload_n 0, 1) := by decide +kernel
theorem dX1_pop_42 : decode cX1_pop 42 = .ok (.getfield 15, 3) := by decide +kernel
theorem dX1_pop_45 : decode cX1_pop 45 = .ok (.bipush 15, 2) := by decide +kernel
theorem dX1_pop_47 : decode cX1_pop 47 = .ok (.if_icmp .ge 16, 3) := by decide +kernel
theorem dX1_pop_50 : decode cX1_pop 50 = .ok (.aload_n 1, 1) := by decide +kernel
theorem dX1_pop_51 : decode cX1_pop 51 = .ok (.aload_n 0, 1) := by decide +kernel
theorem dX1_pop_52 : decode cX1_pop 52 = .ok (.getfield 11, 3) := by decide +kernel
theorem dX1_pop_55 : decode cX1_pop 55 = .ok (.aload_n 0, 1) := by decide +kernel
theorem dX1_pop_56 : decode cX1_pop 56 = .ok (.getfield 15, 3) := by decide +kernel
theorem dX1_pop_59 : decode cX1_pop 59 = .ok (.aaload, 1) := by decide +kernel
theorem dX1_pop_60 : decode cX1_pop 60 = .ok (.invokevirtual 23, 3) := by decide +kernel
theorem dX1_pop_63 : decode cX1_pop 63 = .ok (.iconst 1, 1) := by decide +kernel
theorem dX1_pop_64 : decode cX1_pop 64 = .ok (.ireturn, 1) := by decide +kernel
theorem dX2_init_0 : decode cX2_init 0 = .ok (.aload_n 0, 1) := by decide +kernel
theorem dX2_init_1 : decode cX2_init 1 = .ok (.invokespecial 3, 3) := by decide +kernel
theorem dX2_init_4 : decode cX2_init 4 = .ok (.aload_n 0, 1) := by decide +kernel
theorem dX2_init_5 : decode cX2_init 5 = .ok (.bipush 36, 2) := by decide +kernel
theorem dX2_init_7 : decode cX2_init 7 = .ok (.newarray .int, 2) := by decide +kernel
theorem dX2_init_9 : decode cX2_init 9 = .ok (.putfield 9, 3) := by decide +kernel
theorem dX2_init_12 : decode cX2_init 12 = .ok (.aload_n 0, 1) := by decide +kernel
theorem dX2_init_13 : decode cX2_init 13 = .ok (.iconst 1, 1) := by decide +kernel
theorem dX2_init_14 : decode cX2_init 14 = .ok (.putfield 15, 3) := by decide +kernel
theorem dX2_init_17 : decode cX2_init 17 = .ok (.aload_n 0, 1) := by decide +kernel
theorem dX2_init_18 : decode cX2_init 18 = .ok (.iconst 1, 1) := by decide +kernel
theorem dX2_init_19 : decode cX2_init 19 = .ok (.putfield 19, 3) := by decide +kernel
theorem dX2_init_22 : decode cX2_init 22 = .ok (.aload_n 0, 1) := by decide +kernel
theorem dX2_init_23 : decode cX2_init 23 = .ok (.iconst (-1), 1) := by decide +kernel
theorem dX2_init_24 : decode cX2_init 24 = .ok (.putfield 22, 3) := by decide +kernel
theorem dX2_init_27 : decode cX2_init 27 = .ok (.aload_n 0, 1) := by decide +kernel
theorem dX2_init_28 : decode cX2_init 28 = .ok (.lconst 1, 1) := by decide +kernel
theorem dX2_init_29 : decode cX2_init 29 = .ok (.putfield 25, 3) := by decide +kernel
theorem dX2_init_32 : decode cX2_init 32 = .ok (.aload_n 0, 1) := by decide +kernel
theorem dX2_init_33 : decode cX2_init 33 = .ok (.lconst 0, 1) := by decide +kernel
theorem dX2_init_34 : decode cX2_init 34 = .ok (.putfield 29, 3) := by decide +kernel
theorem dX2_init_37 : decode cX2_init 37 = .ok (.aload_n 0, 1) := by decide +kernel
theorem dX2_init_38 : decode cX2_init 38 = .ok (.lconst 1, 1) := by decide +kernel
theorem dX2_init_39 : decode cX2_init 39 = .ok (.putfield 32, 3) := by decide +kernel
theorem dX2_init_42 : decode cX2_init 42 = .ok (.aload_n 0, 1) := by decide +kernel
theorem dX2_init_43 : decode cX2_init 43 = .ok (.lconst 1, 1) := by decide +kernel
theorem dX2_init_44 : decode cX2_init 44 = .ok (.putfield 35, 3) := by decide +kernel
theorem dX2_init_47 : decode cX2_init 47 = .ok (.aload_n 0, 1) := by decide +kernel
theorem dX2_init_48 : decode cX2_init 48 = .ok (.getfield 9, 3) := by decide +kernel
theorem dX2_init_51 : decode cX2_init 51 = .ok (.iconst 0, 1) := by decide +kernel
theorem dX2_init_52 : decode cX2_init 52 = .ok (.iconst 1, 1) := by decide +kernel
theorem dX2_init_53 : decode cX2_init 53 = .ok (.iastore, 1) := by decide +kernel
theorem dX2_init_54 : decode cX2_init 54 = .ok (.return_, 1) := by decide +kernel
theorem dX2_read_0 : decode cX2_read 0 = .ok (.iconst 0, 1) := by decide +kernel
theorem dX2_read_1 : decode cX2_read 1 = .ok (.istore_n 2, 1) := by decide +kernel
theorem dX2_read_2 : decode cX2_read 2 = .ok (.iconst 0, 1) := by decide +kernel
theorem dX2_read_3 : decode cX2_read 3 = .ok (.istore_n 3, 1) := by decide +kernel
theorem dX2_read_4 : decode cX2_read 4 = .ok (.aload_n 0, 1) := by decide +kernel
theorem dX2_read_5 : decode cX2_read 5 = .ok (.iconst (-1), 1) := by decide +kernel
theorem dX2_read_6 : decode cX2_read 6 = .ok (.putfield 22, 3) := by decide +kernel
theorem dX2_read_9 : decode cX2_read 9 = .ok (.aload_n 0, 1) := by decide +kernel
theorem dX2_read_10 : decode cX2_read 10 = .ok (.bipush 6, 2) := by decide +kernel
theorem dX2_read_12 : decode cX2_read 12 = .ok (.putfield 19, 3) := by decide +kernel
theorem dX2_read_15 : decode cX2_read 15 = .ok (.iconst 0, 1) := by decide +kernel
theorem dX2_read_16 : decode cX2_read 16 = .ok (.istore 4, 2) := by decide +kernel
theorem dX2_read_18 : decode cX2_read 18 = .ok (.iload 4, 2) := by decide +kernel
theorem dX2_read_20 : decode cX2_read 20 = .ok (.aload_n 1, 1) := by decide +kernel
theorem dX2_read_21 : decode cX2_read 21 = .ok (.invokevirtual 38, 3) := by decide +kernel
theorem dX2_read_24 : decode cX2_read 24 = .ok (.if_icmp .ge 89, 3) := by decide +kernel
theorem dX2_read_27 : decode cX2_read 27 = .ok (.aload_n 1, 1) := by decide +kernel
theorem dX2_read_28 : decode cX2_read 28 = .ok (.iload 4, 2) := by decide +kernel
theorem dX2_read_30 : decode cX2_read 30 = .ok (.invokevirtual 44, 3) := by decide +kernel
theorem dX2_read_33 : decode cX2_read 33 = .ok (.istore 5, 2) := by decide +kernel
theorem dX2_read_35 : decode cX2_read 35 = .ok (.iload 5, 2) := by decide +kernel
theorem dX2_read_37 : decode cX2_read 37 = .ok (.bipush 47, 2) := by decide +kernel
theorem dX2_read_39 : decode cX2_read 39 = .ok (.if_icmp .ne 33, 3) := by decide +kernel
theorem dX2_read_42 : decode cX2_read 42 = .ok (.aload_n 0, 1) := by decide +kernel
theorem dX2_read_43 : decode cX2_read 43 = .ok (.iload_n 2, 1) := by decide +kernel
theorem dX2_read_44 : decode cX2_read 44 = .ok (.iload_n 3, 1) := by decide +kernel
theorem dX2_read_45 : decode cX2_read 45 = .ok (.invokevirtual 48, 3) := by decide +kernel
theorem dX2_read_48 : decode cX2_read 48 = .ok (.ifCond .eq 8, 3) := by decide +kernel
theorem dX2_read_51 : decode cX2_read 51 = .ok (.iload_n 2, 1) := by decide +kernel
theorem dX2_read_52 : decode cX2_read 52 = .ok (.iconst 5, 1) := by decide +kernel
theorem dX2_read_53 : decode cX2_read 53 = .ok (.if_icmp .ne 6, 3) := by decide +kernel
theorem dX2_read_56 : decode cX2_read 56 = .ok (.iload 4, 2) := by decide +kernel
theorem dX2_read_58 : decode cX2_read 58 = .ok (.ireturn, 1) := by decide +kernel
theorem dX2_read_59 : decode cX2_read 59 = .ok (.aload_n 0, 1) := by decide +kernel
theorem dX2_read_60 : decode cX2_read 60 = .ok (.iload_n 3, 1) := by decide +kernel
theorem dX2_read_61 : decode cX2_read 61 = .ok (.putfield 19, 3) := by decide +kernel
theorem dX2_read_64 : decode cX2_read 64 = .ok (.iinc 2 1, 3) := by decide +kernel
theorem dX2_read_67 : decode cX2_read 67 = .ok (.iconst 0, 1) := by decide +kernel
theorem dX2_read_68 : decode cX2_read 68 = .ok (.istore_n 3, 1) := by decide +kernel
theorem dX2_read_69 : decode cX2_read 69 = .ok (.goto 38, 3) := by decide +kernel
theorem dX2_read_72 : decode cX2_read 72 = .ok (.iload_n 2, 1) := by decide +kernel
theorem dX2_read_73 : decode cX2_read 73 = .ok (.aload_n 0, 1) := by decide +kernel
theorem dX2_read_74 : decode cX2_read 74 = .ok (.getfield 19, 3) := by decide +kernel
theorem dX2_read_77 : decode cX2_read 77 = .ok (.imul, 1) := by decide +kernel
theorem dX2_read_78 : decode cX2_read 78 = .ok (.iload_n 3, 1) := by decide +kernel
theorem dX2_read_79 : decode cX2_read 79 = .ok (.iadd, 1) := by decide +kernel
theorem dX2_read_80 : decode cX2_read 80 = .ok (.istore 6, 2) := by decide +kernel
theorem dX2_read_82 : decode cX2_read 82 = .ok (.iload_n 3, 1) := by decide +kernel
theorem dX2_read_83 : decode cX2_read 83 = .ok (.aload_n 0, 1) := by decide +kernel
theorem dX2_read_84 : decode cX2_read 84 = .ok (.getfield 19, 3) := by decide +kernel
theorem dX2_read_87 : decode cX2_read 87 = .ok (.if_icmp .ge 14, 3) := by decide +kernel
theorem dX2_read_90 : decode cX2_read 90 = .ok (.aload_n 0, 1) := by decide +kernel
theorem dX2_read_91 : decode cX2_read 91 = .ok (.iload 5, 2) := by decide +kernel
theorem dX2_read_93 : decode cX2_read 93 = .ok (.iload 6, 2) := by decide +kernel
theorem dX2_read_95 : decode cX2_read 95 = .ok (.invokevirtual 52, 3) := by decide +kernel
theorem dX2_read_98 : decode cX2_read 98 = .ok (.ifCond .ne 6, 3) := by decide +kernel
theorem dX2_read_101 : decode cX2_read 101 = .ok (.iload 4, 2) := by decide +kernel
theorem dX2_read_103 : decode cX2_read 103 = .ok (.ireturn, 1) := by decide +kernel
theorem dX2_read_104 : decode cX2_read 104 = .ok (.iinc 3 1, 3) := by decide +kernel
theorem dX2_read_107 : decode cX2_read 107 = .ok (.iinc 4 1, 3) := by decide +kernel
theorem dX2_read_110 : decode cX2_read 110 = .ok (.goto (-92), 3) := by decide +kernel
theorem dX2_read_113 : decode cX2_read 113 = .ok (.aload_n 0, 1) := by decide +kernel
theorem dX2_read_114 : decode cX2_read 114 = .ok (.iload_n 2, 1) := by decide +kernel
theorem dX2_read_115 : decode cX2_read 115 = .ok (.iload_n 3, 1) := by decide +kernel
theorem dX2_read_116 : decode cX2_read 116 = .ok (.invokevirtual 48, 3) := by decide +kernel
theorem dX2_read_119 : decode cX2_read 119 = .ok (.ifCond .ne 8, 3) := by decide +kernel
theorem dX2_read_122 : decode cX2_read 122 = .ok (.aload_n 1, 1) := by decide +kernel
theorem dX2_read_123 : decode cX2_read 123 = .ok (.invokevirtual 38, 3) := by decide +kernel
theorem dX2_read_126 : decode cX2_read 126 = .ok (.ireturn, 1) := by decide +kernel
theorem dX2_read_127 : decode cX2_read 127 = .ok (.aload_n 0, 1) := by decide +kernel
theorem dX2_read_128 : decode cX2_read 128 = .ok (.iload_n 3, 1) := by decide +kernel
theorem dX2_read_129 : decode cX2_read 129 = .ok (.putfield 19, 3) := by decide +kernel
theorem dX2_read_132 : decode cX2_read 132 = .ok (.aload_n 0, 1) := by decide +kernel
theorem dX2_read_133 : decode cX2_read 133 = .ok (.iload_n 2, 1) := by decide +kernel
theorem dX2_read_134 : decode cX2_read 134 = .ok (.iconst 1, 1) := by decide +kernel
theorem dX2_read_135 : decode cX2_read 135 = .ok (.iadd, 1) := by decide +kernel
theorem dX2_read_136 : decode cX2_read 136 = .ok (.putfield 15, 3) := by decide +kernel
theorem dX2_read_139 : decode cX2_read 139 = .ok (.aload_n 0, 1) := by decide +kernel
theorem dX2_read_140 : decode cX2_read 140 = .ok (.invokevirtual 55, 3) := by decide +kernel
theorem dX2_read_143 : decode cX2_read 143 = .ok (.iconst (-1), 1) := by decide +kernel
theorem dX2_read_144 : decode cX2_read 144 = .ok (.ireturn, 1) := by decide +kernel
theorem dX2_isWhole_0 : decode cX2_isWhole 0 = .ok (.iload_n 1, 1) := by decide +kernel
theorem dX2_isWhole_1 : decode cX2_isWhole 1 = .ok (.ifCond .ne 15, 3) := by decide +kernel
theorem dX2_isWhole_4 : decode cX2_isWhole 4 = .ok (.iload_n 2, 1) := by decide +kernel
theorem dX2_isWhole_5 : decode cX2_isWhole 5 = .ok (.ifCond .le 7, 3) := by decide +kernel
theorem dX2_isWhole_8 : decode cX2_isWhole 8 = .ok (.iconst 1, 1) := by decide +kernel
theorem dX2_isWhole_9 : decode cX2_isWhole 9 = .ok (.goto 20, 3) := by decide +kernel
theorem dX2_isWhole_12 : decode cX2_isWhole 12 = .ok (.iconst 0, 1) := by decide +kernel
theorem dX2_isWhole_13 : decode cX2_isWhole 13 = .ok (.goto 16, 3) := by decide +kernel
theorem dX2_isWhole_16 : decode cX2_isWhole 16 = .ok (.iload_n 2, 1) := by decide +kernel
theorem dX2_isWhole_17 : decode cX2_isWhole 17 = .ok (.aload_n 0, 1) := by decide +kernel
theorem dX2_isWhole_18 : decode cX2_isWhole 18 = .ok (.getfield 19, 3) := by decide +kernel
theorem dX2_isWhole_21 : decode cX2_isWhole 21 = .ok (.if_icmp .ne 7, 3) := by decide +kernel
theorem dX2_isWhole_24 : decode cX2_isWhole 24 = .ok (.iconst 1, 1) := by decide +kernel
theorem dX2_isWhole_25 : decode cX2_isWhole 25 = .ok (.goto 4, 3) := by decide +kernel
theorem dX2_isWhole_28 : decode cX2_isWhole 28 = .ok (.iconst 0, 1) := by decide +kernel
theorem dX2_isWhole_29 : decode cX2_isWhole 29 = .ok (.ireturn, 1) := by decide +kernel
theorem dX2_put_0 : decode cX2_put 0 = .ok (.iload_n 1, 1) := by decide +kernel
theorem dX2_put_1 : decode cX2_put 1 = .ok (.invokestatic 58, 3) := by decide +kernel
theorem dX2_put_4 : decode cX2_put 4 = .ok (.istore_n 3, 1) := by decide +kernel
theorem dX2_put_5 : decode cX2_put 5 = .ok (.iload_n 1, 1) := by decide +kernel
theorem dX2_put_6 : decode cX2_put 6 = .ok (.bipush 112, 2) := by decide +kernel
theorem dX2_put_8 : decode cX2_put 8 = .ok (.if_icmp .eq 9, 3) := by decide +kernel
theorem dX2_put_11 : decode cX2_put 11 = .ok (.iload_n 1, 1) := by decide +kernel
theorem dX2_put_12 : decode cX2_put 12 = .ok (.bipush 113, 2) := by decide +kernel
theorem dX2_put_14 : decode cX2_put 14 = .ok (.if_icmp .ne 7, 3) := by decide +kernel
theorem dX2_put_17 : decode cX2_put 17 = .ok (.iconst 1, 1) := by decide +kernel
theorem dX2_put_18 : decode cX2_put 18 = .ok (.goto 4, 3) := by decide +kernel
theorem dX2_put_21 : decode cX2_put 21 = .ok (.iconst 0, 1) := by decide +kernel
theorem dX2_put_22 : decode cX2_put 22 = .ok (.istore 4, 2) := by decide +kernel
theorem dX2_put_24 : decode cX2_put 24 = .ok (.iload_n 3, 1) := by decide +kernel
theorem dX2_put_25 : decode cX2_put 25 = .ok (.iconst (-1), 1) := by decide +kernel
theorem dX2_put_26 : decode cX2_put 26 = .ok (.if_icmp .eq 26, 3) := by decide +kernel
theorem dX2_put_29 : decode cX2_put 29 = .ok (.iload_n 2, 1) := by decide +kernel
theorem dX2_put_30 : decode cX2_put 30 = .ok (.ifCond .lt 22, 3) := by decide +kernel
theorem dX2_put_33 : decode cX2_put 33 = .ok (.iload_n 2, 1) := by decide +kernel
theorem dX2_put_34 : decode cX2_put 34 = .ok (.bipush 36, 2) := by decide +kernel
theorem dX2_put_36 : decode cX2_put 36 = .ok (.if_icmp .ge 16, 3) := by decide +kernel
theorem dX2_put_39 : decode cX2_put 39 = .ok (.iload 4, 2) := by decide +kernel
theorem dX2_put_41 : decode cX2_put 41 = .ok (.ifCond .eq 13, 3) := by decide +kernel
theorem dX2_put_44 : decode cX2_put 44 = .ok (.aload_n 0, 1) := by decide +kernel
theorem dX2_put_45 : decode cX2_put 45 = .ok (.getfield 22, 3) := by decide +kernel
theorem dX2_put_48 : decode cX2_put 48 = .ok (.iconst (-1), 1) := by decide +kernel
theorem dX2_put_49 : decode cX2_put 49 = .ok (.if_icmp .eq 5, 3) := by decide +kernel
theorem dX2_put_52 : decode cX2_put 52 = .ok (.iconst 0, 1) := by decide +kernel
theorem dX2_put_53 : decode cX2_put 53 = .ok (.ireturn, 1) := by decide +kernel
theorem dX2_put_54 : decode cX2_put 54 = .ok (.aload_n 0, 1) := by decide +kernel
theorem dX2_put_55 : decode cX2_put 55 = .ok (.getfield 9, 3) := by decide +kernel
theorem dX2_put_58 : decode cX2_put 58 = .ok (.iload_n 2, 1) := by decide +kernel
theorem dX2_put_59 : decode cX2_put 59 = .ok (.iload_n 3, 1) := by decide +kernel
theorem dX2_put_60 : decode cX2_put 60 = .ok (.iastore, 1) := by decide +kernel
theorem dX2_put_61 : decode cX2_put 61 = .ok (.aload_n 0, 1) := by decide +kernel
theorem dX2_put_62 : decode cX2_put 62 = .ok (.iload 4, 2) := by decide +kernel
theorem dX2_put_64 : decode cX2_put 64 = .ok (.ifCond .eq 7, 3) := by decide +kernel
theorem dX2_put_67 : decode cX2_put 67 = .ok (.iload_n 2, 1) := by decide +kernel
theorem dX2_put_68 : decode cX2_put 68 = .ok (.goto 7, 3) := by decide +kernel
theorem dX2_put_71 : decode cX2_put 71 = .ok (.aload_n 0, 1) := by decide +kernel
theorem dX2_put_72 : decode cX2_put 72 = .ok (.getfield 22, 3) := by decide +kernel
theorem dX2_put_75 : decode cX2_put 75 = .ok (.putfield 22, 3) := by decide +kernel
theorem dX2_put_78 : decode cX2_put 78 = .ok (.iconst 1, 1) := by decide +kernel
theorem dX2_put_79 : decode cX2_put 79 = .ok (.ireturn, 1) := by decide +kernel
theorem dX2_kindBy_0 : decode cX2_kindBy 0 = .ok (.iload_n 0, 1) := by decide +kernel
theorem dX2_kindBy_1 : decode cX2_kindBy 1 = .ok (.lookupswitch 57 #[(35, 51), (46, 53), (112, 53), (113, 55), (114, 55)], 51) := by decide +kernel
theorem dX2_kindBy_52 : decode cX2_kindBy 52 = .ok (.iconst 0, 1) := by decide +kernel
theorem dX2_kindBy_53 : decode cX2_kindBy 53 = .ok (.ireturn, 1) := by decide +kernel
theorem dX2_kindBy_54 : decode cX2_kindBy 54 = .ok (.iconst 1, 1) := by decide +kernel
theorem dX2_kindBy_55 : decode cX2_kindBy 55 = .ok (.ireturn, 1) := by decide +kernel
theorem dX2_kindBy_56 : decode cX2_kindBy 56 = .ok (.iconst 2, 1) := by decide +kernel
theorem dX2_kindBy_57 : decode cX2_kindBy 57 = .ok (.ireturn, 1) := by decide +kernel
theorem dX2_kindBy_58 : decode cX2_kindBy 58 = .ok (.iconst (-1), 1) := by decide +kernel
theorem dX2_kindBy_59 : decode cX2_kindBy 59 = .ok (.ireturn, 1) := by decide +kernel
theorem dX2_drawSets_0 : decode cX2_drawSets 0 = .ok (.aload_n 0, 1) := by decide +kernel
theorem dX2_drawSets_1 : decode cX2_drawSets 1 = .ok (.lconst 0, 1) := by decide +kernel
theorem dX2_drawSets_2 : decode cX2_drawSets 2 = .ok (.putfield 25, 3) := by decide +kernel
theorem dX2_drawSets_5 : decode cX2_drawSets 5 = .ok (.aload_n 0, 1) := by decide +kernel
theorem dX2_drawSets_6 : decode cX2_drawSets 6 = .ok (.lconst 0, 1) := by decide +kernel
theorem dX2_drawSets_7 : decode cX2_drawSets 7 = .ok (.putfield 29, 3) := by decide +kernel
theorem dX2_drawSets_10 : decode cX2_drawSets 10 = .ok (.iconst 0, 1) := by decide +kernel
theorem dX2_drawSets_11 : decode cX2_drawSets 11 = .ok (.istore_n 1, 1) := by decide +kernel
theorem dX2_drawSets_12 : decode cX2_drawSets 12 = .ok (.iload_n 1, 1) := by decide +kernel
theorem dX2_drawSets_13 : decode cX2_drawSets 13 = .ok (.aload_n 0, 1) := by decide +kernel
theorem dX2_drawSets_14 : decode cX2_drawSets 14 = .ok (.getfield 15, 3) := by decide +kernel
theorem dX2_drawSets_17 : decode cX2_drawSets 17 = .ok (.aload_n 0, 1) := by decide +kernel
theorem dX2_drawSets_18 : decode cX2_drawSets 18 = .ok (.getfield 19, 3) := by decide +kernel
theorem dX2_drawSets_21 : decode cX2_drawSets 21 = .ok (.imul, 1) := by decide +kernel
theorem dX2_drawSets_22 : decode cX2_drawSets 22 = .ok (.if_icmp .ge 58, 3) := by decide +kernel
theorem dX2_drawSets_25 : decode cX2_drawSets 25 = .ok (.aload_n 0, 1) := by decide +kernel
theorem dX2_drawSets_26 : decode cX2_drawSets 26 = .ok (.iload_n 1, 1) := by decide +kernel
theorem dX2_drawSets_27 : decode cX2_drawSets 27 = .ok (.invokevirtual 61, 3) := by decide +kernel
theorem dX2_drawSets_30 : decode cX2_drawSets 30 = .ok (.istore_n 2, 1) := by decide +kernel
theorem dX2_drawSets_31 : decode cX2_drawSets 31 = .ok (.aload_n 0, 1) := by decide +kernel
theorem dX2_drawSets_32 : decode cX2_drawSets 32 = .ok (.dup, 1) := by decide +kernel
theorem dX2_drawSets_33 : decode cX2_drawSets 33 = .ok (.getfield 25, 3) := by decide +kernel
theorem dX2_drawSets_36 : decode cX2_drawSets 36 = .ok (.iload_n 2, 1) := by decide +kernel
theorem dX2_drawSets_37 : decode cX2_drawSets 37 = .ok (.ifCond .ne 7, 3) := by decide +kernel
theorem dX2_drawSets_40 : decode cX2_drawSets 40 = .ok (.lconst 0, 1) := by decide +kernel
theorem dX2_drawSets_41 : decode cX2_drawSets 41 = .ok (.goto 7, 3) := by decide +kernel
theorem dX2_drawSets_44 : decode cX2_drawSets 44 = .ok (.iload_n 1, 1) := by decide +kernel
theorem dX2_drawSets_45 : decode cX2_drawSets 45 = .ok (.invokestatic 64, 3) := by decide +kernel
theorem dX2_drawSets_48 : decode cX2_drawSets 48 = .ok (.lor, 1) := by decide +kernel
theorem dX2_drawSets_49 : decode cX2_drawSets 49 = .ok (.putfield 25, 3) := by decide +kernel
theorem dX2_drawSets_52 : decode cX2_drawSets 52 = .ok (.aload_n 0, 1) := by decide +kernel
theorem dX2_drawSets_53 : decode cX2_drawSets 53 = .ok (.dup, 1) := by decide +kernel
theorem dX2_drawSets_54 : decode cX2_drawSets 54 = .ok (.getfield 29, 3) := by decide +kernel
theorem dX2_drawSets_57 : decode cX2_drawSets 57 = .ok (.iload_n 2, 1) := by decide +kernel
theorem dX2_drawSets_58 : decode cX2_drawSets 58 = .ok (.iconst 2, 1) := by decide +kernel
theorem dX2_drawSets_59 : decode cX2_drawSets 59 = .ok (.if_icmp .ne 10, 3) := by decide +kernel
theorem dX2_drawSets_62 : decode cX2_drawSets 62 = .ok (.iload_n 1, 1) := by decide +kernel
theorem dX2_drawSets_63 : decode cX2_drawSets 63 = .ok (.invokestatic 64, 3) := by decide +kernel
theorem dX2_drawSets_66 : decode cX2_drawSets 66 = .ok (.goto 4, 3) := by decide +kernel
theorem dX2_drawSets_69 : decode cX2_drawSets 69 = .ok (.lconst 0, 1) := by decide +kernel
theorem dX2_drawSets_70 : decode cX2_drawSets 70 = .ok (.lor, 1) := by decide +kernel
theorem dX2_drawSets_71 : decode cX2_drawSets 71 = .ok (.putfield 29, 3) := by decide +kernel
theorem dX2_drawSets_74 : decode cX2_drawSets 74 = .ok (.iinc 1 1, 3) := by decide +kernel
theorem dX2_drawSets_77 : decode cX2_drawSets 77 = .ok (.goto (-65), 3) := by decide +kernel
theorem dX2_drawSets_80 : decode cX2_drawSets 80 = .ok (.aload_n 0, 1) := by decide +kernel
theorem dX2_drawSets_81 : decode cX2_drawSets 81 = .ok (.lconst 0, 1) := by decide +kernel
theorem dX2_drawSets_82 : decode cX2_drawSets 82 = .ok (.putfield 32, 3) := by decide +kernel
theorem dX2_drawSets_85 : decode cX2_drawSets 85 = .ok (.iconst 0, 1) := by decide +kernel
theorem dX2_drawSets_86 : decode cX2_drawSets 86 = .ok (.istore_n 1, 1) := by decide +kernel
theorem dX2_drawSets_87 : decode cX2_drawSets 87 = .ok (.iload_n 1, 1) := by decide +kernel
theorem dX2_drawSets_88 : decode cX2_drawSets 88 = .ok (.aload_n 0, 1) := by decide +kernel
theorem dX2_drawSets_89 : decode cX2_drawSets 89 = .ok (.getfield 15, 3) := by decide +kernel
theorem dX2_drawSets_92 : decode cX2_drawSets 92 = .ok (.if_icmp .ge 27, 3) := by decide +kernel
theorem dX2_drawSets_95 : decode cX2_drawSets 95 = .ok (.aload_n 0, 1) := by decide +kernel
theorem dX2_drawSets_96 : decode cX2_drawSets 96 = .ok (.dup, 1) := by decide +kernel
theorem dX2_drawSets_97 : decode cX2_drawSets 97 = .ok (.getfield 32, 3) := by decide +kernel
theorem dX2_drawSets_100 : decode cX2_drawSets 100 = .ok (.iload_n 1, 1) := by decide +kernel
theorem dX2_drawSets_101 : decode cX2_drawSets 101 = .ok (.aload_n 0, 1) := by decide +kernel
theorem dX2_drawSets_102 : decode cX2_drawSets 102 = .ok (.getfield 19, 3) := by decide +kernel
theorem dX2_drawSets_105 : decode cX2_drawSets 105 = .ok (.imul, 1) := by decide +kernel
theorem dX2_drawSets_106 : decode cX2_drawSets 106 = .ok (.invokestatic 64, 3) := by decide +kernel
theorem dX2_drawSets_109 : decode cX2_drawSets 109 = .ok (.lor, 1) := by decide +kernel
theorem dX2_drawSets_110 : decode cX2_drawSets 110 = .ok (.putfield 32, 3) := by decide +kernel
theorem dX2_drawSets_113 : decode cX2_drawSets 113 = .ok (.iinc 1 1, 3) := by decide +kernel
theorem dX2_drawSets_116 : decode cX2_drawSets 116 = .ok (.goto (-29), 3) := by decide +kernel
theorem dX2_drawSets_119 : decode cX2_drawSets 119 = .ok (.aload_n 0, 1) := by decide +kernel
theorem dX2_drawSets_120 : decode cX2_drawSets 120 = .ok (.aload_n 0, 1) := by decide +kernel
theorem dX2_drawSets_121 : decode cX2_drawSets 121 = .ok (.getfield 32, 3) := by decide +kernel
theorem dX2_drawSets_124 : decode cX2_drawSets 124 = .ok (.aload_n 0, 1) := by decide +kernel
theorem dX2_drawSets_125 : decode cX2_drawSets 125 = .ok (.getfield 19, 3) := by decide +kernel
theorem dX2_drawSets_128 : decode cX2_drawSets 128 = .ok (.iconst 1, 1) := by decide +kernel
theorem dX2_drawSets_129 : decode cX2_drawSets 129 = .ok (.isub, 1) := by decide +kernel
theorem dX2_drawSets_130 : decode cX2_drawSets 130 = .ok (.lshl, 1) := by decide +kernel
theorem dX2_drawSets_131 : decode cX2_drawSets 131 = .ok (.putfield 35, 3) := by decide +kernel
theorem dX2_drawSets_134 : decode cX2_drawSets 134 = .ok (.return_, 1) := by decide +kernel
theorem dX2_has_0 : decode cX2_has 0 = .ok (.iload_n 1, 1) := by decide +kernel
theorem dX2_has_1 : decode cX2_has 1 = .ok (.ifCond .lt 20, 3) := by decide +kernel
theorem dX2_has_4 : decode cX2_has 4 = .ok (.iload_n 1, 1) := by decide +kernel
theorem dX2_has_5 : decode cX2_has 5 = .ok (.aload_n 0, 1) := by decide +kernel
theorem dX2_has_6 : decode cX2_has 6 = .ok (.getfield 15, 3) := by decide +kernel
theorem dX2_has_9 : decode cX2_has 9 = .ok (.aload_n 0, 1) := by decide +kernel
theorem dX2_has_10 : decode cX2_has 10 = .ok (.getfield 19, 3) := by decide +kernel
theorem dX2_has_13 : decode cX2_has 13 = .ok (.imul, 1) := by decide +kernel
theorem dX2_has_14 : decode cX2_has 14 = .ok (.if_icmp .ge 7, 3) := by decide +kernel
theorem dX2_has_17 : decode cX2_has 17 = .ok (.iconst 1, 1) := by decide +kernel
theorem dX2_has_18 : decode cX2_has 18 = .ok (.goto 4, 3) := by decide +kernel
theorem dX2_has_21 : decode cX2_has 21 = .ok (.iconst 0, 1) := by decide +kernel
theorem dX2_has_22 : decode cX2_has 22 = .ok (.ireturn, 1) := by decide +kernel
theorem dX2_kindOf_0 : decode cX2_kindOf 0 = .ok (.iload_n 1, 1) := by decide +kernel
theorem dX2_kindOf_1 : decode cX2_kindOf 1 = .ok (.ifCond .lt 18, 3) := by decide +kernel
theorem dX2_kindOf_4 : decode cX2_kindOf 4 = .ok (.iload_n 1, 1) := by decide +kernel
theorem dX2_kindOf_5 : decode cX2_kindOf 5 = .ok (.bipush 36, 2) := by decide +kernel
theorem dX2_kindOf_7 : decode cX2_kindOf 7 = .ok (.if_icmp .ge 12, 3) := by decide +kernel
theorem dX2_kindOf_10 : decode cX2_kindOf 10 = .ok (.aload_n 0, 1) := by decide +kernel
theorem dX2_kindOf_11 : decode cX2_kindOf 11 = .ok (.getfield 9, 3) := by decide +kernel
theorem dX2_kindOf_14 : decode cX2_kindOf 14 = .ok (.iload_n 1, 1) := by decide +kernel
theorem dX2_kindOf_15 : decode cX2_kindOf 15 = .ok (.iaload, 1) := by decide +kernel
theorem dX2_kindOf_16 : decode cX2_kindOf 16 = .ok (.goto 4, 3) := by decide +kernel
theorem dX2_kindOf_19 : decode cX2_kindOf 19 = .ok (.iconst 0, 1) := by decide +kernel
theorem dX2_kindOf_20 : decode cX2_kindOf 20 = .ok (.ireturn, 1) := by decide +kernel
theorem dX2_start_0 : decode cX2_start 0 = .ok (.aload_n 0, 1) := by decide +kernel
theorem dX2_start_1 : decode cX2_start 1 = .ok (.getfield 22, 3) := by decide +kernel
theorem dX2_start_4 : decode cX2_start 4 = .ok (.iconst (-1), 1) := by decide +kernel
theorem dX2_start_5 : decode cX2_start 5 = .ok (.if_icmp .eq 8, 3) := by decide +kernel
theorem dX2_start_8 : decode cX2_start 8 = .ok (.aload_n 0, 1) := by decide +kernel
theorem dX2_start_9 : decode cX2_start 9 = .ok (.getfield 22, 3) := by decide +kernel
theorem dX2_start_12 : decode cX2_start 12 = .ok (.ireturn, 1) := by decide +kernel
theorem dX2_start_13 : decode cX2_start 13 = .ok (.aload_n 0, 1) := by decide +kernel
theorem dX2_start_14 : decode cX2_start 14 = .ok (.getfield 25, 3) := by decide +kernel
theorem dX2_start_17 : decode cX2_start 17 = .ok (.invokestatic 68, 3) := by decide +kernel
theorem dX2_start_20 : decode cX2_start 20 = .ok (.ireturn, 1) := by decide +kernel
theorem dX2_firstOf_0 : decode cX2_firstOf 0 = .ok (.iconst 0, 1) := by decide +kernel
theorem dX2_firstOf_1 : decode cX2_firstOf 1 = .ok (.istore_n 2, 1) := by decide +kernel
theorem dX2_firstOf_2 : decode cX2_firstOf 2 = .ok (.iload_n 2, 1) := by decide +kernel
theorem dX2_firstOf_3 : decode cX2_firstOf 3 = .ok (.bipush 36, 2) := by decide +kernel
theorem dX2_firstOf_5 : decode cX2_firstOf 5 = .ok (.if_icmp .ge 19, 3) := by decide +kernel
theorem dX2_firstOf_8 : decode cX2_firstOf 8 = .ok (.lload_n 0, 1) := by decide +kernel
theorem dX2_firstOf_9 : decode cX2_firstOf 9 = .ok (.iload_n 2, 1) := by decide +kernel
theorem dX2_firstOf_10 : decode cX2_firstOf 10 = .ok (.invokestatic 72, 3) := by decide +kernel
theorem dX2_firstOf_13 : decode cX2_firstOf 13 = .ok (.ifCond .eq 5, 3) := by decide +kernel
theorem dX2_firstOf_16 : decode cX2_firstOf 16 = .ok (.iload_n 2, 1) := by decide +kernel
theorem dX2_firstOf_17 : decode cX2_firstOf 17 = .ok (.ireturn, 1) := by decide +kernel
theorem dX2_firstOf_18 : decode cX2_firstOf 18 = .ok (.iinc 2 1, 3) := by decide +kernel
theorem dX2_firstOf_21 : decode cX2_firstOf 21 = .ok (.goto (-19), 3) := by decide +kernel
theorem dX2_firstOf_24 : decode cX2_firstOf 24 = .ok (.iconst (-1), 1) := by decide +kernel
theorem dX2_firstOf_25 : decode cX2_firstOf 25 = .ok (.ireturn, 1) := by decide +kernel
theorem dX2_costFrom_0 : decode cX2_costFrom 0 = .ok (.aload_n 0, 1) := by decide +kernel
theorem dX2_costFrom_1 : decode cX2_costFrom 1 = .ok (.getfield 29, 3) := by decide +kernel
theorem dX2_costFrom_4 : decode cX2_costFrom 4 = .ok (.iload_n 1, 1) := by decide +kernel
theorem dX2_costFrom_5 : decode cX2_costFrom 5 = .ok (.invokestatic 72, 3) := by decide +kernel
theorem dX2_costFrom_8 : decode cX2_costFrom 8 = .ok (.ifCond .eq 7, 3) := by decide +kernel
theorem dX2_costFrom_11 : decode cX2_costFrom 11 = .ok (.iconst 2, 1) := by decide +kernel
theorem dX2_costFrom_12 : decode cX2_costFrom 12 = .ok (.goto 4, 3) := by decide +kernel
theorem dX2_costFrom_15 : decode cX2_costFrom 15 = .ok (.iconst 1, 1) := by decide +kernel
theorem dX2_costFrom_16 : decode cX2_costFrom 16 = .ok (.ireturn, 1) := by decide +kernel
theorem dX2_aheadOf_0 : decode cX2_aheadOf 0 = .ok (.aload_n 0, 1) := by decide +kernel
theorem dX2_aheadOf_1 : decode cX2_aheadOf 1 = .ok (.iload_n 1, 1) := by decide +kernel
theorem dX2_aheadOf_2 : decode cX2_aheadOf 2 = .ok (.invokevirtual 76, 3) := by decide +kernel
theorem dX2_aheadOf_5 : decode cX2_aheadOf 5 = .ok (.ifCond .ne 5, 3) := by decide +kernel
theorem dX2_aheadOf_8 : decode cX2_aheadOf 8 = .ok (.iconst (-1), 1) := by decide +kernel
theorem dX2_aheadOf_9 : decode cX2_aheadOf 9 = .ok (.ireturn, 1) := by decide +kernel
theorem dX2_aheadOf_10 : decode cX2_aheadOf 10 = .ok (.iload_n 2, 1) := by decide +kernel
theorem dX2_aheadOf_11 : decode cX2_aheadOf 11 = .ok (.tableswitch 110 0 3 #[29, 48, 67, 91], 29) := by decide +kernel
theorem dX2_aheadOf_40 : decode cX2_aheadOf 40 = .ok (.iload_n 1, 1) := by decide +kernel
theorem dX2_aheadOf_41 : decode cX2_aheadOf 41 = .ok (.aload_n 0, 1) := by decide +kernel
theorem dX2_aheadOf_42 : decode cX2_aheadOf 42 = .ok (.getfield 19, 3) := by decide +kernel
theorem dX2_aheadOf_45 : decode cX2_aheadOf 45 = .ok (.if_icmp .lt 12, 3) := by decide +kernel
theorem dX2_aheadOf_48 : decode cX2_aheadOf 48 = .ok (.iload_n 1, 1) := by decide +kernel
theorem dX2_aheadOf_49 : decode cX2_aheadOf 49 = .ok (.aload_n 0, 1) := by decide +kernel
theorem dX2_aheadOf_50 : decode cX2_aheadOf 50 = .ok (.getfield 19, 3) := by decide +kernel
theorem dX2_aheadOf_53 : decode cX2_aheadOf 53 = .ok (.isub, 1) := by decide +kernel
theorem dX2_aheadOf_54 : decode cX2_aheadOf 54 = .ok (.goto 4, 3) := by decide +kernel
theorem dX2_aheadOf_57 : decode cX2_aheadOf 57 = .ok (.iconst (-1), 1) := by decide +kernel
theorem dX2_aheadOf_58 : decode cX2_aheadOf 58 = .ok (.ireturn, 1) := by decide +kernel
theorem dX2_aheadOf_59 : decode cX2_aheadOf 59 = .ok (.aload_n 0, 1) := by decide +kernel
theorem dX2_aheadOf_60 : decode cX2_aheadOf 60 = .ok (.getfield 35, 3) := by decide +kernel
theorem dX2_aheadOf_63 : decode cX2_aheadOf 63 = .ok (.iload_n 1, 1) := by decide +kernel
theorem dX2_aheadOf_64 : decode cX2_aheadOf 64 = .ok (.invokestatic 72, 3) := by decide +kernel
theorem dX2_aheadOf_67 : decode cX2_aheadOf 67 = .ok (.ifCond .eq 7, 3) := by decide +kernel
theorem dX2_aheadOf_70 : decode cX2_aheadOf 70 = .ok (.iconst (-1), 1) := by decide +kernel
theorem dX2_aheadOf_71 : decode cX2_aheadOf 71 = .ok (.goto 6, 3) := by decide +kernel
theorem dX2_aheadOf_74 : decode cX2_aheadOf 74 = .ok (.iload_n 1, 1) := by decide +kernel
theorem dX2_aheadOf_75 : decode cX2_aheadOf 75 = .ok (.iconst 1, 1) := by decide +kernel
theorem dX2_aheadOf_76 : decode cX2_aheadOf 76 = .ok (.iadd, 1) := by decide +kernel
theorem dX2_aheadOf_77 : decode cX2_aheadOf 77 = .ok (.ireturn, 1) := by decide +kernel
theorem dX2_aheadOf_78 : decode cX2_aheadOf 78 = .ok (.aload_n 0, 1) := by decide +kernel
theorem dX2_aheadOf_79 : decode cX2_aheadOf 79 = .ok (.iload_n 1, 1) := by decide +kernel
theorem dX2_aheadOf_80 : decode cX2_aheadOf 80 = .ok (.aload_n 0, 1) := by decide +kernel
theorem dX2_aheadOf_81 : decode cX2_aheadOf 81 = .ok (.getfield 19, 3) := by decide +kernel
theorem dX2_aheadOf_84 : decode cX2_aheadOf 84 = .ok (.iadd, 1) := by decide +kernel
theorem dX2_aheadOf_85 : decode cX2_aheadOf 85 = .ok (.invokevirtual 76, 3) := by decide +kernel
theorem dX2_aheadOf_88 : decode cX2_aheadOf 88 = .ok (.ifCond .eq 12, 3) := by decide +kernel
theorem dX2_aheadOf_91 : decode cX2_aheadOf 91 = .ok (.iload_n 1, 1) := by decide +kernel
theorem dX2_aheadOf_92 : decode cX2_aheadOf 92 = .ok (.aload_n 0, 1) := by decide +kernel
theorem dX2_aheadOf_93 : decode cX2_aheadOf 93 = .ok (.getfield 19, 3) := by decide +kernel
theorem dX2_aheadOf_96 : decode cX2_aheadOf 96 = .ok (.iadd, 1) := by decide +kernel
theorem dX2_aheadOf_97 : decode cX2_aheadOf 97 = .ok (.goto 4, 3) := by decide +kernel
theorem dX2_aheadOf_100 : decode cX2_aheadOf 100 = .ok (.iconst (-1), 1) := by decide +kernel
theorem dX2_aheadOf_101 : decode cX2_aheadOf 101 = .ok (.ireturn, 1) := by decide +kernel
theorem dX2_aheadOf_102 : decode cX2_aheadOf 102 = .ok (.aload_n 0, 1) := by decide +kernel
theorem dX2_aheadOf_103 : decode cX2_aheadOf 103 = .ok (.getfield 32, 3) := by decide +kernel
theorem dX2_aheadOf_106 : decode cX2_aheadOf 106 = .ok (.iload_n 1, 1) := by decide +kernel
theorem dX2_aheadOf_107 : decode cX2_aheadOf 107 = .ok (.invokestatic 72, 3) := by decide +kernel
theorem dX2_aheadOf_110 : decode cX2_aheadOf 110 = .ok (.ifCond .eq 7, 3) := by decide +kernel
theorem dX2_aheadOf_113 : decode cX2_aheadOf 113 = .ok (.iconst (-1), 1) := by decide +kernel
theorem dX2_aheadOf_114 : decode cX2_aheadOf 114 = .ok (.goto 6, 3) := by decide +kernel
theorem dX2_aheadOf_117 : decode cX2_aheadOf 117 = .ok (.iload_n 1, 1) := by decide +kernel
theorem dX2_aheadOf_118 : decode cX2_aheadOf 118 = .ok (.iconst 1, 1) := by decide +kernel
theorem dX2_aheadOf_119 : decode cX2_aheadOf 119 = .ok (.isub, 1) := by decide +kernel
theorem dX2_aheadOf_120 : decode cX2_aheadOf 120 = .ok (.ireturn, 1) := by decide +kernel
theorem dX2_aheadOf_121 : decode cX2_aheadOf 121 = .ok (.iconst (-1), 1) := by decide +kernel
theorem dX2_aheadOf_122 : decode cX2_aheadOf 122 = .ok (.ireturn, 1) := by decide +kernel
theorem dX2_moved_0 : decode cX2_moved 0 = .ok (.iload_n 3, 1) := by decide +kernel
theorem dX2_moved_1 : decode cX2_moved 1 = .ok (.tableswitch 54 0 2 #[27, 34, 47], 27) := by decide +kernel
theorem dX2_moved_28 : decode cX2_moved 28 = .ok (.lload_n 1, 1) := by decide +kernel
theorem dX2_moved_29 : decode cX2_moved 29 = .ok (.aload_n 0, 1) := by decide +kernel
theorem dX2_moved_30 : decode cX2_moved 30 = .ok (.getfield 19, 3) := by decide +kernel
theorem dX2_moved_33 : decode cX2_moved 33 = .ok (.lushr, 1) := by decide +kernel
theorem dX2_moved_34 : decode cX2_moved 34 = .ok (.lreturn, 1) := by decide +kernel
theorem dX2_moved_35 : decode cX2_moved 35 = .ok (.lload_n 1, 1) := by decide +kernel
theorem dX2_moved_36 : decode cX2_moved 36 = .ok (.aload_n 0, 1) := by decide +kernel
theorem dX2_moved_37 : decode cX2_moved 37 = .ok (.getfield 35, 3) := by decide +kernel
theorem dX2_moved_40 : decode cX2_moved 40 = .ok (.ldc2_w 80, 3) := by decide +kernel
theorem dX2_moved_43 : decode cX2_moved 43 = .ok (.lxor, 1) := by decide +kernel
theorem dX2_moved_44 : decode cX2_moved 44 = .ok (.land, 1) := by decide +kernel
theorem dX2_moved_45 : decode cX2_moved 45 = .ok (.iconst 1, 1) := by decide +kernel
theorem dX2_moved_46 : decode cX2_moved 46 = .ok (.lshl, 1) := by decide +kernel
theorem dX2_moved_47 : decode cX2_moved 47 = .ok (.lreturn, 1) := by decide +kernel
theorem dX2_moved_48 : decode cX2_moved 48 = .ok (.lload_n 1, 1) := by decide +kernel
theorem dX2_moved_49 : decode cX2_moved 49 = .ok (.aload_n 0, 1) := by decide +kernel
theorem dX2_moved_50 : decode cX2_moved 50 = .ok (.getfield 19, 3) := by decide +kernel
theorem dX2_moved_53 : decode cX2_moved 53 = .ok (.lshl, 1) := by decide +kernel
theorem dX2_moved_54 : decode cX2_moved 54 = .ok (.lreturn, 1) := by decide +kernel
theorem dX2_moved_55 : decode cX2_moved 55 = .ok (.lload_n 1, 1) := by decide +kernel
theorem dX2_moved_56 : decode cX2_moved 56 = .ok (.aload_n 0, 1) := by decide +kernel
theorem dX2_moved_57 : decode cX2_moved 57 = .ok (.getfield 32, 3) := by decide +kernel
theorem dX2_moved_60 : decode cX2_moved 60 = .ok (.ldc2_w 80, 3) := by decide +kernel
theorem dX2_moved_63 : decode cX2_moved 63 = .ok (.lxor, 1) := by decide +kernel
theorem dX2_moved_64 : decode cX2_moved 64 = .ok (.land, 1) := by decide +kernel
theorem dX2_moved_65 : decode cX2_moved 65 = .ok (.iconst 1, 1) := by decide +kernel
theorem dX2_moved_66 : decode cX2_moved 66 = .ok (.lushr, 1) := by decide +kernel
theorem dX2_moved_67 : decode cX2_moved 67 = .ok (.lreturn, 1) := by decide +kernel
theorem dX2_around_0 : decode cX2_around 0 = .ok (.aload_n 0, 1) := by decide +kernel
theorem dX2_around_1 : decode cX2_around 1 = .ok (.lload_n 1, 1) := by decide +kernel
theorem dX2_around_2 : decode cX2_around 2 = .ok (.iconst 0, 1) := by decide +kernel
theorem dX2_around_3 : decode cX2_around 3 = .ok (.invokevirtual 82, 3) := by decide +kernel
theorem dX2_around_6 : decode cX2_around 6 = .ok (.aload_n 0, 1) := by decide +kernel
theorem dX2_around_7 : decode cX2_around 7 = .ok (.lload_n 1, 1) := by decide +kernel
theorem dX2_around_8 : decode cX2_around 8 = .ok (.iconst 1, 1) := by decide +kernel
theorem dX2_around_9 : decode cX2_around 9 = .ok (.invokevirtual 82, 3) := by decide +kernel
theorem dX2_around_12 : decode cX2_around 12 = .ok (.lor, 1) := by decide +kernel
theorem dX2_around_13 : decode cX2_around 13 = .ok (.aload_n 0, 1) := by decide +kernel
theorem dX2_around_14 : decode cX2_around 14 = .ok (.lload_n 1, 1) := by decide +kernel
theorem dX2_around_15 : decode cX2_around 15 = .ok (.iconst 2, 1) := by decide +kernel
theorem dX2_around_16 : decode cX2_around 16 = .ok (.invokevirtual 82, 3) := by decide +kernel
theorem dX2_around_19 : decode cX2_around 19 = .ok (.lor, 1) := by decide +kernel
theorem dX2_around_20 : decode cX2_around 20 = .ok (.aload_n 0, 1) := by decide +kernel
theorem dX2_around_21 : decode cX2_around 21 = .ok (.lload_n 1, 1) := by decide +kernel
theorem dX2_around_22 : decode cX2_around 22 = .ok (.iconst 3, 1) := by decide +kernel
theorem dX2_around_23 : decode cX2_around 23 = .ok (.invokevirtual 82, 3) := by decide +kernel
theorem dX2_around_26 : decode cX2_around 26 = .ok (.lor, 1) := by decide +kernel
theorem dX2_around_27 : decode cX2_around 27 = .ok (.lreturn, 1) := by decide +kernel
theorem dX2_reach_0 : decode cX2_reach 0 = .ok (.iload_n 3, 1) := by decide +kernel
theorem dX2_reach_1 : decode cX2_reach 1 = .ok (.invokestatic 64, 3) := by decide +kernel
theorem dX2_reach_4 : decode cX2_reach 4 = .ok (.lstore 4, 2) := by decide +kernel
theorem dX2_reach_6 : decode cX2_reach 6 = .ok (.lload 4, 2) := by decide +kernel
theorem dX2_reach_8 : decode cX2_reach 8 = .ok (.lstore 6, 2) := by decide +kernel
theorem dX2_reach_10 : decode cX2_reach 10 = .ok (.iconst 0, 1) := by decide +kernel
theorem dX2_reach_11 : decode cX2_reach 11 = .ok (.istore 8, 2) := by decide +kernel
theorem dX2_reach_13 : decode cX2_reach 13 = .ok (.iload 8, 2) := by decide +kernel
theorem dX2_reach_15 : decode cX2_reach 15 = .ok (.bipush 36, 2) := by decide +kernel
theorem dX2_reach_17 : decode cX2_reach 17 = .ok (.if_icmp .ge 40, 3) := by decide +kernel
theorem dX2_reach_20 : decode cX2_reach 20 = .ok (.lload 6, 2) := by decide +kernel
theorem dX2_reach_22 : decode cX2_reach 22 = .ok (.lconst 0, 1) := by decide +kernel
theorem dX2_reach_23 : decode cX2_reach 23 = .ok (.lcmp, 1) := by decide +kernel
theorem dX2_reach_24 : decode cX2_reach 24 = .ok (.ifCond .eq 33, 3) := by decide +kernel
theorem dX2_reach_27 : decode cX2_reach 27 = .ok (.aload_n 0, 1) := by decide +kernel
theorem dX2_reach_28 : decode cX2_reach 28 = .ok (.lload 6, 2) := by decide +kernel
theorem dX2_reach_30 : decode cX2_reach 30 = .ok (.invokevirtual 86, 3) := by decide +kernel
theorem dX2_reach_33 : decode cX2_reach 33 = .ok (.lload_n 1, 1) := by decide +kernel
theorem dX2_reach_34 : decode cX2_reach 34 = .ok (.land, 1) := by decide +kernel
theorem dX2_reach_35 : decode cX2_reach 35 = .ok (.lload 4, 2) := by decide +kernel
theorem dX2_reach_37 : decode cX2_reach 37 = .ok (.ldc2_w 80, 3) := by decide +kernel
theorem dX2_reach_40 : decode cX2_reach 40 = .ok (.lxor, 1) := by decide +kernel
theorem dX2_reach_41 : decode cX2_reach 41 = .ok (.land, 1) := by decide +kernel
theorem dX2_reach_42 : decode cX2_reach 42 = .ok (.lstore 6, 2) := by decide +kernel
theorem dX2_reach_44 : decode cX2_reach 44 = .ok (.lload 4, 2) := by decide +kernel
theorem dX2_reach_46 : decode cX2_reach 46 = .ok (.lload 6, 2) := by decide +kernel
theorem dX2_reach_48 : decode cX2_reach 48 = .ok (.lor, 1) := by decide +kernel
theorem dX2_reach_49 : decode cX2_reach 49 = .ok (.lstore 4, 2) := by decide +kernel
theorem dX2_reach_51 : decode cX2_reach 51 = .ok (.iinc 8 1, 3) := by decide +kernel
theorem dX2_reach_54 : decode cX2_reach 54 = .ok (.goto (-41), 3) := by decide +kernel
theorem dX2_reach_57 : decode cX2_reach 57 = .ok (.lload 4, 2) := by decide +kernel
theorem dX2_reach_59 : decode cX2_reach 59 = .ok (.lreturn, 1) := by decide +kernel
