theorem dX0_init_0 : decode cX0_init 0 = .ok (.aload_n 0, 1) := by decide +kernel
theorem dX0_init_1 : decode cX0_init 1 = .ok (.invokespecial 3, 3) := by decide +kernel
theorem dX0_init_4 : decode cX0_init 4 = .ok (.aload_n 0, 1) := by decide +kernel
theorem dX0_init_5 : decode cX0_init 5 = .ok (.bipush 50, 2) := by decide +kernel
theorem dX0_init_7 : decode cX0_init 7 = .ok (.newarray .int, 2) := by decide +kernel
theorem dX0_init_9 : decode cX0_init 9 = .ok (.putfield 9, 3) := by decide +kernel
theorem dX0_init_12 : decode cX0_init 12 = .ok (.aload_n 0, 1) := by decide +kernel
theorem dX0_init_13 : decode cX0_init 13 = .ok (.bipush 50, 2) := by decide +kernel
theorem dX0_init_15 : decode cX0_init 15 = .ok (.newarray .int, 2) := by decide +kernel
theorem dX0_init_17 : decode cX0_init 17 = .ok (.putfield 15, 3) := by decide +kernel
theorem dX0_init_20 : decode cX0_init 20 = .ok (.return_, 1) := by decide +kernel
theorem dX0_start_0 : decode cX0_start 0 = .ok (.aload_n 0, 1) := by decide +kernel
theorem dX0_start_1 : decode cX0_start 1 = .ok (.iconst 0, 1) := by decide +kernel
theorem dX0_start_2 : decode cX0_start 2 = .ok (.iload_n 1, 1) := by decide +kernel
theorem dX0_start_3 : decode cX0_start 3 = .ok (.bipush 50, 2) := by decide +kernel
theorem dX0_start_5 : decode cX0_start 5 = .ok (.invokestatic 18, 3) := by decide +kernel
theorem dX0_start_8 : decode cX0_start 8 = .ok (.invokestatic 24, 3) := by decide +kernel
theorem dX0_start_11 : decode cX0_start 11 = .ok (.putfield 27, 3) := by decide +kernel
theorem dX0_start_14 : decode cX0_start 14 = .ok (.aload_n 0, 1) := by decide +kernel
theorem dX0_start_15 : decode cX0_start 15 = .ok (.iconst 0, 1) := by decide +kernel
theorem dX0_start_16 : decode cX0_start 16 = .ok (.putfield 31, 3) := by decide +kernel
theorem dX0_start_19 : decode cX0_start 19 = .ok (.return_, 1) := by decide +kernel
theorem dX0_has_0 : decode cX0_has 0 = .ok (.iload_n 1, 1) := by decide +kernel
theorem dX0_has_1 : decode cX0_has 1 = .ok (.ifCond .lt 15, 3) := by decide +kernel
theorem dX0_has_4 : decode cX0_has 4 = .ok (.iload_n 1, 1) := by decide +kernel
theorem dX0_has_5 : decode cX0_has 5 = .ok (.aload_n 0, 1) := by decide +kernel
theorem dX0_has_6 : decode cX0_has 6 = .ok (.getfield 31, 3) := by decide +kernel
theorem dX0_has_9 : decode cX0_has 9 = .ok (.if_icmp .ge 7, 3) := by decide +kernel
theorem dX0_has_12 : decode cX0_has 12 = .ok (.iconst 1, 1) := by decide +kernel
theorem dX0_has_13 : decode cX0_has 13 = .ok (.goto 4, 3) := by decide +kernel
theorem dX0_has_16 : decode cX0_has 16 = .ok (.iconst 0, 1) := by decide +kernel
theorem dX0_has_17 : decode cX0_has 17 = .ok (.ireturn, 1) := by decide +kernel
theorem dX0_numberAt_0 : decode cX0_numberAt 0 = .ok (.iload_n 1, 1) := by decide +kernel
theorem dX0_numberAt_1 : decode cX0_numberAt 1 = .ok (.ifCond .lt 21, 3) := by decide +kernel
theorem dX0_numberAt_4 : decode cX0_numberAt 4 = .ok (.iload_n 1, 1) := by decide +kernel
theorem dX0_numberAt_5 : decode cX0_numberAt 5 = .ok (.aload_n 0, 1) := by decide +kernel
theorem dX0_numberAt_6 : decode cX0_numberAt 6 = .ok (.getfield 9, 3) := by decide +kernel
theorem dX0_numberAt_9 : decode cX0_numberAt 9 = .ok (.arraylength, 1) := by decide +kernel
theorem dX0_numberAt_10 : decode cX0_numberAt 10 = .ok (.if_icmp .ge 12, 3) := by decide +kernel
theorem dX0_numberAt_13 : decode cX0_numberAt 13 = .ok (.aload_n 0, 1) := by decide +kernel
theorem dX0_numberAt_14 : decode cX0_numberAt 14 = .ok (.getfield 9, 3) := by decide +kernel
theorem dX0_numberAt_17 : decode cX0_numberAt 17 = .ok (.iload_n 1, 1) := by decide +kernel
theorem dX0_numberAt_18 : decode cX0_numberAt 18 = .ok (.iaload, 1) := by decide +kernel
theorem dX0_numberAt_19 : decode cX0_numberAt 19 = .ok (.goto 4, 3) := by decide +kernel
theorem dX0_numberAt_22 : decode cX0_numberAt 22 = .ok (.iconst (-1), 1) := by decide +kernel
theorem dX0_numberAt_23 : decode cX0_numberAt 23 = .ok (.ireturn, 1) := by decide +kernel
theorem dX0_pointsAt_0 : decode cX0_pointsAt 0 = .ok (.iload_n 1, 1) := by decide +kernel
theorem dX0_pointsAt_1 : decode cX0_pointsAt 1 = .ok (.ifCond .lt 21, 3) := by decide +kernel
theorem dX0_pointsAt_4 : decode cX0_pointsAt 4 = .ok (.iload_n 1, 1) := by decide +kernel
theorem dX0_pointsAt_5 : decode cX0_pointsAt 5 = .ok (.aload_n 0, 1) := by decide +kernel
theorem dX0_pointsAt_6 : decode cX0_pointsAt 6 = .ok (.getfield 15, 3) := by decide +kernel
theorem dX0_pointsAt_9 : decode cX0_pointsAt 9 = .ok (.arraylength, 1) := by decide +kernel
theorem dX0_pointsAt_10 : decode cX0_pointsAt 10 = .ok (.if_icmp .ge 12, 3) := by decide +kernel
theorem dX0_pointsAt_13 : decode cX0_pointsAt 13 = .ok (.aload_n 0, 1) := by decide +kernel
theorem dX0_pointsAt_14 : decode cX0_pointsAt 14 = .ok (.getfield 15, 3) := by decide +kernel
theorem dX0_pointsAt_17 : decode cX0_pointsAt 17 = .ok (.iload_n 1, 1) := by decide +kernel
theorem dX0_pointsAt_18 : decode cX0_pointsAt 18 = .ok (.iaload, 1) := by decide +kernel
theorem dX0_pointsAt_19 : decode cX0_pointsAt 19 = .ok (.goto 4, 3) := by decide +kernel
theorem dX0_pointsAt_22 : decode cX0_pointsAt 22 = .ok (.iconst 0, 1) := by decide +kernel
theorem dX0_pointsAt_23 : decode cX0_pointsAt 23 = .ok (.ireturn, 1) := by decide +kernel
theorem dX0_offer_0 : decode cX0_offer 0 = .ok (.aload_n 0, 1) := by decide +kernel
theorem dX0_offer_1 : decode cX0_offer 1 = .ok (.getfield 31, 3) := by decide +kernel
theorem dX0_offer_4 : decode cX0_offer 4 = .ok (.istore_n 3, 1) := by decide +kernel
theorem dX0_offer_5 : decode cX0_offer 5 = .ok (.iload_n 3, 1) := by decide +kernel
theorem dX0_offer_6 : decode cX0_offer 6 = .ok (.ifCond .le 21, 3) := by decide +kernel
theorem dX0_offer_9 : decode cX0_offer 9 = .ok (.aload_n 0, 1) := by decide +kernel
theorem dX0_offer_10 : decode cX0_offer 10 = .ok (.iload_n 3, 1) := by decide +kernel
theorem dX0_offer_11 : decode cX0_offer 11 = .ok (.iconst 1, 1) := by decide +kernel
theorem dX0_offer_12 : decode cX0_offer 12 = .ok (.isub, 1) := by decide +kernel
theorem dX0_offer_13 : decode cX0_offer 13 = .ok (.iload_n 1, 1) := by decide +kernel
theorem dX0_offer_14 : decode cX0_offer 14 = .ok (.iload_n 2, 1) := by decide +kernel
theorem dX0_offer_15 : decode cX0_offer 15 = .ok (.invokevirtual 34, 3) := by decide +kernel
theorem dX0_offer_18 : decode cX0_offer 18 = .ok (.ifCond .eq 9, 3) := by decide +kernel
theorem dX0_offer_21 : decode cX0_offer 21 = .ok (.iinc 3 (-1), 3) := by decide +kernel
theorem dX0_offer_24 : decode cX0_offer 24 = .ok (.goto (-19), 3) := by decide +kernel
theorem dX0_offer_27 : decode cX0_offer 27 = .ok (.iload_n 3, 1) := by decide +kernel
theorem dX0_offer_28 : decode cX0_offer 28 = .ok (.aload_n 0, 1) := by decide +kernel
theorem dX0_offer_29 : decode cX0_offer 29 = .ok (.getfield 27, 3) := by decide +kernel
theorem dX0_offer_32 : decode cX0_offer 32 = .ok (.if_icmp .lt 4, 3) := by decide +kernel
theorem dX0_offer_35 : decode cX0_offer 35 = .ok (.return_, 1) := by decide +kernel
theorem dX0_offer_36 : decode cX0_offer 36 = .ok (.aload_n 0, 1) := by decide +kernel
theorem dX0_offer_37 : decode cX0_offer 37 = .ok (.getfield 31, 3) := by decide +kernel
theorem dX0_offer_40 : decode cX0_offer 40 = .ok (.aload_n 0, 1) := by decide +kernel
theorem dX0_offer_41 : decode cX0_offer 41 = .ok (.getfield 27, 3) := by decide +kernel
theorem dX0_offer_44 : decode cX0_offer 44 = .ok (.if_icmp .ge 13, 3) := by decide +kernel
theorem dX0_offer_47 : decode cX0_offer 47 = .ok (.aload_n 0, 1) := by decide +kernel
theorem dX0_offer_48 : decode cX0_offer 48 = .ok (.dup, 1) := by decide +kernel
theorem dX0_offer_49 : decode cX0_offer 49 = .ok (.getfield 31, 3) := by decide +kernel
theorem dX0_offer_52 : decode cX0_offer 52 = .ok (.iconst 1, 1) := by decide +kernel
theorem dX0_offer_53 : decode cX0_offer 53 = .ok (.iadd, 1) := by decide +kernel
theorem dX0_offer_54 : decode cX0_offer 54 = .ok (.putfield 31, 3) := by decide +kernel
theorem dX0_offer_57 : decode cX0_offer 57 = .ok (.aload_n 0, 1) := by decide +kernel
theorem dX0_offer_58 : decode cX0_offer 58 = .ok (.getfield 31, 3) := by decide +kernel
theorem dX0_offer_61 : decode cX0_offer 61 = .ok (.iconst 1, 1) := by decide +kernel
theorem dX0_offer_62 : decode cX0_offer 62 = .ok (.isub, 1) := by decide +kernel
theorem dX0_offer_63 : decode cX0_offer 63 = .ok (.istore 4, 2) := by decide +kernel
theorem dX0_offer_65 : decode cX0_offer 65 = .ok (.iload 4, 2) := by decide +kernel
theorem dX0_offer_67 : decode cX0_offer 67 = .ok (.iload_n 3, 1) := by decide +kernel
theorem dX0_offer_68 : decode cX0_offer 68 = .ok (.if_icmp .le 31, 3) := by decide +kernel
theorem dX0_offer_71 : decode cX0_offer 71 = .ok (.aload_n 0, 1) := by decide +kernel
theorem dX0_offer_72 : decode cX0_offer 72 = .ok (.iload 4, 2) := by decide +kernel
theorem dX0_offer_74 : decode cX0_offer 74 = .ok (.aload_n 0, 1) := by decide +kernel
theorem dX0_offer_75 : decode cX0_offer 75 = .ok (.iload 4, 2) := by decide +kernel
theorem dX0_offer_77 : decode cX0_offer 77 = .ok (.iconst 1, 1) := by decide +kernel
theorem dX0_offer_78 : decode cX0_offer 78 = .ok (.isub, 1) := by decide +kernel
theorem dX0_offer_79 : decode cX0_offer 79 = .ok (.invokevirtual 38, 3) := by decide +kernel
theorem dX0_offer_82 : decode cX0_offer 82 = .ok (.aload_n 0, 1) := by decide +kernel
theorem dX0_offer_83 : decode cX0_offer 83 = .ok (.iload 4, 2) := by decide +kernel
theorem dX0_offer_85 : decode cX0_offer 85 = .ok (.iconst 1, 1) := by decide +kernel
theorem dX0_offer_86 : decode cX0_offer 86 = .ok (.isub, 1) := by decide +kernel
theorem dX0_offer_87 : decode cX0_offer 87 = .ok (.invokevirtual 42, 3) := by decide +kernel
theorem dX0_offer_90 : decode cX0_offer 90 = .ok (.invokevirtual 45, 3) := by decide +kernel
theorem dX0_offer_93 : decode cX0_offer 93 = .ok (.iinc 4 (-1), 3) := by decide +kernel
theorem dX0_offer_96 : decode cX0_offer 96 = .ok (.goto (-31), 3) := by decide +kernel
theorem dX0_offer_99 : decode cX0_offer 99 = .ok (.aload_n 0, 1) := by decide +kernel
theorem dX0_offer_100 : decode cX0_offer 100 = .ok (.iload_n 3, 1) := by decide +kernel
theorem dX0_offer_101 : decode cX0_offer 101 = .ok (.iload_n 1, 1) := by decide +kernel
theorem dX0_offer_102 : decode cX0_offer 102 = .ok (.iload_n 2, 1) := by decide +kernel
theorem dX0_offer_103 : decode cX0_offer 103 = .ok (.invokevirtual 45, 3) := by decide +kernel
theorem dX0_offer_106 : decode cX0_offer 106 = .ok (.return_, 1) := by decide +kernel
theorem dX0_goesBefore_0 : decode cX0_goesBefore 0 = .ok (.aload_n 0, 1) := by decide +kernel
theorem dX0_goesBefore_1 : decode cX0_goesBefore 1 = .ok (.iload_n 1, 1) := by decide +kernel
theorem dX0_goesBefore_2 : decode cX0_goesBefore 2 = .ok (.invokevirtual 42, 3) := by decide +kernel
theorem dX0_goesBefore_5 : decode cX0_goesBefore 5 = .ok (.istore 4, 2) := by decide +kernel
theorem dX0_goesBefore_7 : decode cX0_goesBefore 7 = .ok (.iload_n 3, 1) := by decide +kernel
theorem dX0_goesBefore_8 : decode cX0_goesBefore 8 = .ok (.iload 4, 2) := by decide +kernel
theorem dX0_goesBefore_10 : decode cX0_goesBefore 10 = .ok (.if_icmp .gt 18, 3) := by decide +kernel
theorem dX0_goesBefore_13 : decode cX0_goesBefore 13 = .ok (.iload_n 3, 1) := by decide +kernel
theorem dX0_goesBefore_14 : decode cX0_goesBefore 14 = .ok (.iload 4, 2) := by decide +kernel
theorem dX0_goesBefore_16 : decode cX0_goesBefore 16 = .ok (.if_icmp .ne 16, 3) := by decide +kernel
theorem dX0_goesBefore_19 : decode cX0_goesBefore 19 = .ok (.iload_n 2, 1) := by decide +kernel
theorem dX0_goesBefore_20 : decode cX0_goesBefore 20 = .ok (.aload_n 0, 1) := by decide +kernel
theorem dX0_goesBefore_21 : decode cX0_goesBefore 21 = .ok (.iload_n 1, 1) := by decide +kernel
theorem dX0_goesBefore_22 : decode cX0_goesBefore 22 = .ok (.invokevirtual 38, 3) := by decide +kernel
theorem dX0_goesBefore_25 : decode cX0_goesBefore 25 = .ok (.if_icmp .ge 7, 3) := by decide +kernel
theorem dX0_goesBefore_28 : decode cX0_goesBefore 28 = .ok (.iconst 1, 1) := by decide +kernel
theorem dX0_goesBefore_29 : decode cX0_goesBefore 29 = .ok (.goto 4, 3) := by decide +kernel
theorem dX0_goesBefore_32 : decode cX0_goesBefore 32 = .ok (.iconst 0, 1) := by decide +kernel
theorem dX0_goesBefore_33 : decode cX0_goesBefore 33 = .ok (.ireturn, 1) := by decide +kernel
theorem dX0_set_0 : decode cX0_set 0 = .ok (.iload_n 1, 1) := by decide +kernel
theorem dX0_set_1 : decode cX0_set 1 = .ok (.ifCond .lt 35, 3) := by decide +kernel
theorem dX0_set_4 : decode cX0_set 4 = .ok (.iload_n 1, 1) := by decide +kernel
theorem dX0_set_5 : decode cX0_set 5 = .ok (.aload_n 0, 1) := by decide +kernel
theorem dX0_set_6 : decode cX0_set 6 = .ok (.getfield 9, 3) := by decide +kernel
theorem dX0_set_9 : decode cX0_set 9 = .ok (.arraylength, 1) := by decide +kernel
theorem dX0_set_10 : decode cX0_set 10 = .ok (.if_icmp .ge 26, 3) := by decide +kernel
theorem dX0_set_13 : decode cX0_set 13 = .ok (.iload_n 1, 1) := by decide +kernel
theorem dX0_set_14 : decode cX0_set 14 = .ok (.aload_n 0, 1) := by decide +kernel
theorem dX0_set_15 : decode cX0_set 15 = .ok (.getfield 15, 3) := by decide +kernel
theorem dX0_set_18 : decode cX0_set 18 = .ok (.arraylength, 1) := by decide +kernel
theorem dX0_set_19 : decode cX0_set 19 = .ok (.if_icmp .ge 17, 3) := by decide +kernel
theorem dX0_set_22 : decode cX0_set 22 = .ok (.aload_n 0, 1) := by decide +kernel
theorem dX0_set_23 : decode cX0_set 23 = .ok (.getfield 9, 3) := by decide +kernel
theorem dX0_set_26 : decode cX0_set 26 = .ok (.iload_n 1, 1) := by decide +kernel
theorem dX0_set_27 : decode cX0_set 27 = .ok (.iload_n 2, 1) := by decide +kernel
theorem dX0_set_28 : decode cX0_set 28 = .ok (.iastore, 1) := by decide +kernel
theorem dX0_set_29 : decode cX0_set 29 = .ok (.aload_n 0, 1) := by decide +kernel
theorem dX0_set_30 : decode cX0_set 30 = .ok (.getfield 15, 3) := by decide +kernel
theorem dX0_set_33 : decode cX0_set 33 = .ok (.iload_n 1, 1) := by decide +kernel
theorem dX0_set_34 : decode cX0_set 34 = .ok (.iload_n 3, 1) := by decide +kernel
theorem dX0_set_35 : decode cX0_set 35 = .ok (.iastore, 1) := by decide +kernel
theorem dX0_set_36 : decode cX0_set 36 = .ok (.return_, 1) := by decide +kernel
theorem dX1_init_0 : decode cX1_init 0 = .ok (.aload_n 0, 1) := by decide +kernel
theorem dX1_init_1 : decode cX1_init 1 = .ok (.invokespecial 1, 3) := by decide +kernel
theorem dX1_init_4 : decode cX1_init 4 = .ok (.aload_n 0, 1) := by decide +kernel
theorem dX1_init_5 : decode cX1_init 5 = .ok (.iload_n 1, 1) := by decide +kernel
theorem dX1_init_6 : decode cX1_init 6 = .ok (.putfield 7, 3) := by decide +kernel
theorem dX1_init_9 : decode cX1_init 9 = .ok (.return_, 1) := by decide +kernel
theorem dX2_letterOf_0 : decode cX2_letterOf 0 = .ok (.iload_n 0, 1) := by decide +kernel
theorem dX2_letterOf_1 : decode cX2_letterOf 1 = .ok (.bipush 97, 2) := by decide +kernel
theorem dX2_letterOf_3 : decode cX2_letterOf 3 = .ok (.if_icmp .lt 16, 3) := by decide +kernel
theorem dX2_letterOf_6 : decode cX2_letterOf 6 = .ok (.iload_n 0, 1) := by decide +kernel
theorem dX2_letterOf_7 : decode cX2_letterOf 7 = .ok (.bipush 122, 2) := by decide +kernel
theorem dX2_letterOf_9 : decode cX2_letterOf 9 = .ok (.if_icmp .gt 10, 3) := by decide +kernel
theorem dX2_letterOf_12 : decode cX2_letterOf 12 = .ok (.iload_n 0, 1) := by decide +kernel
theorem dX2_letterOf_13 : decode cX2_letterOf 13 = .ok (.bipush 97, 2) := by decide +kernel
theorem dX2_letterOf_15 : decode cX2_letterOf 15 = .ok (.isub, 1) := by decide +kernel
theorem dX2_letterOf_16 : decode cX2_letterOf 16 = .ok (.iconst 1, 1) := by decide +kernel
theorem dX2_letterOf_17 : decode cX2_letterOf 17 = .ok (.iadd, 1) := by decide +kernel
theorem dX2_letterOf_18 : decode cX2_letterOf 18 = .ok (.ireturn, 1) := by decide +kernel
theorem dX2_letterOf_19 : decode cX2_letterOf 19 = .ok (.iload_n 0, 1) := by decide +kernel
theorem dX2_letterOf_20 : decode cX2_letterOf 20 = .ok (.bipush 65, 2) := by decide +kernel
theorem dX2_letterOf_22 : decode cX2_letterOf 22 = .ok (.if_icmp .lt 16, 3) := by decide +kernel
theorem dX2_letterOf_25 : decode cX2_letterOf 25 = .ok (.iload_n 0, 1) := by decide +kernel
theorem dX2_letterOf_26 : decode cX2_letterOf 26 = .ok (.bipush 90, 2) := by decide +kernel
theorem dX2_letterOf_28 : decode cX2_letterOf 28 = .ok (.if_icmp .gt 10, 3) := by decide +kernel
theorem dX2_letterOf_31 : decode cX2_letterOf 31 = .ok (.iload_n 0, 1) := by decide +kernel
theorem dX2_letterOf_32 : decode cX2_letterOf 32 = .ok (.bipush 65, 2) := by decide +kernel
theorem dX2_letterOf_34 : decode cX2_letterOf 34 = .ok (.isub, 1) := by decide +kernel
theorem dX2_letterOf_35 : decode cX2_letterOf 35 = .ok (.iconst 1, 1) := by decide +kernel
theorem dX2_letterOf_36 : decode cX2_letterOf 36 = .ok (.iadd, 1) := by decide +kernel
theorem dX2_letterOf_37 : decode cX2_letterOf 37 = .ok (.ireturn, 1) := by decide +kernel
theorem dX2_letterOf_38 : decode cX2_letterOf 38 = .ok (.iconst 0, 1) := by decide +kernel
theorem dX2_letterOf_39 : decode cX2_letterOf 39 = .ok (.ireturn, 1) := by decide +kernel
theorem dX2_isLetter_0 : decode cX2_isLetter 0 = .ok (.iload_n 0, 1) := by decide +kernel
theorem dX2_isLetter_1 : decode cX2_isLetter 1 = .ok (.invokestatic 9, 3) := by decide +kernel
theorem dX2_isLetter_4 : decode cX2_isLetter 4 = .ok (.ifCond .eq 7, 3) := by decide +kernel
theorem dX2_isLetter_7 : decode cX2_isLetter 7 = .ok (.iconst 1, 1) := by decide +kernel
theorem dX2_isLetter_8 : decode cX2_isLetter 8 = .ok (.goto 4, 3) := by decide +kernel
theorem dX2_isLetter_11 : decode cX2_isLetter 11 = .ok (.iconst 0, 1) := by decide +kernel
theorem dX2_isLetter_12 : decode cX2_isLetter 12 = .ok (.ireturn, 1) := by decide +kernel
theorem dX2_with_0 : decode cX2_with 0 = .ok (.lload_n 0, 1) := by decide +kernel
theorem dX2_with_1 : decode cX2_with 1 = .ok (.iload_n 3, 1) := by decide +kernel
theorem dX2_with_2 : decode cX2_with 2 = .ok (.i2l, 1) := by decide +kernel
theorem dX2_with_3 : decode cX2_with 3 = .ok (.iconst 5, 1) := by decide +kernel
theorem dX2_with_4 : decode cX2_with 4 = .ok (.bipush 11, 2) := by decide +kernel
theorem dX2_with_6 : decode cX2_with 6 = .ok (.iload_n 2, 1) := by decide +kernel
theorem dX2_with_7 : decode cX2_with 7 = .ok (.isub, 1) := by decide +kernel
theorem dX2_with_8 : decode cX2_with 8 = .ok (.imul, 1) := by decide +kernel
theorem dX2_with_9 : decode cX2_with 9 = .ok (.lshl, 1) := by decide +kernel
theorem dX2_with_10 : decode cX2_with 10 = .ok (.lor, 1) := by decide +kernel
theorem dX2_with_11 : decode cX2_with 11 = .ok (.lreturn, 1) := by decide +kernel
theorem dX2_lastWithBeginning_0 : decode cX2_lastWithBeginning 0 = .ok (.lload_n 0, 1) := by decide +kernel
theorem dX2_lastWithBeginning_1 : decode cX2_lastWithBeginning 1 = .ok (.lconst 1, 1) := by decide +kernel
theorem dX2_lastWithBeginning_2 : decode cX2_lastWithBeginning 2 = .ok (.iconst 5, 1) := by decide +kernel
theorem dX2_lastWithBeginning_3 : decode cX2_lastWithBeginning 3 = .ok (.bipush 12, 2) := by decide +kernel
theorem dX2_lastWithBeginning_5 : decode cX2_lastWithBeginning 5 = .ok (.iload_n 2, 1) := by decide +kernel
theorem dX2_lastWithBeginning_6 : decode cX2_lastWithBeginning 6 = .ok (.isub, 1) := by decide +kernel
theorem dX2_lastWithBeginning_7 : decode cX2_lastWithBeginning 7 = .ok (.imul, 1) := by decide +kernel
theorem dX2_lastWithBeginning_8 : decode cX2_lastWithBeginning 8 = .ok (.lshl, 1) := by decide +kernel
theorem dX2_lastWithBeginning_9 : decode cX2_lastWithBeginning 9 = .ok (.lconst 1, 1) := by decide +kernel
theorem dX2_lastWithBeginning_10 : decode cX2_lastWithBeginning 10 = .ok (.lsub, 1) := by decide +kernel
theorem dX2_lastWithBeginning_11 : decode cX2_lastWithBeginning 11 = .ok (.lor, 1) := by decide +kernel
theorem dX2_lastWithBeginning_12 : decode cX2_lastWithBeginning 12 = .ok (.lreturn, 1) := by decide +kernel
theorem dX2_firstLowest_0 : decode cX2_firstLowest 0 = .ok (.lconst 0, 1) := by decide +kernel
theorem dX2_firstLowest_1 : decode cX2_firstLowest 1 = .ok (.lstore_n 2, 1) := by decide +kernel
theorem dX2_firstLowest_2 : decode cX2_firstLowest 2 = .ok (.iconst 0, 1) := by decide +kernel
theorem dX2_firstLowest_3 : decode cX2_firstLowest 3 = .ok (.istore 4, 2) := by decide +kernel
theorem dX2_firstLowest_5 : decode cX2_firstLowest 5 = .ok (.iload 4, 2) := by decide +kernel
theorem dX2_firstLowest_7 : decode cX2_firstLowest 7 = .ok (.bipush 12, 2) := by decide +kernel
theorem dX2_firstLowest_9 : decode cX2_firstLowest 9 = .ok (.if_icmp .ge 34, 3) := by decide +kernel
theorem dX2_firstLowest_12 : decode cX2_firstLowest 12 = .ok (.lload_n 0, 1) := by decide +kernel
theorem dX2_firstLowest_13 : decode cX2_firstLowest 13 = .ok (.iconst 5, 1) := by decide +kernel
theorem dX2_firstLowest_14 : decode cX2_firstLowest 14 = .ok (.bipush 11, 2) := by decide +kernel
theorem dX2_firstLowest_16 : decode cX2_firstLowest 16 = .ok (.iload 4, 2) := by decide +kernel
theorem dX2_firstLowest_18 : decode cX2_firstLowest 18 = .ok (.isub, 1) := by decide +kernel
theorem dX2_firstLowest_19 : decode cX2_firstLowest 19 = .ok (.imul, 1) := by decide +kernel
theorem dX2_firstLowest_20 : decode cX2_firstLowest 20 = .ok (.lshr, 1) := by decide +kernel
theorem dX2_firstLowest_21 : decode cX2_firstLowest 21 = .ok (.ldc2_w 15, 3) := by decide +kernel
theorem dX2_firstLowest_24 : decode cX2_firstLowest 24 = .ok (.land, 1) := by decide +kernel
theorem dX2_firstLowest_25 : decode cX2_firstLowest 25 = .ok (.lstore 5, 2) := by decide +kernel
theorem dX2_firstLowest_27 : decode cX2_firstLowest 27 = .ok (.lload_n 2, 1) := by decide +kernel
theorem dX2_firstLowest_28 : decode cX2_firstLowest 28 = .ok (.lload 5, 2) := by decide +kernel
theorem dX2_firstLowest_30 : decode cX2_firstLowest 30 = .ok (.iconst 5, 1) := by decide +kernel
theorem dX2_firstLowest_31 : decode cX2_firstLowest 31 = .ok (.iload 4, 2) := by decide +kernel
theorem dX2_firstLowest_33 : decode cX2_firstLowest 33 = .ok (.imul, 1) := by decide +kernel
theorem dX2_firstLowest_34 : decode cX2_firstLowest 34 = .ok (.lshl, 1) := by decide +kernel
theorem dX2_firstLowest_35 : decode cX2_firstLowest 35 = .ok (.lor, 1) := by decide +kernel
theorem dX2_firstLowest_36 : decode cX2_firstLowest 36 = .ok (.lstore_n 2, 1) := by decide +kernel
theorem dX2_firstLowest_37 : decode cX2_firstLowest 37 = .ok (.iinc 4 1, 3) := by decide +kernel
theorem dX2_firstLowest_40 : decode cX2_firstLowest 40 = .ok (.goto (-35), 3) := by decide +kernel
theorem dX2_firstLowest_43 : decode cX2_firstLowest 43 = .ok (.lload_n 2, 1) := by decide +kernel
theorem dX2_firstLowest_44 : decode cX2_firstLowest 44 = .ok (.lreturn, 1) := by decide +kernel
theorem dX3_init_0 : decode cX3_init 0 = .ok (.aload_n 0, 1) := by decide +kernel
theorem dX3_init_1 : decode cX3_init 1 = .ok (.invokespecial 3, 3) := by decide +kernel
theorem dX3_init_4 : decode cX3_init 4 = .ok (.aload_n 0, 1) := by decide +kernel
theorem dX3_init_5 : decode cX3_init 5 = .ok (.new 9, 3) := by decide +kernel
theorem dX3_init_8 : decode cX3_init 8 = .ok (.dup, 1) := by decide +kernel
theorem dX3_init_9 : decode cX3_init 9 = .ok (.invokespecial 11, 3) := by decide +kernel
theorem dX3_init_12 : decode cX3_init 12 = .ok (.putfield 12, 3) := by decide +kernel
theorem dX3_init_15 : decode cX3_init 15 = .ok (.return_, 1) := by decide +kernel
theorem dX3_size_0 : decode cX3_size 0 = .ok (.aload_n 0, 1) := by decide +kernel
theorem dX3_size_1 : decode cX3_size 1 = .ok (.getfield 12, 3) := by decide +kernel
theorem dX3_size_4 : decode cX3_size 4 = .ok (.invokevirtual 18, 3) := by decide +kernel
theorem dX3_size_7 : decode cX3_size 7 = .ok (.ireturn, 1) := by decide +kernel
theorem dX3_wordAt_0 : decode cX3_wordAt 0 = .ok (.iload_n 1, 1) := by decide +kernel
theorem dX3_wordAt_1 : decode cX3_wordAt 1 = .ok (.ifCond .lt 28, 3) := by decide +kernel
theorem dX3_wordAt_4 : decode cX3_wordAt 4 = .ok (.iload_n 1, 1) := by decide +kernel
theorem dX3_wordAt_5 : decode cX3_wordAt 5 = .ok (.aload_n 0, 1) := by decide +kernel
theorem dX3_wordAt_6 : decode cX3_wordAt 6 = .ok (.getfield 12, 3) := by decide +kernel
theorem dX3_wordAt_9 : decode cX3_wordAt 9 = .ok (.invokevirtual 18, 3) := by decide +kernel
theorem dX3_wordAt_12 : decode cX3_wordAt 12 = .ok (.if_icmp .ge 17, 3) := by decide +kernel
theorem dX3_wordAt_15 : decode cX3_wordAt 15 = .ok (.aload_n 0, 1) := by decide +kernel
theorem dX3_wordAt_16 : decode cX3_wordAt 16 = .ok (.getfield 12, 3) := by decide +kernel
theorem dX3_wordAt_19 : decode cX3_wordAt 19 = .ok (.iload_n 1, 1) := by decide +kernel
theorem dX3_wordAt_20 : decode cX3_wordAt 20 = .ok (.invokevirtual 22, 3) := by decide +kernel
theorem dX3_wordAt_23 : decode cX3_wordAt 23 = .ok (.checkcast 26, 3) := by decide +kernel
theorem dX3_wordAt_26 : decode cX3_wordAt 26 = .ok (.goto 4, 3) := by decide +kernel
theorem dX3_wordAt_29 : decode cX3_wordAt 29 = .ok (.aconst_null, 1) := by decide +kernel
theorem dX3_wordAt_30 : decode cX3_wordAt 30 = .ok (.areturn, 1) := by decide +kernel
theorem dX3_placeOf_0 : decode cX3_placeOf 0 = .ok (.iconst 0, 1) := by decide +kernel
theorem dX3_placeOf_1 : decode cX3_placeOf 1 = .ok (.istore_n 3, 1) := by decide +kernel
theorem dX3_placeOf_2 : decode cX3_placeOf 2 = .ok (.aload_n 0, 1) := by decide +kernel
theorem dX3_placeOf_3 : decode cX3_placeOf 3 = .ok (.getfield 12, 3) := by decide +kernel
theorem dX3_placeOf_6 : decode cX3_placeOf 6 = .ok (.invokevirtual 18, 3) := by decide +kernel
theorem dX3_placeOf_9 : decode cX3_placeOf 9 = .ok (.istore 4, 2) := by decide +kernel
theorem dX3_placeOf_11 : decode cX3_placeOf 11 = .ok (.iconst 0, 1) := by decide +kernel
theorem dX3_placeOf_12 : decode cX3_placeOf 12 = .ok (.istore 5, 2) := by decide +kernel
theorem dX3_placeOf_14 : decode cX3_placeOf 14 = .ok (.iload 5, 2) := by decide +kernel
theorem dX3_placeOf_16 : decode cX3_placeOf 16 = .ok (.bipush 32, 2) := by decide +kernel
theorem dX3_placeOf_18 : decode cX3_placeOf 18 = .ok (.if_icmp .ge 60, 3) := by decide +kernel
theorem dX3_placeOf_21 : decode cX3_placeOf 21 = .ok (.iload_n 3, 1) := by decide +kernel
theorem dX3_placeOf_22 : decode cX3_placeOf 22 = .ok (.iload 4, 2) := by decide +kernel
theorem dX3_placeOf_24 : decode cX3_placeOf 24 = .ok (.if_icmp .ge 54, 3) := by decide +kernel
theorem dX3_placeOf_27 : decode cX3_placeOf 27 = .ok (.iload_n 3, 1) := by decide +kernel
theorem dX3_placeOf_28 : decode cX3_placeOf 28 = .ok (.iload 4, 2) := by decide +kernel
theorem dX3_placeOf_30 : decode cX3_placeOf 30 = .ok (.iload_n 3, 1) := by decide +kernel
theorem dX3_placeOf_31 : decode cX3_placeOf 31 = .ok (.isub, 1) := by decide +kernel
theorem dX3_placeOf_32 : decode cX3_placeOf 32 = .ok (.iconst 2, 1) := by decide +kernel
theorem dX3_placeOf_33 : decode cX3_placeOf 33 = .ok (.idiv, 1) := by decide +kernel
theorem dX3_placeOf_34 : decode cX3_placeOf 34 = .ok (.iadd, 1) := by decide +kernel
theorem dX3_placeOf_35 : decode cX3_placeOf 35 = .ok (.istore 6, 2) := by decide +kernel
theorem dX3_placeOf_37 : decode cX3_placeOf 37 = .ok (.aload_n 0, 1) := by decide +kernel
theorem dX3_placeOf_38 : decode cX3_placeOf 38 = .ok (.iload 6, 2) := by decide +kernel
theorem dX3_placeOf_40 : decode cX3_placeOf 40 = .ok (.invokevirtual 28, 3) := by decide +kernel
theorem dX3_placeOf_43 : decode cX3_placeOf 43 = .ok (.astore 7, 2) := by decide +kernel
theorem dX3_placeOf_45 : decode cX3_placeOf 45 = .ok (.aload 7, 2) := by decide +kernel
theorem dX3_placeOf_47 : decode cX3_placeOf 47 = .ok (.ifnull 21, 3) := by decide +kernel
theorem dX3_placeOf_50 : decode cX3_placeOf 50 = .ok (.aload 7, 2) := by decide +kernel
theorem dX3_placeOf_52 : decode cX3_placeOf 52 = .ok (.getfield 32, 3) := by decide +kernel
theorem dX3_placeOf_55 : decode cX3_placeOf 55 = .ok (.lload_n 1, 1) := by decide +kernel
theorem dX3_placeOf_56 : decode cX3_placeOf 56 = .ok (.lcmp, 1) := by decide +kernel
theorem dX3_placeOf_57 : decode cX3_placeOf 57 = .ok (.ifCond .ge 11, 3) := by decide +kernel
theorem dX3_placeOf_60 : decode cX3_placeOf 60 = .ok (.iload 6, 2) := by decide +kernel
theorem dX3_placeOf_62 : decode cX3_placeOf 62 = .ok (.iconst 1, 1) := by decide +kernel
theorem dX3_placeOf_63 : decode cX3_placeOf 63 = .ok (.iadd, 1) := by decide +kernel
theorem dX3_placeOf_64 : decode cX3_placeOf 64 = .ok (.istore_n 3, 1) := by decide +kernel
theorem dX3_placeOf_65 : decode cX3_placeOf 65 = .ok (.goto 7, 3) := by decide +kernel
theorem dX3_placeOf_68 : decode cX3_placeOf 68 = .ok (.iload 6, 2) := by decide +kernel
theorem dX3_placeOf_70 : decode cX3_placeOf 70 = .ok (.istore 4, 2) := by decide +kernel
theorem dX3_placeOf_72 : decode cX3_placeOf 72 = .ok (.iinc 5 1, 3) := by decide +kernel
theorem dX3_placeOf_75 : decode cX3_placeOf 75 = .ok (.goto (-61), 3) := by decide +kernel
theorem dX3_placeOf_78 : decode cX3_placeOf 78 = .ok (.iload_n 3, 1) := by decide +kernel
theorem dX3_placeOf_79 : decode cX3_placeOf 79 = .ok (.ireturn, 1) := by decide +kernel
theorem dX3_wordOf_0 : decode cX3_wordOf 0 = .ok (.aload_n 0, 1) := by decide +kernel
theorem dX3_wordOf_1 : decode cX3_wordOf 1 = .ok (.aload_n 0, 1) := by decide +kernel
theorem dX3_wordOf_2 : decode cX3_wordOf 2 = .ok (.lload_n 1, 1) := by decide +kernel
theorem dX3_wordOf_3 : decode cX3_wordOf 3 = .ok (.invokevirtual 36, 3) := by decide +kernel
theorem dX3_wordOf_6 : decode cX3_wordOf 6 = .ok (.invokevirtual 28, 3) := by decide +kernel
theorem dX3_wordOf_9 : decode cX3_wordOf 9 = .ok (.astore_n 3, 1) := by decide +kernel
theorem dX3_wordOf_10 : decode cX3_wordOf 10 = .ok (.aload_n 3, 1) := by decide +kernel
theorem dX3_wordOf_11 : decode cX3_wordOf 11 = .ok (.ifnull 16, 3) := by decide +kernel
theorem dX3_wordOf_14 : decode cX3_wordOf 14 = .ok (.aload_n 3, 1) := by decide +kernel
theorem dX3_wordOf_15 : decode cX3_wordOf 15 = .ok (.getfield 32, 3) := by decide +kernel
theorem dX3_wordOf_18 : decode cX3_wordOf 18 = .ok (.lload_n 1, 1) := by decide +kernel
theorem dX3_wordOf_19 : decode cX3_wordOf 19 = .ok (.lcmp, 1) := by decide +kernel
theorem dX3_wordOf_20 : decode cX3_wordOf 20 = .ok (.ifCond .ne 7, 3) := by decide +kernel
theorem dX3_wordOf_23 : decode cX3_wordOf 23 = .ok (.aload_n 3, 1) := by decide +kernel
theorem dX3_wordOf_24 : decode cX3_wordOf 24 = .ok (.goto 4, 3) := by decide +kernel
theorem dX3_wordOf_27 : decode cX3_wordOf 27 = .ok (.aconst_null, 1) := by decide +kernel
theorem dX3_wordOf_28 : decode cX3_wordOf 28 = .ok (.areturn, 1) := by decide +kernel
theorem dX3_enter_0 : decode cX3_enter 0 = .ok (.aload_n 0, 1) := by decide +kernel
theorem dX3_enter_1 : decode cX3_enter 1 = .ok (.lload_n 1, 1) := by decide +kernel
theorem dX3_enter_2 : decode cX3_enter 2 = .ok (.invokevirtual 36, 3) := by decide +kernel
theorem dX3_enter_5 : decode cX3_enter 5 = .ok (.istore_n 3, 1) := by decide +kernel
theorem dX3_enter_6 : decode cX3_enter 6 = .ok (.aload_n 0, 1) := by decide +kernel
theorem dX3_enter_7 : decode cX3_enter 7 = .ok (.iload_n 3, 1) := by decide +kernel
theorem dX3_enter_8 : decode cX3_enter 8 = .ok (.invokevirtual 28, 3) := by decide +kernel
theorem dX3_enter_11 : decode cX3_enter 11 = .ok (.astore 4, 2) := by decide +kernel
theorem dX3_enter_13 : decode cX3_enter 13 = .ok (.aload 4, 2) := by decide +kernel
theorem dX3_enter_15 : decode cX3_enter 15 = .ok (.ifnull 16, 3) := by decide +kernel
theorem dX3_enter_18 : decode cX3_enter 18 = .ok (.aload 4, 2) := by decide +kernel
theorem dX3_enter_20 : decode cX3_enter 20 = .ok (.getfield 32, 3) := by decide +kernel
theorem dX3_enter_23 : decode cX3_enter 23 = .ok (.lload_n 1, 1) := by decide +kernel
theorem dX3_enter_24 : decode cX3_enter 24 = .ok (.lcmp, 1) := by decide +kernel
theorem dX3_enter_25 : decode cX3_enter 25 = .ok (.ifCond .ne 6, 3) := by decide +kernel
theorem dX3_enter_28 : decode cX3_enter 28 = .ok (.aload 4, 2) := by decide +kernel
theorem dX3_enter_30 : decode cX3_enter 30 = .ok (.areturn, 1) := by decide +kernel
theorem dX3_enter_31 : decode cX3_enter 31 = .ok (.aload_n 0, 1) := by decide +kernel
theorem dX3_enter_32 : decode cX3_enter 32 = .ok (.invokevirtual 40, 3) := by decide +kernel
theorem dX3_enter_35 : decode cX3_enter 35 = .ok (.astore 5, 2) := by decide +kernel
theorem dX3_enter_37 : decode cX3_enter 37 = .ok (.aload 5, 2) := by decide +kernel
theorem dX3_enter_39 : decode cX3_enter 39 = .ok (.lload_n 1, 1) := by decide +kernel
theorem dX3_enter_40 : decode cX3_enter 40 = .ok (.invokevirtual 44, 3) := by decide +kernel
theorem dX3_enter_43 : decode cX3_enter 43 = .ok (.iload_n 3, 1) := by decide +kernel
theorem dX3_enter_44 : decode cX3_enter 44 = .ok (.ifCond .lt 24, 3) := by decide +kernel
theorem dX3_enter_47 : decode cX3_enter 47 = .ok (.iload_n 3, 1) := by decide +kernel
theorem dX3_enter_48 : decode cX3_enter 48 = .ok (.aload_n 0, 1) := by decide +kernel
theorem dX3_enter_49 : decode cX3_enter 49 = .ok (.getfield 12, 3) := by decide +kernel
theorem dX3_enter_52 : decode cX3_enter 52 = .ok (.invokevirtual 18, 3) := by decide +kernel
theorem dX3_enter_55 : decode cX3_enter 55 = .ok (.if_icmp .gt 13, 3) := by decide +kernel
theorem dX3_enter_58 : decode cX3_enter 58 = .ok (.aload_n 0, 1) := by decide +kernel
theorem dX3_enter_59 : decode cX3_enter 59 = .ok (.getfield 12, 3) := by decide +kernel
theorem dX3_enter_62 : decode cX3_enter 62 = .ok (.iload_n 3, 1) := by decide +kernel
theorem dX3_enter_63 : decode cX3_enter 63 = .ok (.aload 5, 2) := by decide +kernel
theorem dX3_enter_65 : decode cX3_enter 65 = .ok (.invokevirtual 48, 3) := by decide +kernel
theorem dX3_enter_68 : decode cX3_enter 68 = .ok (.aload 5, 2) := by decide +kernel
theorem dX3_enter_70 : decode cX3_enter 70 = .ok (.areturn, 1) := by decide +kernel
theorem dX3_strike_0 : decode cX3_strike 0 = .ok (.aload_n 0, 1) := by decide +kernel
theorem dX3_strike_1 : decode cX3_strike 1 = .ok (.aload_n 1, 1) := by decide +kernel
theorem dX3_strike_2 : decode cX3_strike 2 = .ok (.getfield 32, 3) := by decide +kernel
theorem dX3_strike_5 : decode cX3_strike 5 = .ok (.invokevirtual 36, 3) := by decide +kernel
theorem dX3_strike_8 : decode cX3_strike 8 = .ok (.istore_n 2, 1) := by decide +kernel
theorem dX3_strike_9 : decode cX3_strike 9 = .ok (.aload_n 0, 1) := by decide +kernel
theorem dX3_strike_10 : decode cX3_strike 10 = .ok (.iload_n 2, 1) := by decide +kernel
theorem dX3_strike_11 : decode cX3_strike 11 = .ok (.invokevirtual 28, 3) := by decide +kernel
theorem dX3_strike_14 : decode cX3_strike 14 = .ok (.aload_n 1, 1) := by decide +kernel
theorem dX3_strike_15 : decode cX3_strike 15 = .ok (.if_acmp .ne 25, 3) := by decide +kernel
theorem dX3_strike_18 : decode cX3_strike 18 = .ok (.aload_n 0, 1) := by decide +kernel
theorem dX3_strike_19 : decode cX3_strike 19 = .ok (.getfield 12, 3) := by decide +kernel
theorem dX3_strike_22 : decode cX3_strike 22 = .ok (.iload_n 2, 1) := by decide +kernel
theorem dX3_strike_23 : decode cX3_strike 23 = .ok (.invokevirtual 52, 3) := by decide +kernel
theorem dX3_strike_26 : decode cX3_strike 26 = .ok (.pop, 1) := by decide +kernel
theorem dX3_strike_27 : decode cX3_strike 27 = .ok (.aload_n 1, 1) := by decide +kernel
theorem dX3_strike_28 : decode cX3_strike 28 = .ok (.aload_n 0, 1) := by decide +kernel
theorem dX3_strike_29 : decode cX3_strike 29 = .ok (.getfield 55, 3) := by decide +kernel
theorem dX3_strike_32 : decode cX3_strike 32 = .ok (.putfield 59, 3) := by decide +kernel
theorem dX3_strike_35 : decode cX3_strike 35 = .ok (.aload_n 0, 1) := by decide +kernel
theorem dX3_strike_36 : decode cX3_strike 36 = .ok (.aload_n 1, 1) := by decide +kernel
theorem dX3_strike_37 : decode cX3_strike 37 = .ok (.putfield 55, 3) := by decide +kernel
theorem dX3_strike_40 : decode cX3_strike 40 = .ok (.return_, 1) := by decide +kernel
theorem dX3_takeWord_0 : decode cX3_takeWord 0 = .ok (.aload_n 0, 1) := by decide +kernel
theorem dX3_takeWord_1 : decode cX3_takeWord 1 = .ok (.getfield 55, 3) := by decide +kernel
theorem dX3_takeWord_4 : decode cX3_takeWord 4 = .ok (.ifnonnull 11, 3) := by decide +kernel
theorem dX3_takeWord_7 : decode cX3_takeWord 7 = .ok (.new 26, 3) := by decide +kernel
theorem dX3_takeWord_10 : decode cX3_takeWord 10 = .ok (.dup, 1) := by decide +kernel
theorem dX3_takeWord_11 : decode cX3_takeWord 11 = .ok (.invokespecial 62, 3) := by decide +kernel
theorem dX3_takeWord_14 : decode cX3_takeWord 14 = .ok (.areturn, 1) := by decide +kernel
theorem dX3_takeWord_15 : decode cX3_takeWord 15 = .ok (.aload_n 0, 1) := by decide +kernel
theorem dX3_takeWord_16 : decode cX3_takeWord 16 = .ok (.getfield 55, 3) := by decide +kernel
theorem dX3_takeWord_19 : decode cX3_takeWord 19 = .ok (.astore_n 1, 1) := by decide +kernel
theorem dX3_takeWord_20 : decode cX3_takeWord 20 = .ok (.aload_n 0, 1) := by decide +kernel
theorem dX3_takeWord_21 : decode cX3_takeWord 21 = .ok (.aload_n 1, 1) := by decide +kernel
theorem dX3_takeWord_22 : decode cX3_takeWord 22 = .ok (.getfield 59, 3) := by decide +kernel
theorem dX3_takeWord_25 : decode cX3_takeWord 25 = .ok (.putfield 55, 3) := by decide +kernel
theorem dX3_takeWord_28 : decode cX3_takeWord 28 = .ok (.aload_n 1, 1) := by decide +kernel
theorem dX3_takeWord_29 : decode cX3_takeWord 29 = .ok (.areturn, 1) := by decide +kernel
theorem dX4_init_0 : decode cX4_init 0 = .ok (.aload_n 0, 1) := by decide +kernel
theorem dX4_init_1 : decode cX4_init 1 = .ok (.invokespecial 3, 3) := by decide +kernel
theorem dX4_init_4 : decode cX4_init 4 = .ok (.aload_n 0, 1) := by decide +kernel
theorem dX4_init_5 : decode cX4_init 5 = .ok (.new 9, 3) := by decide +kernel
theorem dX4_init_8 : decode cX4_init 8 = .ok (.dup, 1) := by decide +kernel
theorem dX4_init_9 : decode cX4_init 9 = .ok (.invokespecial 11, 3) := by decide +kernel
theorem dX4_init_12 : decode cX4_init 12 = .ok (.putfield 12, 3) := by decide +kernel
theorem dX4_init_15 : decode cX4_init 15 = .ok (.aload_n 0, 1) := by decide +kernel
theorem dX4_init_16 : decode cX4_init 16 = .ok (.new 18, 3) := by decide +kernel
theorem dX4_init_19 : decode cX4_init 19 = .ok (.dup, 1) := by decide +kernel
theorem dX4_init_20 : decode cX4_init 20 = .ok (.invokespecial 20, 3) := by decide +kernel
theorem dX4_init_23 : decode cX4_init 23 = .ok (.putfield 21, 3) := by decide +kernel
theorem dX4_init_26 : decode cX4_init 26 = .ok (.return_, 1) := by decide +kernel
theorem dX4_documentCount_0 : decode cX4_documentCount 0 = .ok (.aload_n 0, 1) := by decide +kernel
theorem dX4_documentCount_1 : decode cX4_documentCount 1 = .ok (.getfield 12, 3) := by decide +kernel
theorem dX4_documentCount_4 : decode cX4_documentCount 4 = .ok (.invokevirtual 25, 3) := by decide +kernel
theorem dX4_documentCount_7 : decode cX4_documentCount 7 = .ok (.ireturn, 1) := by decide +kernel
theorem dX4_documentOf_0 : decode cX4_documentOf 0 = .ok (.aload_n 0, 1) := by decide +kernel
theorem dX4_documentOf_1 : decode cX4_documentOf 1 = .ok (.aload_n 0, 1) := by decide +kernel
theorem dX4_documentOf_2 : decode cX4_documentOf 2 = .ok (.iload_n 1, 1) := by decide +kernel
theorem dX4_documentOf_3 : decode cX4_documentOf 3 = .ok (.invokevirtual 29, 3) := by decide +kernel
theorem dX4_documentOf_6 : decode cX4_documentOf 6 = .ok (.invokevirtual 33, 3) := by decide +kernel
theorem dX4_documentOf_9 : decode cX4_documentOf 9 = .ok (.areturn, 1) := by decide +kernel
theorem dX4_openDocument_0 : decode cX4_openDocument 0 = .ok (.aload_n 0, 1) := by decide +kernel
theorem dX4_openDocument_1 : decode cX4_openDocument 1 = .ok (.iload_n 1, 1) := by decide +kernel
theorem dX4_openDocument_2 : decode cX4_openDocument 2 = .ok (.invokevirtual 37, 3) := by decide +kernel
theorem dX4_openDocument_5 : decode cX4_openDocument 5 = .ok (.astore_n 2, 1) := by decide +kernel
theorem dX4_openDocument_6 : decode cX4_openDocument 6 = .ok (.aload_n 2, 1) := by decide +kernel
theorem dX4_openDocument_7 : decode cX4_openDocument 7 = .ok (.ifnonnull 15, 3) := by decide +kernel
theorem dX4_openDocument_10 : decode cX4_openDocument 10 = .ok (.aload_n 0, 1) := by decide +kernel
theorem dX4_openDocument_11 : decode cX4_openDocument 11 = .ok (.getfield 12, 3) := by decide +kernel
theorem dX4_openDocument_14 : decode cX4_openDocument 14 = .ok (.invokevirtual 25, 3) := by decide +kernel
theorem dX4_openDocument_17 : decode cX4_openDocument 17 = .ok (.bipush 120, 2) := by decide +kernel
theorem dX4_openDocument_19 : decode cX4_openDocument 19 = .ok (.if_icmp .lt 5, 3) := by decide +kernel
theorem dX4_openDocument_22 : decode cX4_openDocument 22 = .ok (.aload_n 2, 1) := by decide +kernel
theorem dX4_openDocument_23 : decode cX4_openDocument 23 = .ok (.areturn, 1) := by decide +kernel
theorem dX4_openDocument_24 : decode cX4_openDocument 24 = .ok (.new 40, 3) := by decide +kernel
theorem dX4_openDocument_27 : decode cX4_openDocument 27 = .ok (.dup, 1) := by decide +kernel
theorem dX4_openDocument_28 : decode cX4_openDocument 28 = .ok (.iload_n 1, 1) := by decide +kernel
theorem dX4_openDocument_29 : decode cX4_openDocument 29 = .ok (.invokespecial 42, 3) := by decide +kernel
theorem dX4_openDocument_32 : decode cX4_openDocument 32 = .ok (.astore_n 3, 1) := by decide +kernel
theorem dX4_openDocument_33 : decode cX4_openDocument 33 = .ok (.aload_n 0, 1) := by decide +kernel
theorem dX4_openDocument_34 : decode cX4_openDocument 34 = .ok (.getfield 12, 3) := by decide +kernel
theorem dX4_openDocument_37 : decode cX4_openDocument 37 = .ok (.aload_n 3, 1) := by decide +kernel
theorem dX4_openDocument_38 : decode cX4_openDocument 38 = .ok (.invokevirtual 45, 3) := by decide +kernel
theorem dX4_openDocument_41 : decode cX4_openDocument 41 = .ok (.pop, 1) := by decide +kernel
theorem dX4_openDocument_42 : decode cX4_openDocument 42 = .ok (.aload_n 3, 1) := by decide +kernel
theorem dX4_openDocument_43 : decode cX4_openDocument 43 = .ok (.areturn, 1) := by decide +kernel
theorem dX4_removeDocument_0 : decode cX4_removeDocument 0 = .ok (.aload_n 0, 1) := by decide +kernel
theorem dX4_removeDocument_1 : decode cX4_removeDocument 1 = .ok (.iload_n 1, 1) := by decide +kernel
theorem dX4_removeDocument_2 : decode cX4_removeDocument 2 = .ok (.invokevirtual 29, 3) := by decide +kernel
theorem dX4_removeDocument_5 : decode cX4_removeDocument 5 = .ok (.istore_n 2, 1) := by decide +kernel
theorem dX4_removeDocument_6 : decode cX4_removeDocument 6 = .ok (.aload_n 0, 1) := by decide +kernel
theorem dX4_removeDocument_7 : decode cX4_removeDocument 7 = .ok (.iload_n 2, 1) := by decide +kernel
theorem dX4_removeDocument_8 : decode cX4_removeDocument 8 = .ok (.invokevirtual 33, 3) := by decide +kernel
theorem dX4_removeDocument_11 : decode cX4_removeDocument 11 = .ok (.astore_n 3, 1) := by decide +kernel
theorem dX4_removeDocument_12 : decode cX4_removeDocument 12 = .ok (.aload_n 3, 1) := by decide +kernel
theorem dX4_removeDocument_13 : decode cX4_removeDocument 13 = .ok (.ifnonnull 5, 3) := by decide +kernel
theorem dX4_removeDocument_16 : decode cX4_removeDocument 16 = .ok (.iconst 0, 1) := by decide +kernel
theorem dX4_removeDocument_17 : decode cX4_removeDocument 17 = .ok (.ireturn, 1) := by decide +kernel
theorem dX4_removeDocument_18 : decode cX4_removeDocument 18 = .ok (.aload_n 0, 1) := by decide +kernel
theorem dX4_removeDocument_19 : decode cX4_removeDocument 19 = .ok (.aload_n 3, 1) := by decide +kernel
theorem dX4_removeDocument_20 : decode cX4_removeDocument 20 = .ok (.invokevirtual 49, 3) := by decide +kernel
theorem dX4_removeDocument_23 : decode cX4_removeDocument 23 = .ok (.aload_n 0, 1) := by decide +kernel
theorem dX4_removeDocument_24 : decode cX4_removeDocument 24 = .ok (.getfield 12, 3) := by decide +kernel
theorem dX4_removeDocument_27 : decode cX4_removeDocument 27 = .ok (.iload_n 2, 1) := by decide +kernel
theorem dX4_removeDocument_28 : decode cX4_removeDocument 28 = .ok (.invokevirtual 53, 3) := by decide +kernel
theorem dX4_removeDocument_31 : decode cX4_removeDocument 31 = .ok (.pop, 1) := by decide +kernel
theorem dX4_removeDocument_32 : decode cX4_removeDocument 32 = .ok (.iconst 1, 1) := by decide +kernel
theorem dX4_removeDocument_33 : decode cX4_removeDocument 33 = .ok (.ireturn, 1) := by decide +kernel
theorem dX4_rewrite_0 : decode cX4_rewrite 0 = .ok (.aload_n 0, 1) := by decide +kernel
theorem dX4_rewrite_1 : decode cX4_rewrite 1 = .ok (.aload_n 1, 1) := by decide +kernel
theorem dX4_rewrite_2 : decode cX4_rewrite 2 = .ok (.invokevirtual 49, 3) := by decide +kernel
theorem dX4_rewrite_5 : decode cX4_rewrite 5 = .ok (.aload_n 2, 1) := by decide +kernel
theorem dX4_rewrite_6 : decode cX4_rewrite 6 = .ok (.iconst 0, 1) := by decide +kernel
theorem dX4_rewrite_7 : decode cX4_rewrite 7 = .ok (.invokevirtual 57, 3) := by decide +kernel
theorem dX4_rewrite_10 : decode cX4_rewrite 10 = .ok (.istore_n 3, 1) := by decide +kernel
theorem dX4_rewrite_11 : decode cX4_rewrite 11 = .ok (.iconst 0, 1) := by decide +kernel
theorem dX4_rewrite_12 : decode cX4_rewrite 12 = .ok (.istore 4, 2) := by decide +kernel
theorem dX4_rewrite_14 : decode cX4_rewrite 14 = .ok (.iload 4, 2) := by decide +kernel
theorem dX4_rewrite_16 : decode cX4_rewrite 16 = .ok (.sipush 200, 3) := by decide +kernel
theorem dX4_rewrite_19 : decode cX4_rewrite 19 = .ok (.if_icmp .ge 50, 3) := by decide +kernel
theorem dX4_rewrite_22 : decode cX4_rewrite 22 = .ok (.iload_n 3, 1) := by decide +kernel
theorem dX4_rewrite_23 : decode cX4_rewrite 23 = .ok (.aload_n 2, 1) := by decide +kernel
theorem dX4_rewrite_24 : decode cX4_rewrite 24 = .ok (.invokevirtual 62, 3) := by decide +kernel
theorem dX4_rewrite_27 : decode cX4_rewrite 27 = .ok (.if_icmp .ge 42, 3) := by decide +kernel
theorem dX4_rewrite_30 : decode cX4_rewrite 30 = .ok (.aload_n 2, 1) := by decide +kernel
theorem dX4_rewrite_31 : decode cX4_rewrite 31 = .ok (.iload_n 3, 1) := by decide +kernel
theorem dX4_rewrite_32 : decode cX4_rewrite 32 = .ok (.invokevirtual 65, 3) := by decide +kernel
theorem dX4_rewrite_35 : decode cX4_rewrite 35 = .ok (.istore 5, 2) := by decide +kernel
theorem dX4_rewrite_37 : decode cX4_rewrite 37 = .ok (.aload_n 0, 1) := by decide +kernel
theorem dX4_rewrite_38 : decode cX4_rewrite 38 = .ok (.aload_n 1, 1) := by decide +kernel
theorem dX4_rewrite_39 : decode cX4_rewrite 39 = .ok (.aload_n 0, 1) := by decide +kernel
theorem dX4_rewrite_40 : decode cX4_rewrite 40 = .ok (.getfield 21, 3) := by decide +kernel
theorem dX4_rewrite_43 : decode cX4_rewrite 43 = .ok (.aload_n 2, 1) := by decide +kernel
theorem dX4_rewrite_44 : decode cX4_rewrite 44 = .ok (.iload_n 3, 1) := by decide +kernel
theorem dX4_rewrite_45 : decode cX4_rewrite 45 = .ok (.iload 5, 2) := by decide +kernel
theorem dX4_rewrite_47 : decode cX4_rewrite 47 = .ok (.invokevirtual 68, 3) := by decide +kernel
theorem dX4_rewrite_50 : decode cX4_rewrite 50 = .ok (.invokevirtual 72, 3) := by decide +kernel
theorem dX4_rewrite_53 : decode cX4_rewrite 53 = .ok (.invokevirtual 76, 3) := by decide +kernel
theorem dX4_rewrite_56 : decode cX4_rewrite 56 = .ok (.aload_n 2, 1) := by decide +kernel
theorem dX4_rewrite_57 : decode cX4_rewrite 57 = .ok (.iload 5, 2) := by decide +kernel
theorem dX4_rewrite_59 : decode cX4_rewrite 59 = .ok (.invokevirtual 57, 3) := by decide +kernel
theorem dX4_rewrite_62 : decode cX4_rewrite 62 = .ok (.istore_n 3, 1) := by decide +kernel
theorem dX4_rewrite_63 : decode cX4_rewrite 63 = .ok (.iinc 4 1, 3) := by decide +kernel
theorem dX4_rewrite_66 : decode cX4_rewrite 66 = .ok (.goto (-52), 3) := by decide +kernel
theorem dX4_rewrite_69 : decode cX4_rewrite 69 = .ok (.return_, 1) := by decide +kernel
theorem dX4_rarity_0 : decode cX4_rarity 0 = .ok (.aload_n 1, 1) := by decide +kernel
theorem dX4_rarity_1 : decode cX4_rarity 1 = .ok (.getfield 80, 3) := by decide +kernel
theorem dX4_rarity_4 : decode cX4_rarity 4 = .ok (.iconst 1, 1) := by decide +kernel
theorem dX4_rarity_5 : decode cX4_rarity 5 = .ok (.if_icmp .ge 5, 3) := by decide +kernel
theorem dX4_rarity_8 : decode cX4_rarity 8 = .ok (.iconst 0, 1) := by decide +kernel
theorem dX4_rarity_9 : decode cX4_rarity 9 = .ok (.ireturn, 1) := by decide +kernel
theorem dX4_rarity_10 : decode cX4_rarity 10 = .ok (.aload_n 0, 1) := by decide +kernel
theorem dX4_rarity_11 : decode cX4_rarity 11 = .ok (.getfield 12, 3) := by decide +kernel
theorem dX4_rarity_14 : decode cX4_rarity 14 = .ok (.invokevirtual 25, 3) := by decide +kernel
theorem dX4_rarity_17 : decode cX4_rarity 17 = .ok (.aload_n 1, 1) := by decide +kernel
theorem dX4_rarity_18 : decode cX4_rarity 18 = .ok (.getfield 80, 3) := by decide +kernel
theorem dX4_rarity_21 : decode cX4_rarity 21 = .ok (.idiv, 1) := by decide +kernel
theorem dX4_rarity_22 : decode cX4_rarity 22 = .ok (.istore_n 2, 1) := by decide +kernel
theorem dX4_rarity_23 : decode cX4_rarity 23 = .ok (.iconst 0, 1) := by decide +kernel
theorem dX4_rarity_24 : decode cX4_rarity 24 = .ok (.istore_n 3, 1) := by decide +kernel
theorem dX4_rarity_25 : decode cX4_rarity 25 = .ok (.iload_n 3, 1) := by decide +kernel
theorem dX4_rarity_26 : decode cX4_rarity 26 = .ok (.bipush 31, 2) := by decide +kernel
theorem dX4_rarity_28 : decode cX4_rarity 28 = .ok (.if_icmp .ge 15, 3) := by decide +kernel
theorem dX4_rarity_31 : decode cX4_rarity 31 = .ok (.iload_n 2, 1) := by decide +kernel
theorem dX4_rarity_32 : decode cX4_rarity 32 = .ok (.iload_n 3, 1) := by decide +kernel
theorem dX4_rarity_33 : decode cX4_rarity 33 = .ok (.ishr, 1) := by decide +kernel
theorem dX4_rarity_34 : decode cX4_rarity 34 = .ok (.ifCond .eq 9, 3) := by decide +kernel
theorem dX4_rarity_37 : decode cX4_rarity 37 = .ok (.iinc 3 1, 3) := by decide +kernel
theorem dX4_rarity_40 : decode cX4_rarity 40 = .ok (.goto (-15), 3) := by decide +kernel
theorem dX4_rarity_43 : decode cX4_rarity 43 = .ok (.iload_n 3, 1) := by decide +kernel
theorem dX4_rarity_44 : decode cX4_rarity 44 = .ok (.ireturn, 1) := by decide +kernel
theorem dX4_documentAt_0 : decode cX4_documentAt 0 = .ok (.iload_n 1, 1) := by decide +kernel
theorem dX4_documentAt_1 : decode cX4_documentAt 1 = .ok (.ifCond .lt 28, 3) := by decide +kernel
theorem dX4_documentAt_4 : decode cX4_documentAt 4 = .ok (.iload_n 1, 1) := by decide +kernel
theorem dX4_documentAt_5 : decode cX4_documentAt 5 = .ok (.aload_n 0, 1) := by decide +kernel
theorem dX4_documentAt_6 : decode cX4_documentAt 6 = .ok (.getfield 12, 3) := by decide +kernel
theorem dX4_documentAt_9 : decode cX4_documentAt 9 = .ok (.invokevirtual 25, 3) := by decide +kernel
theorem dX4_documentAt_12 : decode cX4_documentAt 12 = .ok (.if_icmp .ge 17, 3) := by decide +kernel
theorem dX4_documentAt_15 : decode cX4_documentAt 15 = .ok (.aload_n 0, 1) := by decide +kernel
theorem dX4_documentAt_16 : decode cX4_documentAt 16 = .ok (.getfield 12, 3) := by decide +kernel
theorem dX4_documentAt_19 : decode cX4_documentAt 19 = .ok (.iload_n 1, 1) := by decide +kernel
theorem dX4_documentAt_20 : decode cX4_documentAt 20 = .ok (.invokevirtual 86, 3) := by decide +kernel
theorem dX4_documentAt_23 : decode cX4_documentAt 23 = .ok (.checkcast 40, 3) := by decide +kernel
theorem dX4_documentAt_26 : decode cX4_documentAt 26 = .ok (.goto 4, 3) := by decide +kernel
theorem dX4_documentAt_29 : decode cX4_documentAt 29 = .ok (.aconst_null, 1) := by decide +kernel
theorem dX4_documentAt_30 : decode cX4_documentAt 30 = .ok (.areturn, 1) := by decide +kernel
theorem dX4_indexOf_0 : decode cX4_indexOf 0 = .ok (.iconst 0, 1) := by decide +kernel
theorem dX4_indexOf_1 : decode cX4_indexOf 1 = .ok (.istore_n 2, 1) := by decide +kernel
theorem dX4_indexOf_2 : decode cX4_indexOf 2 = .ok (.iload_n 2, 1) := by decide +kernel
theorem dX4_indexOf_3 : decode cX4_indexOf 3 = .ok (.aload_n 0, 1) := by decide +kernel
theorem dX4_indexOf_4 : decode cX4_indexOf 4 = .ok (.getfield 12, 3) := by decide +kernel
theorem dX4_indexOf_7 : decode cX4_indexOf 7 = .ok (.invokevirtual 25, 3) := by decide +kernel
theorem dX4_indexOf_10 : decode cX4_indexOf 10 = .ok (.if_icmp .ge 29, 3) := by decide +kernel
theorem dX4_indexOf_13 : decode cX4_indexOf 13 = .ok (.aload_n 0, 1) := by decide +kernel
theorem dX4_indexOf_14 : decode cX4_indexOf 14 = .ok (.iload_n 2, 1) := by decide +kernel
theorem dX4_indexOf_15 : decode cX4_indexOf 15 = .ok (.invokevirtual 33, 3) := by decide +kernel
theorem dX4_indexOf_18 : decode cX4_indexOf 18 = .ok (.astore_n 3, 1) := by decide +kernel
theorem dX4_indexOf_19 : decode cX4_indexOf 19 = .ok (.aload_n 3, 1) := by decide +kernel
theorem dX4_indexOf_20 : decode cX4_indexOf 20 = .ok (.ifnull 13, 3) := by decide +kernel
theorem dX4_indexOf_23 : decode cX4_indexOf 23 = .ok (.aload_n 3, 1) := by decide +kernel
theorem dX4_indexOf_24 : decode cX4_indexOf 24 = .ok (.getfield 89, 3) := by decide +kernel
theorem dX4_indexOf_27 : decode cX4_indexOf 27 = .ok (.iload_n 1, 1) := by decide +kernel
theorem dX4_indexOf_28 : decode cX4_indexOf 28 = .ok (.if_icmp .ne 5, 3) := by decide +kernel
theorem dX4_indexOf_31 : decode cX4_indexOf 31 = .ok (.iload_n 2, 1) := by decide +kernel
theorem dX4_indexOf_32 : decode cX4_indexOf 32 = .ok (.ireturn, 1) := by decide +kernel
theorem dX4_indexOf_33 : decode cX4_indexOf 33 = .ok (.iinc 2 1, 3) := by decide +kernel
theorem dX4_indexOf_36 : decode cX4_indexOf 36 = .ok (.goto (-34), 3) := by decide +kernel
theorem dX4_indexOf_39 : decode cX4_indexOf 39 = .ok (.iconst (-1), 1) := by decide +kernel
theorem dX4_indexOf_40 : decode cX4_indexOf 40 = .ok (.ireturn, 1) := by decide +kernel
theorem dX4_count_0 : decode cX4_count 0 = .ok (.aload_n 2, 1) := by decide +kernel
theorem dX4_count_1 : decode cX4_count 1 = .ok (.getfield 92, 3) := by decide +kernel
theorem dX4_count_4 : decode cX4_count 4 = .ok (.astore_n 3, 1) := by decide +kernel
theorem dX4_count_5 : decode cX4_count 5 = .ok (.aload_n 3, 1) := by decide +kernel
theorem dX4_count_6 : decode cX4_count 6 = .ok (.ifnull 11, 3) := by decide +kernel
theorem dX4_count_9 : decode cX4_count 9 = .ok (.aload_n 3, 1) := by decide +kernel
theorem dX4_count_10 : decode cX4_count 10 = .ok (.getfield 96, 3) := by decide +kernel
theorem dX4_count_13 : decode cX4_count 13 = .ok (.aload_n 1, 1) := by decide +kernel
theorem dX4_count_14 : decode cX4_count 14 = .ok (.if_acmp .eq 10, 3) := by decide +kernel
theorem dX4_count_17 : decode cX4_count 17 = .ok (.aload_n 0, 1) := by decide +kernel
theorem dX4_count_18 : decode cX4_count 18 = .ok (.aload_n 1, 1) := by decide +kernel
theorem dX4_count_19 : decode cX4_count 19 = .ok (.aload_n 2, 1) := by decide +kernel
theorem dX4_count_20 : decode cX4_count 20 = .ok (.invokevirtual 102, 3) := by decide +kernel
theorem dX4_count_23 : decode cX4_count 23 = .ok (.astore_n 3, 1) := by decide +kernel
theorem dX4_count_24 : decode cX4_count 24 = .ok (.aload_n 3, 1) := by decide +kernel
theorem dX4_count_25 : decode cX4_count 25 = .ok (.dup, 1) := by decide +kernel
theorem dX4_count_26 : decode cX4_count 26 = .ok (.getfield 106, 3) := by decide +kernel
theorem dX4_count_29 : decode cX4_count 29 = .ok (.iconst 1, 1) := by decide +kernel
theorem dX4_count_30 : decode cX4_count 30 = .ok (.iadd, 1) := by decide +kernel
theorem dX4_count_31 : decode cX4_count 31 = .ok (.putfield 106, 3) := by decide +kernel
theorem dX4_count_34 : decode cX4_count 34 = .ok (.aload_n 2, 1) := by decide +kernel
theorem dX4_count_35 : decode cX4_count 35 = .ok (.dup, 1) := by decide +kernel
theorem dX4_count_36 : decode cX4_count 36 = .ok (.getfield 109, 3) := by decide +kernel
theorem dX4_count_39 : decode cX4_count 39 = .ok (.iconst 1, 1) := by decide +kernel
theorem dX4_count_40 : decode cX4_count 40 = .ok (.iadd, 1) := by decide +kernel
theorem dX4_count_41 : decode cX4_count 41 = .ok (.putfield 109, 3) := by decide +kernel
theorem dX4_count_44 : decode cX4_count 44 = .ok (.aload_n 1, 1) := by decide +kernel
theorem dX4_count_45 : decode cX4_count 45 = .ok (.dup, 1) := by decide +kernel
theorem dX4_count_46 : decode cX4_count 46 = .ok (.getfield 112, 3) := by decide +kernel
theorem dX4_count_49 : decode cX4_count 49 = .ok (.iconst 1, 1) := by decide +kernel
theorem dX4_count_50 : decode cX4_count 50 = .ok (.iadd, 1) := by decide +kernel
theorem dX4_count_51 : decode cX4_count 51 = .ok (.putfield 112, 3) := by decide +kernel
theorem dX4_count_54 : decode cX4_count 54 = .ok (.aload_n 0, 1) := by decide +kernel
theorem dX4_count_55 : decode cX4_count 55 = .ok (.dup, 1) := by decide +kernel
theorem dX4_count_56 : decode cX4_count 56 = .ok (.getfield 114, 3) := by decide +kernel
theorem dX4_count_59 : decode cX4_count 59 = .ok (.iconst 1, 1) := by decide +kernel
theorem dX4_count_60 : decode cX4_count 60 = .ok (.iadd, 1) := by decide +kernel
theorem dX4_count_61 : decode cX4_count 61 = .ok (.putfield 114, 3) := by decide +kernel
theorem dX4_count_64 : decode cX4_count 64 = .ok (.return_, 1) := by decide +kernel
theorem dX4_post_0 : decode cX4_post 0 = .ok (.aload_n 0, 1) := by decide +kernel
theorem dX4_post_1 : decode cX4_post 1 = .ok (.invokevirtual 117, 3) := by decide +kernel
theorem dX4_post_4 : decode cX4_post 4 = .ok (.astore_n 3, 1) := by decide +kernel
theorem dX4_post_5 : decode cX4_post 5 = .ok (.aload_n 3, 1) := by decide +kernel
theorem dX4_post_6 : decode cX4_post 6 = .ok (.aload_n 2, 1) := by decide +kernel
theorem dX4_post_7 : decode cX4_post 7 = .ok (.putfield 121, 3) := by decide +kernel
theorem dX4_post_10 : decode cX4_post 10 = .ok (.aload_n 3, 1) := by decide +kernel
theorem dX4_post_11 : decode cX4_post 11 = .ok (.aload_n 1, 1) := by decide +kernel
theorem dX4_post_12 : decode cX4_post 12 = .ok (.putfield 96, 3) := by decide +kernel
theorem dX4_post_15 : decode cX4_post 15 = .ok (.aload_n 3, 1) := by decide +kernel
theorem dX4_post_16 : decode cX4_post 16 = .ok (.iconst 0, 1) := by decide +kernel
theorem dX4_post_17 : decode cX4_post 17 = .ok (.putfield 106, 3) := by decide +kernel
theorem dX4_post_20 : decode cX4_post 20 = .ok (.aload_n 3, 1) := by decide +kernel
theorem dX4_post_21 : decode cX4_post 21 = .ok (.aload_n 1, 1) := by decide +kernel
theorem dX4_post_22 : decode cX4_post 22 = .ok (.getfield 125, 3) := by decide +kernel
theorem dX4_post_25 : decode cX4_post 25 = .ok (.putfield 126, 3) := by decide +kernel
theorem dX4_post_28 : decode cX4_post 28 = .ok (.aload_n 1, 1) := by decide +kernel
theorem dX4_post_29 : decode cX4_post 29 = .ok (.aload_n 3, 1) := by decide +kernel
theorem dX4_post_30 : decode cX4_post 30 = .ok (.putfield 125, 3) := by decide +kernel
theorem dX4_post_33 : decode cX4_post 33 = .ok (.aload_n 2, 1) := by decide +kernel
theorem dX4_post_34 : decode cX4_post 34 = .ok (.aload_n 3, 1) := by decide +kernel
theorem dX4_post_35 : decode cX4_post 35 = .ok (.invokevirtual 129, 3) := by decide +kernel
theorem dX4_post_38 : decode cX4_post 38 = .ok (.aload_n 3, 1) := by decide +kernel
theorem dX4_post_39 : decode cX4_post 39 = .ok (.areturn, 1) := by decide +kernel
theorem dX4_forgetWords_0 : decode cX4_forgetWords 0 = .ok (.aload_n 1, 1) := by decide +kernel
theorem dX4_forgetWords_1 : decode cX4_forgetWords 1 = .ok (.getfield 125, 3) := by decide +kernel
theorem dX4_forgetWords_4 : decode cX4_forgetWords 4 = .ok (.astore_n 2, 1) := by decide +kernel
theorem dX4_forgetWords_5 : decode cX4_forgetWords 5 = .ok (.aload_n 2, 1) := by decide +kernel
theorem dX4_forgetWords_6 : decode cX4_forgetWords 6 = .ok (.ifnull 18, 3) := by decide +kernel
theorem dX4_forgetWords_9 : decode cX4_forgetWords 9 = .ok (.aload_n 2, 1) := by decide +kernel
theorem dX4_forgetWords_10 : decode cX4_forgetWords 10 = .ok (.getfield 126, 3) := by decide +kernel
theorem dX4_forgetWords_13 : decode cX4_forgetWords 13 = .ok (.astore_n 3, 1) := by decide +kernel
theorem dX4_forgetWords_14 : decode cX4_forgetWords 14 = .ok (.aload_n 0, 1) := by decide +kernel
theorem dX4_forgetWords_15 : decode cX4_forgetWords 15 = .ok (.aload_n 2, 1) := by decide +kernel
theorem dX4_forgetWords_16 : decode cX4_forgetWords 16 = .ok (.invokevirtual 133, 3) := by decide +kernel
theorem dX4_forgetWords_19 : decode cX4_forgetWords 19 = .ok (.aload_n 3, 1) := by decide +kernel
theorem dX4_forgetWords_20 : decode cX4_forgetWords 20 = .ok (.astore_n 2, 1) := by decide +kernel
theorem dX4_forgetWords_21 : decode cX4_forgetWords 21 = .ok (.goto (-16), 3) := by decide +kernel
theorem dX4_forgetWords_24 : decode cX4_forgetWords 24 = .ok (.aload_n 0, 1) := by decide +kernel
theorem dX4_forgetWords_25 : decode cX4_forgetWords 25 = .ok (.dup, 1) := by decide +kernel
theorem dX4_forgetWords_26 : decode cX4_forgetWords 26 = .ok (.getfield 114, 3) := by decide +kernel
theorem dX4_forgetWords_29 : decode cX4_forgetWords 29 = .ok (.aload_n 1, 1) := by decide +kernel
theorem dX4_forgetWords_30 : decode cX4_forgetWords 30 = .ok (.getfield 112, 3) := by decide +kernel
theorem dX4_forgetWords_33 : decode cX4_forgetWords 33 = .ok (.isub, 1) := by decide +kernel
theorem dX4_forgetWords_34 : decode cX4_forgetWords 34 = .ok (.putfield 114, 3) := by decide +kernel
theorem dX4_forgetWords_37 : decode cX4_forgetWords 37 = .ok (.aload_n 1, 1) := by decide +kernel
theorem dX4_forgetWords_38 : decode cX4_forgetWords 38 = .ok (.iconst 0, 1) := by decide +kernel
theorem dX4_forgetWords_39 : decode cX4_forgetWords 39 = .ok (.putfield 112, 3) := by decide +kernel
theorem dX4_forgetWords_42 : decode cX4_forgetWords 42 = .ok (.aload_n 1, 1) := by decide +kernel
theorem dX4_forgetWords_43 : decode cX4_forgetWords 43 = .ok (.aconst_null, 1) := by decide +kernel
theorem dX4_forgetWords_44 : decode cX4_forgetWords 44 = .ok (.putfield 125, 3) := by decide +kernel
theorem dX4_forgetWords_47 : decode cX4_forgetWords 47 = .ok (.return_, 1) := by decide +kernel
theorem dX4_release_0 : decode cX4_release 0 = .ok (.aload_n 1, 1) := by decide +kernel
theorem dX4_release_1 : decode cX4_release 1 = .ok (.getfield 121, 3) := by decide +kernel
theorem dX4_release_4 : decode cX4_release 4 = .ok (.astore_n 2, 1) := by decide +kernel
theorem dX4_release_5 : decode cX4_release 5 = .ok (.aload_n 2, 1) := by decide +kernel
theorem dX4_release_6 : decode cX4_release 6 = .ok (.ifnull 23, 3) := by decide +kernel
theorem dX4_release_9 : decode cX4_release 9 = .ok (.aload_n 2, 1) := by decide +kernel
theorem dX4_release_10 : decode cX4_release 10 = .ok (.aload_n 1, 1) := by decide +kernel
theorem dX4_release_11 : decode cX4_release 11 = .ok (.invokevirtual 136, 3) := by decide +kernel
theorem dX4_release_14 : decode cX4_release 14 = .ok (.aload_n 2, 1) := by decide +kernel
theorem dX4_release_15 : decode cX4_release 15 = .ok (.getfield 92, 3) := by decide +kernel
theorem dX4_release_18 : decode cX4_release 18 = .ok (.ifnonnull 11, 3) := by decide +kernel
theorem dX4_release_21 : decode cX4_release 21 = .ok (.aload_n 0, 1) := by decide +kernel
theorem dX4_release_22 : decode cX4_release 22 = .ok (.getfield 21, 3) := by decide +kernel
theorem dX4_release_25 : decode cX4_release 25 = .ok (.aload_n 2, 1) := by decide +kernel
theorem dX4_release_26 : decode cX4_release 26 = .ok (.invokevirtual 139, 3) := by decide +kernel
theorem dX4_release_29 : decode cX4_release 29 = .ok (.aload_n 1, 1) := by decide +kernel
theorem dX4_release_30 : decode cX4_release 30 = .ok (.aconst_null, 1) := by decide +kernel
theorem dX4_release_31 : decode cX4_release 31 = .ok (.putfield 121, 3) := by decide +kernel
theorem dX4_release_34 : decode cX4_release 34 = .ok (.aload_n 1, 1) := by decide +kernel
theorem dX4_release_35 : decode cX4_release 35 = .ok (.aconst_null, 1) := by decide +kernel
theorem dX4_release_36 : decode cX4_release 36 = .ok (.putfield 96, 3) := by decide +kernel
theorem dX4_release_39 : decode cX4_release 39 = .ok (.aload_n 1, 1) := by decide +kernel
theorem dX4_release_40 : decode cX4_release 40 = .ok (.aload_n 0, 1) := by decide +kernel
theorem dX4_release_41 : decode cX4_release 41 = .ok (.getfield 143, 3) := by decide +kernel
theorem dX4_release_44 : decode cX4_release 44 = .ok (.putfield 126, 3) := by decide +kernel
theorem dX4_release_47 : decode cX4_release 47 = .ok (.aload_n 0, 1) := by decide +kernel
theorem dX4_release_48 : decode cX4_release 48 = .ok (.aload_n 1, 1) := by decide +kernel
theorem dX4_release_49 : decode cX4_release 49 = .ok (.putfield 143, 3) := by decide +kernel
theorem dX4_release_52 : decode cX4_release 52 = .ok (.return_, 1) := by decide +kernel
theorem dX4_takePosting_0 : decode cX4_takePosting 0 = .ok (.aload_n 0, 1) := by decide +kernel
theorem dX4_takePosting_1 : decode cX4_takePosting 1 = .ok (.getfield 143, 3) := by decide +kernel
theorem dX4_takePosting_4 : decode cX4_takePosting 4 = .ok (.ifnonnull 11, 3) := by decide +kernel
theorem dX4_takePosting_7 : decode cX4_takePosting 7 = .ok (.new 97, 3) := by decide +kernel
theorem dX4_takePosting_10 : decode cX4_takePosting 10 = .ok (.dup, 1) := by decide +kernel
theorem dX4_takePosting_11 : decode cX4_takePosting 11 = .ok (.invokespecial 146, 3) := by decide +kernel
theorem dX4_takePosting_14 : decode cX4_takePosting 14 = .ok (.areturn, 1) := by decide +kernel
theorem dX4_takePosting_15 : decode cX4_takePosting 15 = .ok (.aload_n 0, 1) := by decide +kernel
theorem dX4_takePosting_16 : decode cX4_takePosting 16 = .ok (.getfield 143, 3) := by decide +kernel
theorem dX4_takePosting_19 : decode cX4_takePosting 19 = .ok (.astore_n 1, 1) := by decide +kernel
theorem dX4_takePosting_20 : decode cX4_takePosting 20 = .ok (.aload_n 0, 1) := by decide +kernel
theorem dX4_takePosting_21 : decode cX4_takePosting 21 = .ok (.aload_n 1, 1) := by decide +kernel
theorem dX4_takePosting_22 : decode cX4_takePosting 22 = .ok (.getfield 126, 3) := by decide +kernel
theorem dX4_takePosting_25 : decode cX4_takePosting 25 = .ok (.putfield 143, 3) := by decide +kernel
theorem dX4_takePosting_28 : decode cX4_takePosting 28 = .ok (.aload_n 1, 1) := by decide +kernel
theorem dX4_takePosting_29 : decode cX4_takePosting 29 = .ok (.areturn, 1) := by decide +kernel
theorem dX5_init_0 : decode cX5_init 0 = .ok (.aload_n 0, 1) := by decide +kernel
theorem dX5_init_1 : decode cX5_init 1 = .ok (.invokespecial 1, 3) := by decide +kernel
theorem dX5_init_4 : decode cX5_init 4 = .ok (.return_, 1) := by decide +kernel
theorem dX5_impact_0 : decode cX5_impact 0 = .ok (.aload_n 0, 1) := by decide +kernel
theorem dX5_impact_1 : decode cX5_impact 1 = .ok (.getfield 7, 3) := by decide +kernel
theorem dX5_impact_4 : decode cX5_impact 4 = .ok (.ifnonnull 7, 3) := by decide +kernel
theorem dX5_impact_7 : decode cX5_impact 7 = .ok (.iconst 0, 1) := by decide +kernel
theorem dX5_impact_8 : decode cX5_impact 8 = .ok (.goto 20, 3) := by decide +kernel
theorem dX5_impact_11 : decode cX5_impact 11 = .ok (.aload_n 0, 1) := by decide +kernel
theorem dX5_impact_12 : decode cX5_impact 12 = .ok (.getfield 13, 3) := by decide +kernel
theorem dX5_impact_15 : decode cX5_impact 15 = .ok (.iconst 1, 1) := by decide +kernel
theorem dX5_impact_16 : decode cX5_impact 16 = .ok (.iadd, 1) := by decide +kernel
theorem dX5_impact_17 : decode cX5_impact 17 = .ok (.aload_n 0, 1) := by decide +kernel
theorem dX5_impact_18 : decode cX5_impact 18 = .ok (.getfield 7, 3) := by decide +kernel
theorem dX5_impact_21 : decode cX5_impact 21 = .ok (.getfield 17, 3) := by decide +kernel
theorem dX5_impact_24 : decode cX5_impact 24 = .ok (.bipush 8, 2) := by decide +kernel
theorem dX5_impact_26 : decode cX5_impact 26 = .ok (.idiv, 1) := by decide +kernel
theorem dX5_impact_27 : decode cX5_impact 27 = .ok (.iadd, 1) := by decide +kernel
theorem dX5_impact_28 : decode cX5_impact 28 = .ok (.istore_n 1, 1) := by decide +kernel
theorem dX5_impact_29 : decode cX5_impact 29 = .ok (.iload_n 1, 1) := by decide +kernel
theorem dX5_impact_30 : decode cX5_impact 30 = .ok (.iconst 1, 1) := by decide +kernel
theorem dX5_impact_31 : decode cX5_impact 31 = .ok (.if_icmp .ge 7, 3) := by decide +kernel
theorem dX5_impact_34 : decode cX5_impact 34 = .ok (.iconst 0, 1) := by decide +kernel
theorem dX5_impact_35 : decode cX5_impact 35 = .ok (.goto 13, 3) := by decide +kernel
theorem dX5_impact_38 : decode cX5_impact 38 = .ok (.sipush 256, 3) := by decide +kernel
theorem dX5_impact_41 : decode cX5_impact 41 = .ok (.aload_n 0, 1) := by decide +kernel
theorem dX5_impact_42 : decode cX5_impact 42 = .ok (.getfield 13, 3) := by decide +kernel
theorem dX5_impact_45 : decode cX5_impact 45 = .ok (.imul, 1) := by decide +kernel
theorem dX5_impact_46 : decode cX5_impact 46 = .ok (.iload_n 1, 1) := by decide +kernel
theorem dX5_impact_47 : decode cX5_impact 47 = .ok (.idiv, 1) := by decide +kernel
theorem dX5_impact_48 : decode cX5_impact 48 = .ok (.ireturn, 1) := by decide +kernel
theorem dX6_init_0 : decode cX6_init 0 = .ok (.aload_n 0, 1) := by decide +kernel
theorem dX6_init_1 : decode cX6_init 1 = .ok (.invokespecial 3, 3) := by decide +kernel
theorem dX6_init_4 : decode cX6_init 4 = .ok (.aload_n 0, 1) := by decide +kernel
theorem dX6_init_5 : decode cX6_init 5 = .ok (.bipush 16, 2) := by decide +kernel
theorem dX6_init_7 : decode cX6_init 7 = .ok (.anewarray 9, 3) := by decide +kernel
theorem dX6_init_10 : decode cX6_init 10 = .ok (.putfield 11, 3) := by decide +kernel
theorem dX6_init_13 : decode cX6_init 13 = .ok (.aload_n 0, 1) := by decide +kernel
theorem dX6_init_14 : decode cX6_init 14 = .ok (.new 9, 3) := by decide +kernel
theorem dX6_init_17 : decode cX6_init 17 = .ok (.dup, 1) := by decide +kernel
theorem dX6_init_18 : decode cX6_init 18 = .ok (.invokespecial 17, 3) := by decide +kernel
theorem dX6_init_21 : decode cX6_init 21 = .ok (.putfield 18, 3) := by decide +kernel
theorem dX6_init_24 : decode cX6_init 24 = .ok (.aload_n 0, 1) := by decide +kernel
theorem dX6_init_25 : decode cX6_init 25 = .ok (.iconst 0, 1) := by decide +kernel
theorem dX6_init_26 : decode cX6_init 26 = .ok (.putfield 22, 3) := by decide +kernel
theorem dX6_init_29 : decode cX6_init 29 = .ok (.aload_n 0, 1) := by decide +kernel
theorem dX6_init_30 : decode cX6_init 30 = .ok (.iconst (-1), 1) := by decide +kernel
theorem dX6_init_31 : decode cX6_init 31 = .ok (.putfield 26, 3) := by decide +kernel
theorem dX6_init_34 : decode cX6_init 34 = .ok (.iconst 0, 1) := by decide +kernel
theorem dX6_init_35 : decode cX6_init 35 = .ok (.istore_n 1, 1) := by decide +kernel
theorem dX6_init_36 : decode cX6_init 36 = .ok (.iload_n 1, 1) := by decide +kernel
theorem dX6_init_37 : decode cX6_init 37 = .ok (.aload_n 0, 1) := by decide +kernel
theorem dX6_init_38 : decode cX6_init 38 = .ok (.getfield 11, 3) := by decide +kernel
theorem dX6_init_41 : decode cX6_init 41 = .ok (.arraylength, 1) := by decide +kernel
theorem dX6_init_42 : decode cX6_init 42 = .ok (.if_icmp .ge 22, 3) := by decide +kernel
theorem dX6_init_45 : decode cX6_init 45 = .ok (.aload_n 0, 1) := by decide +kernel
theorem dX6_init_46 : decode cX6_init 46 = .ok (.getfield 11, 3) := by decide +kernel
theorem dX6_init_49 : decode cX6_init 49 = .ok (.iload_n 1, 1) := by decide +kernel
theorem dX6_init_50 : decode cX6_init 50 = .ok (.new 9, 3) := by decide +kernel
theorem dX6_init_53 : decode cX6_init 53 = .ok (.dup, 1) := by decide +kernel
theorem dX6_init_54 : decode cX6_init 54 = .ok (.invokespecial 17, 3) := by decide +kernel
theorem dX6_init_57 : decode cX6_init 57 = .ok (.aastore, 1) := by decide +kernel
theorem dX6_init_58 : decode cX6_init 58 = .ok (.iinc 1 1, 3) := by decide +kernel
theorem dX6_init_61 : decode cX6_init 61 = .ok (.goto (-25), 3) := by decide +kernel
theorem dX6_init_64 : decode cX6_init 64 = .ok (.return_, 1) := by decide +kernel
theorem dX6_termAt_0 : decode cX6_termAt 0 = .ok (.iload_n 1, 1) := by decide +kernel
theorem dX6_termAt_1 : decode cX6_termAt 1 = .ok (.ifCond .lt 29, 3) := by decide +kernel
theorem dX6_termAt_4 : decode cX6_termAt 4 = .ok (.iload_n 1, 1) := by decide +kernel
theorem dX6_termAt_5 : decode cX6_termAt 5 = .ok (.aload_n 0, 1) := by decide +kernel
theorem dX6_termAt_6 : decode cX6_termAt 6 = .ok (.getfield 29, 3) := by decide +kernel
theorem dX6_termAt_9 : decode cX6_termAt 9 = .ok (.if_icmp .ge 21, 3) := by decide +kernel
theorem dX6_termAt_12 : decode cX6_termAt 12 = .ok (.iload_n 1, 1) := by decide +kernel
theorem dX6_termAt_13 : decode cX6_termAt 13 = .ok (.aload_n 0, 1) := by decide +kernel
theorem dX6_termAt_14 : decode cX6_termAt 14 = .ok (.getfield 11, 3) := by decide +kernel
theorem dX6_termAt_17 : decode cX6_termAt 17 = .ok (.arraylength, 1) := by decide +kernel
theorem dX6_termAt_18 : decode cX6_termAt 18 = .ok (.if_icmp .ge 12, 3) := by decide +kernel
theorem dX6_termAt_21 : decode cX6_termAt 21 = .ok (.aload_n 0, 1) := by decide +kernel
theorem dX6_termAt_22 : decode cX6_termAt 22 = .ok (.getfield 11, 3) := by decide +kernel
theorem dX6_termAt_25 : decode cX6_termAt 25 = .ok (.iload_n 1, 1) := by decide +kernel
theorem dX6_termAt_26 : decode cX6_termAt 26 = .ok (.aaload, 1) := by decide +kernel
theorem dX6_termAt_27 : decode cX6_termAt 27 = .ok (.goto 4, 3) := by decide +kernel
theorem dX6_termAt_30 : decode cX6_termAt 30 = .ok (.aconst_null, 1) := by decide +kernel
theorem dX6_termAt_31 : decode cX6_termAt 31 = .ok (.areturn, 1) := by decide +kernel
theorem dX6_read_0 : decode cX6_read 0 = .ok (.aload_n 0, 1) := by decide +kernel
theorem dX6_read_1 : decode cX6_read 1 = .ok (.iconst 0, 1) := by decide +kernel
theorem dX6_read_2 : decode cX6_read 2 = .ok (.putfield 29, 3) := by decide +kernel
theorem dX6_read_5 : decode cX6_read 5 = .ok (.aload_n 0, 1) := by decide +kernel
theorem dX6_read_6 : decode cX6_read 6 = .ok (.iconst 0, 1) := by decide +kernel
theorem dX6_read_7 : decode cX6_read 7 = .ok (.putfield 32, 3) := by decide +kernel
theorem dX6_read_10 : decode cX6_read 10 = .ok (.aload_n 0, 1) := by decide +kernel
theorem dX6_read_11 : decode cX6_read 11 = .ok (.iconst 0, 1) := by decide +kernel
theorem dX6_read_12 : decode cX6_read 12 = .ok (.putfield 22, 3) := by decide +kernel
theorem dX6_read_15 : decode cX6_read 15 = .ok (.aload_n 0, 1) := by decide +kernel
theorem dX6_read_16 : decode cX6_read 16 = .ok (.iconst (-1), 1) := by decide +kernel
theorem dX6_read_17 : decode cX6_read 17 = .ok (.putfield 26, 3) := by decide +kernel
theorem dX6_read_20 : decode cX6_read 20 = .ok (.iconst 0, 1) := by decide +kernel
theorem dX6_read_21 : decode cX6_read 21 = .ok (.istore_n 2, 1) := by decide +kernel
theorem dX6_read_22 : decode cX6_read 22 = .ok (.iload_n 2, 1) := by decide +kernel
theorem dX6_read_23 : decode cX6_read 23 = .ok (.aload_n 1, 1) := by decide +kernel
theorem dX6_read_24 : decode cX6_read 24 = .ok (.invokevirtual 35, 3) := by decide +kernel
theorem dX6_read_27 : decode cX6_read 27 = .ok (.if_icmp .ge 30, 3) := by decide +kernel
theorem dX6_read_30 : decode cX6_read 30 = .ok (.aload_n 0, 1) := by decide +kernel
theorem dX6_read_31 : decode cX6_read 31 = .ok (.getfield 22, 3) := by decide +kernel
theorem dX6_read_34 : decode cX6_read 34 = .ok (.ifCond .ne 23, 3) := by decide +kernel
theorem dX6_read_37 : decode cX6_read 37 = .ok (.aload_n 0, 1) := by decide +kernel
theorem dX6_read_38 : decode cX6_read 38 = .ok (.aload_n 0, 1) := by decide +kernel
theorem dX6_read_39 : decode cX6_read 39 = .ok (.aload_n 1, 1) := by decide +kernel
theorem dX6_read_40 : decode cX6_read 40 = .ok (.iload_n 2, 1) := by decide +kernel
theorem dX6_read_41 : decode cX6_read 41 = .ok (.invokevirtual 41, 3) := by decide +kernel
theorem dX6_read_44 : decode cX6_read 44 = .ok (.invokevirtual 45, 3) := by decide +kernel
theorem dX6_read_47 : decode cX6_read 47 = .ok (.iload_n 2, 1) := by decide +kernel
theorem dX6_read_48 : decode cX6_read 48 = .ok (.invokevirtual 48, 3) := by decide +kernel
theorem dX6_read_51 : decode cX6_read 51 = .ok (.iinc 2 1, 3) := by decide +kernel
theorem dX6_read_54 : decode cX6_read 54 = .ok (.goto (-32), 3) := by decide +kernel
theorem dX6_read_57 : decode cX6_read 57 = .ok (.aload_n 0, 1) := by decide +kernel
theorem dX6_read_58 : decode cX6_read 58 = .ok (.getfield 22, 3) := by decide +kernel
theorem dX6_read_61 : decode cX6_read 61 = .ok (.ifCond .ne 28, 3) := by decide +kernel
theorem dX6_read_64 : decode cX6_read 64 = .ok (.aload_n 0, 1) := by decide +kernel
theorem dX6_read_65 : decode cX6_read 65 = .ok (.getfield 32, 3) := by decide +kernel
theorem dX6_read_68 : decode cX6_read 68 = .ok (.iconst 1, 1) := by decide +kernel
theorem dX6_read_69 : decode cX6_read 69 = .ok (.if_icmp .eq 11, 3) := by decide +kernel
theorem dX6_read_72 : decode cX6_read 72 = .ok (.aload_n 0, 1) := by decide +kernel
theorem dX6_read_73 : decode cX6_read 73 = .ok (.getfield 32, 3) := by decide +kernel
theorem dX6_read_76 : decode cX6_read 76 = .ok (.iconst 4, 1) := by decide +kernel
theorem dX6_read_77 : decode cX6_read 77 = .ok (.if_icmp .ne 12, 3) := by decide +kernel
theorem dX6_read_80 : decode cX6_read 80 = .ok (.aload_n 0, 1) := by decide +kernel
theorem dX6_read_81 : decode cX6_read 81 = .ok (.iconst 1, 1) := by decide +kernel
theorem dX6_read_82 : decode cX6_read 82 = .ok (.aload_n 1, 1) := by decide +kernel
theorem dX6_read_83 : decode cX6_read 83 = .ok (.invokevirtual 35, 3) := by decide +kernel
theorem dX6_read_86 : decode cX6_read 86 = .ok (.invokevirtual 48, 3) := by decide +kernel
theorem dX6_read_89 : decode cX6_read 89 = .ok (.return_, 1) := by decide +kernel
theorem dX6_note_0 : decode cX6_note 0 = .ok (.iload_n 1, 1) := by decide +kernel
theorem dX6_note_1 : decode cX6_note 1 = .ok (.ifCond .eq 13, 3) := by decide +kernel
theorem dX6_note_4 : decode cX6_note 4 = .ok (.aload_n 0, 1) := by decide +kernel
theorem dX6_note_5 : decode cX6_note 5 = .ok (.iload_n 1, 1) := by decide +kernel
theorem dX6_note_6 : decode cX6_note 6 = .ok (.putfield 22, 3) := by decide +kernel
theorem dX6_note_9 : decode cX6_note 9 = .ok (.aload_n 0, 1) := by decide +kernel
theorem dX6_note_10 : decode cX6_note 10 = .ok (.iload_n 2, 1) := by decide +kernel
theorem dX6_note_11 : decode cX6_note 11 = .ok (.putfield 26, 3) := by decide +kernel
theorem dX6_note_14 : decode cX6_note 14 = .ok (.return_, 1) := by decide +kernel
theorem dX6_take_0 : decode cX6_take 0 = .ok (.aload_n 0, 1) := by decide +kernel
theorem dX6_take_1 : decode cX6_take 1 = .ok (.getfield 32, 3) := by decide +kernel
theorem dX6_take_4 : decode cX6_take 4 = .ok (.tableswitch 66 0 4 #[36, 42, 48, 54, 60], 36) := by decide +kernel
theorem dX6_take_40 : decode cX6_take 40 = .ok (.aload_n 0, 1) := by decide +kernel
theorem dX6_take_41 : decode cX6_take 41 = .ok (.iload_n 1, 1) := by decide +kernel
theorem dX6_take_42 : decode cX6_take 42 = .ok (.invokevirtual 52, 3) := by decide +kernel
theorem dX6_take_45 : decode cX6_take 45 = .ok (.ireturn, 1) := by decide +kernel
theorem dX6_take_46 : decode cX6_take 46 = .ok (.aload_n 0, 1) := by decide +kernel
theorem dX6_take_47 : decode cX6_take 47 = .ok (.iload_n 1, 1) := by decide +kernel
theorem dX6_take_48 : decode cX6_take 48 = .ok (.invokevirtual 55, 3) := by decide +kernel
theorem dX6_take_51 : decode cX6_take 51 = .ok (.ireturn, 1) := by decide +kernel
theorem dX6_take_52 : decode cX6_take 52 = .ok (.aload_n 0, 1) := by decide +kernel
theorem dX6_take_53 : decode cX6_take 53 = .ok (.iload_n 1, 1) := by decide +kernel
theorem dX6_take_54 : decode cX6_take 54 = .ok (.invokevirtual 58, 3) := by decide +kernel
theorem dX6_take_57 : decode cX6_take 57 = .ok (.ireturn, 1) := by decide +kernel
theorem dX6_take_58 : decode cX6_take 58 = .ok (.aload_n 0, 1) := by decide +kernel
theorem dX6_take_59 : decode cX6_take 59 = .ok (.iload_n 1, 1) := by decide +kernel
theorem dX6_take_60 : decode cX6_take 60 = .ok (.invokevirtual 61, 3) := by decide +kernel
theorem dX6_take_63 : decode cX6_take 63 = .ok (.ireturn, 1) := by decide +kernel
theorem dX6_take_64 : decode cX6_take 64 = .ok (.aload_n 0, 1) := by decide +kernel
theorem dX6_take_65 : decode cX6_take 65 = .ok (.iload_n 1, 1) := by decide +kernel
theorem dX6_take_66 : decode cX6_take 66 = .ok (.invokevirtual 64, 3) := by decide +kernel
theorem dX6_take_69 : decode cX6_take 69 = .ok (.ireturn, 1) := by decide +kernel
theorem dX6_take_70 : decode cX6_take 70 = .ok (.aload_n 0, 1) := by decide +kernel
theorem dX6_take_71 : decode cX6_take 71 = .ok (.iload_n 1, 1) := by decide +kernel
theorem dX6_take_72 : decode cX6_take 72 = .ok (.invokevirtual 67, 3) := by decide +kernel
theorem dX6_take_75 : decode cX6_take 75 = .ok (.ireturn, 1) := by decide +kernel
theorem dX6_takeBetweenTerms_0 : decode cX6_takeBetweenTerms 0 = .ok (.iload_n 1, 1) := by decide +kernel
theorem dX6_takeBetweenTerms_1 : decode cX6_takeBetweenTerms 1 = .ok (.bipush 43, 2) := by decide +kernel
theorem dX6_takeBetweenTerms_3 : decode cX6_takeBetweenTerms 3 = .ok (.if_icmp .eq 9, 3) := by decide +kernel
theorem dX6_takeBetweenTerms_6 : decode cX6_takeBetweenTerms 6 = .ok (.iload_n 1, 1) := by decide +kernel
theorem dX6_takeBetweenTerms_7 : decode cX6_takeBetweenTerms 7 = .ok (.bipush 45, 2) := by decide +kernel
theorem dX6_takeBetweenTerms_9 : decode cX6_takeBetweenTerms 9 = .ok (.if_icmp .ne 7, 3) := by decide +kernel
theorem dX6_takeBetweenTerms_12 : decode cX6_takeBetweenTerms 12 = .ok (.iconst 1, 1) := by decide +kernel
theorem dX6_takeBetweenTerms_13 : decode cX6_takeBetweenTerms 13 = .ok (.goto 4, 3) := by decide +kernel
theorem dX6_takeBetweenTerms_16 : decode cX6_takeBetweenTerms 16 = .ok (.iconst 0, 1) := by decide +kernel
theorem dX6_takeBetweenTerms_17 : decode cX6_takeBetweenTerms 17 = .ok (.istore_n 2, 1) := by decide +kernel
theorem dX6_takeBetweenTerms_18 : decode cX6_takeBetweenTerms 18 = .ok (.iload_n 2, 1) := by decide +kernel
theorem dX6_takeBetweenTerms_19 : decode cX6_takeBetweenTerms 19 = .ok (.ifCond .ne 16, 3) := by decide +kernel
theorem dX6_takeBetweenTerms_22 : decode cX6_takeBetweenTerms 22 = .ok (.iload_n 1, 1) := by decide +kernel
theorem dX6_takeBetweenTerms_23 : decode cX6_takeBetweenTerms 23 = .ok (.invokestatic 70, 3) := by decide +kernel
theorem dX6_takeBetweenTerms_26 : decode cX6_takeBetweenTerms 26 = .ok (.ifCond .ne 9, 3) := by decide +kernel
theorem dX6_takeBetweenTerms_29 : decode cX6_takeBetweenTerms 29 = .ok (.aload_n 0, 1) := by decide +kernel
theorem dX6_takeBetweenTerms_30 : decode cX6_takeBetweenTerms 30 = .ok (.iload_n 1, 1) := by decide +kernel
theorem dX6_takeBetweenTerms_31 : decode cX6_takeBetweenTerms 31 = .ok (.invokevirtual 67, 3) := by decide +kernel
theorem dX6_takeBetweenTerms_34 : decode cX6_takeBetweenTerms 34 = .ok (.ireturn, 1) := by decide +kernel
theorem dX6_takeBetweenTerms_35 : decode cX6_takeBetweenTerms 35 = .ok (.aload_n 0, 1) := by decide +kernel
theorem dX6_takeBetweenTerms_36 : decode cX6_takeBetweenTerms 36 = .ok (.invokevirtual 76, 3) := by decide +kernel
theorem dX6_takeBetweenTerms_39 : decode cX6_takeBetweenTerms 39 = .ok (.astore_n 3, 1) := by decide +kernel
theorem dX6_takeBetweenTerms_40 : decode cX6_takeBetweenTerms 40 = .ok (.aload_n 3, 1) := by decide +kernel
theorem dX6_takeBetweenTerms_41 : decode cX6_takeBetweenTerms 41 = .ok (.ifnonnull 5, 3) := by decide +kernel
theorem dX6_takeBetweenTerms_44 : decode cX6_takeBetweenTerms 44 = .ok (.iconst 3, 1) := by decide +kernel
theorem dX6_takeBetweenTerms_45 : decode cX6_takeBetweenTerms 45 = .ok (.ireturn, 1) := by decide +kernel
theorem dX6_takeBetweenTerms_46 : decode cX6_takeBetweenTerms 46 = .ok (.aload_n 0, 1) := by decide +kernel
theorem dX6_takeBetweenTerms_47 : decode cX6_takeBetweenTerms 47 = .ok (.aload_n 3, 1) := by decide +kernel
theorem dX6_takeBetweenTerms_48 : decode cX6_takeBetweenTerms 48 = .ok (.putfield 18, 3) := by decide +kernel
theorem dX6_takeBetweenTerms_51 : decode cX6_takeBetweenTerms 51 = .ok (.aload_n 0, 1) := by decide +kernel
theorem dX6_takeBetweenTerms_52 : decode cX6_takeBetweenTerms 52 = .ok (.getfield 18, 3) := by decide +kernel
theorem dX6_takeBetweenTerms_55 : decode cX6_takeBetweenTerms 55 = .ok (.invokevirtual 80, 3) := by decide +kernel
theorem dX6_takeBetweenTerms_58 : decode cX6_takeBetweenTerms 58 = .ok (.aload_n 0, 1) := by decide +kernel
theorem dX6_takeBetweenTerms_59 : decode cX6_takeBetweenTerms 59 = .ok (.dup, 1) := by decide +kernel
theorem dX6_takeBetweenTerms_60 : decode cX6_takeBetweenTerms 60 = .ok (.getfield 29, 3) := by decide +kernel
theorem dX6_takeBetweenTerms_63 : decode cX6_takeBetweenTerms 63 = .ok (.iconst 1, 1) := by decide +kernel
theorem dX6_takeBetweenTerms_64 : decode cX6_takeBetweenTerms 64 = .ok (.iadd, 1) := by decide +kernel
theorem dX6_takeBetweenTerms_65 : decode cX6_takeBetweenTerms 65 = .ok (.putfield 29, 3) := by decide +kernel
theorem dX6_takeBetweenTerms_68 : decode cX6_takeBetweenTerms 68 = .ok (.iload_n 2, 1) := by decide +kernel
theorem dX6_takeBetweenTerms_69 : decode cX6_takeBetweenTerms 69 = .ok (.ifCond .ne 9, 3) := by decide +kernel
theorem dX6_takeBetweenTerms_72 : decode cX6_takeBetweenTerms 72 = .ok (.aload_n 0, 1) := by decide +kernel
theorem dX6_takeBetweenTerms_73 : decode cX6_takeBetweenTerms 73 = .ok (.iload_n 1, 1) := by decide +kernel
theorem dX6_takeBetweenTerms_74 : decode cX6_takeBetweenTerms 74 = .ok (.invokevirtual 55, 3) := by decide +kernel
theorem dX6_takeBetweenTerms_77 : decode cX6_takeBetweenTerms 77 = .ok (.ireturn, 1) := by decide +kernel
theorem dX6_takeBetweenTerms_78 : decode cX6_takeBetweenTerms 78 = .ok (.aload_n 0, 1) := by decide +kernel
theorem dX6_takeBetweenTerms_79 : decode cX6_takeBetweenTerms 79 = .ok (.getfield 18, 3) := by decide +kernel
theorem dX6_takeBetweenTerms_82 : decode cX6_takeBetweenTerms 82 = .ok (.iload_n 1, 1) := by decide +kernel
theorem dX6_takeBetweenTerms_83 : decode cX6_takeBetweenTerms 83 = .ok (.bipush 43, 2) := by decide +kernel
theorem dX6_takeBetweenTerms_85 : decode cX6_takeBetweenTerms 85 = .ok (.if_icmp .ne 7, 3) := by decide +kernel
theorem dX6_takeBetweenTerms_88 : decode cX6_takeBetweenTerms 88 = .ok (.iconst 1, 1) := by decide +kernel
theorem dX6_takeBetweenTerms_89 : decode cX6_takeBetweenTerms 89 = .ok (.goto 4, 3) := by decide +kernel
theorem dX6_takeBetweenTerms_92 : decode cX6_takeBetweenTerms 92 = .ok (.iconst 0, 1) := by decide +kernel
theorem dX6_takeBetweenTerms_93 : decode cX6_takeBetweenTerms 93 = .ok (.putfield 83, 3) := by decide +kernel
theorem dX6_takeBetweenTerms_96 : decode cX6_takeBetweenTerms 96 = .ok (.aload_n 0, 1) := by decide +kernel
theorem dX6_takeBetweenTerms_97 : decode cX6_takeBetweenTerms 97 = .ok (.getfield 18, 3) := by decide +kernel
theorem dX6_takeBetweenTerms_100 : decode cX6_takeBetweenTerms 100 = .ok (.iload_n 1, 1) := by decide +kernel
theorem dX6_takeBetweenTerms_101 : decode cX6_takeBetweenTerms 101 = .ok (.bipush 45, 2) := by decide +kernel
theorem dX6_takeBetweenTerms_103 : decode cX6_takeBetweenTerms 103 = .ok (.if_icmp .ne 7, 3) := by decide +kernel
theorem dX6_takeBetweenTerms_106 : decode cX6_takeBetweenTerms 106 = .ok (.iconst 1, 1) := by decide +kernel
theorem dX6_takeBetweenTerms_107 : decode cX6_takeBetweenTerms 107 = .ok (.goto 4, 3) := by decide +kernel
theorem dX6_takeBetweenTerms_110 : decode cX6_takeBetweenTerms 110 = .ok (.iconst 0, 1) := by decide +kernel
theorem dX6_takeBetweenTerms_111 : decode cX6_takeBetweenTerms 111 = .ok (.putfield 87, 3) := by decide +kernel
theorem dX6_takeBetweenTerms_114 : decode cX6_takeBetweenTerms 114 = .ok (.aload_n 0, 1) := by decide +kernel
theorem dX6_takeBetweenTerms_115 : decode cX6_takeBetweenTerms 115 = .ok (.iconst 1, 1) := by decide +kernel
theorem dX6_takeBetweenTerms_116 : decode cX6_takeBetweenTerms 116 = .ok (.putfield 32, 3) := by decide +kernel
theorem dX6_takeBetweenTerms_119 : decode cX6_takeBetweenTerms 119 = .ok (.iconst 0, 1) := by decide +kernel
theorem dX6_takeBetweenTerms_120 : decode cX6_takeBetweenTerms 120 = .ok (.ireturn, 1) := by decide +kernel
theorem dX6_nextTerm_0 : decode cX6_nextTerm 0 = .ok (.aload_n 0, 1) := by decide +kernel
theorem dX6_nextTerm_1 : decode cX6_nextTerm 1 = .ok (.getfield 29, 3) := by decide +kernel
theorem dX6_nextTerm_4 : decode cX6_nextTerm 4 = .ok (.ifCond .lt 27, 3) := by decide +kernel
theorem dX6_nextTerm_7 : decode cX6_nextTerm 7 = .ok (.aload_n 0, 1) := by decide +kernel
theorem dX6_nextTerm_8 : decode cX6_nextTerm 8 = .ok (.getfield 29, 3) := by decide +kernel
theorem dX6_nextTerm_11 : decode cX6_nextTerm 11 = .ok (.aload_n 0, 1) := by decide +kernel
theorem dX6_nextTerm_12 : decode cX6_nextTerm 12 = .ok (.getfield 11, 3) := by decide +kernel
theorem dX6_nextTerm_15 : decode cX6_nextTerm 15 = .ok (.arraylength, 1) := by decide +kernel
theorem dX6_nextTerm_16 : decode cX6_nextTerm 16 = .ok (.if_icmp .ge 15, 3) := by decide +kernel
theorem dX6_nextTerm_19 : decode cX6_nextTerm 19 = .ok (.aload_n 0, 1) := by decide +kernel
theorem dX6_nextTerm_20 : decode cX6_nextTerm 20 = .ok (.getfield 11, 3) := by decide +kernel
theorem dX6_nextTerm_23 : decode cX6_nextTerm 23 = .ok (.aload_n 0, 1) := by decide +kernel
theorem dX6_nextTerm_24 : decode cX6_nextTerm 24 = .ok (.getfield 29, 3) := by decide +kernel
theorem dX6_nextTerm_27 : decode cX6_nextTerm 27 = .ok (.aaload, 1) := by decide +kernel
theorem dX6_nextTerm_28 : decode cX6_nextTerm 28 = .ok (.goto 4, 3) := by decide +kernel
theorem dX6_nextTerm_31 : decode cX6_nextTerm 31 = .ok (.aconst_null, 1) := by decide +kernel
theorem dX6_nextTerm_32 : decode cX6_nextTerm 32 = .ok (.areturn, 1) := by decide +kernel
theorem dX6_takeLetter_0 : decode cX6_takeLetter 0 = .ok (.iload_n 1, 1) := by decide +kernel
theorem dX6_takeLetter_1 : decode cX6_takeLetter 1 = .ok (.invokestatic 70, 3) := by decide +kernel
theorem dX6_takeLetter_4 : decode cX6_takeLetter 4 = .ok (.ifCond .ne 5, 3) := by decide +kernel
theorem dX6_takeLetter_7 : decode cX6_takeLetter 7 = .ok (.iconst 1, 1) := by decide +kernel
theorem dX6_takeLetter_8 : decode cX6_takeLetter 8 = .ok (.ireturn, 1) := by decide +kernel
theorem dX6_takeLetter_9 : decode cX6_takeLetter 9 = .ok (.aload_n 0, 1) := by decide +kernel
theorem dX6_takeLetter_10 : decode cX6_takeLetter 10 = .ok (.getfield 18, 3) := by decide +kernel
theorem dX6_takeLetter_13 : decode cX6_takeLetter 13 = .ok (.iload_n 1, 1) := by decide +kernel
theorem dX6_takeLetter_14 : decode cX6_takeLetter 14 = .ok (.invokestatic 90, 3) := by decide +kernel
theorem dX6_takeLetter_17 : decode cX6_takeLetter 17 = .ok (.invokevirtual 93, 3) := by decide +kernel
theorem dX6_takeLetter_20 : decode cX6_takeLetter 20 = .ok (.ifCond .ne 5, 3) := by decide +kernel
theorem dX6_takeLetter_23 : decode cX6_takeLetter 23 = .ok (.iconst 2, 1) := by decide +kernel
theorem dX6_takeLetter_24 : decode cX6_takeLetter 24 = .ok (.ireturn, 1) := by decide +kernel
theorem dX6_takeLetter_25 : decode cX6_takeLetter 25 = .ok (.aload_n 0, 1) := by decide +kernel
theorem dX6_takeLetter_26 : decode cX6_takeLetter 26 = .ok (.iconst 2, 1) := by decide +kernel
theorem dX6_takeLetter_27 : decode cX6_takeLetter 27 = .ok (.putfield 32, 3) := by decide +kernel
theorem dX6_takeLetter_30 : decode cX6_takeLetter 30 = .ok (.iconst 0, 1) := by decide +kernel
theorem dX6_takeLetter_31 : decode cX6_takeLetter 31 = .ok (.ireturn, 1) := by decide +kernel
theorem dX6_takeBehindLetter_0 : decode cX6_takeBehindLetter 0 = .ok (.iload_n 1, 1) := by decide +kernel
theorem dX6_takeBehindLetter_1 : decode cX6_takeBehindLetter 1 = .ok (.invokestatic 70, 3) := by decide +kernel
theorem dX6_takeBehindLetter_4 : decode cX6_takeBehindLetter 4 = .ok (.ifCond .eq 9, 3) := by decide +kernel
theorem dX6_takeBehindLetter_7 : decode cX6_takeBehindLetter 7 = .ok (.aload_n 0, 1) := by decide +kernel
theorem dX6_takeBehindLetter_8 : decode cX6_takeBehindLetter 8 = .ok (.iload_n 1, 1) := by decide +kernel
theorem dX6_takeBehindLetter_9 : decode cX6_takeBehindLetter 9 = .ok (.invokevirtual 55, 3) := by decide +kernel
theorem dX6_takeBehindLetter_12 : decode cX6_takeBehindLetter 12 = .ok (.ireturn, 1) := by decide +kernel
theorem dX6_takeBehindLetter_13 : decode cX6_takeBehindLetter 13 = .ok (.iload_n 1, 1) := by decide +kernel
theorem dX6_takeBehindLetter_14 : decode cX6_takeBehindLetter 14 = .ok (.bipush 42, 2) := by decide +kernel
theorem dX6_takeBehindLetter_16 : decode cX6_takeBehindLetter 16 = .ok (.if_icmp .ne 18, 3) := by decide +kernel
theorem dX6_takeBehindLetter_19 : decode cX6_takeBehindLetter 19 = .ok (.aload_n 0, 1) := by decide +kernel
theorem dX6_takeBehindLetter_20 : decode cX6_takeBehindLetter 20 = .ok (.getfield 18, 3) := by decide +kernel
theorem dX6_takeBehindLetter_23 : decode cX6_takeBehindLetter 23 = .ok (.iconst 1, 1) := by decide +kernel
theorem dX6_takeBehindLetter_24 : decode cX6_takeBehindLetter 24 = .ok (.putfield 96, 3) := by decide +kernel
theorem dX6_takeBehindLetter_27 : decode cX6_takeBehindLetter 27 = .ok (.aload_n 0, 1) := by decide +kernel
theorem dX6_takeBehindLetter_28 : decode cX6_takeBehindLetter 28 = .ok (.iconst 3, 1) := by decide +kernel
theorem dX6_takeBehindLetter_29 : decode cX6_takeBehindLetter 29 = .ok (.putfield 32, 3) := by decide +kernel
theorem dX6_takeBehindLetter_32 : decode cX6_takeBehindLetter 32 = .ok (.iconst 0, 1) := by decide +kernel
theorem dX6_takeBehindLetter_33 : decode cX6_takeBehindLetter 33 = .ok (.ireturn, 1) := by decide +kernel
theorem dX6_takeBehindLetter_34 : decode cX6_takeBehindLetter 34 = .ok (.aload_n 0, 1) := by decide +kernel
theorem dX6_takeBehindLetter_35 : decode cX6_takeBehindLetter 35 = .ok (.iload_n 1, 1) := by decide +kernel
theorem dX6_takeBehindLetter_36 : decode cX6_takeBehindLetter 36 = .ok (.invokevirtual 61, 3) := by decide +kernel
theorem dX6_takeBehindLetter_39 : decode cX6_takeBehindLetter 39 = .ok (.ireturn, 1) := by decide +kernel
theorem dX6_takeBehindStar_0 : decode cX6_takeBehindStar 0 = .ok (.iload_n 1, 1) := by decide +kernel
theorem dX6_takeBehindStar_1 : decode cX6_takeBehindStar 1 = .ok (.bipush 94, 2) := by decide +kernel
theorem dX6_takeBehindStar_3 : decode cX6_takeBehindStar 3 = .ok (.if_icmp .ne 10, 3) := by decide +kernel
theorem dX6_takeBehindStar_6 : decode cX6_takeBehindStar 6 = .ok (.aload_n 0, 1) := by decide +kernel
theorem dX6_takeBehindStar_7 : decode cX6_takeBehindStar 7 = .ok (.iconst 4, 1) := by decide +kernel
theorem dX6_takeBehindStar_8 : decode cX6_takeBehindStar 8 = .ok (.putfield 32, 3) := by decide +kernel
theorem dX6_takeBehindStar_11 : decode cX6_takeBehindStar 11 = .ok (.iconst 0, 1) := by decide +kernel
theorem dX6_takeBehindStar_12 : decode cX6_takeBehindStar 12 = .ok (.ireturn, 1) := by decide +kernel
theorem dX6_takeBehindStar_13 : decode cX6_takeBehindStar 13 = .ok (.aload_n 0, 1) := by decide +kernel
theorem dX6_takeBehindStar_14 : decode cX6_takeBehindStar 14 = .ok (.iload_n 1, 1) := by decide +kernel
theorem dX6_takeBehindStar_15 : decode cX6_takeBehindStar 15 = .ok (.invokevirtual 67, 3) := by decide +kernel
theorem dX6_takeBehindStar_18 : decode cX6_takeBehindStar 18 = .ok (.ireturn, 1) := by decide +kernel
theorem dX6_takeFigure_0 : decode cX6_takeFigure 0 = .ok (.iload_n 1, 1) := by decide +kernel
theorem dX6_takeFigure_1 : decode cX6_takeFigure 1 = .ok (.bipush 49, 2) := by decide +kernel
theorem dX6_takeFigure_3 : decode cX6_takeFigure 3 = .ok (.if_icmp .lt 9, 3) := by decide +kernel
theorem dX6_takeFigure_6 : decode cX6_takeFigure 6 = .ok (.iload_n 1, 1) := by decide +kernel
theorem dX6_takeFigure_7 : decode cX6_takeFigure 7 = .ok (.bipush 57, 2) := by decide +kernel
theorem dX6_takeFigure_9 : decode cX6_takeFigure 9 = .ok (.if_icmp .le 5, 3) := by decide +kernel
theorem dX6_takeFigure_12 : decode cX6_takeFigure 12 = .ok (.iconst 1, 1) := by decide +kernel
theorem dX6_takeFigure_13 : decode cX6_takeFigure 13 = .ok (.ireturn, 1) := by decide +kernel
theorem dX6_takeFigure_14 : decode cX6_takeFigure 14 = .ok (.aload_n 0, 1) := by decide +kernel
theorem dX6_takeFigure_15 : decode cX6_takeFigure 15 = .ok (.getfield 18, 3) := by decide +kernel
theorem dX6_takeFigure_18 : decode cX6_takeFigure 18 = .ok (.iload_n 1, 1) := by decide +kernel
theorem dX6_takeFigure_19 : decode cX6_takeFigure 19 = .ok (.bipush 48, 2) := by decide +kernel
theorem dX6_takeFigure_21 : decode cX6_takeFigure 21 = .ok (.isub, 1) := by decide +kernel
theorem dX6_takeFigure_22 : decode cX6_takeFigure 22 = .ok (.putfield 99, 3) := by decide +kernel
theorem dX6_takeFigure_25 : decode cX6_takeFigure 25 = .ok (.aload_n 0, 1) := by decide +kernel
theorem dX6_takeFigure_26 : decode cX6_takeFigure 26 = .ok (.iconst 5, 1) := by decide +kernel
theorem dX6_takeFigure_27 : decode cX6_takeFigure 27 = .ok (.putfield 32, 3) := by decide +kernel
theorem dX6_takeFigure_30 : decode cX6_takeFigure 30 = .ok (.iconst 0, 1) := by decide +kernel
theorem dX6_takeFigure_31 : decode cX6_takeFigure 31 = .ok (.ireturn, 1) := by decide +kernel
theorem dX6_takeBlank_0 : decode cX6_takeBlank 0 = .ok (.iload_n 1, 1) := by decide +kernel
theorem dX6_takeBlank_1 : decode cX6_takeBlank 1 = .ok (.bipush 32, 2) := by decide +kernel
theorem dX6_takeBlank_3 : decode cX6_takeBlank 3 = .ok (.if_icmp .le 5, 3) := by decide +kernel
theorem dX6_takeBlank_6 : decode cX6_takeBlank 6 = .ok (.iconst 1, 1) := by decide +kernel
theorem dX6_takeBlank_7 : decode cX6_takeBlank 7 = .ok (.ireturn, 1) := by decide +kernel
theorem dX6_takeBlank_8 : decode cX6_takeBlank 8 = .ok (.aload_n 0, 1) := by decide +kernel
theorem dX6_takeBlank_9 : decode cX6_takeBlank 9 = .ok (.iconst 0, 1) := by decide +kernel
theorem dX6_takeBlank_10 : decode cX6_takeBlank 10 = .ok (.putfield 32, 3) := by decide +kernel
theorem dX6_takeBlank_13 : decode cX6_takeBlank 13 = .ok (.iconst 0, 1) := by decide +kernel
theorem dX6_takeBlank_14 : decode cX6_takeBlank 14 = .ok (.ireturn, 1) := by decide +kernel
theorem dX7_init_0 : decode cX7_init 0 = .ok (.aload_n 0, 1) := by decide +kernel
theorem dX7_init_1 : decode cX7_init 1 = .ok (.invokespecial 3, 3) := by decide +kernel
theorem dX7_init_4 : decode cX7_init 4 = .ok (.return_, 1) := by decide +kernel
theorem dX7_suiting_0 : decode cX7_suiting 0 = .ok (.aload_n 0, 1) := by decide +kernel
theorem dX7_suiting_1 : decode cX7_suiting 1 = .ok (.iconst 0, 1) := by decide +kernel
theorem dX7_suiting_2 : decode cX7_suiting 2 = .ok (.putfield 9, 3) := by decide +kernel
theorem dX7_suiting_5 : decode cX7_suiting 5 = .ok (.iconst 0, 1) := by decide +kernel
theorem dX7_suiting_6 : decode cX7_suiting 6 = .ok (.istore 4, 2) := by decide +kernel
theorem dX7_suiting_8 : decode cX7_suiting 8 = .ok (.iload 4, 2) := by decide +kernel
theorem dX7_suiting_10 : decode cX7_suiting 10 = .ok (.aload_n 1, 1) := by decide +kernel
theorem dX7_suiting_11 : decode cX7_suiting 11 = .ok (.getfield 15, 3) := by decide +kernel
theorem dX7_suiting_14 : decode cX7_suiting 14 = .ok (.if_icmp .ge 33, 3) := by decide +kernel
theorem dX7_suiting_17 : decode cX7_suiting 17 = .ok (.aload_n 1, 1) := by decide +kernel
theorem dX7_suiting_18 : decode cX7_suiting 18 = .ok (.iload 4, 2) := by decide +kernel
theorem dX7_suiting_20 : decode cX7_suiting 20 = .ok (.invokevirtual 20, 3) := by decide +kernel
theorem dX7_suiting_23 : decode cX7_suiting 23 = .ok (.astore 5, 2) := by decide +kernel
theorem dX7_suiting_25 : decode cX7_suiting 25 = .ok (.aload 5, 2) := by decide +kernel
theorem dX7_suiting_27 : decode cX7_suiting 27 = .ok (.ifnull 14, 3) := by decide +kernel
theorem dX7_suiting_30 : decode cX7_suiting 30 = .ok (.aload_n 0, 1) := by decide +kernel
theorem dX7_suiting_31 : decode cX7_suiting 31 = .ok (.aload 5, 2) := by decide +kernel
theorem dX7_suiting_33 : decode cX7_suiting 33 = .ok (.iconst 1, 1) := by decide +kernel
theorem dX7_suiting_34 : decode cX7_suiting 34 = .ok (.iload 4, 2) := by decide +kernel
theorem dX7_suiting_36 : decode cX7_suiting 36 = .ok (.ishl, 1) := by decide +kernel
theorem dX7_suiting_37 : decode cX7_suiting 37 = .ok (.aload_n 2, 1) := by decide +kernel
theorem dX7_suiting_38 : decode cX7_suiting 38 = .ok (.invokevirtual 24, 3) := by decide +kernel
theorem dX7_suiting_41 : decode cX7_suiting 41 = .ok (.iinc 4 1, 3) := by decide +kernel
theorem dX7_suiting_44 : decode cX7_suiting 44 = .ok (.goto (-36), 3) := by decide +kernel
theorem dX7_suiting_47 : decode cX7_suiting 47 = .ok (.aload_n 0, 1) := by decide +kernel
theorem dX7_suiting_48 : decode cX7_suiting 48 = .ok (.aload_n 3, 1) := by decide +kernel
theorem dX7_suiting_49 : decode cX7_suiting 49 = .ok (.invokevirtual 28, 3) := by decide +kernel
theorem dX7_suiting_52 : decode cX7_suiting 52 = .ok (.return_, 1) := by decide +kernel
theorem dX7_resembling_0 : decode cX7_resembling 0 = .ok (.aload_n 0, 1) := by decide +kernel
theorem dX7_resembling_1 : decode cX7_resembling 1 = .ok (.iconst 0, 1) := by decide +kernel
theorem dX7_resembling_2 : decode cX7_resembling 2 = .ok (.putfield 9, 3) := by decide +kernel
theorem dX7_resembling_5 : decode cX7_resembling 5 = .ok (.aload_n 0, 1) := by decide +kernel
theorem dX7_resembling_6 : decode cX7_resembling 6 = .ok (.aload_n 1, 1) := by decide +kernel
theorem dX7_resembling_7 : decode cX7_resembling 7 = .ok (.invokevirtual 32, 3) := by decide +kernel
theorem dX7_resembling_10 : decode cX7_resembling 10 = .ok (.aload_n 1, 1) := by decide +kernel
theorem dX7_resembling_11 : decode cX7_resembling 11 = .ok (.iconst 1, 1) := by decide +kernel
theorem dX7_resembling_12 : decode cX7_resembling 12 = .ok (.putfield 36, 3) := by decide +kernel
theorem dX7_resembling_15 : decode cX7_resembling 15 = .ok (.aload_n 1, 1) := by decide +kernel
theorem dX7_resembling_16 : decode cX7_resembling 16 = .ok (.getfield 42, 3) := by decide +kernel
theorem dX7_resembling_19 : decode cX7_resembling 19 = .ok (.astore 4, 2) := by decide +kernel
theorem dX7_resembling_21 : decode cX7_resembling 21 = .ok (.aload 4, 2) := by decide +kernel
theorem dX7_resembling_23 : decode cX7_resembling 23 = .ok (.ifnull 49, 3) := by decide +kernel
theorem dX7_resembling_26 : decode cX7_resembling 26 = .ok (.aload 4, 2) := by decide +kernel
theorem dX7_resembling_28 : decode cX7_resembling 28 = .ok (.getfield 46, 3) := by decide +kernel
theorem dX7_resembling_31 : decode cX7_resembling 31 = .ok (.astore 5, 2) := by decide +kernel
theorem dX7_resembling_33 : decode cX7_resembling 33 = .ok (.aload 5, 2) := by decide +kernel
theorem dX7_resembling_35 : decode cX7_resembling 35 = .ok (.ifnull 27, 3) := by decide +kernel
theorem dX7_resembling_38 : decode cX7_resembling 38 = .ok (.aload_n 0, 1) := by decide +kernel
theorem dX7_resembling_39 : decode cX7_resembling 39 = .ok (.aload 5, 2) := by decide +kernel
theorem dX7_resembling_41 : decode cX7_resembling 41 = .ok (.aload 4, 2) := by decide +kernel
theorem dX7_resembling_43 : decode cX7_resembling 43 = .ok (.getfield 52, 3) := by decide +kernel
theorem dX7_resembling_46 : decode cX7_resembling 46 = .ok (.bipush 9, 2) := by decide +kernel
theorem dX7_resembling_48 : decode cX7_resembling 48 = .ok (.invokestatic 55, 3) := by decide +kernel
theorem dX7_resembling_51 : decode cX7_resembling 51 = .ok (.aload_n 2, 1) := by decide +kernel
theorem dX7_resembling_52 : decode cX7_resembling 52 = .ok (.aload 5, 2) := by decide +kernel
theorem dX7_resembling_54 : decode cX7_resembling 54 = .ok (.invokevirtual 61, 3) := by decide +kernel
theorem dX7_resembling_57 : decode cX7_resembling 57 = .ok (.imul, 1) := by decide +kernel
theorem dX7_resembling_58 : decode cX7_resembling 58 = .ok (.iconst 0, 1) := by decide +kernel
theorem dX7_resembling_59 : decode cX7_resembling 59 = .ok (.invokevirtual 67, 3) := by decide +kernel
theorem dX7_resembling_62 : decode cX7_resembling 62 = .ok (.aload 4, 2) := by decide +kernel
theorem dX7_resembling_64 : decode cX7_resembling 64 = .ok (.getfield 71, 3) := by decide +kernel
theorem dX7_resembling_67 : decode cX7_resembling 67 = .ok (.astore 4, 2) := by decide +kernel
theorem dX7_resembling_69 : decode cX7_resembling 69 = .ok (.goto (-48), 3) := by decide +kernel
theorem dX7_resembling_72 : decode cX7_resembling 72 = .ok (.aload_n 0, 1) := by decide +kernel
theorem dX7_resembling_73 : decode cX7_resembling 73 = .ok (.aload_n 3, 1) := by decide +kernel
theorem dX7_resembling_74 : decode cX7_resembling 74 = .ok (.invokevirtual 28, 3) := by decide +kernel
theorem dX7_resembling_77 : decode cX7_resembling 77 = .ok (.return_, 1) := by decide +kernel
theorem dX7_follow_0 : decode cX7_follow 0 = .ok (.aload_n 1, 1) := by decide +kernel
theorem dX7_follow_1 : decode cX7_follow 1 = .ok (.getfield 74, 3) := by decide +kernel
theorem dX7_follow_4 : decode cX7_follow 4 = .ok (.ifCond .eq 13, 3) := by decide +kernel
theorem dX7_follow_7 : decode cX7_follow 7 = .ok (.aload_n 0, 1) := by decide +kernel
theorem dX7_follow_8 : decode cX7_follow 8 = .ok (.dup, 1) := by decide +kernel
theorem dX7_follow_9 : decode cX7_follow 9 = .ok (.getfield 9, 3) := by decide +kernel
theorem dX7_follow_12 : decode cX7_follow 12 = .ok (.iload_n 2, 1) := by decide +kernel
theorem dX7_follow_13 : decode cX7_follow 13 = .ok (.ior, 1) := by decide +kernel
theorem dX7_follow_14 : decode cX7_follow 14 = .ok (.putfield 9, 3) := by decide +kernel
theorem dX7_follow_17 : decode cX7_follow 17 = .ok (.aload_n 3, 1) := by decide +kernel
theorem dX7_follow_18 : decode cX7_follow 18 = .ok (.getfield 79, 3) := by decide +kernel
theorem dX7_follow_21 : decode cX7_follow 21 = .ok (.astore 4, 2) := by decide +kernel
theorem dX7_follow_23 : decode cX7_follow 23 = .ok (.aload_n 1, 1) := by decide +kernel
theorem dX7_follow_24 : decode cX7_follow 24 = .ok (.invokevirtual 83, 3) := by decide +kernel
theorem dX7_follow_27 : decode cX7_follow 27 = .ok (.lstore 5, 2) := by decide +kernel
theorem dX7_follow_29 : decode cX7_follow 29 = .ok (.aload 4, 2) := by decide +kernel
theorem dX7_follow_31 : decode cX7_follow 31 = .ok (.aload_n 1, 1) := by decide +kernel
theorem dX7_follow_32 : decode cX7_follow 32 = .ok (.getfield 87, 3) := by decide +kernel
theorem dX7_follow_35 : decode cX7_follow 35 = .ok (.invokevirtual 91, 3) := by decide +kernel
theorem dX7_follow_38 : decode cX7_follow 38 = .ok (.istore 7, 2) := by decide +kernel
theorem dX7_follow_40 : decode cX7_follow 40 = .ok (.iload 7, 2) := by decide +kernel
theorem dX7_follow_42 : decode cX7_follow 42 = .ok (.aload 4, 2) := by decide +kernel
theorem dX7_follow_44 : decode cX7_follow 44 = .ok (.invokevirtual 97, 3) := by decide +kernel
theorem dX7_follow_47 : decode cX7_follow 47 = .ok (.if_icmp .ge 71, 3) := by decide +kernel
theorem dX7_follow_50 : decode cX7_follow 50 = .ok (.aload 4, 2) := by decide +kernel
theorem dX7_follow_52 : decode cX7_follow 52 = .ok (.iload 7, 2) := by decide +kernel
theorem dX7_follow_54 : decode cX7_follow 54 = .ok (.invokevirtual 101, 3) := by decide +kernel
theorem dX7_follow_57 : decode cX7_follow 57 = .ok (.astore 8, 2) := by decide +kernel
theorem dX7_follow_59 : decode cX7_follow 59 = .ok (.aload 8, 2) := by decide +kernel
theorem dX7_follow_61 : decode cX7_follow 61 = .ok (.ifnull 57, 3) := by decide +kernel
theorem dX7_follow_64 : decode cX7_follow 64 = .ok (.aload 8, 2) := by decide +kernel
theorem dX7_follow_66 : decode cX7_follow 66 = .ok (.getfield 105, 3) := by decide +kernel
theorem dX7_follow_69 : decode cX7_follow 69 = .ok (.lload 5, 2) := by decide +kernel
theorem dX7_follow_71 : decode cX7_follow 71 = .ok (.lcmp, 1) := by decide +kernel
theorem dX7_follow_72 : decode cX7_follow 72 = .ok (.ifCond .le 6, 3) := by decide +kernel
theorem dX7_follow_75 : decode cX7_follow 75 = .ok (.goto 43, 3) := by decide +kernel
theorem dX7_follow_78 : decode cX7_follow 78 = .ok (.aload_n 1, 1) := by decide +kernel
theorem dX7_follow_79 : decode cX7_follow 79 = .ok (.getfield 108, 3) := by decide +kernel
theorem dX7_follow_82 : decode cX7_follow 82 = .ok (.ifCond .eq 12, 3) := by decide +kernel
theorem dX7_follow_85 : decode cX7_follow 85 = .ok (.aload_n 0, 1) := by decide +kernel
theorem dX7_follow_86 : decode cX7_follow 86 = .ok (.aload 8, 2) := by decide +kernel
theorem dX7_follow_88 : decode cX7_follow 88 = .ok (.invokevirtual 111, 3) := by decide +kernel
theorem dX7_follow_91 : decode cX7_follow 91 = .ok (.goto 21, 3) := by decide +kernel
theorem dX7_follow_94 : decode cX7_follow 94 = .ok (.aload_n 0, 1) := by decide +kernel
theorem dX7_follow_95 : decode cX7_follow 95 = .ok (.aload 8, 2) := by decide +kernel
theorem dX7_follow_97 : decode cX7_follow 97 = .ok (.aload_n 1, 1) := by decide +kernel
theorem dX7_follow_98 : decode cX7_follow 98 = .ok (.getfield 115, 3) := by decide +kernel
theorem dX7_follow_101 : decode cX7_follow 101 = .ok (.aload_n 3, 1) := by decide +kernel
theorem dX7_follow_102 : decode cX7_follow 102 = .ok (.aload 8, 2) := by decide +kernel
theorem dX7_follow_104 : decode cX7_follow 104 = .ok (.invokevirtual 61, 3) := by decide +kernel
theorem dX7_follow_107 : decode cX7_follow 107 = .ok (.imul, 1) := by decide +kernel
theorem dX7_follow_108 : decode cX7_follow 108 = .ok (.iload_n 2, 1) := by decide +kernel
theorem dX7_follow_109 : decode cX7_follow 109 = .ok (.invokevirtual 67, 3) := by decide +kernel
theorem dX7_follow_112 : decode cX7_follow 112 = .ok (.iinc 7 1, 3) := by decide +kernel
theorem dX7_follow_115 : decode cX7_follow 115 = .ok (.goto (-75), 3) := by decide +kernel
theorem dX7_follow_118 : decode cX7_follow 118 = .ok (.return_, 1) := by decide +kernel
theorem dX7_reward_0 : decode cX7_reward 0 = .ok (.aload_n 1, 1) := by decide +kernel
theorem dX7_reward_1 : decode cX7_reward 1 = .ok (.getfield 118, 3) := by decide +kernel
theorem dX7_reward_4 : decode cX7_reward 4 = .ok (.astore 4, 2) := by decide +kernel
theorem dX7_reward_6 : decode cX7_reward 6 = .ok (.aload 4, 2) := by decide +kernel
theorem dX7_reward_8 : decode cX7_reward 8 = .ok (.ifnull 59, 3) := by decide +kernel
theorem dX7_reward_11 : decode cX7_reward 11 = .ok (.aload 4, 2) := by decide +kernel
theorem dX7_reward_13 : decode cX7_reward 13 = .ok (.getfield 119, 3) := by decide +kernel
theorem dX7_reward_16 : decode cX7_reward 16 = .ok (.astore 5, 2) := by decide +kernel
theorem dX7_reward_18 : decode cX7_reward 18 = .ok (.aload 5, 2) := by decide +kernel
theorem dX7_reward_20 : decode cX7_reward 20 = .ok (.ifnull 37, 3) := by decide +kernel
theorem dX7_reward_23 : decode cX7_reward 23 = .ok (.aload_n 0, 1) := by decide +kernel
theorem dX7_reward_24 : decode cX7_reward 24 = .ok (.aload 5, 2) := by decide +kernel
theorem dX7_reward_26 : decode cX7_reward 26 = .ok (.invokevirtual 32, 3) := by decide +kernel
theorem dX7_reward_29 : decode cX7_reward 29 = .ok (.aload 5, 2) := by decide +kernel
theorem dX7_reward_31 : decode cX7_reward 31 = .ok (.dup, 1) := by decide +kernel
theorem dX7_reward_32 : decode cX7_reward 32 = .ok (.getfield 123, 3) := by decide +kernel
theorem dX7_reward_35 : decode cX7_reward 35 = .ok (.iload_n 3, 1) := by decide +kernel
