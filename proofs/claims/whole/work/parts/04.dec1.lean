theorem dX7_reward_36 : decode cX7_reward 36 = .ok (.ior, 1) := by decide +kernel
theorem dX7_reward_37 : decode cX7_reward 37 = .ok (.putfield 123, 3) := by decide +kernel
theorem dX7_reward_40 : decode cX7_reward 40 = .ok (.aload 5, 2) := by decide +kernel
theorem dX7_reward_42 : decode cX7_reward 42 = .ok (.dup, 1) := by decide +kernel
theorem dX7_reward_43 : decode cX7_reward 43 = .ok (.getfield 126, 3) := by decide +kernel
theorem dX7_reward_46 : decode cX7_reward 46 = .ok (.iload_n 2, 1) := by decide +kernel
theorem dX7_reward_47 : decode cX7_reward 47 = .ok (.aload 4, 2) := by decide +kernel
theorem dX7_reward_49 : decode cX7_reward 49 = .ok (.invokevirtual 129, 3) := by decide +kernel
theorem dX7_reward_52 : decode cX7_reward 52 = .ok (.imul, 1) := by decide +kernel
theorem dX7_reward_53 : decode cX7_reward 53 = .ok (.iadd, 1) := by decide +kernel
theorem dX7_reward_54 : decode cX7_reward 54 = .ok (.putfield 126, 3) := by decide +kernel
theorem dX7_reward_57 : decode cX7_reward 57 = .ok (.aload 4, 2) := by decide +kernel
theorem dX7_reward_59 : decode cX7_reward 59 = .ok (.getfield 132, 3) := by decide +kernel
theorem dX7_reward_62 : decode cX7_reward 62 = .ok (.astore 4, 2) := by decide +kernel
theorem dX7_reward_64 : decode cX7_reward 64 = .ok (.goto (-58), 3) := by decide +kernel
theorem dX7_reward_67 : decode cX7_reward 67 = .ok (.return_, 1) := by decide +kernel
theorem dX7_bar_0 : decode cX7_bar 0 = .ok (.aload_n 1, 1) := by decide +kernel
theorem dX7_bar_1 : decode cX7_bar 1 = .ok (.getfield 118, 3) := by decide +kernel
theorem dX7_bar_4 : decode cX7_bar 4 = .ok (.astore_n 2, 1) := by decide +kernel
theorem dX7_bar_5 : decode cX7_bar 5 = .ok (.aload_n 2, 1) := by decide +kernel
theorem dX7_bar_6 : decode cX7_bar 6 = .ok (.ifnull 30, 3) := by decide +kernel
theorem dX7_bar_9 : decode cX7_bar 9 = .ok (.aload_n 2, 1) := by decide +kernel
theorem dX7_bar_10 : decode cX7_bar 10 = .ok (.getfield 119, 3) := by decide +kernel
theorem dX7_bar_13 : decode cX7_bar 13 = .ok (.astore_n 3, 1) := by decide +kernel
theorem dX7_bar_14 : decode cX7_bar 14 = .ok (.aload_n 3, 1) := by decide +kernel
theorem dX7_bar_15 : decode cX7_bar 15 = .ok (.ifnull 13, 3) := by decide +kernel
theorem dX7_bar_18 : decode cX7_bar 18 = .ok (.aload_n 0, 1) := by decide +kernel
theorem dX7_bar_19 : decode cX7_bar 19 = .ok (.aload_n 3, 1) := by decide +kernel
theorem dX7_bar_20 : decode cX7_bar 20 = .ok (.invokevirtual 32, 3) := by decide +kernel
theorem dX7_bar_23 : decode cX7_bar 23 = .ok (.aload_n 3, 1) := by decide +kernel
theorem dX7_bar_24 : decode cX7_bar 24 = .ok (.iconst 1, 1) := by decide +kernel
theorem dX7_bar_25 : decode cX7_bar 25 = .ok (.putfield 36, 3) := by decide +kernel
theorem dX7_bar_28 : decode cX7_bar 28 = .ok (.aload_n 2, 1) := by decide +kernel
theorem dX7_bar_29 : decode cX7_bar 29 = .ok (.getfield 132, 3) := by decide +kernel
theorem dX7_bar_32 : decode cX7_bar 32 = .ok (.astore_n 2, 1) := by decide +kernel
theorem dX7_bar_33 : decode cX7_bar 33 = .ok (.goto (-28), 3) := by decide +kernel
theorem dX7_bar_36 : decode cX7_bar 36 = .ok (.return_, 1) := by decide +kernel
theorem dX7_meet_0 : decode cX7_meet 0 = .ok (.aload_n 1, 1) := by decide +kernel
theorem dX7_meet_1 : decode cX7_meet 1 = .ok (.getfield 135, 3) := by decide +kernel
theorem dX7_meet_4 : decode cX7_meet 4 = .ok (.ifCond .eq 4, 3) := by decide +kernel
theorem dX7_meet_7 : decode cX7_meet 7 = .ok (.return_, 1) := by decide +kernel
theorem dX7_meet_8 : decode cX7_meet 8 = .ok (.aload_n 1, 1) := by decide +kernel
theorem dX7_meet_9 : decode cX7_meet 9 = .ok (.iconst 1, 1) := by decide +kernel
theorem dX7_meet_10 : decode cX7_meet 10 = .ok (.putfield 135, 3) := by decide +kernel
theorem dX7_meet_13 : decode cX7_meet 13 = .ok (.aload_n 1, 1) := by decide +kernel
theorem dX7_meet_14 : decode cX7_meet 14 = .ok (.iconst 0, 1) := by decide +kernel
theorem dX7_meet_15 : decode cX7_meet 15 = .ok (.putfield 36, 3) := by decide +kernel
theorem dX7_meet_18 : decode cX7_meet 18 = .ok (.aload_n 1, 1) := by decide +kernel
theorem dX7_meet_19 : decode cX7_meet 19 = .ok (.iconst 0, 1) := by decide +kernel
theorem dX7_meet_20 : decode cX7_meet 20 = .ok (.putfield 123, 3) := by decide +kernel
theorem dX7_meet_23 : decode cX7_meet 23 = .ok (.aload_n 1, 1) := by decide +kernel
theorem dX7_meet_24 : decode cX7_meet 24 = .ok (.iconst 0, 1) := by decide +kernel
theorem dX7_meet_25 : decode cX7_meet 25 = .ok (.putfield 126, 3) := by decide +kernel
theorem dX7_meet_28 : decode cX7_meet 28 = .ok (.aload_n 1, 1) := by decide +kernel
theorem dX7_meet_29 : decode cX7_meet 29 = .ok (.aload_n 0, 1) := by decide +kernel
theorem dX7_meet_30 : decode cX7_meet 30 = .ok (.getfield 138, 3) := by decide +kernel
theorem dX7_meet_33 : decode cX7_meet 33 = .ok (.putfield 141, 3) := by decide +kernel
theorem dX7_meet_36 : decode cX7_meet 36 = .ok (.aload_n 0, 1) := by decide +kernel
theorem dX7_meet_37 : decode cX7_meet 37 = .ok (.aload_n 1, 1) := by decide +kernel
theorem dX7_meet_38 : decode cX7_meet 38 = .ok (.putfield 138, 3) := by decide +kernel
theorem dX7_meet_41 : decode cX7_meet 41 = .ok (.return_, 1) := by decide +kernel
theorem dX7_harvest_0 : decode cX7_harvest 0 = .ok (.aload_n 0, 1) := by decide +kernel
theorem dX7_harvest_1 : decode cX7_harvest 1 = .ok (.getfield 138, 3) := by decide +kernel
theorem dX7_harvest_4 : decode cX7_harvest 4 = .ok (.astore_n 2, 1) := by decide +kernel
theorem dX7_harvest_5 : decode cX7_harvest 5 = .ok (.aload_n 2, 1) := by decide +kernel
theorem dX7_harvest_6 : decode cX7_harvest 6 = .ok (.ifnull 68, 3) := by decide +kernel
theorem dX7_harvest_9 : decode cX7_harvest 9 = .ok (.aload_n 2, 1) := by decide +kernel
theorem dX7_harvest_10 : decode cX7_harvest 10 = .ok (.getfield 123, 3) := by decide +kernel
theorem dX7_harvest_13 : decode cX7_harvest 13 = .ok (.aload_n 0, 1) := by decide +kernel
theorem dX7_harvest_14 : decode cX7_harvest 14 = .ok (.getfield 9, 3) := by decide +kernel
theorem dX7_harvest_17 : decode cX7_harvest 17 = .ok (.iand, 1) := by decide +kernel
theorem dX7_harvest_18 : decode cX7_harvest 18 = .ok (.aload_n 0, 1) := by decide +kernel
theorem dX7_harvest_19 : decode cX7_harvest 19 = .ok (.getfield 9, 3) := by decide +kernel
theorem dX7_harvest_22 : decode cX7_harvest 22 = .ok (.if_icmp .ne 7, 3) := by decide +kernel
theorem dX7_harvest_25 : decode cX7_harvest 25 = .ok (.iconst 1, 1) := by decide +kernel
theorem dX7_harvest_26 : decode cX7_harvest 26 = .ok (.goto 4, 3) := by decide +kernel
theorem dX7_harvest_29 : decode cX7_harvest 29 = .ok (.iconst 0, 1) := by decide +kernel
theorem dX7_harvest_30 : decode cX7_harvest 30 = .ok (.istore_n 3, 1) := by decide +kernel
theorem dX7_harvest_31 : decode cX7_harvest 31 = .ok (.aload_n 2, 1) := by decide +kernel
theorem dX7_harvest_32 : decode cX7_harvest 32 = .ok (.getfield 36, 3) := by decide +kernel
theorem dX7_harvest_35 : decode cX7_harvest 35 = .ok (.ifCond .ne 26, 3) := by decide +kernel
theorem dX7_harvest_38 : decode cX7_harvest 38 = .ok (.iload_n 3, 1) := by decide +kernel
theorem dX7_harvest_39 : decode cX7_harvest 39 = .ok (.ifCond .eq 22, 3) := by decide +kernel
theorem dX7_harvest_42 : decode cX7_harvest 42 = .ok (.aload_n 2, 1) := by decide +kernel
theorem dX7_harvest_43 : decode cX7_harvest 43 = .ok (.getfield 126, 3) := by decide +kernel
theorem dX7_harvest_46 : decode cX7_harvest 46 = .ok (.ifCond .le 15, 3) := by decide +kernel
theorem dX7_harvest_49 : decode cX7_harvest 49 = .ok (.aload_n 1, 1) := by decide +kernel
theorem dX7_harvest_50 : decode cX7_harvest 50 = .ok (.aload_n 2, 1) := by decide +kernel
theorem dX7_harvest_51 : decode cX7_harvest 51 = .ok (.getfield 144, 3) := by decide +kernel
theorem dX7_harvest_54 : decode cX7_harvest 54 = .ok (.aload_n 2, 1) := by decide +kernel
theorem dX7_harvest_55 : decode cX7_harvest 55 = .ok (.getfield 126, 3) := by decide +kernel
theorem dX7_harvest_58 : decode cX7_harvest 58 = .ok (.invokevirtual 147, 3) := by decide +kernel
theorem dX7_harvest_61 : decode cX7_harvest 61 = .ok (.aload_n 2, 1) := by decide +kernel
theorem dX7_harvest_62 : decode cX7_harvest 62 = .ok (.iconst 0, 1) := by decide +kernel
theorem dX7_harvest_63 : decode cX7_harvest 63 = .ok (.putfield 135, 3) := by decide +kernel
theorem dX7_harvest_66 : decode cX7_harvest 66 = .ok (.aload_n 2, 1) := by decide +kernel
theorem dX7_harvest_67 : decode cX7_harvest 67 = .ok (.getfield 141, 3) := by decide +kernel
theorem dX7_harvest_70 : decode cX7_harvest 70 = .ok (.astore_n 2, 1) := by decide +kernel
theorem dX7_harvest_71 : decode cX7_harvest 71 = .ok (.goto (-66), 3) := by decide +kernel
theorem dX7_harvest_74 : decode cX7_harvest 74 = .ok (.aload_n 0, 1) := by decide +kernel
theorem dX7_harvest_75 : decode cX7_harvest 75 = .ok (.aconst_null, 1) := by decide +kernel
theorem dX7_harvest_76 : decode cX7_harvest 76 = .ok (.putfield 138, 3) := by decide +kernel
theorem dX7_harvest_79 : decode cX7_harvest 79 = .ok (.return_, 1) := by decide +kernel
theorem dX8_init_0 : decode cX8_init 0 = .ok (.aload_n 0, 1) := by decide +kernel
theorem dX8_init_1 : decode cX8_init 1 = .ok (.invokespecial 3, 3) := by decide +kernel
theorem dX8_init_4 : decode cX8_init 4 = .ok (.aload_n 0, 1) := by decide +kernel
theorem dX8_init_5 : decode cX8_init 5 = .ok (.sipush 400, 3) := by decide +kernel
theorem dX8_init_8 : decode cX8_init 8 = .ok (.newarray .byte, 2) := by decide +kernel
theorem dX8_init_10 : decode cX8_init 10 = .ok (.putfield 9, 3) := by decide +kernel
theorem dX8_init_13 : decode cX8_init 13 = .ok (.return_, 1) := by decide +kernel
theorem dX8_length_0 : decode cX8_length 0 = .ok (.aload_n 0, 1) := by decide +kernel
theorem dX8_length_1 : decode cX8_length 1 = .ok (.getfield 15, 3) := by decide +kernel
theorem dX8_length_4 : decode cX8_length 4 = .ok (.ireturn, 1) := by decide +kernel
theorem dX8_empty_0 : decode cX8_empty 0 = .ok (.aload_n 0, 1) := by decide +kernel
theorem dX8_empty_1 : decode cX8_empty 1 = .ok (.iconst 0, 1) := by decide +kernel
theorem dX8_empty_2 : decode cX8_empty 2 = .ok (.putfield 15, 3) := by decide +kernel
theorem dX8_empty_5 : decode cX8_empty 5 = .ok (.return_, 1) := by decide +kernel
theorem dX8_append_0 : decode cX8_append 0 = .ok (.iload_n 1, 1) := by decide +kernel
theorem dX8_append_1 : decode cX8_append 1 = .ok (.aload_n 0, 1) := by decide +kernel
theorem dX8_append_2 : decode cX8_append 2 = .ok (.getfield 9, 3) := by decide +kernel
theorem dX8_append_5 : decode cX8_append 5 = .ok (.arraylength, 1) := by decide +kernel
theorem dX8_append_6 : decode cX8_append 6 = .ok (.aload_n 0, 1) := by decide +kernel
theorem dX8_append_7 : decode cX8_append 7 = .ok (.getfield 15, 3) := by decide +kernel
theorem dX8_append_10 : decode cX8_append 10 = .ok (.isub, 1) := by decide +kernel
theorem dX8_append_11 : decode cX8_append 11 = .ok (.if_icmp .le 5, 3) := by decide +kernel
theorem dX8_append_14 : decode cX8_append 14 = .ok (.iconst 0, 1) := by decide +kernel
theorem dX8_append_15 : decode cX8_append 15 = .ok (.ireturn, 1) := by decide +kernel
theorem dX8_append_16 : decode cX8_append 16 = .ok (.iconst 0, 1) := by decide +kernel
theorem dX8_append_17 : decode cX8_append 17 = .ok (.istore 4, 2) := by decide +kernel
theorem dX8_append_19 : decode cX8_append 19 = .ok (.iload 4, 2) := by decide +kernel
theorem dX8_append_21 : decode cX8_append 21 = .ok (.iload_n 1, 1) := by decide +kernel
theorem dX8_append_22 : decode cX8_append 22 = .ok (.if_icmp .ge 22, 3) := by decide +kernel
theorem dX8_append_25 : decode cX8_append 25 = .ok (.aload_n 0, 1) := by decide +kernel
theorem dX8_append_26 : decode cX8_append 26 = .ok (.lload_n 2, 1) := by decide +kernel
theorem dX8_append_27 : decode cX8_append 27 = .ok (.bipush 8, 2) := by decide +kernel
theorem dX8_append_29 : decode cX8_append 29 = .ok (.iload 4, 2) := by decide +kernel
theorem dX8_append_31 : decode cX8_append 31 = .ok (.imul, 1) := by decide +kernel
theorem dX8_append_32 : decode cX8_append 32 = .ok (.lshr, 1) := by decide +kernel
theorem dX8_append_33 : decode cX8_append 33 = .ok (.l2i, 1) := by decide +kernel
theorem dX8_append_34 : decode cX8_append 34 = .ok (.i2b, 1) := by decide +kernel
theorem dX8_append_35 : decode cX8_append 35 = .ok (.invokevirtual 19, 3) := by decide +kernel
theorem dX8_append_38 : decode cX8_append 38 = .ok (.iinc 4 1, 3) := by decide +kernel
theorem dX8_append_41 : decode cX8_append 41 = .ok (.goto (-22), 3) := by decide +kernel
theorem dX8_append_44 : decode cX8_append 44 = .ok (.iconst 1, 1) := by decide +kernel
theorem dX8_append_45 : decode cX8_append 45 = .ok (.ireturn, 1) := by decide +kernel
theorem dX8_add_0 : decode cX8_add 0 = .ok (.aload_n 0, 1) := by decide +kernel
theorem dX8_add_1 : decode cX8_add 1 = .ok (.getfield 15, 3) := by decide +kernel
theorem dX8_add_4 : decode cX8_add 4 = .ok (.ifCond .lt 35, 3) := by decide +kernel
theorem dX8_add_7 : decode cX8_add 7 = .ok (.aload_n 0, 1) := by decide +kernel
theorem dX8_add_8 : decode cX8_add 8 = .ok (.getfield 15, 3) := by decide +kernel
theorem dX8_add_11 : decode cX8_add 11 = .ok (.aload_n 0, 1) := by decide +kernel
theorem dX8_add_12 : decode cX8_add 12 = .ok (.getfield 9, 3) := by decide +kernel
theorem dX8_add_15 : decode cX8_add 15 = .ok (.arraylength, 1) := by decide +kernel
theorem dX8_add_16 : decode cX8_add 16 = .ok (.if_icmp .ge 23, 3) := by decide +kernel
theorem dX8_add_19 : decode cX8_add 19 = .ok (.aload_n 0, 1) := by decide +kernel
theorem dX8_add_20 : decode cX8_add 20 = .ok (.getfield 9, 3) := by decide +kernel
theorem dX8_add_23 : decode cX8_add 23 = .ok (.aload_n 0, 1) := by decide +kernel
theorem dX8_add_24 : decode cX8_add 24 = .ok (.getfield 15, 3) := by decide +kernel
theorem dX8_add_27 : decode cX8_add 27 = .ok (.iload_n 1, 1) := by decide +kernel
theorem dX8_add_28 : decode cX8_add 28 = .ok (.bastore, 1) := by decide +kernel
theorem dX8_add_29 : decode cX8_add 29 = .ok (.aload_n 0, 1) := by decide +kernel
theorem dX8_add_30 : decode cX8_add 30 = .ok (.dup, 1) := by decide +kernel
theorem dX8_add_31 : decode cX8_add 31 = .ok (.getfield 15, 3) := by decide +kernel
theorem dX8_add_34 : decode cX8_add 34 = .ok (.iconst 1, 1) := by decide +kernel
theorem dX8_add_35 : decode cX8_add 35 = .ok (.iadd, 1) := by decide +kernel
theorem dX8_add_36 : decode cX8_add 36 = .ok (.putfield 15, 3) := by decide +kernel
theorem dX8_add_39 : decode cX8_add 39 = .ok (.return_, 1) := by decide +kernel
theorem dX8_byteAt_0 : decode cX8_byteAt 0 = .ok (.iload_n 1, 1) := by decide +kernel
theorem dX8_byteAt_1 : decode cX8_byteAt 1 = .ok (.ifCond .lt 33, 3) := by decide +kernel
theorem dX8_byteAt_4 : decode cX8_byteAt 4 = .ok (.iload_n 1, 1) := by decide +kernel
theorem dX8_byteAt_5 : decode cX8_byteAt 5 = .ok (.aload_n 0, 1) := by decide +kernel
theorem dX8_byteAt_6 : decode cX8_byteAt 6 = .ok (.getfield 15, 3) := by decide +kernel
theorem dX8_byteAt_9 : decode cX8_byteAt 9 = .ok (.if_icmp .ge 25, 3) := by decide +kernel
theorem dX8_byteAt_12 : decode cX8_byteAt 12 = .ok (.iload_n 1, 1) := by decide +kernel
theorem dX8_byteAt_13 : decode cX8_byteAt 13 = .ok (.aload_n 0, 1) := by decide +kernel
theorem dX8_byteAt_14 : decode cX8_byteAt 14 = .ok (.getfield 9, 3) := by decide +kernel
theorem dX8_byteAt_17 : decode cX8_byteAt 17 = .ok (.arraylength, 1) := by decide +kernel
theorem dX8_byteAt_18 : decode cX8_byteAt 18 = .ok (.if_icmp .ge 16, 3) := by decide +kernel
theorem dX8_byteAt_21 : decode cX8_byteAt 21 = .ok (.aload_n 0, 1) := by decide +kernel
theorem dX8_byteAt_22 : decode cX8_byteAt 22 = .ok (.getfield 9, 3) := by decide +kernel
theorem dX8_byteAt_25 : decode cX8_byteAt 25 = .ok (.iload_n 1, 1) := by decide +kernel
theorem dX8_byteAt_26 : decode cX8_byteAt 26 = .ok (.baload, 1) := by decide +kernel
theorem dX8_byteAt_27 : decode cX8_byteAt 27 = .ok (.sipush 255, 3) := by decide +kernel
theorem dX8_byteAt_30 : decode cX8_byteAt 30 = .ok (.iand, 1) := by decide +kernel
theorem dX8_byteAt_31 : decode cX8_byteAt 31 = .ok (.goto 4, 3) := by decide +kernel
theorem dX8_byteAt_34 : decode cX8_byteAt 34 = .ok (.iconst (-1), 1) := by decide +kernel
theorem dX8_byteAt_35 : decode cX8_byteAt 35 = .ok (.ireturn, 1) := by decide +kernel
theorem dX8_wordStart_0 : decode cX8_wordStart 0 = .ok (.iload_n 1, 1) := by decide +kernel
theorem dX8_wordStart_1 : decode cX8_wordStart 1 = .ok (.istore_n 2, 1) := by decide +kernel
theorem dX8_wordStart_2 : decode cX8_wordStart 2 = .ok (.iload_n 2, 1) := by decide +kernel
theorem dX8_wordStart_3 : decode cX8_wordStart 3 = .ok (.aload_n 0, 1) := by decide +kernel
theorem dX8_wordStart_4 : decode cX8_wordStart 4 = .ok (.getfield 15, 3) := by decide +kernel
theorem dX8_wordStart_7 : decode cX8_wordStart 7 = .ok (.if_icmp .ge 22, 3) := by decide +kernel
theorem dX8_wordStart_10 : decode cX8_wordStart 10 = .ok (.aload_n 0, 1) := by decide +kernel
theorem dX8_wordStart_11 : decode cX8_wordStart 11 = .ok (.iload_n 2, 1) := by decide +kernel
theorem dX8_wordStart_12 : decode cX8_wordStart 12 = .ok (.invokevirtual 23, 3) := by decide +kernel
theorem dX8_wordStart_15 : decode cX8_wordStart 15 = .ok (.invokestatic 27, 3) := by decide +kernel
theorem dX8_wordStart_18 : decode cX8_wordStart 18 = .ok (.ifCond .eq 5, 3) := by decide +kernel
theorem dX8_wordStart_21 : decode cX8_wordStart 21 = .ok (.iload_n 2, 1) := by decide +kernel
theorem dX8_wordStart_22 : decode cX8_wordStart 22 = .ok (.ireturn, 1) := by decide +kernel
theorem dX8_wordStart_23 : decode cX8_wordStart 23 = .ok (.iinc 2 1, 3) := by decide +kernel
theorem dX8_wordStart_26 : decode cX8_wordStart 26 = .ok (.goto (-24), 3) := by decide +kernel
theorem dX8_wordStart_29 : decode cX8_wordStart 29 = .ok (.aload_n 0, 1) := by decide +kernel
theorem dX8_wordStart_30 : decode cX8_wordStart 30 = .ok (.getfield 15, 3) := by decide +kernel
theorem dX8_wordStart_33 : decode cX8_wordStart 33 = .ok (.ireturn, 1) := by decide +kernel
theorem dX8_wordEnd_0 : decode cX8_wordEnd 0 = .ok (.iload_n 1, 1) := by decide +kernel
theorem dX8_wordEnd_1 : decode cX8_wordEnd 1 = .ok (.istore_n 2, 1) := by decide +kernel
theorem dX8_wordEnd_2 : decode cX8_wordEnd 2 = .ok (.iload_n 2, 1) := by decide +kernel
theorem dX8_wordEnd_3 : decode cX8_wordEnd 3 = .ok (.aload_n 0, 1) := by decide +kernel
theorem dX8_wordEnd_4 : decode cX8_wordEnd 4 = .ok (.getfield 15, 3) := by decide +kernel
theorem dX8_wordEnd_7 : decode cX8_wordEnd 7 = .ok (.if_icmp .ge 22, 3) := by decide +kernel
theorem dX8_wordEnd_10 : decode cX8_wordEnd 10 = .ok (.aload_n 0, 1) := by decide +kernel
theorem dX8_wordEnd_11 : decode cX8_wordEnd 11 = .ok (.iload_n 2, 1) := by decide +kernel
theorem dX8_wordEnd_12 : decode cX8_wordEnd 12 = .ok (.invokevirtual 23, 3) := by decide +kernel
theorem dX8_wordEnd_15 : decode cX8_wordEnd 15 = .ok (.invokestatic 27, 3) := by decide +kernel
theorem dX8_wordEnd_18 : decode cX8_wordEnd 18 = .ok (.ifCond .ne 5, 3) := by decide +kernel
theorem dX8_wordEnd_21 : decode cX8_wordEnd 21 = .ok (.iload_n 2, 1) := by decide +kernel
theorem dX8_wordEnd_22 : decode cX8_wordEnd 22 = .ok (.ireturn, 1) := by decide +kernel
theorem dX8_wordEnd_23 : decode cX8_wordEnd 23 = .ok (.iinc 2 1, 3) := by decide +kernel
theorem dX8_wordEnd_26 : decode cX8_wordEnd 26 = .ok (.goto (-24), 3) := by decide +kernel
theorem dX8_wordEnd_29 : decode cX8_wordEnd 29 = .ok (.aload_n 0, 1) := by decide +kernel
theorem dX8_wordEnd_30 : decode cX8_wordEnd 30 = .ok (.getfield 15, 3) := by decide +kernel
theorem dX8_wordEnd_33 : decode cX8_wordEnd 33 = .ok (.ireturn, 1) := by decide +kernel
theorem dX8_lettersOf_0 : decode cX8_lettersOf 0 = .ok (.lconst 0, 1) := by decide +kernel
theorem dX8_lettersOf_1 : decode cX8_lettersOf 1 = .ok (.lstore_n 3, 1) := by decide +kernel
theorem dX8_lettersOf_2 : decode cX8_lettersOf 2 = .ok (.iconst 0, 1) := by decide +kernel
theorem dX8_lettersOf_3 : decode cX8_lettersOf 3 = .ok (.istore 5, 2) := by decide +kernel
theorem dX8_lettersOf_5 : decode cX8_lettersOf 5 = .ok (.iload 5, 2) := by decide +kernel
theorem dX8_lettersOf_7 : decode cX8_lettersOf 7 = .ok (.bipush 12, 2) := by decide +kernel
theorem dX8_lettersOf_9 : decode cX8_lettersOf 9 = .ok (.if_icmp .ge 35, 3) := by decide +kernel
theorem dX8_lettersOf_12 : decode cX8_lettersOf 12 = .ok (.iload_n 1, 1) := by decide +kernel
theorem dX8_lettersOf_13 : decode cX8_lettersOf 13 = .ok (.iload 5, 2) := by decide +kernel
theorem dX8_lettersOf_15 : decode cX8_lettersOf 15 = .ok (.iadd, 1) := by decide +kernel
theorem dX8_lettersOf_16 : decode cX8_lettersOf 16 = .ok (.iload_n 2, 1) := by decide +kernel
theorem dX8_lettersOf_17 : decode cX8_lettersOf 17 = .ok (.if_icmp .ge 27, 3) := by decide +kernel
theorem dX8_lettersOf_20 : decode cX8_lettersOf 20 = .ok (.lload_n 3, 1) := by decide +kernel
theorem dX8_lettersOf_21 : decode cX8_lettersOf 21 = .ok (.iload 5, 2) := by decide +kernel
theorem dX8_lettersOf_23 : decode cX8_lettersOf 23 = .ok (.aload_n 0, 1) := by decide +kernel
theorem dX8_lettersOf_24 : decode cX8_lettersOf 24 = .ok (.iload_n 1, 1) := by decide +kernel
theorem dX8_lettersOf_25 : decode cX8_lettersOf 25 = .ok (.iload 5, 2) := by decide +kernel
theorem dX8_lettersOf_27 : decode cX8_lettersOf 27 = .ok (.iadd, 1) := by decide +kernel
theorem dX8_lettersOf_28 : decode cX8_lettersOf 28 = .ok (.invokevirtual 23, 3) := by decide +kernel
theorem dX8_lettersOf_31 : decode cX8_lettersOf 31 = .ok (.invokestatic 33, 3) := by decide +kernel
theorem dX8_lettersOf_34 : decode cX8_lettersOf 34 = .ok (.invokestatic 36, 3) := by decide +kernel
theorem dX8_lettersOf_37 : decode cX8_lettersOf 37 = .ok (.lstore_n 3, 1) := by decide +kernel
theorem dX8_lettersOf_38 : decode cX8_lettersOf 38 = .ok (.iinc 5 1, 3) := by decide +kernel
theorem dX8_lettersOf_41 : decode cX8_lettersOf 41 = .ok (.goto (-36), 3) := by decide +kernel
theorem dX8_lettersOf_44 : decode cX8_lettersOf 44 = .ok (.lload_n 3, 1) := by decide +kernel
theorem dX8_lettersOf_45 : decode cX8_lettersOf 45 = .ok (.lreturn, 1) := by decide +kernel
theorem dX9_init_0 : decode cX9_init 0 = .ok (.aload_n 0, 1) := by decide +kernel
theorem dX9_init_1 : decode cX9_init 1 = .ok (.invokespecial 3, 3) := by decide +kernel
theorem dX9_init_4 : decode cX9_init 4 = .ok (.return_, 1) := by decide +kernel
theorem dX9_begin_0 : decode cX9_begin 0 = .ok (.aload_n 0, 1) := by decide +kernel
theorem dX9_begin_1 : decode cX9_begin 1 = .ok (.iconst 0, 1) := by decide +kernel
theorem dX9_begin_2 : decode cX9_begin 2 = .ok (.putfield 9, 3) := by decide +kernel
theorem dX9_begin_5 : decode cX9_begin 5 = .ok (.aload_n 0, 1) := by decide +kernel
theorem dX9_begin_6 : decode cX9_begin 6 = .ok (.iconst 0, 1) := by decide +kernel
theorem dX9_begin_7 : decode cX9_begin 7 = .ok (.putfield 15, 3) := by decide +kernel
theorem dX9_begin_10 : decode cX9_begin 10 = .ok (.aload_n 0, 1) := by decide +kernel
theorem dX9_begin_11 : decode cX9_begin 11 = .ok (.iconst 0, 1) := by decide +kernel
theorem dX9_begin_12 : decode cX9_begin 12 = .ok (.putfield 18, 3) := by decide +kernel
theorem dX9_begin_15 : decode cX9_begin 15 = .ok (.aload_n 0, 1) := by decide +kernel
theorem dX9_begin_16 : decode cX9_begin 16 = .ok (.lconst 0, 1) := by decide +kernel
theorem dX9_begin_17 : decode cX9_begin 17 = .ok (.putfield 21, 3) := by decide +kernel
theorem dX9_begin_20 : decode cX9_begin 20 = .ok (.aload_n 0, 1) := by decide +kernel
theorem dX9_begin_21 : decode cX9_begin 21 = .ok (.iconst 0, 1) := by decide +kernel
theorem dX9_begin_22 : decode cX9_begin 22 = .ok (.putfield 25, 3) := by decide +kernel
theorem dX9_begin_25 : decode cX9_begin 25 = .ok (.aload_n 0, 1) := by decide +kernel
theorem dX9_begin_26 : decode cX9_begin 26 = .ok (.iconst 1, 1) := by decide +kernel
theorem dX9_begin_27 : decode cX9_begin 27 = .ok (.putfield 29, 3) := by decide +kernel
theorem dX9_begin_30 : decode cX9_begin 30 = .ok (.return_, 1) := by decide +kernel
theorem dX9_append_0 : decode cX9_append 0 = .ok (.aload_n 0, 1) := by decide +kernel
theorem dX9_append_1 : decode cX9_append 1 = .ok (.getfield 25, 3) := by decide +kernel
theorem dX9_append_4 : decode cX9_append 4 = .ok (.bipush 12, 2) := by decide +kernel
theorem dX9_append_6 : decode cX9_append 6 = .ok (.if_icmp .lt 5, 3) := by decide +kernel
theorem dX9_append_9 : decode cX9_append 9 = .ok (.iconst 0, 1) := by decide +kernel
theorem dX9_append_10 : decode cX9_append 10 = .ok (.ireturn, 1) := by decide +kernel
theorem dX9_append_11 : decode cX9_append 11 = .ok (.aload_n 0, 1) := by decide +kernel
theorem dX9_append_12 : decode cX9_append 12 = .ok (.aload_n 0, 1) := by decide +kernel
theorem dX9_append_13 : decode cX9_append 13 = .ok (.getfield 21, 3) := by decide +kernel
theorem dX9_append_16 : decode cX9_append 16 = .ok (.aload_n 0, 1) := by decide +kernel
theorem dX9_append_17 : decode cX9_append 17 = .ok (.getfield 25, 3) := by decide +kernel
theorem dX9_append_20 : decode cX9_append 20 = .ok (.iload_n 1, 1) := by decide +kernel
theorem dX9_append_21 : decode cX9_append 21 = .ok (.invokestatic 32, 3) := by decide +kernel
theorem dX9_append_24 : decode cX9_append 24 = .ok (.putfield 21, 3) := by decide +kernel
theorem dX9_append_27 : decode cX9_append 27 = .ok (.aload_n 0, 1) := by decide +kernel
theorem dX9_append_28 : decode cX9_append 28 = .ok (.dup, 1) := by decide +kernel
theorem dX9_append_29 : decode cX9_append 29 = .ok (.getfield 25, 3) := by decide +kernel
theorem dX9_append_32 : decode cX9_append 32 = .ok (.iconst 1, 1) := by decide +kernel
theorem dX9_append_33 : decode cX9_append 33 = .ok (.iadd, 1) := by decide +kernel
theorem dX9_append_34 : decode cX9_append 34 = .ok (.putfield 25, 3) := by decide +kernel
theorem dX9_append_37 : decode cX9_append 37 = .ok (.iconst 1, 1) := by decide +kernel
theorem dX9_append_38 : decode cX9_append 38 = .ok (.ireturn, 1) := by decide +kernel
theorem dX9_lastLetters_0 : decode cX9_lastLetters 0 = .ok (.aload_n 0, 1) := by decide +kernel
theorem dX9_lastLetters_1 : decode cX9_lastLetters 1 = .ok (.getfield 18, 3) := by decide +kernel
theorem dX9_lastLetters_4 : decode cX9_lastLetters 4 = .ok (.ifCond .eq 17, 3) := by decide +kernel
theorem dX9_lastLetters_7 : decode cX9_lastLetters 7 = .ok (.aload_n 0, 1) := by decide +kernel
theorem dX9_lastLetters_8 : decode cX9_lastLetters 8 = .ok (.getfield 21, 3) := by decide +kernel
theorem dX9_lastLetters_11 : decode cX9_lastLetters 11 = .ok (.aload_n 0, 1) := by decide +kernel
theorem dX9_lastLetters_12 : decode cX9_lastLetters 12 = .ok (.getfield 25, 3) := by decide +kernel
theorem dX9_lastLetters_15 : decode cX9_lastLetters 15 = .ok (.invokestatic 38, 3) := by decide +kernel
theorem dX9_lastLetters_18 : decode cX9_lastLetters 18 = .ok (.goto 7, 3) := by decide +kernel
theorem dX9_lastLetters_21 : decode cX9_lastLetters 21 = .ok (.aload_n 0, 1) := by decide +kernel
theorem dX9_lastLetters_22 : decode cX9_lastLetters 22 = .ok (.getfield 21, 3) := by decide +kernel
theorem dX9_lastLetters_25 : decode cX9_lastLetters 25 = .ok (.lreturn, 1) := by decide +kernel
theorem dX10_init_0 : decode cX10_init 0 = .ok (.aload_n 0, 1) := by decide +kernel
theorem dX10_init_1 : decode cX10_init 1 = .ok (.invokespecial 1, 3) := by decide +kernel
theorem dX10_init_4 : decode cX10_init 4 = .ok (.return_, 1) := by decide +kernel
theorem dX10_begin_0 : decode cX10_begin 0 = .ok (.aload_n 0, 1) := by decide +kernel
theorem dX10_begin_1 : decode cX10_begin 1 = .ok (.lload_n 1, 1) := by decide +kernel
theorem dX10_begin_2 : decode cX10_begin 2 = .ok (.putfield 7, 3) := by decide +kernel
theorem dX10_begin_5 : decode cX10_begin 5 = .ok (.aload_n 0, 1) := by decide +kernel
theorem dX10_begin_6 : decode cX10_begin 6 = .ok (.iconst 0, 1) := by decide +kernel
theorem dX10_begin_7 : decode cX10_begin 7 = .ok (.putfield 13, 3) := by decide +kernel
theorem dX10_begin_10 : decode cX10_begin 10 = .ok (.aload_n 0, 1) := by decide +kernel
theorem dX10_begin_11 : decode cX10_begin 11 = .ok (.iconst 0, 1) := by decide +kernel
theorem dX10_begin_12 : decode cX10_begin 12 = .ok (.putfield 17, 3) := by decide +kernel
theorem dX10_begin_15 : decode cX10_begin 15 = .ok (.aload_n 0, 1) := by decide +kernel
theorem dX10_begin_16 : decode cX10_begin 16 = .ok (.aconst_null, 1) := by decide +kernel
theorem dX10_begin_17 : decode cX10_begin 17 = .ok (.putfield 20, 3) := by decide +kernel
theorem dX10_begin_20 : decode cX10_begin 20 = .ok (.aload_n 0, 1) := by decide +kernel
theorem dX10_begin_21 : decode cX10_begin 21 = .ok (.aconst_null, 1) := by decide +kernel
theorem dX10_begin_22 : decode cX10_begin 22 = .ok (.putfield 24, 3) := by decide +kernel
theorem dX10_begin_25 : decode cX10_begin 25 = .ok (.return_, 1) := by decide +kernel
theorem dX10_link_0 : decode cX10_link 0 = .ok (.aload_n 1, 1) := by decide +kernel
theorem dX10_link_1 : decode cX10_link 1 = .ok (.aconst_null, 1) := by decide +kernel
theorem dX10_link_2 : decode cX10_link 2 = .ok (.putfield 28, 3) := by decide +kernel
theorem dX10_link_5 : decode cX10_link 5 = .ok (.aload_n 1, 1) := by decide +kernel
theorem dX10_link_6 : decode cX10_link 6 = .ok (.aload_n 0, 1) := by decide +kernel
theorem dX10_link_7 : decode cX10_link 7 = .ok (.getfield 20, 3) := by decide +kernel
theorem dX10_link_10 : decode cX10_link 10 = .ok (.putfield 33, 3) := by decide +kernel
theorem dX10_link_13 : decode cX10_link 13 = .ok (.aload_n 0, 1) := by decide +kernel
theorem dX10_link_14 : decode cX10_link 14 = .ok (.getfield 20, 3) := by decide +kernel
theorem dX10_link_17 : decode cX10_link 17 = .ok (.ifnull 11, 3) := by decide +kernel
theorem dX10_link_20 : decode cX10_link 20 = .ok (.aload_n 0, 1) := by decide +kernel
theorem dX10_link_21 : decode cX10_link 21 = .ok (.getfield 20, 3) := by decide +kernel
theorem dX10_link_24 : decode cX10_link 24 = .ok (.aload_n 1, 1) := by decide +kernel
theorem dX10_link_25 : decode cX10_link 25 = .ok (.putfield 28, 3) := by decide +kernel
theorem dX10_link_28 : decode cX10_link 28 = .ok (.aload_n 0, 1) := by decide +kernel
theorem dX10_link_29 : decode cX10_link 29 = .ok (.aload_n 1, 1) := by decide +kernel
theorem dX10_link_30 : decode cX10_link 30 = .ok (.putfield 20, 3) := by decide +kernel
theorem dX10_link_33 : decode cX10_link 33 = .ok (.aload_n 0, 1) := by decide +kernel
theorem dX10_link_34 : decode cX10_link 34 = .ok (.dup, 1) := by decide +kernel
theorem dX10_link_35 : decode cX10_link 35 = .ok (.getfield 13, 3) := by decide +kernel
theorem dX10_link_38 : decode cX10_link 38 = .ok (.iconst 1, 1) := by decide +kernel
theorem dX10_link_39 : decode cX10_link 39 = .ok (.iadd, 1) := by decide +kernel
theorem dX10_link_40 : decode cX10_link 40 = .ok (.putfield 13, 3) := by decide +kernel
theorem dX10_link_43 : decode cX10_link 43 = .ok (.return_, 1) := by decide +kernel
theorem dX10_unlink_0 : decode cX10_unlink 0 = .ok (.aload_n 1, 1) := by decide +kernel
theorem dX10_unlink_1 : decode cX10_unlink 1 = .ok (.getfield 28, 3) := by decide +kernel
theorem dX10_unlink_4 : decode cX10_unlink 4 = .ok (.ifnonnull 14, 3) := by decide +kernel
theorem dX10_unlink_7 : decode cX10_unlink 7 = .ok (.aload_n 0, 1) := by decide +kernel
theorem dX10_unlink_8 : decode cX10_unlink 8 = .ok (.aload_n 1, 1) := by decide +kernel
theorem dX10_unlink_9 : decode cX10_unlink 9 = .ok (.getfield 33, 3) := by decide +kernel
theorem dX10_unlink_12 : decode cX10_unlink 12 = .ok (.putfield 20, 3) := by decide +kernel
theorem dX10_unlink_15 : decode cX10_unlink 15 = .ok (.goto 14, 3) := by decide +kernel
theorem dX10_unlink_18 : decode cX10_unlink 18 = .ok (.aload_n 1, 1) := by decide +kernel
theorem dX10_unlink_19 : decode cX10_unlink 19 = .ok (.getfield 28, 3) := by decide +kernel
theorem dX10_unlink_22 : decode cX10_unlink 22 = .ok (.aload_n 1, 1) := by decide +kernel
theorem dX10_unlink_23 : decode cX10_unlink 23 = .ok (.getfield 33, 3) := by decide +kernel
theorem dX10_unlink_26 : decode cX10_unlink 26 = .ok (.putfield 33, 3) := by decide +kernel
theorem dX10_unlink_29 : decode cX10_unlink 29 = .ok (.aload_n 1, 1) := by decide +kernel
theorem dX10_unlink_30 : decode cX10_unlink 30 = .ok (.getfield 33, 3) := by decide +kernel
theorem dX10_unlink_33 : decode cX10_unlink 33 = .ok (.ifnull 14, 3) := by decide +kernel
theorem dX10_unlink_36 : decode cX10_unlink 36 = .ok (.aload_n 1, 1) := by decide +kernel
theorem dX10_unlink_37 : decode cX10_unlink 37 = .ok (.getfield 33, 3) := by decide +kernel
theorem dX10_unlink_40 : decode cX10_unlink 40 = .ok (.aload_n 1, 1) := by decide +kernel
theorem dX10_unlink_41 : decode cX10_unlink 41 = .ok (.getfield 28, 3) := by decide +kernel
theorem dX10_unlink_44 : decode cX10_unlink 44 = .ok (.putfield 28, 3) := by decide +kernel
theorem dX10_unlink_47 : decode cX10_unlink 47 = .ok (.aload_n 0, 1) := by decide +kernel
theorem dX10_unlink_48 : decode cX10_unlink 48 = .ok (.dup, 1) := by decide +kernel
theorem dX10_unlink_49 : decode cX10_unlink 49 = .ok (.getfield 13, 3) := by decide +kernel
theorem dX10_unlink_52 : decode cX10_unlink 52 = .ok (.iconst 1, 1) := by decide +kernel
theorem dX10_unlink_53 : decode cX10_unlink 53 = .ok (.isub, 1) := by decide +kernel
theorem dX10_unlink_54 : decode cX10_unlink 54 = .ok (.putfield 13, 3) := by decide +kernel
theorem dX10_unlink_57 : decode cX10_unlink 57 = .ok (.aload_n 0, 1) := by decide +kernel
theorem dX10_unlink_58 : decode cX10_unlink 58 = .ok (.dup, 1) := by decide +kernel
theorem dX10_unlink_59 : decode cX10_unlink 59 = .ok (.getfield 17, 3) := by decide +kernel
theorem dX10_unlink_62 : decode cX10_unlink 62 = .ok (.aload_n 1, 1) := by decide +kernel
theorem dX10_unlink_63 : decode cX10_unlink 63 = .ok (.getfield 36, 3) := by decide +kernel
theorem dX10_unlink_66 : decode cX10_unlink 66 = .ok (.isub, 1) := by decide +kernel
theorem dX10_unlink_67 : decode cX10_unlink 67 = .ok (.putfield 17, 3) := by decide +kernel
theorem dX10_unlink_70 : decode cX10_unlink 70 = .ok (.return_, 1) := by decide +kernel
theorem dX11_init_0 : decode cX11_init 0 = .ok (.aload_n 0, 1) := by decide +kernel
theorem dX11_init_1 : decode cX11_init 1 = .ok (.invokespecial 3, 3) := by decide +kernel
theorem dX11_init_4 : decode cX11_init 4 = .ok (.aload_n 0, 1) := by decide +kernel
theorem dX11_init_5 : decode cX11_init 5 = .ok (.new 9, 3) := by decide +kernel
theorem dX11_init_8 : decode cX11_init 8 = .ok (.dup, 1) := by decide +kernel
theorem dX11_init_9 : decode cX11_init 9 = .ok (.invokespecial 11, 3) := by decide +kernel
theorem dX11_init_12 : decode cX11_init 12 = .ok (.putfield 12, 3) := by decide +kernel
theorem dX11_init_15 : decode cX11_init 15 = .ok (.aload_n 0, 1) := by decide +kernel
theorem dX11_init_16 : decode cX11_init 16 = .ok (.new 16, 3) := by decide +kernel
theorem dX11_init_19 : decode cX11_init 19 = .ok (.dup, 1) := by decide +kernel
theorem dX11_init_20 : decode cX11_init 20 = .ok (.invokespecial 18, 3) := by decide +kernel
theorem dX11_init_23 : decode cX11_init 23 = .ok (.putfield 19, 3) := by decide +kernel
theorem dX11_init_26 : decode cX11_init 26 = .ok (.aload_n 0, 1) := by decide +kernel
theorem dX11_init_27 : decode cX11_init 27 = .ok (.new 23, 3) := by decide +kernel
theorem dX11_init_30 : decode cX11_init 30 = .ok (.dup, 1) := by decide +kernel
theorem dX11_init_31 : decode cX11_init 31 = .ok (.invokespecial 25, 3) := by decide +kernel
theorem dX11_init_34 : decode cX11_init 34 = .ok (.putfield 26, 3) := by decide +kernel
theorem dX11_init_37 : decode cX11_init 37 = .ok (.aload_n 0, 1) := by decide +kernel
theorem dX11_init_38 : decode cX11_init 38 = .ok (.new 30, 3) := by decide +kernel
theorem dX11_init_41 : decode cX11_init 41 = .ok (.dup, 1) := by decide +kernel
theorem dX11_init_42 : decode cX11_init 42 = .ok (.invokespecial 32, 3) := by decide +kernel
theorem dX11_init_45 : decode cX11_init 45 = .ok (.putfield 33, 3) := by decide +kernel
theorem dX11_init_48 : decode cX11_init 48 = .ok (.aload_n 0, 1) := by decide +kernel
theorem dX11_init_49 : decode cX11_init 49 = .ok (.new 37, 3) := by decide +kernel
theorem dX11_init_52 : decode cX11_init 52 = .ok (.dup, 1) := by decide +kernel
theorem dX11_init_53 : decode cX11_init 53 = .ok (.invokespecial 39, 3) := by decide +kernel
theorem dX11_init_56 : decode cX11_init 56 = .ok (.putfield 40, 3) := by decide +kernel
theorem dX11_init_59 : decode cX11_init 59 = .ok (.return_, 1) := by decide +kernel
theorem dX11_feed_0 : decode cX11_feed 0 = .ok (.iload_n 1, 1) := by decide +kernel
theorem dX11_feed_1 : decode cX11_feed 1 = .ok (.iconst 1, 1) := by decide +kernel
theorem dX11_feed_2 : decode cX11_feed 2 = .ok (.if_icmp .lt 9, 3) := by decide +kernel
theorem dX11_feed_5 : decode cX11_feed 5 = .ok (.iload_n 1, 1) := by decide +kernel
theorem dX11_feed_6 : decode cX11_feed 6 = .ok (.bipush 8, 2) := by decide +kernel
theorem dX11_feed_8 : decode cX11_feed 8 = .ok (.if_icmp .le 13, 3) := by decide +kernel
theorem dX11_feed_11 : decode cX11_feed 11 = .ok (.new 44, 3) := by decide +kernel
theorem dX11_feed_14 : decode cX11_feed 14 = .ok (.dup, 1) := by decide +kernel
theorem dX11_feed_15 : decode cX11_feed 15 = .ok (.ldc 46, 2) := by decide +kernel
theorem dX11_feed_17 : decode cX11_feed 17 = .ok (.invokespecial 48, 3) := by decide +kernel
theorem dX11_feed_20 : decode cX11_feed 20 = .ok (.athrow, 1) := by decide +kernel
theorem dX11_feed_21 : decode cX11_feed 21 = .ok (.aload_n 0, 1) := by decide +kernel
theorem dX11_feed_22 : decode cX11_feed 22 = .ok (.getfield 12, 3) := by decide +kernel
theorem dX11_feed_25 : decode cX11_feed 25 = .ok (.iload_n 1, 1) := by decide +kernel
theorem dX11_feed_26 : decode cX11_feed 26 = .ok (.lload_n 2, 1) := by decide +kernel
theorem dX11_feed_27 : decode cX11_feed 27 = .ok (.invokevirtual 51, 3) := by decide +kernel
theorem dX11_feed_30 : decode cX11_feed 30 = .ok (.ifCond .eq 13, 3) := by decide +kernel
theorem dX11_feed_33 : decode cX11_feed 33 = .ok (.aload_n 0, 1) := by decide +kernel
theorem dX11_feed_34 : decode cX11_feed 34 = .ok (.getfield 12, 3) := by decide +kernel
theorem dX11_feed_37 : decode cX11_feed 37 = .ok (.invokevirtual 55, 3) := by decide +kernel
theorem dX11_feed_40 : decode cX11_feed 40 = .ok (.goto 4, 3) := by decide +kernel
theorem dX11_feed_43 : decode cX11_feed 43 = .ok (.iconst (-1), 1) := by decide +kernel
theorem dX11_feed_44 : decode cX11_feed 44 = .ok (.ireturn, 1) := by decide +kernel
theorem dX11_wipe_0 : decode cX11_wipe 0 = .ok (.aload_n 0, 1) := by decide +kernel
theorem dX11_wipe_1 : decode cX11_wipe 1 = .ok (.getfield 12, 3) := by decide +kernel
theorem dX11_wipe_4 : decode cX11_wipe 4 = .ok (.invokevirtual 55, 3) := by decide +kernel
theorem dX11_wipe_7 : decode cX11_wipe 7 = .ok (.istore_n 1, 1) := by decide +kernel
theorem dX11_wipe_8 : decode cX11_wipe 8 = .ok (.aload_n 0, 1) := by decide +kernel
theorem dX11_wipe_9 : decode cX11_wipe 9 = .ok (.getfield 12, 3) := by decide +kernel
theorem dX11_wipe_12 : decode cX11_wipe 12 = .ok (.invokevirtual 59, 3) := by decide +kernel
theorem dX11_wipe_15 : decode cX11_wipe 15 = .ok (.iload_n 1, 1) := by decide +kernel
theorem dX11_wipe_16 : decode cX11_wipe 16 = .ok (.ireturn, 1) := by decide +kernel
theorem dX11_put_0 : decode cX11_put 0 = .ok (.iload_n 1, 1) := by decide +kernel
theorem dX11_put_1 : decode cX11_put 1 = .ok (.invokestatic 62, 3) := by decide +kernel
theorem dX11_put_4 : decode cX11_put 4 = .ok (.aload_n 0, 1) := by decide +kernel
theorem dX11_put_5 : decode cX11_put 5 = .ok (.getfield 19, 3) := by decide +kernel
theorem dX11_put_8 : decode cX11_put 8 = .ok (.iload_n 1, 1) := by decide +kernel
theorem dX11_put_9 : decode cX11_put 9 = .ok (.invokevirtual 66, 3) := by decide +kernel
theorem dX11_put_12 : decode cX11_put 12 = .ok (.astore_n 2, 1) := by decide +kernel
theorem dX11_put_13 : decode cX11_put 13 = .ok (.aload_n 2, 1) := by decide +kernel
theorem dX11_put_14 : decode cX11_put 14 = .ok (.ifnonnull 5, 3) := by decide +kernel
theorem dX11_put_17 : decode cX11_put 17 = .ok (.iconst (-1), 1) := by decide +kernel
theorem dX11_put_18 : decode cX11_put 18 = .ok (.ireturn, 1) := by decide +kernel
theorem dX11_put_19 : decode cX11_put 19 = .ok (.aload_n 0, 1) := by decide +kernel
theorem dX11_put_20 : decode cX11_put 20 = .ok (.getfield 19, 3) := by decide +kernel
theorem dX11_put_23 : decode cX11_put 23 = .ok (.aload_n 2, 1) := by decide +kernel
theorem dX11_put_24 : decode cX11_put 24 = .ok (.aload_n 0, 1) := by decide +kernel
theorem dX11_put_25 : decode cX11_put 25 = .ok (.getfield 12, 3) := by decide +kernel
theorem dX11_put_28 : decode cX11_put 28 = .ok (.invokevirtual 70, 3) := by decide +kernel
theorem dX11_put_31 : decode cX11_put 31 = .ok (.aload_n 2, 1) := by decide +kernel
theorem dX11_put_32 : decode cX11_put 32 = .ok (.getfield 74, 3) := by decide +kernel
theorem dX11_put_35 : decode cX11_put 35 = .ok (.ireturn, 1) := by decide +kernel
theorem dX11_drop_0 : decode cX11_drop 0 = .ok (.iload_n 1, 1) := by decide +kernel
theorem dX11_drop_1 : decode cX11_drop 1 = .ok (.invokestatic 62, 3) := by decide +kernel
theorem dX11_drop_4 : decode cX11_drop 4 = .ok (.aload_n 0, 1) := by decide +kernel
theorem dX11_drop_5 : decode cX11_drop 5 = .ok (.getfield 19, 3) := by decide +kernel
theorem dX11_drop_8 : decode cX11_drop 8 = .ok (.iload_n 1, 1) := by decide +kernel
theorem dX11_drop_9 : decode cX11_drop 9 = .ok (.invokevirtual 79, 3) := by decide +kernel
theorem dX11_drop_12 : decode cX11_drop 12 = .ok (.ireturn, 1) := by decide +kernel
theorem dX11_told_0 : decode cX11_told 0 = .ok (.iload_n 1, 1) := by decide +kernel
theorem dX11_told_1 : decode cX11_told 1 = .ok (.tableswitch 54 0 2 #[27, 35, 46], 27) := by decide +kernel
theorem dX11_told_28 : decode cX11_told 28 = .ok (.aload_n 0, 1) := by decide +kernel
theorem dX11_told_29 : decode cX11_told 29 = .ok (.getfield 19, 3) := by decide +kernel
theorem dX11_told_32 : decode cX11_told 32 = .ok (.invokevirtual 83, 3) := by decide +kernel
theorem dX11_told_35 : decode cX11_told 35 = .ok (.ireturn, 1) := by decide +kernel
theorem dX11_told_36 : decode cX11_told 36 = .ok (.aload_n 0, 1) := by decide +kernel
theorem dX11_told_37 : decode cX11_told 37 = .ok (.getfield 19, 3) := by decide +kernel
theorem dX11_told_40 : decode cX11_told 40 = .ok (.getfield 86, 3) := by decide +kernel
theorem dX11_told_43 : decode cX11_told 43 = .ok (.invokevirtual 90, 3) := by decide +kernel
theorem dX11_told_46 : decode cX11_told 46 = .ok (.ireturn, 1) := by decide +kernel
theorem dX11_told_47 : decode cX11_told 47 = .ok (.aload_n 0, 1) := by decide +kernel
theorem dX11_told_48 : decode cX11_told 48 = .ok (.getfield 19, 3) := by decide +kernel
theorem dX11_told_51 : decode cX11_told 51 = .ok (.getfield 95, 3) := by decide +kernel
theorem dX11_told_54 : decode cX11_told 54 = .ok (.ireturn, 1) := by decide +kernel
theorem dX11_told_55 : decode cX11_told 55 = .ok (.new 44, 3) := by decide +kernel
theorem dX11_told_58 : decode cX11_told 58 = .ok (.dup, 1) := by decide +kernel
theorem dX11_told_59 : decode cX11_told 59 = .ok (.ldc 98, 2) := by decide +kernel
theorem dX11_told_61 : decode cX11_told 61 = .ok (.invokespecial 48, 3) := by decide +kernel
theorem dX11_told_64 : decode cX11_told 64 = .ok (.athrow, 1) := by decide +kernel
theorem dX11_word_0 : decode cX11_word 0 = .ok (.aload_n 0, 1) := by decide +kernel
theorem dX11_word_1 : decode cX11_word 1 = .ok (.getfield 19, 3) := by decide +kernel
theorem dX11_word_4 : decode cX11_word 4 = .ok (.getfield 86, 3) := by decide +kernel
theorem dX11_word_7 : decode cX11_word 7 = .ok (.iload_n 1, 1) := by decide +kernel
theorem dX11_word_8 : decode cX11_word 8 = .ok (.invokevirtual 100, 3) := by decide +kernel
theorem dX11_word_11 : decode cX11_word 11 = .ok (.astore_n 2, 1) := by decide +kernel
theorem dX11_word_12 : decode cX11_word 12 = .ok (.aload_n 2, 1) := by decide +kernel
theorem dX11_word_13 : decode cX11_word 13 = .ok (.ifnonnull 9, 3) := by decide +kernel
theorem dX11_word_16 : decode cX11_word 16 = .ok (.ldc2_w 104, 3) := by decide +kernel
theorem dX11_word_19 : decode cX11_word 19 = .ok (.goto 10, 3) := by decide +kernel
theorem dX11_word_22 : decode cX11_word 22 = .ok (.aload_n 2, 1) := by decide +kernel
theorem dX11_word_23 : decode cX11_word 23 = .ok (.getfield 106, 3) := by decide +kernel
theorem dX11_word_26 : decode cX11_word 26 = .ok (.invokestatic 112, 3) := by decide +kernel
theorem dX11_word_29 : decode cX11_word 29 = .ok (.lreturn, 1) := by decide +kernel
theorem dX11_about_0 : decode cX11_about 0 = .ok (.iload_n 1, 1) := by decide +kernel
theorem dX11_about_1 : decode cX11_about 1 = .ok (.ifCond .lt 8, 3) := by decide +kernel
theorem dX11_about_4 : decode cX11_about 4 = .ok (.iload_n 1, 1) := by decide +kernel
theorem dX11_about_5 : decode cX11_about 5 = .ok (.iconst 2, 1) := by decide +kernel
theorem dX11_about_6 : decode cX11_about 6 = .ok (.if_icmp .le 13, 3) := by decide +kernel
theorem dX11_about_9 : decode cX11_about 9 = .ok (.new 44, 3) := by decide +kernel
theorem dX11_about_12 : decode cX11_about 12 = .ok (.dup, 1) := by decide +kernel
theorem dX11_about_13 : decode cX11_about 13 = .ok (.ldc 98, 2) := by decide +kernel
theorem dX11_about_15 : decode cX11_about 15 = .ok (.invokespecial 48, 3) := by decide +kernel
theorem dX11_about_18 : decode cX11_about 18 = .ok (.athrow, 1) := by decide +kernel
theorem dX11_about_19 : decode cX11_about 19 = .ok (.aload_n 0, 1) := by decide +kernel
theorem dX11_about_20 : decode cX11_about 20 = .ok (.getfield 12, 3) := by decide +kernel
theorem dX11_about_23 : decode cX11_about 23 = .ok (.iconst 0, 1) := by decide +kernel
theorem dX11_about_24 : decode cX11_about 24 = .ok (.invokevirtual 118, 3) := by decide +kernel
theorem dX11_about_27 : decode cX11_about 27 = .ok (.istore_n 2, 1) := by decide +kernel
theorem dX11_about_28 : decode cX11_about 28 = .ok (.iload_n 2, 1) := by decide +kernel
theorem dX11_about_29 : decode cX11_about 29 = .ok (.aload_n 0, 1) := by decide +kernel
theorem dX11_about_30 : decode cX11_about 30 = .ok (.getfield 12, 3) := by decide +kernel
theorem dX11_about_33 : decode cX11_about 33 = .ok (.invokevirtual 55, 3) := by decide +kernel
theorem dX11_about_36 : decode cX11_about 36 = .ok (.if_icmp .lt 5, 3) := by decide +kernel
theorem dX11_about_39 : decode cX11_about 39 = .ok (.iconst (-1), 1) := by decide +kernel
theorem dX11_about_40 : decode cX11_about 40 = .ok (.ireturn, 1) := by decide +kernel
theorem dX11_about_41 : decode cX11_about 41 = .ok (.aload_n 0, 1) := by decide +kernel
theorem dX11_about_42 : decode cX11_about 42 = .ok (.getfield 19, 3) := by decide +kernel
theorem dX11_about_45 : decode cX11_about 45 = .ok (.getfield 86, 3) := by decide +kernel
theorem dX11_about_48 : decode cX11_about 48 = .ok (.aload_n 0, 1) := by decide +kernel
theorem dX11_about_49 : decode cX11_about 49 = .ok (.getfield 12, 3) := by decide +kernel
theorem dX11_about_52 : decode cX11_about 52 = .ok (.iload_n 2, 1) := by decide +kernel
theorem dX11_about_53 : decode cX11_about 53 = .ok (.aload_n 0, 1) := by decide +kernel
theorem dX11_about_54 : decode cX11_about 54 = .ok (.getfield 12, 3) := by decide +kernel
theorem dX11_about_57 : decode cX11_about 57 = .ok (.iload_n 2, 1) := by decide +kernel
theorem dX11_about_58 : decode cX11_about 58 = .ok (.invokevirtual 122, 3) := by decide +kernel
theorem dX11_about_61 : decode cX11_about 61 = .ok (.invokevirtual 125, 3) := by decide +kernel
theorem dX11_about_64 : decode cX11_about 64 = .ok (.invokevirtual 129, 3) := by decide +kernel
theorem dX11_about_67 : decode cX11_about 67 = .ok (.astore_n 3, 1) := by decide +kernel
theorem dX11_about_68 : decode cX11_about 68 = .ok (.aload_n 3, 1) := by decide +kernel
theorem dX11_about_69 : decode cX11_about 69 = .ok (.ifnonnull 5, 3) := by decide +kernel
theorem dX11_about_72 : decode cX11_about 72 = .ok (.iconst 0, 1) := by decide +kernel
theorem dX11_about_73 : decode cX11_about 73 = .ok (.ireturn, 1) := by decide +kernel
theorem dX11_about_74 : decode cX11_about 74 = .ok (.iload_n 1, 1) := by decide +kernel
theorem dX11_about_75 : decode cX11_about 75 = .ok (.lookupswitch 39 #[(0, 25), (1, 30)], 25) := by decide +kernel
theorem dX11_about_100 : decode cX11_about 100 = .ok (.aload_n 3, 1) := by decide +kernel
theorem dX11_about_101 : decode cX11_about 101 = .ok (.getfield 133, 3) := by decide +kernel
theorem dX11_about_104 : decode cX11_about 104 = .ok (.ireturn, 1) := by decide +kernel
theorem dX11_about_105 : decode cX11_about 105 = .ok (.aload_n 0, 1) := by decide +kernel
theorem dX11_about_106 : decode cX11_about 106 = .ok (.getfield 19, 3) := by decide +kernel
theorem dX11_about_109 : decode cX11_about 109 = .ok (.aload_n 3, 1) := by decide +kernel
theorem dX11_about_110 : decode cX11_about 110 = .ok (.invokevirtual 136, 3) := by decide +kernel
theorem dX11_about_113 : decode cX11_about 113 = .ok (.ireturn, 1) := by decide +kernel
theorem dX11_about_114 : decode cX11_about 114 = .ok (.aload_n 3, 1) := by decide +kernel
theorem dX11_about_115 : decode cX11_about 115 = .ok (.getfield 140, 3) := by decide +kernel
theorem dX11_about_118 : decode cX11_about 118 = .ok (.ireturn, 1) := by decide +kernel
theorem dX11_find_0 : decode cX11_find 0 = .ok (.iload_n 1, 1) := by decide +kernel
theorem dX11_find_1 : decode cX11_find 1 = .ok (.invokestatic 143, 3) := by decide +kernel
theorem dX11_find_4 : decode cX11_find 4 = .ok (.aload_n 0, 1) := by decide +kernel
theorem dX11_find_5 : decode cX11_find 5 = .ok (.getfield 40, 3) := by decide +kernel
theorem dX11_find_8 : decode cX11_find 8 = .ok (.iload_n 1, 1) := by decide +kernel
theorem dX11_find_9 : decode cX11_find 9 = .ok (.invokevirtual 146, 3) := by decide +kernel
theorem dX11_find_12 : decode cX11_find 12 = .ok (.aload_n 0, 1) := by decide +kernel
theorem dX11_find_13 : decode cX11_find 13 = .ok (.getfield 26, 3) := by decide +kernel
theorem dX11_find_16 : decode cX11_find 16 = .ok (.aload_n 0, 1) := by decide +kernel
theorem dX11_find_17 : decode cX11_find 17 = .ok (.getfield 12, 3) := by decide +kernel
theorem dX11_find_20 : decode cX11_find 20 = .ok (.invokevirtual 149, 3) := by decide +kernel
theorem dX11_find_23 : decode cX11_find 23 = .ok (.aload_n 0, 1) := by decide +kernel
theorem dX11_find_24 : decode cX11_find 24 = .ok (.getfield 26, 3) := by decide +kernel
theorem dX11_find_27 : decode cX11_find 27 = .ok (.getfield 153, 3) := by decide +kernel
theorem dX11_find_30 : decode cX11_find 30 = .ok (.ifCond .eq 5, 3) := by decide +kernel
theorem dX11_find_33 : decode cX11_find 33 = .ok (.iconst (-1), 1) := by decide +kernel
theorem dX11_find_34 : decode cX11_find 34 = .ok (.ireturn, 1) := by decide +kernel
theorem dX11_find_35 : decode cX11_find 35 = .ok (.aload_n 0, 1) := by decide +kernel
theorem dX11_find_36 : decode cX11_find 36 = .ok (.getfield 33, 3) := by decide +kernel
theorem dX11_find_39 : decode cX11_find 39 = .ok (.aload_n 0, 1) := by decide +kernel
theorem dX11_find_40 : decode cX11_find 40 = .ok (.getfield 26, 3) := by decide +kernel
theorem dX11_find_43 : decode cX11_find 43 = .ok (.aload_n 0, 1) := by decide +kernel
theorem dX11_find_44 : decode cX11_find 44 = .ok (.getfield 19, 3) := by decide +kernel
theorem dX11_find_47 : decode cX11_find 47 = .ok (.aload_n 0, 1) := by decide +kernel
theorem dX11_find_48 : decode cX11_find 48 = .ok (.getfield 40, 3) := by decide +kernel
theorem dX11_find_51 : decode cX11_find 51 = .ok (.invokevirtual 156, 3) := by decide +kernel
theorem dX11_find_54 : decode cX11_find 54 = .ok (.aload_n 0, 1) := by decide +kernel
theorem dX11_find_55 : decode cX11_find 55 = .ok (.getfield 40, 3) := by decide +kernel
theorem dX11_find_58 : decode cX11_find 58 = .ok (.getfield 160, 3) := by decide +kernel
theorem dX11_find_61 : decode cX11_find 61 = .ok (.ireturn, 1) := by decide +kernel
theorem dX11_fault_0 : decode cX11_fault 0 = .ok (.aload_n 0, 1) := by decide +kernel
theorem dX11_fault_1 : decode cX11_fault 1 = .ok (.getfield 26, 3) := by decide +kernel
theorem dX11_fault_4 : decode cX11_fault 4 = .ok (.getfield 153, 3) := by decide +kernel
theorem dX11_fault_7 : decode cX11_fault 7 = .ok (.ireturn, 1) := by decide +kernel
theorem dX11_place_0 : decode cX11_place 0 = .ok (.aload_n 0, 1) := by decide +kernel
theorem dX11_place_1 : decode cX11_place 1 = .ok (.getfield 26, 3) := by decide +kernel
theorem dX11_place_4 : decode cX11_place 4 = .ok (.getfield 163, 3) := by decide +kernel
theorem dX11_place_7 : decode cX11_place 7 = .ok (.ireturn, 1) := by decide +kernel
theorem dX11_similar_0 : decode cX11_similar 0 = .ok (.iload_n 2, 1) := by decide +kernel
theorem dX11_similar_1 : decode cX11_similar 1 = .ok (.invokestatic 143, 3) := by decide +kernel
theorem dX11_similar_4 : decode cX11_similar 4 = .ok (.aload_n 0, 1) := by decide +kernel
theorem dX11_similar_5 : decode cX11_similar 5 = .ok (.getfield 19, 3) := by decide +kernel
theorem dX11_similar_8 : decode cX11_similar 8 = .ok (.iload_n 1, 1) := by decide +kernel
theorem dX11_similar_9 : decode cX11_similar 9 = .ok (.invokevirtual 166, 3) := by decide +kernel
theorem dX11_similar_12 : decode cX11_similar 12 = .ok (.astore_n 3, 1) := by decide +kernel
theorem dX11_similar_13 : decode cX11_similar 13 = .ok (.aload_n 3, 1) := by decide +kernel
theorem dX11_similar_14 : decode cX11_similar 14 = .ok (.ifnonnull 13, 3) := by decide +kernel
theorem dX11_similar_17 : decode cX11_similar 17 = .ok (.new 44, 3) := by decide +kernel
theorem dX11_similar_20 : decode cX11_similar 20 = .ok (.dup, 1) := by decide +kernel
theorem dX11_similar_21 : decode cX11_similar 21 = .ok (.ldc 169, 2) := by decide +kernel
theorem dX11_similar_23 : decode cX11_similar 23 = .ok (.invokespecial 48, 3) := by decide +kernel
theorem dX11_similar_26 : decode cX11_similar 26 = .ok (.athrow, 1) := by decide +kernel
theorem dX11_similar_27 : decode cX11_similar 27 = .ok (.aload_n 0, 1) := by decide +kernel
theorem dX11_similar_28 : decode cX11_similar 28 = .ok (.getfield 40, 3) := by decide +kernel
theorem dX11_similar_31 : decode cX11_similar 31 = .ok (.iload_n 2, 1) := by decide +kernel
theorem dX11_similar_32 : decode cX11_similar 32 = .ok (.invokevirtual 146, 3) := by decide +kernel
theorem dX11_similar_35 : decode cX11_similar 35 = .ok (.aload_n 0, 1) := by decide +kernel
theorem dX11_similar_36 : decode cX11_similar 36 = .ok (.getfield 33, 3) := by decide +kernel
theorem dX11_similar_39 : decode cX11_similar 39 = .ok (.aload_n 3, 1) := by decide +kernel
theorem dX11_similar_40 : decode cX11_similar 40 = .ok (.aload_n 0, 1) := by decide +kernel
theorem dX11_similar_41 : decode cX11_similar 41 = .ok (.getfield 19, 3) := by decide +kernel
theorem dX11_similar_44 : decode cX11_similar 44 = .ok (.aload_n 0, 1) := by decide +kernel
theorem dX11_similar_45 : decode cX11_similar 45 = .ok (.getfield 40, 3) := by decide +kernel
theorem dX11_similar_48 : decode cX11_similar 48 = .ok (.invokevirtual 171, 3) := by decide +kernel
theorem dX11_similar_51 : decode cX11_similar 51 = .ok (.aload_n 0, 1) := by decide +kernel
theorem dX11_similar_52 : decode cX11_similar 52 = .ok (.getfield 40, 3) := by decide +kernel
theorem dX11_similar_55 : decode cX11_similar 55 = .ok (.getfield 160, 3) := by decide +kernel
theorem dX11_similar_58 : decode cX11_similar 58 = .ok (.ireturn, 1) := by decide +kernel
theorem dX11_hit_0 : decode cX11_hit 0 = .ok (.aload_n 0, 1) := by decide +kernel
theorem dX11_hit_1 : decode cX11_hit 1 = .ok (.getfield 40, 3) := by decide +kernel
theorem dX11_hit_4 : decode cX11_hit 4 = .ok (.iload_n 1, 1) := by decide +kernel
theorem dX11_hit_5 : decode cX11_hit 5 = .ok (.invokevirtual 175, 3) := by decide +kernel
theorem dX11_hit_8 : decode cX11_hit 8 = .ok (.ifCond .ne 13, 3) := by decide +kernel
theorem dX11_hit_11 : decode cX11_hit 11 = .ok (.new 178, 3) := by decide +kernel
theorem dX11_hit_14 : decode cX11_hit 14 = .ok (.dup, 1) := by decide +kernel
theorem dX11_hit_15 : decode cX11_hit 15 = .ok (.ldc 180, 2) := by decide +kernel
theorem dX11_hit_17 : decode cX11_hit 17 = .ok (.invokespecial 182, 3) := by decide +kernel
theorem dX11_hit_20 : decode cX11_hit 20 = .ok (.athrow, 1) := by decide +kernel
theorem dX11_hit_21 : decode cX11_hit 21 = .ok (.aload_n 0, 1) := by decide +kernel
theorem dX11_hit_22 : decode cX11_hit 22 = .ok (.getfield 40, 3) := by decide +kernel
theorem dX11_hit_25 : decode cX11_hit 25 = .ok (.iload_n 1, 1) := by decide +kernel
theorem dX11_hit_26 : decode cX11_hit 26 = .ok (.invokevirtual 183, 3) := by decide +kernel
theorem dX11_hit_29 : decode cX11_hit 29 = .ok (.ireturn, 1) := by decide +kernel
theorem dX11_score_0 : decode cX11_score 0 = .ok (.aload_n 0, 1) := by decide +kernel
theorem dX11_score_1 : decode cX11_score 1 = .ok (.getfield 40, 3) := by decide +kernel
theorem dX11_score_4 : decode cX11_score 4 = .ok (.iload_n 1, 1) := by decide +kernel
theorem dX11_score_5 : decode cX11_score 5 = .ok (.invokevirtual 175, 3) := by decide +kernel
theorem dX11_score_8 : decode cX11_score 8 = .ok (.ifCond .ne 13, 3) := by decide +kernel
theorem dX11_score_11 : decode cX11_score 11 = .ok (.new 178, 3) := by decide +kernel
theorem dX11_score_14 : decode cX11_score 14 = .ok (.dup, 1) := by decide +kernel
theorem dX11_score_15 : decode cX11_score 15 = .ok (.ldc 180, 2) := by decide +kernel
theorem dX11_score_17 : decode cX11_score 17 = .ok (.invokespecial 182, 3) := by decide +kernel
theorem dX11_score_20 : decode cX11_score 20 = .ok (.athrow, 1) := by decide +kernel
theorem dX11_score_21 : decode cX11_score 21 = .ok (.aload_n 0, 1) := by decide +kernel
theorem dX11_score_22 : decode cX11_score 22 = .ok (.getfield 40, 3) := by decide +kernel
theorem dX11_score_25 : decode cX11_score 25 = .ok (.iload_n 1, 1) := by decide +kernel
theorem dX11_score_26 : decode cX11_score 26 = .ok (.invokevirtual 186, 3) := by decide +kernel
theorem dX11_score_29 : decode cX11_score 29 = .ok (.ireturn, 1) := by decide +kernel
theorem dX11_requireNumber_0 : decode cX11_requireNumber 0 = .ok (.iload_n 0, 1) := by decide +kernel
theorem dX11_requireNumber_1 : decode cX11_requireNumber 1 = .ok (.ifCond .lt 10, 3) := by decide +kernel
theorem dX11_requireNumber_4 : decode cX11_requireNumber 4 = .ok (.iload_n 0, 1) := by decide +kernel
theorem dX11_requireNumber_5 : decode cX11_requireNumber 5 = .ok (.sipush 9999, 3) := by decide +kernel
theorem dX11_requireNumber_8 : decode cX11_requireNumber 8 = .ok (.if_icmp .le 13, 3) := by decide +kernel
theorem dX11_requireNumber_11 : decode cX11_requireNumber 11 = .ok (.new 44, 3) := by decide +kernel
theorem dX11_requireNumber_14 : decode cX11_requireNumber 14 = .ok (.dup, 1) := by decide +kernel
theorem dX11_requireNumber_15 : decode cX11_requireNumber 15 = .ok (.ldc 189, 2) := by decide +kernel
theorem dX11_requireNumber_17 : decode cX11_requireNumber 17 = .ok (.invokespecial 48, 3) := by decide +kernel
theorem dX11_requireNumber_20 : decode cX11_requireNumber 20 = .ok (.athrow, 1) := by decide +kernel
theorem dX11_requireNumber_21 : decode cX11_requireNumber 21 = .ok (.return_, 1) := by decide +kernel
theorem dX11_requireFindable_0 : decode cX11_requireFindable 0 = .ok (.iload_n 0, 1) := by decide +kernel
theorem dX11_requireFindable_1 : decode cX11_requireFindable 1 = .ok (.iconst 1, 1) := by decide +kernel
theorem dX11_requireFindable_2 : decode cX11_requireFindable 2 = .ok (.if_icmp .lt 9, 3) := by decide +kernel
theorem dX11_requireFindable_5 : decode cX11_requireFindable 5 = .ok (.iload_n 0, 1) := by decide +kernel
theorem dX11_requireFindable_6 : decode cX11_requireFindable 6 = .ok (.bipush 50, 2) := by decide +kernel
theorem dX11_requireFindable_8 : decode cX11_requireFindable 8 = .ok (.if_icmp .le 13, 3) := by decide +kernel
theorem dX11_requireFindable_11 : decode cX11_requireFindable 11 = .ok (.new 44, 3) := by decide +kernel
theorem dX11_requireFindable_14 : decode cX11_requireFindable 14 = .ok (.dup, 1) := by decide +kernel
theorem dX11_requireFindable_15 : decode cX11_requireFindable 15 = .ok (.ldc 191, 2) := by decide +kernel
theorem dX11_requireFindable_17 : decode cX11_requireFindable 17 = .ok (.invokespecial 48, 3) := by decide +kernel
theorem dX11_requireFindable_20 : decode cX11_requireFindable 20 = .ok (.athrow, 1) := by decide +kernel
theorem dX11_requireFindable_21 : decode cX11_requireFindable 21 = .ok (.return_, 1) := by decide +kernel
theorem dX12_init_0 : decode cX12_init 0 = .ok (.aload_n 0, 1) := by decide +kernel
theorem dX12_init_1 : decode cX12_init 1 = .ok (.invokespecial 1, 3) := by decide +kernel
theorem dX12_init_4 : decode cX12_init 4 = .ok (.aload_n 0, 1) := by decide +kernel
theorem dX12_init_5 : decode cX12_init 5 = .ok (.sipush 400, 3) := by decide +kernel
theorem dX12_init_8 : decode cX12_init 8 = .ok (.newarray .int, 2) := by decide +kernel
theorem dX12_init_10 : decode cX12_init 10 = .ok (.putfield 7, 3) := by decide +kernel
theorem dX12_init_13 : decode cX12_init 13 = .ok (.aload_n 0, 1) := by decide +kernel
theorem dX12_init_14 : decode cX12_init 14 = .ok (.bipush 120, 2) := by decide +kernel
theorem dX12_init_16 : decode cX12_init 16 = .ok (.newarray .int, 2) := by decide +kernel
theorem dX12_init_18 : decode cX12_init 18 = .ok (.putfield 13, 3) := by decide +kernel
theorem dX12_init_21 : decode cX12_init 21 = .ok (.aload_n 0, 1) := by decide +kernel
theorem dX12_init_22 : decode cX12_init 22 = .ok (.bipush 120, 2) := by decide +kernel
theorem dX12_init_24 : decode cX12_init 24 = .ok (.newarray .int, 2) := by decide +kernel
theorem dX12_init_26 : decode cX12_init 26 = .ok (.putfield 16, 3) := by decide +kernel
theorem dX12_init_29 : decode cX12_init 29 = .ok (.aload_n 0, 1) := by decide +kernel
theorem dX12_init_30 : decode cX12_init 30 = .ok (.sipush 24000, 3) := by decide +kernel
theorem dX12_init_33 : decode cX12_init 33 = .ok (.newarray .long, 2) := by decide +kernel
theorem dX12_init_35 : decode cX12_init 35 = .ok (.putfield 19, 3) := by decide +kernel
theorem dX12_init_38 : decode cX12_init 38 = .ok (.aload_n 0, 1) := by decide +kernel
theorem dX12_init_39 : decode cX12_init 39 = .ok (.sipush 200, 3) := by decide +kernel
theorem dX12_init_42 : decode cX12_init 42 = .ok (.newarray .long, 2) := by decide +kernel
theorem dX12_init_44 : decode cX12_init 44 = .ok (.putfield 23, 3) := by decide +kernel
theorem dX12_init_47 : decode cX12_init 47 = .ok (.aload_n 0, 1) := by decide +kernel
theorem dX12_init_48 : decode cX12_init 48 = .ok (.sipush 200, 3) := by decide +kernel
theorem dX12_init_51 : decode cX12_init 51 = .ok (.newarray .long, 2) := by decide +kernel
theorem dX12_init_53 : decode cX12_init 53 = .ok (.putfield 26, 3) := by decide +kernel
theorem dX12_init_56 : decode cX12_init 56 = .ok (.aload_n 0, 1) := by decide +kernel
theorem dX12_init_57 : decode cX12_init 57 = .ok (.sipush 200, 3) := by decide +kernel
theorem dX12_init_60 : decode cX12_init 60 = .ok (.newarray .int, 2) := by decide +kernel
theorem dX12_init_62 : decode cX12_init 62 = .ok (.putfield 29, 3) := by decide +kernel
theorem dX12_init_65 : decode cX12_init 65 = .ok (.aload_n 0, 1) := by decide +kernel
theorem dX12_init_66 : decode cX12_init 66 = .ok (.sipush 200, 3) := by decide +kernel
theorem dX12_init_69 : decode cX12_init 69 = .ok (.newarray .boolean, 2) := by decide +kernel
theorem dX12_init_71 : decode cX12_init 71 = .ok (.putfield 32, 3) := by decide +kernel
theorem dX12_init_74 : decode cX12_init 74 = .ok (.aload_n 0, 1) := by decide +kernel
theorem dX12_init_75 : decode cX12_init 75 = .ok (.sipush 200, 3) := by decide +kernel
theorem dX12_init_78 : decode cX12_init 78 = .ok (.newarray .int, 2) := by decide +kernel
theorem dX12_init_80 : decode cX12_init 80 = .ok (.putfield 36, 3) := by decide +kernel
theorem dX12_init_83 : decode cX12_init 83 = .ok (.aload_n 0, 1) := by decide +kernel
theorem dX12_init_84 : decode cX12_init 84 = .ok (.sipush 200, 3) := by decide +kernel
theorem dX12_init_87 : decode cX12_init 87 = .ok (.newarray .int, 2) := by decide +kernel
theorem dX12_init_89 : decode cX12_init 89 = .ok (.putfield 39, 3) := by decide +kernel
theorem dX12_init_92 : decode cX12_init 92 = .ok (.aload_n 0, 1) := by decide +kernel
theorem dX12_init_93 : decode cX12_init 93 = .ok (.iconst (-1), 1) := by decide +kernel
theorem dX12_init_94 : decode cX12_init 94 = .ok (.putfield 42, 3) := by decide +kernel
theorem dX12_init_97 : decode cX12_init 97 = .ok (.aload_n 0, 1) := by decide +kernel
theorem dX12_init_98 : decode cX12_init 98 = .ok (.bipush 120, 2) := by decide +kernel
theorem dX12_init_100 : decode cX12_init 100 = .ok (.newarray .int, 2) := by decide +kernel
theorem dX12_init_102 : decode cX12_init 102 = .ok (.putfield 46, 3) := by decide +kernel
theorem dX12_init_105 : decode cX12_init 105 = .ok (.aload_n 0, 1) := by decide +kernel
theorem dX12_init_106 : decode cX12_init 106 = .ok (.bipush 50, 2) := by decide +kernel
theorem dX12_init_108 : decode cX12_init 108 = .ok (.newarray .int, 2) := by decide +kernel
theorem dX12_init_110 : decode cX12_init 110 = .ok (.putfield 49, 3) := by decide +kernel
theorem dX12_init_113 : decode cX12_init 113 = .ok (.aload_n 0, 1) := by decide +kernel
theorem dX12_init_114 : decode cX12_init 114 = .ok (.bipush 50, 2) := by decide +kernel
theorem dX12_init_116 : decode cX12_init 116 = .ok (.newarray .int, 2) := by decide +kernel
theorem dX12_init_118 : decode cX12_init 118 = .ok (.putfield 52, 3) := by decide +kernel
theorem dX12_init_121 : decode cX12_init 121 = .ok (.aload_n 0, 1) := by decide +kernel
theorem dX12_init_122 : decode cX12_init 122 = .ok (.sipush 24000, 3) := by decide +kernel
theorem dX12_init_125 : decode cX12_init 125 = .ok (.newarray .boolean, 2) := by decide +kernel
theorem dX12_init_127 : decode cX12_init 127 = .ok (.putfield 55, 3) := by decide +kernel
theorem dX12_init_130 : decode cX12_init 130 = .ok (.aload_n 0, 1) := by decide +kernel
theorem dX12_init_131 : decode cX12_init 131 = .ok (.sipush 24000, 3) := by decide +kernel
theorem dX12_init_134 : decode cX12_init 134 = .ok (.newarray .int, 2) := by decide +kernel
theorem dX12_init_136 : decode cX12_init 136 = .ok (.putfield 58, 3) := by decide +kernel
theorem dX12_init_139 : decode cX12_init 139 = .ok (.aload_n 0, 1) := by decide +kernel
theorem dX12_init_140 : decode cX12_init 140 = .ok (.ldc 61, 2) := by decide +kernel
theorem dX12_init_142 : decode cX12_init 142 = .ok (.newarray .long, 2) := by decide +kernel
theorem dX12_init_144 : decode cX12_init 144 = .ok (.putfield 62, 3) := by decide +kernel
theorem dX12_init_147 : decode cX12_init 147 = .ok (.aload_n 0, 1) := by decide +kernel
theorem dX12_init_148 : decode cX12_init 148 = .ok (.ldc 61, 2) := by decide +kernel
theorem dX12_init_150 : decode cX12_init 150 = .ok (.newarray .int, 2) := by decide +kernel
theorem dX12_init_152 : decode cX12_init 152 = .ok (.putfield 65, 3) := by decide +kernel
theorem dX12_init_155 : decode cX12_init 155 = .ok (.return_, 1) := by decide +kernel
theorem dX12_thrown_0 : decode cX12_thrown 0 = .ok (.aload_n 0, 1) := by decide +kernel
theorem dX12_thrown_1 : decode cX12_thrown 1 = .ok (.getfield 68, 3) := by decide +kernel
theorem dX12_thrown_4 : decode cX12_thrown 4 = .ok (.ireturn, 1) := by decide +kernel
theorem dX12_letterOf_0 : decode cX12_letterOf 0 = .ok (.iload_n 0, 1) := by decide +kernel
theorem dX12_letterOf_1 : decode cX12_letterOf 1 = .ok (.bipush 97, 2) := by decide +kernel
theorem dX12_letterOf_3 : decode cX12_letterOf 3 = .ok (.if_icmp .lt 16, 3) := by decide +kernel
theorem dX12_letterOf_6 : decode cX12_letterOf 6 = .ok (.iload_n 0, 1) := by decide +kernel
theorem dX12_letterOf_7 : decode cX12_letterOf 7 = .ok (.bipush 122, 2) := by decide +kernel
theorem dX12_letterOf_9 : decode cX12_letterOf 9 = .ok (.if_icmp .gt 10, 3) := by decide +kernel
theorem dX12_letterOf_12 : decode cX12_letterOf 12 = .ok (.iload_n 0, 1) := by decide +kernel
theorem dX12_letterOf_13 : decode cX12_letterOf 13 = .ok (.bipush 96, 2) := by decide +kernel
theorem dX12_letterOf_15 : decode cX12_letterOf 15 = .ok (.isub, 1) := by decide +kernel
theorem dX12_letterOf_16 : decode cX12_letterOf 16 = .ok (.goto 23, 3) := by decide +kernel
theorem dX12_letterOf_19 : decode cX12_letterOf 19 = .ok (.iload_n 0, 1) := by decide +kernel
theorem dX12_letterOf_20 : decode cX12_letterOf 20 = .ok (.bipush 65, 2) := by decide +kernel
theorem dX12_letterOf_22 : decode cX12_letterOf 22 = .ok (.if_icmp .lt 16, 3) := by decide +kernel
theorem dX12_letterOf_25 : decode cX12_letterOf 25 = .ok (.iload_n 0, 1) := by decide +kernel
theorem dX12_letterOf_26 : decode cX12_letterOf 26 = .ok (.bipush 90, 2) := by decide +kernel
theorem dX12_letterOf_28 : decode cX12_letterOf 28 = .ok (.if_icmp .gt 10, 3) := by decide +kernel
theorem dX12_letterOf_31 : decode cX12_letterOf 31 = .ok (.iload_n 0, 1) := by decide +kernel
theorem dX12_letterOf_32 : decode cX12_letterOf 32 = .ok (.bipush 64, 2) := by decide +kernel
theorem dX12_letterOf_34 : decode cX12_letterOf 34 = .ok (.isub, 1) := by decide +kernel
theorem dX12_letterOf_35 : decode cX12_letterOf 35 = .ok (.goto 4, 3) := by decide +kernel
theorem dX12_letterOf_38 : decode cX12_letterOf 38 = .ok (.iconst 0, 1) := by decide +kernel
theorem dX12_letterOf_39 : decode cX12_letterOf 39 = .ok (.ireturn, 1) := by decide +kernel
theorem dX12_with_0 : decode cX12_with 0 = .ok (.lload_n 0, 1) := by decide +kernel
theorem dX12_with_1 : decode cX12_with 1 = .ok (.iload_n 3, 1) := by decide +kernel
theorem dX12_with_2 : decode cX12_with 2 = .ok (.i2l, 1) := by decide +kernel
theorem dX12_with_3 : decode cX12_with 3 = .ok (.bipush 55, 2) := by decide +kernel
theorem dX12_with_5 : decode cX12_with 5 = .ok (.iconst 5, 1) := by decide +kernel
theorem dX12_with_6 : decode cX12_with 6 = .ok (.iload_n 2, 1) := by decide +kernel
theorem dX12_with_7 : decode cX12_with 7 = .ok (.imul, 1) := by decide +kernel
theorem dX12_with_8 : decode cX12_with 8 = .ok (.isub, 1) := by decide +kernel
theorem dX12_with_9 : decode cX12_with 9 = .ok (.lshl, 1) := by decide +kernel
theorem dX12_with_10 : decode cX12_with 10 = .ok (.lor, 1) := by decide +kernel
theorem dX12_with_11 : decode cX12_with 11 = .ok (.lreturn, 1) := by decide +kernel
theorem dX12_begins_0 : decode cX12_begins 0 = .ok (.iload 4, 2) := by decide +kernel
theorem dX12_begins_2 : decode cX12_begins 2 = .ok (.ifCond .eq 19, 3) := by decide +kernel
theorem dX12_begins_5 : decode cX12_begins 5 = .ok (.lload_n 0, 1) := by decide +kernel
theorem dX12_begins_6 : decode cX12_begins 6 = .ok (.lload_n 2, 1) := by decide +kernel
theorem dX12_begins_7 : decode cX12_begins 7 = .ok (.lxor, 1) := by decide +kernel
theorem dX12_begins_8 : decode cX12_begins 8 = .ok (.bipush 60, 2) := by decide +kernel
theorem dX12_begins_10 : decode cX12_begins 10 = .ok (.iconst 5, 1) := by decide +kernel
theorem dX12_begins_11 : decode cX12_begins 11 = .ok (.iload 4, 2) := by decide +kernel
theorem dX12_begins_13 : decode cX12_begins 13 = .ok (.imul, 1) := by decide +kernel
theorem dX12_begins_14 : decode cX12_begins 14 = .ok (.isub, 1) := by decide +kernel
theorem dX12_begins_15 : decode cX12_begins 15 = .ok (.lshr, 1) := by decide +kernel
theorem dX12_begins_16 : decode cX12_begins 16 = .ok (.lconst 0, 1) := by decide +kernel
theorem dX12_begins_17 : decode cX12_begins 17 = .ok (.lcmp, 1) := by decide +kernel
theorem dX12_begins_18 : decode cX12_begins 18 = .ok (.ifCond .ne 7, 3) := by decide +kernel
theorem dX12_begins_21 : decode cX12_begins 21 = .ok (.iconst 1, 1) := by decide +kernel
theorem dX12_begins_22 : decode cX12_begins 22 = .ok (.goto 4, 3) := by decide +kernel
theorem dX12_begins_25 : decode cX12_begins 25 = .ok (.iconst 0, 1) := by decide +kernel
theorem dX12_begins_26 : decode cX12_begins 26 = .ok (.ireturn, 1) := by decide +kernel
theorem dX12_readWords_0 : decode cX12_readWords 0 = .ok (.aload_n 0, 1) := by decide +kernel
theorem dX12_readWords_1 : decode cX12_readWords 1 = .ok (.iconst 0, 1) := by decide +kernel
theorem dX12_readWords_2 : decode cX12_readWords 2 = .ok (.putfield 71, 3) := by decide +kernel
theorem dX12_readWords_5 : decode cX12_readWords 5 = .ok (.lconst 0, 1) := by decide +kernel
theorem dX12_readWords_6 : decode cX12_readWords 6 = .ok (.lstore_n 1, 1) := by decide +kernel
theorem dX12_readWords_7 : decode cX12_readWords 7 = .ok (.iconst 0, 1) := by decide +kernel
theorem dX12_readWords_8 : decode cX12_readWords 8 = .ok (.istore_n 3, 1) := by decide +kernel
theorem dX12_readWords_9 : decode cX12_readWords 9 = .ok (.iconst 0, 1) := by decide +kernel
theorem dX12_readWords_10 : decode cX12_readWords 10 = .ok (.istore 4, 2) := by decide +kernel
theorem dX12_readWords_12 : decode cX12_readWords 12 = .ok (.iload 4, 2) := by decide +kernel
theorem dX12_readWords_14 : decode cX12_readWords 14 = .ok (.aload_n 0, 1) := by decide +kernel
theorem dX12_readWords_15 : decode cX12_readWords 15 = .ok (.getfield 74, 3) := by decide +kernel
theorem dX12_readWords_18 : decode cX12_readWords 18 = .ok (.if_icmp .gt 91, 3) := by decide +kernel
theorem dX12_readWords_21 : decode cX12_readWords 21 = .ok (.iload 4, 2) := by decide +kernel
theorem dX12_readWords_23 : decode cX12_readWords 23 = .ok (.aload_n 0, 1) := by decide +kernel
theorem dX12_readWords_24 : decode cX12_readWords 24 = .ok (.getfield 74, 3) := by decide +kernel
theorem dX12_readWords_27 : decode cX12_readWords 27 = .ok (.if_icmp .ge 16, 3) := by decide +kernel
theorem dX12_readWords_30 : decode cX12_readWords 30 = .ok (.aload_n 0, 1) := by decide +kernel
theorem dX12_readWords_31 : decode cX12_readWords 31 = .ok (.getfield 7, 3) := by decide +kernel
theorem dX12_readWords_34 : decode cX12_readWords 34 = .ok (.iload 4, 2) := by decide +kernel
theorem dX12_readWords_36 : decode cX12_readWords 36 = .ok (.iaload, 1) := by decide +kernel
theorem dX12_readWords_37 : decode cX12_readWords 37 = .ok (.invokestatic 77, 3) := by decide +kernel
theorem dX12_readWords_40 : decode cX12_readWords 40 = .ok (.goto 4, 3) := by decide +kernel
theorem dX12_readWords_43 : decode cX12_readWords 43 = .ok (.iconst 0, 1) := by decide +kernel
theorem dX12_readWords_44 : decode cX12_readWords 44 = .ok (.istore 5, 2) := by decide +kernel
theorem dX12_readWords_46 : decode cX12_readWords 46 = .ok (.iload 5, 2) := by decide +kernel
theorem dX12_readWords_48 : decode cX12_readWords 48 = .ok (.ifCond .le 27, 3) := by decide +kernel
theorem dX12_readWords_51 : decode cX12_readWords 51 = .ok (.iload_n 3, 1) := by decide +kernel
theorem dX12_readWords_52 : decode cX12_readWords 52 = .ok (.bipush 12, 2) := by decide +kernel
theorem dX12_readWords_54 : decode cX12_readWords 54 = .ok (.if_icmp .ge 13, 3) := by decide +kernel
theorem dX12_readWords_57 : decode cX12_readWords 57 = .ok (.lload_n 1, 1) := by decide +kernel
theorem dX12_readWords_58 : decode cX12_readWords 58 = .ok (.iload_n 3, 1) := by decide +kernel
theorem dX12_readWords_59 : decode cX12_readWords 59 = .ok (.iload 5, 2) := by decide +kernel
theorem dX12_readWords_61 : decode cX12_readWords 61 = .ok (.invokestatic 81, 3) := by decide +kernel
theorem dX12_readWords_64 : decode cX12_readWords 64 = .ok (.goto 4, 3) := by decide +kernel
theorem dX12_readWords_67 : decode cX12_readWords 67 = .ok (.lload_n 1, 1) := by decide +kernel
theorem dX12_readWords_68 : decode cX12_readWords 68 = .ok (.lstore_n 1, 1) := by decide +kernel
theorem dX12_readWords_69 : decode cX12_readWords 69 = .ok (.iinc 3 1, 3) := by decide +kernel
theorem dX12_readWords_72 : decode cX12_readWords 72 = .ok (.goto 31, 3) := by decide +kernel
theorem dX12_readWords_75 : decode cX12_readWords 75 = .ok (.iload_n 3, 1) := by decide +kernel
theorem dX12_readWords_76 : decode cX12_readWords 76 = .ok (.ifCond .le 27, 3) := by decide +kernel
theorem dX12_readWords_79 : decode cX12_readWords 79 = .ok (.aload_n 0, 1) := by decide +kernel
theorem dX12_readWords_80 : decode cX12_readWords 80 = .ok (.getfield 23, 3) := by decide +kernel
theorem dX12_readWords_83 : decode cX12_readWords 83 = .ok (.aload_n 0, 1) := by decide +kernel
theorem dX12_readWords_84 : decode cX12_readWords 84 = .ok (.getfield 71, 3) := by decide +kernel
theorem dX12_readWords_87 : decode cX12_readWords 87 = .ok (.lload_n 1, 1) := by decide +kernel
theorem dX12_readWords_88 : decode cX12_readWords 88 = .ok (.lastore, 1) := by decide +kernel
theorem dX12_readWords_89 : decode cX12_readWords 89 = .ok (.aload_n 0, 1) := by decide +kernel
theorem dX12_readWords_90 : decode cX12_readWords 90 = .ok (.dup, 1) := by decide +kernel
theorem dX12_readWords_91 : decode cX12_readWords 91 = .ok (.getfield 71, 3) := by decide +kernel
theorem dX12_readWords_94 : decode cX12_readWords 94 = .ok (.iconst 1, 1) := by decide +kernel
theorem dX12_readWords_95 : decode cX12_readWords 95 = .ok (.iadd, 1) := by decide +kernel
theorem dX12_readWords_96 : decode cX12_readWords 96 = .ok (.putfield 71, 3) := by decide +kernel
theorem dX12_readWords_99 : decode cX12_readWords 99 = .ok (.lconst 0, 1) := by decide +kernel
theorem dX12_readWords_100 : decode cX12_readWords 100 = .ok (.lstore_n 1, 1) := by decide +kernel
theorem dX12_readWords_101 : decode cX12_readWords 101 = .ok (.iconst 0, 1) := by decide +kernel
theorem dX12_readWords_102 : decode cX12_readWords 102 = .ok (.istore_n 3, 1) := by decide +kernel
theorem dX12_readWords_103 : decode cX12_readWords 103 = .ok (.iinc 4 1, 3) := by decide +kernel
theorem dX12_readWords_106 : decode cX12_readWords 106 = .ok (.goto (-94), 3) := by decide +kernel
theorem dX12_readWords_109 : decode cX12_readWords 109 = .ok (.return_, 1) := by decide +kernel
theorem dX12_placeOf_0 : decode cX12_placeOf 0 = .ok (.iconst (-1), 1) := by decide +kernel
theorem dX12_placeOf_1 : decode cX12_placeOf 1 = .ok (.istore_n 2, 1) := by decide +kernel
theorem dX12_placeOf_2 : decode cX12_placeOf 2 = .ok (.iconst 0, 1) := by decide +kernel
theorem dX12_placeOf_3 : decode cX12_placeOf 3 = .ok (.istore_n 3, 1) := by decide +kernel
theorem dX12_placeOf_4 : decode cX12_placeOf 4 = .ok (.iload_n 3, 1) := by decide +kernel
theorem dX12_placeOf_5 : decode cX12_placeOf 5 = .ok (.aload_n 0, 1) := by decide +kernel
theorem dX12_placeOf_6 : decode cX12_placeOf 6 = .ok (.getfield 85, 3) := by decide +kernel
theorem dX12_placeOf_9 : decode cX12_placeOf 9 = .ok (.if_icmp .ge 25, 3) := by decide +kernel
theorem dX12_placeOf_12 : decode cX12_placeOf 12 = .ok (.aload_n 0, 1) := by decide +kernel
theorem dX12_placeOf_13 : decode cX12_placeOf 13 = .ok (.getfield 13, 3) := by decide +kernel
theorem dX12_placeOf_16 : decode cX12_placeOf 16 = .ok (.iload_n 3, 1) := by decide +kernel
theorem dX12_placeOf_17 : decode cX12_placeOf 17 = .ok (.iaload, 1) := by decide +kernel
theorem dX12_placeOf_18 : decode cX12_placeOf 18 = .ok (.iload_n 1, 1) := by decide +kernel
theorem dX12_placeOf_19 : decode cX12_placeOf 19 = .ok (.if_icmp .ne 7, 3) := by decide +kernel
theorem dX12_placeOf_22 : decode cX12_placeOf 22 = .ok (.iload_n 3, 1) := by decide +kernel
theorem dX12_placeOf_23 : decode cX12_placeOf 23 = .ok (.goto 4, 3) := by decide +kernel
theorem dX12_placeOf_26 : decode cX12_placeOf 26 = .ok (.iload_n 2, 1) := by decide +kernel
theorem dX12_placeOf_27 : decode cX12_placeOf 27 = .ok (.istore_n 2, 1) := by decide +kernel
theorem dX12_placeOf_28 : decode cX12_placeOf 28 = .ok (.iinc 3 1, 3) := by decide +kernel
theorem dX12_placeOf_31 : decode cX12_placeOf 31 = .ok (.goto (-27), 3) := by decide +kernel
theorem dX12_placeOf_34 : decode cX12_placeOf 34 = .ok (.iload_n 2, 1) := by decide +kernel
theorem dX12_placeOf_35 : decode cX12_placeOf 35 = .ok (.ireturn, 1) := by decide +kernel
theorem dX12_times_0 : decode cX12_times 0 = .ok (.iconst 0, 1) := by decide +kernel
theorem dX12_times_1 : decode cX12_times 1 = .ok (.istore 4, 2) := by decide +kernel
theorem dX12_times_3 : decode cX12_times 3 = .ok (.sipush 200, 3) := by decide +kernel
theorem dX12_times_6 : decode cX12_times 6 = .ok (.iload_n 1, 1) := by decide +kernel
theorem dX12_times_7 : decode cX12_times 7 = .ok (.imul, 1) := by decide +kernel
theorem dX12_times_8 : decode cX12_times 8 = .ok (.istore 5, 2) := by decide +kernel
theorem dX12_times_10 : decode cX12_times 10 = .ok (.iload 5, 2) := by decide +kernel
theorem dX12_times_12 : decode cX12_times 12 = .ok (.sipush 200, 3) := by decide +kernel
theorem dX12_times_15 : decode cX12_times 15 = .ok (.iload_n 1, 1) := by decide +kernel
theorem dX12_times_16 : decode cX12_times 16 = .ok (.imul, 1) := by decide +kernel
theorem dX12_times_17 : decode cX12_times 17 = .ok (.aload_n 0, 1) := by decide +kernel
theorem dX12_times_18 : decode cX12_times 18 = .ok (.getfield 16, 3) := by decide +kernel
theorem dX12_times_21 : decode cX12_times 21 = .ok (.iload_n 1, 1) := by decide +kernel
theorem dX12_times_22 : decode cX12_times 22 = .ok (.iaload, 1) := by decide +kernel
theorem dX12_times_23 : decode cX12_times 23 = .ok (.iadd, 1) := by decide +kernel
theorem dX12_times_24 : decode cX12_times 24 = .ok (.if_icmp .ge 32, 3) := by decide +kernel
theorem dX12_times_27 : decode cX12_times 27 = .ok (.aload_n 0, 1) := by decide +kernel
theorem dX12_times_28 : decode cX12_times 28 = .ok (.getfield 19, 3) := by decide +kernel
theorem dX12_times_31 : decode cX12_times 31 = .ok (.iload 5, 2) := by decide +kernel
theorem dX12_times_33 : decode cX12_times 33 = .ok (.laload, 1) := by decide +kernel
theorem dX12_times_34 : decode cX12_times 34 = .ok (.lload_n 2, 1) := by decide +kernel
theorem dX12_times_35 : decode cX12_times 35 = .ok (.lcmp, 1) := by decide +kernel
theorem dX12_times_36 : decode cX12_times 36 = .ok (.ifCond .ne 10, 3) := by decide +kernel
theorem dX12_times_39 : decode cX12_times 39 = .ok (.iload 4, 2) := by decide +kernel
theorem dX12_times_41 : decode cX12_times 41 = .ok (.iconst 1, 1) := by decide +kernel
theorem dX12_times_42 : decode cX12_times 42 = .ok (.iadd, 1) := by decide +kernel
theorem dX12_times_43 : decode cX12_times 43 = .ok (.goto 5, 3) := by decide +kernel
theorem dX12_times_46 : decode cX12_times 46 = .ok (.iload 4, 2) := by decide +kernel
theorem dX12_times_48 : decode cX12_times 48 = .ok (.istore 4, 2) := by decide +kernel
theorem dX12_times_50 : decode cX12_times 50 = .ok (.iinc 5 1, 3) := by decide +kernel
theorem dX12_times_53 : decode cX12_times 53 = .ok (.goto (-43), 3) := by decide +kernel
theorem dX12_times_56 : decode cX12_times 56 = .ok (.iload 4, 2) := by decide +kernel
theorem dX12_times_58 : decode cX12_times 58 = .ok (.ireturn, 1) := by decide +kernel
theorem dX12_impact_0 : decode cX12_impact 0 = .ok (.aload_n 0, 1) := by decide +kernel
theorem dX12_impact_1 : decode cX12_impact 1 = .ok (.iload_n 1, 1) := by decide +kernel
theorem dX12_impact_2 : decode cX12_impact 2 = .ok (.lload_n 2, 1) := by decide +kernel
theorem dX12_impact_3 : decode cX12_impact 3 = .ok (.invokevirtual 88, 3) := by decide +kernel
theorem dX12_impact_6 : decode cX12_impact 6 = .ok (.istore 4, 2) := by decide +kernel
theorem dX12_impact_8 : decode cX12_impact 8 = .ok (.sipush 256, 3) := by decide +kernel
theorem dX12_impact_11 : decode cX12_impact 11 = .ok (.iload 4, 2) := by decide +kernel
theorem dX12_impact_13 : decode cX12_impact 13 = .ok (.imul, 1) := by decide +kernel
theorem dX12_impact_14 : decode cX12_impact 14 = .ok (.iload 4, 2) := by decide +kernel
theorem dX12_impact_16 : decode cX12_impact 16 = .ok (.iconst 1, 1) := by decide +kernel
theorem dX12_impact_17 : decode cX12_impact 17 = .ok (.iadd, 1) := by decide +kernel
theorem dX12_impact_18 : decode cX12_impact 18 = .ok (.aload_n 0, 1) := by decide +kernel
theorem dX12_impact_19 : decode cX12_impact 19 = .ok (.getfield 16, 3) := by decide +kernel
theorem dX12_impact_22 : decode cX12_impact 22 = .ok (.iload_n 1, 1) := by decide +kernel
theorem dX12_impact_23 : decode cX12_impact 23 = .ok (.iaload, 1) := by decide +kernel
theorem dX12_impact_24 : decode cX12_impact 24 = .ok (.bipush 8, 2) := by decide +kernel
theorem dX12_impact_26 : decode cX12_impact 26 = .ok (.idiv, 1) := by decide +kernel
theorem dX12_impact_27 : decode cX12_impact 27 = .ok (.iadd, 1) := by decide +kernel
theorem dX12_impact_28 : decode cX12_impact 28 = .ok (.idiv, 1) := by decide +kernel
theorem dX12_impact_29 : decode cX12_impact 29 = .ok (.ireturn, 1) := by decide +kernel
theorem dX12_spot_0 : decode cX12_spot 0 = .ok (.lload_n 1, 1) := by decide +kernel
theorem dX12_spot_1 : decode cX12_spot 1 = .ok (.lload_n 1, 1) := by decide +kernel
theorem dX12_spot_2 : decode cX12_spot 2 = .ok (.bipush 17, 2) := by decide +kernel
theorem dX12_spot_4 : decode cX12_spot 4 = .ok (.lushr, 1) := by decide +kernel
theorem dX12_spot_5 : decode cX12_spot 5 = .ok (.lxor, 1) := by decide +kernel
theorem dX12_spot_6 : decode cX12_spot 6 = .ok (.lload_n 1, 1) := by decide +kernel
theorem dX12_spot_7 : decode cX12_spot 7 = .ok (.bipush 37, 2) := by decide +kernel
theorem dX12_spot_9 : decode cX12_spot 9 = .ok (.lushr, 1) := by decide +kernel
theorem dX12_spot_10 : decode cX12_spot 10 = .ok (.lxor, 1) := by decide +kernel
theorem dX12_spot_11 : decode cX12_spot 11 = .ok (.ldc2_w 92, 3) := by decide +kernel
theorem dX12_spot_14 : decode cX12_spot 14 = .ok (.land, 1) := by decide +kernel
theorem dX12_spot_15 : decode cX12_spot 15 = .ok (.l2i, 1) := by decide +kernel
theorem dX12_spot_16 : decode cX12_spot 16 = .ok (.istore_n 3, 1) := by decide +kernel
theorem dX12_spot_17 : decode cX12_spot 17 = .ok (.aload_n 0, 1) := by decide +kernel
theorem dX12_spot_18 : decode cX12_spot 18 = .ok (.getfield 65, 3) := by decide +kernel
theorem dX12_spot_21 : decode cX12_spot 21 = .ok (.iload_n 3, 1) := by decide +kernel
theorem dX12_spot_22 : decode cX12_spot 22 = .ok (.iaload, 1) := by decide +kernel
theorem dX12_spot_23 : decode cX12_spot 23 = .ok (.ifCond .le 25, 3) := by decide +kernel
theorem dX12_spot_26 : decode cX12_spot 26 = .ok (.aload_n 0, 1) := by decide +kernel
theorem dX12_spot_27 : decode cX12_spot 27 = .ok (.getfield 62, 3) := by decide +kernel
theorem dX12_spot_30 : decode cX12_spot 30 = .ok (.iload_n 3, 1) := by decide +kernel
theorem dX12_spot_31 : decode cX12_spot 31 = .ok (.laload, 1) := by decide +kernel
theorem dX12_spot_32 : decode cX12_spot 32 = .ok (.lload_n 1, 1) := by decide +kernel
theorem dX12_spot_33 : decode cX12_spot 33 = .ok (.lcmp, 1) := by decide +kernel
theorem dX12_spot_34 : decode cX12_spot 34 = .ok (.ifCond .eq 14, 3) := by decide +kernel
theorem dX12_spot_37 : decode cX12_spot 37 = .ok (.iload_n 3, 1) := by decide +kernel
theorem dX12_spot_38 : decode cX12_spot 38 = .ok (.iconst 1, 1) := by decide +kernel
theorem dX12_spot_39 : decode cX12_spot 39 = .ok (.iadd, 1) := by decide +kernel
theorem dX12_spot_40 : decode cX12_spot 40 = .ok (.sipush 32767, 3) := by decide +kernel
theorem dX12_spot_43 : decode cX12_spot 43 = .ok (.iand, 1) := by decide +kernel
theorem dX12_spot_44 : decode cX12_spot 44 = .ok (.istore_n 3, 1) := by decide +kernel
theorem dX12_spot_45 : decode cX12_spot 45 = .ok (.goto (-28), 3) := by decide +kernel
theorem dX12_spot_48 : decode cX12_spot 48 = .ok (.iload_n 3, 1) := by decide +kernel
theorem dX12_spot_49 : decode cX12_spot 49 = .ok (.ireturn, 1) := by decide +kernel
theorem dX12_know_0 : decode cX12_know 0 = .ok (.aload_n 0, 1) := by decide +kernel
theorem dX12_know_1 : decode cX12_know 1 = .ok (.getfield 94, 3) := by decide +kernel
theorem dX12_know_4 : decode cX12_know 4 = .ok (.ifCond .eq 4, 3) := by decide +kernel
theorem dX12_know_7 : decode cX12_know 7 = .ok (.return_, 1) := by decide +kernel
theorem dX12_know_8 : decode cX12_know 8 = .ok (.aload_n 0, 1) := by decide +kernel
theorem dX12_know_9 : decode cX12_know 9 = .ok (.iconst 1, 1) := by decide +kernel
theorem dX12_know_10 : decode cX12_know 10 = .ok (.putfield 94, 3) := by decide +kernel
theorem dX12_know_13 : decode cX12_know 13 = .ok (.iconst 0, 1) := by decide +kernel
theorem dX12_know_14 : decode cX12_know 14 = .ok (.istore_n 1, 1) := by decide +kernel
theorem dX12_know_15 : decode cX12_know 15 = .ok (.iload_n 1, 1) := by decide +kernel
theorem dX12_know_16 : decode cX12_know 16 = .ok (.ldc 61, 2) := by decide +kernel
theorem dX12_know_18 : decode cX12_know 18 = .ok (.if_icmp .ge 16, 3) := by decide +kernel
theorem dX12_know_21 : decode cX12_know 21 = .ok (.aload_n 0, 1) := by decide +kernel
theorem dX12_know_22 : decode cX12_know 22 = .ok (.getfield 65, 3) := by decide +kernel
theorem dX12_know_25 : decode cX12_know 25 = .ok (.iload_n 1, 1) := by decide +kernel
theorem dX12_know_26 : decode cX12_know 26 = .ok (.iconst 0, 1) := by decide +kernel
theorem dX12_know_27 : decode cX12_know 27 = .ok (.iastore, 1) := by decide +kernel
theorem dX12_know_28 : decode cX12_know 28 = .ok (.iinc 1 1, 3) := by decide +kernel
theorem dX12_know_31 : decode cX12_know 31 = .ok (.goto (-16), 3) := by decide +kernel
theorem dX12_know_34 : decode cX12_know 34 = .ok (.iconst 0, 1) := by decide +kernel
theorem dX12_know_35 : decode cX12_know 35 = .ok (.istore_n 1, 1) := by decide +kernel
theorem dX12_know_36 : decode cX12_know 36 = .ok (.iload_n 1, 1) := by decide +kernel
theorem dX12_know_37 : decode cX12_know 37 = .ok (.aload_n 0, 1) := by decide +kernel
theorem dX12_know_38 : decode cX12_know 38 = .ok (.getfield 85, 3) := by decide +kernel
theorem dX12_know_41 : decode cX12_know 41 = .ok (.if_icmp .ge 92, 3) := by decide +kernel
theorem dX12_know_44 : decode cX12_know 44 = .ok (.iconst 0, 1) := by decide +kernel
theorem dX12_know_45 : decode cX12_know 45 = .ok (.istore_n 2, 1) := by decide +kernel
theorem dX12_know_46 : decode cX12_know 46 = .ok (.iload_n 2, 1) := by decide +kernel
theorem dX12_know_47 : decode cX12_know 47 = .ok (.aload_n 0, 1) := by decide +kernel
theorem dX12_know_48 : decode cX12_know 48 = .ok (.getfield 16, 3) := by decide +kernel
theorem dX12_know_51 : decode cX12_know 51 = .ok (.iload_n 1, 1) := by decide +kernel
theorem dX12_know_52 : decode cX12_know 52 = .ok (.iaload, 1) := by decide +kernel
theorem dX12_know_53 : decode cX12_know 53 = .ok (.if_icmp .ge 74, 3) := by decide +kernel
theorem dX12_know_56 : decode cX12_know 56 = .ok (.sipush 200, 3) := by decide +kernel
theorem dX12_know_59 : decode cX12_know 59 = .ok (.iload_n 1, 1) := by decide +kernel
theorem dX12_know_60 : decode cX12_know 60 = .ok (.imul, 1) := by decide +kernel
theorem dX12_know_61 : decode cX12_know 61 = .ok (.iload_n 2, 1) := by decide +kernel
theorem dX12_know_62 : decode cX12_know 62 = .ok (.iadd, 1) := by decide +kernel
theorem dX12_know_63 : decode cX12_know 63 = .ok (.istore_n 3, 1) := by decide +kernel
theorem dX12_know_64 : decode cX12_know 64 = .ok (.aload_n 0, 1) := by decide +kernel
theorem dX12_know_65 : decode cX12_know 65 = .ok (.getfield 55, 3) := by decide +kernel
theorem dX12_know_68 : decode cX12_know 68 = .ok (.iload_n 3, 1) := by decide +kernel
theorem dX12_know_69 : decode cX12_know 69 = .ok (.aload_n 0, 1) := by decide +kernel
theorem dX12_know_70 : decode cX12_know 70 = .ok (.iload_n 1, 1) := by decide +kernel
theorem dX12_know_71 : decode cX12_know 71 = .ok (.iload_n 2, 1) := by decide +kernel
theorem dX12_know_72 : decode cX12_know 72 = .ok (.invokevirtual 98, 3) := by decide +kernel
theorem dX12_know_75 : decode cX12_know 75 = .ok (.bastore, 1) := by decide +kernel
theorem dX12_know_76 : decode cX12_know 76 = .ok (.aload_n 0, 1) := by decide +kernel
theorem dX12_know_77 : decode cX12_know 77 = .ok (.getfield 55, 3) := by decide +kernel
theorem dX12_know_80 : decode cX12_know 80 = .ok (.iload_n 3, 1) := by decide +kernel
theorem dX12_know_81 : decode cX12_know 81 = .ok (.baload, 1) := by decide +kernel
theorem dX12_know_82 : decode cX12_know 82 = .ok (.ifCond .eq 39, 3) := by decide +kernel
theorem dX12_know_85 : decode cX12_know 85 = .ok (.aload_n 0, 1) := by decide +kernel
theorem dX12_know_86 : decode cX12_know 86 = .ok (.aload_n 0, 1) := by decide +kernel
theorem dX12_know_87 : decode cX12_know 87 = .ok (.getfield 19, 3) := by decide +kernel
theorem dX12_know_90 : decode cX12_know 90 = .ok (.iload_n 3, 1) := by decide +kernel
theorem dX12_know_91 : decode cX12_know 91 = .ok (.laload, 1) := by decide +kernel
theorem dX12_know_92 : decode cX12_know 92 = .ok (.invokevirtual 102, 3) := by decide +kernel
theorem dX12_know_95 : decode cX12_know 95 = .ok (.istore 4, 2) := by decide +kernel
theorem dX12_know_97 : decode cX12_know 97 = .ok (.aload_n 0, 1) := by decide +kernel
theorem dX12_know_98 : decode cX12_know 98 = .ok (.getfield 62, 3) := by decide +kernel
theorem dX12_know_101 : decode cX12_know 101 = .ok (.iload 4, 2) := by decide +kernel
theorem dX12_know_103 : decode cX12_know 103 = .ok (.aload_n 0, 1) := by decide +kernel
theorem dX12_know_104 : decode cX12_know 104 = .ok (.getfield 19, 3) := by decide +kernel
theorem dX12_know_107 : decode cX12_know 107 = .ok (.iload_n 3, 1) := by decide +kernel
theorem dX12_know_108 : decode cX12_know 108 = .ok (.laload, 1) := by decide +kernel
theorem dX12_know_109 : decode cX12_know 109 = .ok (.lastore, 1) := by decide +kernel
theorem dX12_know_110 : decode cX12_know 110 = .ok (.aload_n 0, 1) := by decide +kernel
theorem dX12_know_111 : decode cX12_know 111 = .ok (.getfield 65, 3) := by decide +kernel
theorem dX12_know_114 : decode cX12_know 114 = .ok (.iload 4, 2) := by decide +kernel
theorem dX12_know_116 : decode cX12_know 116 = .ok (.dup2, 1) := by decide +kernel
theorem dX12_know_117 : decode cX12_know 117 = .ok (.iaload, 1) := by decide +kernel
theorem dX12_know_118 : decode cX12_know 118 = .ok (.iconst 1, 1) := by decide +kernel
theorem dX12_know_119 : decode cX12_know 119 = .ok (.iadd, 1) := by decide +kernel
theorem dX12_know_120 : decode cX12_know 120 = .ok (.iastore, 1) := by decide +kernel
theorem dX12_know_121 : decode cX12_know 121 = .ok (.iinc 2 1, 3) := by decide +kernel
theorem dX12_know_124 : decode cX12_know 124 = .ok (.goto (-78), 3) := by decide +kernel
theorem dX12_know_127 : decode cX12_know 127 = .ok (.iinc 1 1, 3) := by decide +kernel
theorem dX12_know_130 : decode cX12_know 130 = .ok (.goto (-94), 3) := by decide +kernel
theorem dX12_know_133 : decode cX12_know 133 = .ok (.iconst 0, 1) := by decide +kernel
theorem dX12_know_134 : decode cX12_know 134 = .ok (.istore_n 1, 1) := by decide +kernel
theorem dX12_know_135 : decode cX12_know 135 = .ok (.iload_n 1, 1) := by decide +kernel
theorem dX12_know_136 : decode cX12_know 136 = .ok (.aload_n 0, 1) := by decide +kernel
theorem dX12_know_137 : decode cX12_know 137 = .ok (.getfield 85, 3) := by decide +kernel
theorem dX12_know_140 : decode cX12_know 140 = .ok (.if_icmp .ge 85, 3) := by decide +kernel
theorem dX12_know_143 : decode cX12_know 143 = .ok (.iconst 0, 1) := by decide +kernel
theorem dX12_know_144 : decode cX12_know 144 = .ok (.istore_n 2, 1) := by decide +kernel
theorem dX12_know_145 : decode cX12_know 145 = .ok (.iload_n 2, 1) := by decide +kernel
theorem dX12_know_146 : decode cX12_know 146 = .ok (.aload_n 0, 1) := by decide +kernel
theorem dX12_know_147 : decode cX12_know 147 = .ok (.getfield 16, 3) := by decide +kernel
theorem dX12_know_150 : decode cX12_know 150 = .ok (.iload_n 1, 1) := by decide +kernel
theorem dX12_know_151 : decode cX12_know 151 = .ok (.iaload, 1) := by decide +kernel
theorem dX12_know_152 : decode cX12_know 152 = .ok (.if_icmp .ge 67, 3) := by decide +kernel
theorem dX12_know_155 : decode cX12_know 155 = .ok (.sipush 200, 3) := by decide +kernel
theorem dX12_know_158 : decode cX12_know 158 = .ok (.iload_n 1, 1) := by decide +kernel
theorem dX12_know_159 : decode cX12_know 159 = .ok (.imul, 1) := by decide +kernel
theorem dX12_know_160 : decode cX12_know 160 = .ok (.iload_n 2, 1) := by decide +kernel
theorem dX12_know_161 : decode cX12_know 161 = .ok (.iadd, 1) := by decide +kernel
theorem dX12_know_162 : decode cX12_know 162 = .ok (.istore_n 3, 1) := by decide +kernel
theorem dX12_know_163 : decode cX12_know 163 = .ok (.aload_n 0, 1) := by decide +kernel
theorem dX12_know_164 : decode cX12_know 164 = .ok (.getfield 58, 3) := by decide +kernel
theorem dX12_know_167 : decode cX12_know 167 = .ok (.iload_n 3, 1) := by decide +kernel
theorem dX12_know_168 : decode cX12_know 168 = .ok (.aload_n 0, 1) := by decide +kernel
theorem dX12_know_169 : decode cX12_know 169 = .ok (.getfield 55, 3) := by decide +kernel
theorem dX12_know_172 : decode cX12_know 172 = .ok (.iload_n 3, 1) := by decide +kernel
theorem dX12_know_173 : decode cX12_know 173 = .ok (.baload, 1) := by decide +kernel
theorem dX12_know_174 : decode cX12_know 174 = .ok (.ifCond .eq 37, 3) := by decide +kernel
theorem dX12_know_177 : decode cX12_know 177 = .ok (.aload_n 0, 1) := by decide +kernel
theorem dX12_know_178 : decode cX12_know 178 = .ok (.aload_n 0, 1) := by decide +kernel
theorem dX12_know_179 : decode cX12_know 179 = .ok (.getfield 65, 3) := by decide +kernel
theorem dX12_know_182 : decode cX12_know 182 = .ok (.aload_n 0, 1) := by decide +kernel
theorem dX12_know_183 : decode cX12_know 183 = .ok (.aload_n 0, 1) := by decide +kernel
theorem dX12_know_184 : decode cX12_know 184 = .ok (.getfield 19, 3) := by decide +kernel
theorem dX12_know_187 : decode cX12_know 187 = .ok (.iload_n 3, 1) := by decide +kernel
theorem dX12_know_188 : decode cX12_know 188 = .ok (.laload, 1) := by decide +kernel
theorem dX12_know_189 : decode cX12_know 189 = .ok (.invokevirtual 102, 3) := by decide +kernel
theorem dX12_know_192 : decode cX12_know 192 = .ok (.iaload, 1) := by decide +kernel
theorem dX12_know_193 : decode cX12_know 193 = .ok (.invokevirtual 106, 3) := by decide +kernel
theorem dX12_know_196 : decode cX12_know 196 = .ok (.aload_n 0, 1) := by decide +kernel
theorem dX12_know_197 : decode cX12_know 197 = .ok (.iload_n 1, 1) := by decide +kernel
theorem dX12_know_198 : decode cX12_know 198 = .ok (.aload_n 0, 1) := by decide +kernel
theorem dX12_know_199 : decode cX12_know 199 = .ok (.getfield 19, 3) := by decide +kernel
theorem dX12_know_202 : decode cX12_know 202 = .ok (.iload_n 3, 1) := by decide +kernel
theorem dX12_know_203 : decode cX12_know 203 = .ok (.laload, 1) := by decide +kernel
theorem dX12_know_204 : decode cX12_know 204 = .ok (.invokevirtual 109, 3) := by decide +kernel
theorem dX12_know_207 : decode cX12_know 207 = .ok (.imul, 1) := by decide +kernel
theorem dX12_know_208 : decode cX12_know 208 = .ok (.goto 4, 3) := by decide +kernel
theorem dX12_know_211 : decode cX12_know 211 = .ok (.iconst 0, 1) := by decide +kernel
theorem dX12_know_212 : decode cX12_know 212 = .ok (.iastore, 1) := by decide +kernel
theorem dX12_know_213 : decode cX12_know 213 = .ok (.iinc 2 1, 3) := by decide +kernel
theorem dX12_know_216 : decode cX12_know 216 = .ok (.goto (-71), 3) := by decide +kernel
theorem dX12_know_219 : decode cX12_know 219 = .ok (.iinc 1 1, 3) := by decide +kernel
theorem dX12_know_222 : decode cX12_know 222 = .ok (.goto (-87), 3) := by decide +kernel
theorem dX12_know_225 : decode cX12_know 225 = .ok (.return_, 1) := by decide +kernel
theorem dX12_having_0 : decode cX12_having 0 = .ok (.aload_n 0, 1) := by decide +kernel
theorem dX12_having_1 : decode cX12_having 1 = .ok (.invokevirtual 112, 3) := by decide +kernel
theorem dX12_having_4 : decode cX12_having 4 = .ok (.aload_n 0, 1) := by decide +kernel
theorem dX12_having_5 : decode cX12_having 5 = .ok (.getfield 65, 3) := by decide +kernel
theorem dX12_having_8 : decode cX12_having 8 = .ok (.aload_n 0, 1) := by decide +kernel
theorem dX12_having_9 : decode cX12_having 9 = .ok (.lload_n 1, 1) := by decide +kernel
theorem dX12_having_10 : decode cX12_having 10 = .ok (.invokevirtual 102, 3) := by decide +kernel
theorem dX12_having_13 : decode cX12_having 13 = .ok (.iaload, 1) := by decide +kernel
theorem dX12_having_14 : decode cX12_having 14 = .ok (.ireturn, 1) := by decide +kernel
theorem dX12_rarity_0 : decode cX12_rarity 0 = .ok (.aload_n 0, 1) := by decide +kernel
theorem dX12_rarity_1 : decode cX12_rarity 1 = .ok (.aload_n 0, 1) := by decide +kernel
theorem dX12_rarity_2 : decode cX12_rarity 2 = .ok (.lload_n 1, 1) := by decide +kernel
theorem dX12_rarity_3 : decode cX12_rarity 3 = .ok (.invokevirtual 115, 3) := by decide +kernel
theorem dX12_rarity_6 : decode cX12_rarity 6 = .ok (.invokevirtual 106, 3) := by decide +kernel
theorem dX12_rarity_9 : decode cX12_rarity 9 = .ok (.ireturn, 1) := by decide +kernel
theorem dX12_digitsOf_0 : decode cX12_digitsOf 0 = .ok (.iload_n 1, 1) := by decide +kernel
theorem dX12_digitsOf_1 : decode cX12_digitsOf 1 = .ok (.ifCond .ne 7, 3) := by decide +kernel
theorem dX12_digitsOf_4 : decode cX12_digitsOf 4 = .ok (.iconst 0, 1) := by decide +kernel
theorem dX12_digitsOf_5 : decode cX12_digitsOf 5 = .ok (.goto 9, 3) := by decide +kernel
theorem dX12_digitsOf_8 : decode cX12_digitsOf 8 = .ok (.aload_n 0, 1) := by decide +kernel
theorem dX12_digitsOf_9 : decode cX12_digitsOf 9 = .ok (.getfield 85, 3) := by decide +kernel
theorem dX12_digitsOf_12 : decode cX12_digitsOf 12 = .ok (.iload_n 1, 1) := by decide +kernel
theorem dX12_digitsOf_13 : decode cX12_digitsOf 13 = .ok (.idiv, 1) := by decide +kernel
theorem dX12_digitsOf_14 : decode cX12_digitsOf 14 = .ok (.istore_n 2, 1) := by decide +kernel
theorem dX12_digitsOf_15 : decode cX12_digitsOf 15 = .ok (.iconst 0, 1) := by decide +kernel
theorem dX12_digitsOf_16 : decode cX12_digitsOf 16 = .ok (.istore_n 3, 1) := by decide +kernel
theorem dX12_digitsOf_17 : decode cX12_digitsOf 17 = .ok (.iload_n 2, 1) := by decide +kernel
theorem dX12_digitsOf_18 : decode cX12_digitsOf 18 = .ok (.ifCond .le 13, 3) := by decide +kernel
theorem dX12_digitsOf_21 : decode cX12_digitsOf 21 = .ok (.iinc 3 1, 3) := by decide +kernel
theorem dX12_digitsOf_24 : decode cX12_digitsOf 24 = .ok (.iload_n 2, 1) := by decide +kernel
theorem dX12_digitsOf_25 : decode cX12_digitsOf 25 = .ok (.iconst 2, 1) := by decide +kernel
theorem dX12_digitsOf_26 : decode cX12_digitsOf 26 = .ok (.idiv, 1) := by decide +kernel
theorem dX12_digitsOf_27 : decode cX12_digitsOf 27 = .ok (.istore_n 2, 1) := by decide +kernel
theorem dX12_digitsOf_28 : decode cX12_digitsOf 28 = .ok (.goto (-11), 3) := by decide +kernel
theorem dX12_digitsOf_31 : decode cX12_digitsOf 31 = .ok (.iload_n 3, 1) := by decide +kernel
theorem dX12_digitsOf_32 : decode cX12_digitsOf 32 = .ok (.ireturn, 1) := by decide +kernel
theorem dX12_isFirst_0 : decode cX12_isFirst 0 = .ok (.iconst 1, 1) := by decide +kernel
theorem dX12_isFirst_1 : decode cX12_isFirst 1 = .ok (.istore_n 3, 1) := by decide +kernel
theorem dX12_isFirst_2 : decode cX12_isFirst 2 = .ok (.iconst 0, 1) := by decide +kernel
theorem dX12_isFirst_3 : decode cX12_isFirst 3 = .ok (.istore 4, 2) := by decide +kernel
theorem dX12_isFirst_5 : decode cX12_isFirst 5 = .ok (.iload 4, 2) := by decide +kernel
theorem dX12_isFirst_7 : decode cX12_isFirst 7 = .ok (.iload_n 2, 1) := by decide +kernel
theorem dX12_isFirst_8 : decode cX12_isFirst 8 = .ok (.if_icmp .ge 48, 3) := by decide +kernel
theorem dX12_isFirst_11 : decode cX12_isFirst 11 = .ok (.iload_n 3, 1) := by decide +kernel
theorem dX12_isFirst_12 : decode cX12_isFirst 12 = .ok (.ifCond .eq 36, 3) := by decide +kernel
theorem dX12_isFirst_15 : decode cX12_isFirst 15 = .ok (.aload_n 0, 1) := by decide +kernel
theorem dX12_isFirst_16 : decode cX12_isFirst 16 = .ok (.getfield 19, 3) := by decide +kernel
theorem dX12_isFirst_19 : decode cX12_isFirst 19 = .ok (.sipush 200, 3) := by decide +kernel
theorem dX12_isFirst_22 : decode cX12_isFirst 22 = .ok (.iload_n 1, 1) := by decide +kernel
theorem dX12_isFirst_23 : decode cX12_isFirst 23 = .ok (.imul, 1) := by decide +kernel
theorem dX12_isFirst_24 : decode cX12_isFirst 24 = .ok (.iload 4, 2) := by decide +kernel
theorem dX12_isFirst_26 : decode cX12_isFirst 26 = .ok (.iadd, 1) := by decide +kernel
theorem dX12_isFirst_27 : decode cX12_isFirst 27 = .ok (.laload, 1) := by decide +kernel
theorem dX12_isFirst_28 : decode cX12_isFirst 28 = .ok (.aload_n 0, 1) := by decide +kernel
theorem dX12_isFirst_29 : decode cX12_isFirst 29 = .ok (.getfield 19, 3) := by decide +kernel
theorem dX12_isFirst_32 : decode cX12_isFirst 32 = .ok (.sipush 200, 3) := by decide +kernel
theorem dX12_isFirst_35 : decode cX12_isFirst 35 = .ok (.iload_n 1, 1) := by decide +kernel
theorem dX12_isFirst_36 : decode cX12_isFirst 36 = .ok (.imul, 1) := by decide +kernel
theorem dX12_isFirst_37 : decode cX12_isFirst 37 = .ok (.iload_n 2, 1) := by decide +kernel
theorem dX12_isFirst_38 : decode cX12_isFirst 38 = .ok (.iadd, 1) := by decide +kernel
theorem dX12_isFirst_39 : decode cX12_isFirst 39 = .ok (.laload, 1) := by decide +kernel
theorem dX12_isFirst_40 : decode cX12_isFirst 40 = .ok (.lcmp, 1) := by decide +kernel
theorem dX12_isFirst_41 : decode cX12_isFirst 41 = .ok (.ifCond .eq 7, 3) := by decide +kernel
theorem dX12_isFirst_44 : decode cX12_isFirst 44 = .ok (.iconst 1, 1) := by decide +kernel
theorem dX12_isFirst_45 : decode cX12_isFirst 45 = .ok (.goto 4, 3) := by decide +kernel
theorem dX12_isFirst_48 : decode cX12_isFirst 48 = .ok (.iconst 0, 1) := by decide +kernel
theorem dX12_isFirst_49 : decode cX12_isFirst 49 = .ok (.istore_n 3, 1) := by decide +kernel
theorem dX12_isFirst_50 : decode cX12_isFirst 50 = .ok (.iinc 4 1, 3) := by decide +kernel
theorem dX12_isFirst_53 : decode cX12_isFirst 53 = .ok (.goto (-48), 3) := by decide +kernel
theorem dX12_isFirst_56 : decode cX12_isFirst 56 = .ok (.iload_n 3, 1) := by decide +kernel
theorem dX12_isFirst_57 : decode cX12_isFirst 57 = .ok (.ireturn, 1) := by decide +kernel
theorem dX12_remove_0 : decode cX12_remove 0 = .ok (.aload_n 0, 1) := by decide +kernel
theorem dX12_remove_1 : decode cX12_remove 1 = .ok (.iconst 0, 1) := by decide +kernel
theorem dX12_remove_2 : decode cX12_remove 2 = .ok (.putfield 94, 3) := by decide +kernel
theorem dX12_remove_5 : decode cX12_remove 5 = .ok (.aload_n 0, 1) := by decide +kernel
theorem dX12_remove_6 : decode cX12_remove 6 = .ok (.dup, 1) := by decide +kernel
theorem dX12_remove_7 : decode cX12_remove 7 = .ok (.getfield 85, 3) := by decide +kernel
theorem dX12_remove_10 : decode cX12_remove 10 = .ok (.iconst 1, 1) := by decide +kernel
theorem dX12_remove_11 : decode cX12_remove 11 = .ok (.isub, 1) := by decide +kernel
theorem dX12_remove_12 : decode cX12_remove 12 = .ok (.putfield 85, 3) := by decide +kernel
theorem dX12_remove_15 : decode cX12_remove 15 = .ok (.aload_n 0, 1) := by decide +kernel
theorem dX12_remove_16 : decode cX12_remove 16 = .ok (.getfield 13, 3) := by decide +kernel
theorem dX12_remove_19 : decode cX12_remove 19 = .ok (.iload_n 1, 1) := by decide +kernel
theorem dX12_remove_20 : decode cX12_remove 20 = .ok (.aload_n 0, 1) := by decide +kernel
theorem dX12_remove_21 : decode cX12_remove 21 = .ok (.getfield 13, 3) := by decide +kernel
theorem dX12_remove_24 : decode cX12_remove 24 = .ok (.aload_n 0, 1) := by decide +kernel
theorem dX12_remove_25 : decode cX12_remove 25 = .ok (.getfield 85, 3) := by decide +kernel
theorem dX12_remove_28 : decode cX12_remove 28 = .ok (.iaload, 1) := by decide +kernel
theorem dX12_remove_29 : decode cX12_remove 29 = .ok (.iastore, 1) := by decide +kernel
theorem dX12_remove_30 : decode cX12_remove 30 = .ok (.aload_n 0, 1) := by decide +kernel
theorem dX12_remove_31 : decode cX12_remove 31 = .ok (.getfield 16, 3) := by decide +kernel
theorem dX12_remove_34 : decode cX12_remove 34 = .ok (.iload_n 1, 1) := by decide +kernel
