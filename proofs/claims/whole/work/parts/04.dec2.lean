theorem dX12_remove_35 : decode cX12_remove 35 = .ok (.aload_n 0, 1) := by decide +kernel
theorem dX12_remove_36 : decode cX12_remove 36 = .ok (.getfield 16, 3) := by decide +kernel
theorem dX12_remove_39 : decode cX12_remove 39 = .ok (.aload_n 0, 1) := by decide +kernel
theorem dX12_remove_40 : decode cX12_remove 40 = .ok (.getfield 85, 3) := by decide +kernel
theorem dX12_remove_43 : decode cX12_remove 43 = .ok (.iaload, 1) := by decide +kernel
theorem dX12_remove_44 : decode cX12_remove 44 = .ok (.iastore, 1) := by decide +kernel
theorem dX12_remove_45 : decode cX12_remove 45 = .ok (.iconst 0, 1) := by decide +kernel
theorem dX12_remove_46 : decode cX12_remove 46 = .ok (.istore_n 2, 1) := by decide +kernel
theorem dX12_remove_47 : decode cX12_remove 47 = .ok (.iload_n 2, 1) := by decide +kernel
theorem dX12_remove_48 : decode cX12_remove 48 = .ok (.aload_n 0, 1) := by decide +kernel
theorem dX12_remove_49 : decode cX12_remove 49 = .ok (.getfield 16, 3) := by decide +kernel
theorem dX12_remove_52 : decode cX12_remove 52 = .ok (.aload_n 0, 1) := by decide +kernel
theorem dX12_remove_53 : decode cX12_remove 53 = .ok (.getfield 85, 3) := by decide +kernel
theorem dX12_remove_56 : decode cX12_remove 56 = .ok (.iaload, 1) := by decide +kernel
theorem dX12_remove_57 : decode cX12_remove 57 = .ok (.if_icmp .ge 36, 3) := by decide +kernel
theorem dX12_remove_60 : decode cX12_remove 60 = .ok (.aload_n 0, 1) := by decide +kernel
theorem dX12_remove_61 : decode cX12_remove 61 = .ok (.getfield 19, 3) := by decide +kernel
theorem dX12_remove_64 : decode cX12_remove 64 = .ok (.sipush 200, 3) := by decide +kernel
theorem dX12_remove_67 : decode cX12_remove 67 = .ok (.iload_n 1, 1) := by decide +kernel
theorem dX12_remove_68 : decode cX12_remove 68 = .ok (.imul, 1) := by decide +kernel
theorem dX12_remove_69 : decode cX12_remove 69 = .ok (.iload_n 2, 1) := by decide +kernel
theorem dX12_remove_70 : decode cX12_remove 70 = .ok (.iadd, 1) := by decide +kernel
theorem dX12_remove_71 : decode cX12_remove 71 = .ok (.aload_n 0, 1) := by decide +kernel
theorem dX12_remove_72 : decode cX12_remove 72 = .ok (.getfield 19, 3) := by decide +kernel
theorem dX12_remove_75 : decode cX12_remove 75 = .ok (.sipush 200, 3) := by decide +kernel
theorem dX12_remove_78 : decode cX12_remove 78 = .ok (.aload_n 0, 1) := by decide +kernel
theorem dX12_remove_79 : decode cX12_remove 79 = .ok (.getfield 85, 3) := by decide +kernel
theorem dX12_remove_82 : decode cX12_remove 82 = .ok (.imul, 1) := by decide +kernel
theorem dX12_remove_83 : decode cX12_remove 83 = .ok (.iload_n 2, 1) := by decide +kernel
theorem dX12_remove_84 : decode cX12_remove 84 = .ok (.iadd, 1) := by decide +kernel
theorem dX12_remove_85 : decode cX12_remove 85 = .ok (.laload, 1) := by decide +kernel
theorem dX12_remove_86 : decode cX12_remove 86 = .ok (.lastore, 1) := by decide +kernel
theorem dX12_remove_87 : decode cX12_remove 87 = .ok (.iinc 2 1, 3) := by decide +kernel
theorem dX12_remove_90 : decode cX12_remove 90 = .ok (.goto (-43), 3) := by decide +kernel
theorem dX12_remove_93 : decode cX12_remove 93 = .ok (.return_, 1) := by decide +kernel
theorem dX12_feed_0 : decode cX12_feed 0 = .ok (.aload_n 0, 1) := by decide +kernel
theorem dX12_feed_1 : decode cX12_feed 1 = .ok (.iload_n 1, 1) := by decide +kernel
theorem dX12_feed_2 : decode cX12_feed 2 = .ok (.iconst 1, 1) := by decide +kernel
theorem dX12_feed_3 : decode cX12_feed 3 = .ok (.if_icmp .lt 9, 3) := by decide +kernel
theorem dX12_feed_6 : decode cX12_feed 6 = .ok (.iload_n 1, 1) := by decide +kernel
theorem dX12_feed_7 : decode cX12_feed 7 = .ok (.bipush 8, 2) := by decide +kernel
theorem dX12_feed_9 : decode cX12_feed 9 = .ok (.if_icmp .le 7, 3) := by decide +kernel
theorem dX12_feed_12 : decode cX12_feed 12 = .ok (.iconst 1, 1) := by decide +kernel
theorem dX12_feed_13 : decode cX12_feed 13 = .ok (.goto 4, 3) := by decide +kernel
theorem dX12_feed_16 : decode cX12_feed 16 = .ok (.iconst 0, 1) := by decide +kernel
theorem dX12_feed_17 : decode cX12_feed 17 = .ok (.putfield 68, 3) := by decide +kernel
theorem dX12_feed_20 : decode cX12_feed 20 = .ok (.aload_n 0, 1) := by decide +kernel
theorem dX12_feed_21 : decode cX12_feed 21 = .ok (.getfield 68, 3) := by decide +kernel
theorem dX12_feed_24 : decode cX12_feed 24 = .ok (.ifCond .le 5, 3) := by decide +kernel
theorem dX12_feed_27 : decode cX12_feed 27 = .ok (.iconst 0, 1) := by decide +kernel
theorem dX12_feed_28 : decode cX12_feed 28 = .ok (.ireturn, 1) := by decide +kernel
theorem dX12_feed_29 : decode cX12_feed 29 = .ok (.aload_n 0, 1) := by decide +kernel
theorem dX12_feed_30 : decode cX12_feed 30 = .ok (.getfield 74, 3) := by decide +kernel
theorem dX12_feed_33 : decode cX12_feed 33 = .ok (.iload_n 1, 1) := by decide +kernel
theorem dX12_feed_34 : decode cX12_feed 34 = .ok (.iadd, 1) := by decide +kernel
theorem dX12_feed_35 : decode cX12_feed 35 = .ok (.sipush 400, 3) := by decide +kernel
theorem dX12_feed_38 : decode cX12_feed 38 = .ok (.if_icmp .le 5, 3) := by decide +kernel
theorem dX12_feed_41 : decode cX12_feed 41 = .ok (.iconst (-1), 1) := by decide +kernel
theorem dX12_feed_42 : decode cX12_feed 42 = .ok (.ireturn, 1) := by decide +kernel
theorem dX12_feed_43 : decode cX12_feed 43 = .ok (.iconst 0, 1) := by decide +kernel
theorem dX12_feed_44 : decode cX12_feed 44 = .ok (.istore 4, 2) := by decide +kernel
theorem dX12_feed_46 : decode cX12_feed 46 = .ok (.iload 4, 2) := by decide +kernel
theorem dX12_feed_48 : decode cX12_feed 48 = .ok (.iload_n 1, 1) := by decide +kernel
theorem dX12_feed_49 : decode cX12_feed 49 = .ok (.if_icmp .ge 40, 3) := by decide +kernel
theorem dX12_feed_52 : decode cX12_feed 52 = .ok (.aload_n 0, 1) := by decide +kernel
theorem dX12_feed_53 : decode cX12_feed 53 = .ok (.getfield 7, 3) := by decide +kernel
theorem dX12_feed_56 : decode cX12_feed 56 = .ok (.aload_n 0, 1) := by decide +kernel
theorem dX12_feed_57 : decode cX12_feed 57 = .ok (.getfield 74, 3) := by decide +kernel
theorem dX12_feed_60 : decode cX12_feed 60 = .ok (.lload_n 2, 1) := by decide +kernel
theorem dX12_feed_61 : decode cX12_feed 61 = .ok (.bipush 8, 2) := by decide +kernel
theorem dX12_feed_63 : decode cX12_feed 63 = .ok (.iload 4, 2) := by decide +kernel
theorem dX12_feed_65 : decode cX12_feed 65 = .ok (.imul, 1) := by decide +kernel
theorem dX12_feed_66 : decode cX12_feed 66 = .ok (.lshr, 1) := by decide +kernel
theorem dX12_feed_67 : decode cX12_feed 67 = .ok (.ldc2_w 117, 3) := by decide +kernel
theorem dX12_feed_70 : decode cX12_feed 70 = .ok (.land, 1) := by decide +kernel
theorem dX12_feed_71 : decode cX12_feed 71 = .ok (.l2i, 1) := by decide +kernel
theorem dX12_feed_72 : decode cX12_feed 72 = .ok (.iastore, 1) := by decide +kernel
theorem dX12_feed_73 : decode cX12_feed 73 = .ok (.aload_n 0, 1) := by decide +kernel
theorem dX12_feed_74 : decode cX12_feed 74 = .ok (.dup, 1) := by decide +kernel
theorem dX12_feed_75 : decode cX12_feed 75 = .ok (.getfield 74, 3) := by decide +kernel
theorem dX12_feed_78 : decode cX12_feed 78 = .ok (.iconst 1, 1) := by decide +kernel
theorem dX12_feed_79 : decode cX12_feed 79 = .ok (.iadd, 1) := by decide +kernel
theorem dX12_feed_80 : decode cX12_feed 80 = .ok (.putfield 74, 3) := by decide +kernel
theorem dX12_feed_83 : decode cX12_feed 83 = .ok (.iinc 4 1, 3) := by decide +kernel
theorem dX12_feed_86 : decode cX12_feed 86 = .ok (.goto (-40), 3) := by decide +kernel
theorem dX12_feed_89 : decode cX12_feed 89 = .ok (.aload_n 0, 1) := by decide +kernel
theorem dX12_feed_90 : decode cX12_feed 90 = .ok (.getfield 74, 3) := by decide +kernel
theorem dX12_feed_93 : decode cX12_feed 93 = .ok (.ireturn, 1) := by decide +kernel
theorem dX12_wipe_0 : decode cX12_wipe 0 = .ok (.aload_n 0, 1) := by decide +kernel
theorem dX12_wipe_1 : decode cX12_wipe 1 = .ok (.iconst 0, 1) := by decide +kernel
theorem dX12_wipe_2 : decode cX12_wipe 2 = .ok (.putfield 68, 3) := by decide +kernel
theorem dX12_wipe_5 : decode cX12_wipe 5 = .ok (.aload_n 0, 1) := by decide +kernel
theorem dX12_wipe_6 : decode cX12_wipe 6 = .ok (.getfield 74, 3) := by decide +kernel
theorem dX12_wipe_9 : decode cX12_wipe 9 = .ok (.istore_n 1, 1) := by decide +kernel
theorem dX12_wipe_10 : decode cX12_wipe 10 = .ok (.aload_n 0, 1) := by decide +kernel
theorem dX12_wipe_11 : decode cX12_wipe 11 = .ok (.iconst 0, 1) := by decide +kernel
theorem dX12_wipe_12 : decode cX12_wipe 12 = .ok (.putfield 74, 3) := by decide +kernel
theorem dX12_wipe_15 : decode cX12_wipe 15 = .ok (.iload_n 1, 1) := by decide +kernel
theorem dX12_wipe_16 : decode cX12_wipe 16 = .ok (.ireturn, 1) := by decide +kernel
theorem dX12_isNumber_0 : decode cX12_isNumber 0 = .ok (.iload_n 0, 1) := by decide +kernel
theorem dX12_isNumber_1 : decode cX12_isNumber 1 = .ok (.ifCond .lt 14, 3) := by decide +kernel
theorem dX12_isNumber_4 : decode cX12_isNumber 4 = .ok (.iload_n 0, 1) := by decide +kernel
theorem dX12_isNumber_5 : decode cX12_isNumber 5 = .ok (.sipush 9999, 3) := by decide +kernel
theorem dX12_isNumber_8 : decode cX12_isNumber 8 = .ok (.if_icmp .gt 7, 3) := by decide +kernel
theorem dX12_isNumber_11 : decode cX12_isNumber 11 = .ok (.iconst 1, 1) := by decide +kernel
theorem dX12_isNumber_12 : decode cX12_isNumber 12 = .ok (.goto 4, 3) := by decide +kernel
theorem dX12_isNumber_15 : decode cX12_isNumber 15 = .ok (.iconst 0, 1) := by decide +kernel
theorem dX12_isNumber_16 : decode cX12_isNumber 16 = .ok (.ireturn, 1) := by decide +kernel
theorem dX12_put_0 : decode cX12_put 0 = .ok (.aload_n 0, 1) := by decide +kernel
theorem dX12_put_1 : decode cX12_put 1 = .ok (.iload_n 1, 1) := by decide +kernel
theorem dX12_put_2 : decode cX12_put 2 = .ok (.invokestatic 119, 3) := by decide +kernel
theorem dX12_put_5 : decode cX12_put 5 = .ok (.ifCond .eq 7, 3) := by decide +kernel
theorem dX12_put_8 : decode cX12_put 8 = .ok (.iconst 0, 1) := by decide +kernel
theorem dX12_put_9 : decode cX12_put 9 = .ok (.goto 4, 3) := by decide +kernel
theorem dX12_put_12 : decode cX12_put 12 = .ok (.iconst 1, 1) := by decide +kernel
theorem dX12_put_13 : decode cX12_put 13 = .ok (.putfield 68, 3) := by decide +kernel
theorem dX12_put_16 : decode cX12_put 16 = .ok (.aload_n 0, 1) := by decide +kernel
theorem dX12_put_17 : decode cX12_put 17 = .ok (.getfield 68, 3) := by decide +kernel
theorem dX12_put_20 : decode cX12_put 20 = .ok (.ifCond .le 5, 3) := by decide +kernel
theorem dX12_put_23 : decode cX12_put 23 = .ok (.iconst 0, 1) := by decide +kernel
theorem dX12_put_24 : decode cX12_put 24 = .ok (.ireturn, 1) := by decide +kernel
theorem dX12_put_25 : decode cX12_put 25 = .ok (.aload_n 0, 1) := by decide +kernel
theorem dX12_put_26 : decode cX12_put 26 = .ok (.iload_n 1, 1) := by decide +kernel
theorem dX12_put_27 : decode cX12_put 27 = .ok (.invokevirtual 123, 3) := by decide +kernel
theorem dX12_put_30 : decode cX12_put 30 = .ok (.istore_n 2, 1) := by decide +kernel
theorem dX12_put_31 : decode cX12_put 31 = .ok (.iload_n 2, 1) := by decide +kernel
theorem dX12_put_32 : decode cX12_put 32 = .ok (.ifCond .ge 14, 3) := by decide +kernel
theorem dX12_put_35 : decode cX12_put 35 = .ok (.aload_n 0, 1) := by decide +kernel
theorem dX12_put_36 : decode cX12_put 36 = .ok (.getfield 85, 3) := by decide +kernel
theorem dX12_put_39 : decode cX12_put 39 = .ok (.bipush 120, 2) := by decide +kernel
theorem dX12_put_41 : decode cX12_put 41 = .ok (.if_icmp .ne 5, 3) := by decide +kernel
theorem dX12_put_44 : decode cX12_put 44 = .ok (.iconst (-1), 1) := by decide +kernel
theorem dX12_put_45 : decode cX12_put 45 = .ok (.ireturn, 1) := by decide +kernel
theorem dX12_put_46 : decode cX12_put 46 = .ok (.iload_n 2, 1) := by decide +kernel
theorem dX12_put_47 : decode cX12_put 47 = .ok (.ifCond .lt 8, 3) := by decide +kernel
theorem dX12_put_50 : decode cX12_put 50 = .ok (.aload_n 0, 1) := by decide +kernel
theorem dX12_put_51 : decode cX12_put 51 = .ok (.iload_n 2, 1) := by decide +kernel
theorem dX12_put_52 : decode cX12_put 52 = .ok (.invokevirtual 126, 3) := by decide +kernel
theorem dX12_put_55 : decode cX12_put 55 = .ok (.aload_n 0, 1) := by decide +kernel
theorem dX12_put_56 : decode cX12_put 56 = .ok (.invokevirtual 130, 3) := by decide +kernel
theorem dX12_put_59 : decode cX12_put 59 = .ok (.aload_n 0, 1) := by decide +kernel
theorem dX12_put_60 : decode cX12_put 60 = .ok (.iconst 0, 1) := by decide +kernel
theorem dX12_put_61 : decode cX12_put 61 = .ok (.putfield 94, 3) := by decide +kernel
theorem dX12_put_64 : decode cX12_put 64 = .ok (.aload_n 0, 1) := by decide +kernel
theorem dX12_put_65 : decode cX12_put 65 = .ok (.getfield 85, 3) := by decide +kernel
theorem dX12_put_68 : decode cX12_put 68 = .ok (.istore_n 2, 1) := by decide +kernel
theorem dX12_put_69 : decode cX12_put 69 = .ok (.aload_n 0, 1) := by decide +kernel
theorem dX12_put_70 : decode cX12_put 70 = .ok (.getfield 13, 3) := by decide +kernel
theorem dX12_put_73 : decode cX12_put 73 = .ok (.iload_n 2, 1) := by decide +kernel
theorem dX12_put_74 : decode cX12_put 74 = .ok (.iload_n 1, 1) := by decide +kernel
theorem dX12_put_75 : decode cX12_put 75 = .ok (.iastore, 1) := by decide +kernel
theorem dX12_put_76 : decode cX12_put 76 = .ok (.aload_n 0, 1) := by decide +kernel
theorem dX12_put_77 : decode cX12_put 77 = .ok (.getfield 16, 3) := by decide +kernel
theorem dX12_put_80 : decode cX12_put 80 = .ok (.iload_n 2, 1) := by decide +kernel
theorem dX12_put_81 : decode cX12_put 81 = .ok (.aload_n 0, 1) := by decide +kernel
theorem dX12_put_82 : decode cX12_put 82 = .ok (.getfield 71, 3) := by decide +kernel
theorem dX12_put_85 : decode cX12_put 85 = .ok (.iastore, 1) := by decide +kernel
theorem dX12_put_86 : decode cX12_put 86 = .ok (.iconst 0, 1) := by decide +kernel
theorem dX12_put_87 : decode cX12_put 87 = .ok (.istore_n 3, 1) := by decide +kernel
theorem dX12_put_88 : decode cX12_put 88 = .ok (.iload_n 3, 1) := by decide +kernel
theorem dX12_put_89 : decode cX12_put 89 = .ok (.aload_n 0, 1) := by decide +kernel
theorem dX12_put_90 : decode cX12_put 90 = .ok (.getfield 71, 3) := by decide +kernel
theorem dX12_put_93 : decode cX12_put 93 = .ok (.if_icmp .ge 27, 3) := by decide +kernel
theorem dX12_put_96 : decode cX12_put 96 = .ok (.aload_n 0, 1) := by decide +kernel
theorem dX12_put_97 : decode cX12_put 97 = .ok (.getfield 19, 3) := by decide +kernel
theorem dX12_put_100 : decode cX12_put 100 = .ok (.sipush 200, 3) := by decide +kernel
theorem dX12_put_103 : decode cX12_put 103 = .ok (.iload_n 2, 1) := by decide +kernel
theorem dX12_put_104 : decode cX12_put 104 = .ok (.imul, 1) := by decide +kernel
theorem dX12_put_105 : decode cX12_put 105 = .ok (.iload_n 3, 1) := by decide +kernel
theorem dX12_put_106 : decode cX12_put 106 = .ok (.iadd, 1) := by decide +kernel
theorem dX12_put_107 : decode cX12_put 107 = .ok (.aload_n 0, 1) := by decide +kernel
theorem dX12_put_108 : decode cX12_put 108 = .ok (.getfield 23, 3) := by decide +kernel
theorem dX12_put_111 : decode cX12_put 111 = .ok (.iload_n 3, 1) := by decide +kernel
theorem dX12_put_112 : decode cX12_put 112 = .ok (.laload, 1) := by decide +kernel
theorem dX12_put_113 : decode cX12_put 113 = .ok (.lastore, 1) := by decide +kernel
theorem dX12_put_114 : decode cX12_put 114 = .ok (.iinc 3 1, 3) := by decide +kernel
theorem dX12_put_117 : decode cX12_put 117 = .ok (.goto (-29), 3) := by decide +kernel
theorem dX12_put_120 : decode cX12_put 120 = .ok (.aload_n 0, 1) := by decide +kernel
theorem dX12_put_121 : decode cX12_put 121 = .ok (.dup, 1) := by decide +kernel
theorem dX12_put_122 : decode cX12_put 122 = .ok (.getfield 85, 3) := by decide +kernel
theorem dX12_put_125 : decode cX12_put 125 = .ok (.iconst 1, 1) := by decide +kernel
theorem dX12_put_126 : decode cX12_put 126 = .ok (.iadd, 1) := by decide +kernel
theorem dX12_put_127 : decode cX12_put 127 = .ok (.putfield 85, 3) := by decide +kernel
theorem dX12_put_130 : decode cX12_put 130 = .ok (.aload_n 0, 1) := by decide +kernel
theorem dX12_put_131 : decode cX12_put 131 = .ok (.getfield 71, 3) := by decide +kernel
theorem dX12_put_134 : decode cX12_put 134 = .ok (.ireturn, 1) := by decide +kernel
theorem dX12_drop_0 : decode cX12_drop 0 = .ok (.aload_n 0, 1) := by decide +kernel
theorem dX12_drop_1 : decode cX12_drop 1 = .ok (.iload_n 1, 1) := by decide +kernel
theorem dX12_drop_2 : decode cX12_drop 2 = .ok (.invokestatic 119, 3) := by decide +kernel
theorem dX12_drop_5 : decode cX12_drop 5 = .ok (.ifCond .eq 7, 3) := by decide +kernel
theorem dX12_drop_8 : decode cX12_drop 8 = .ok (.iconst 0, 1) := by decide +kernel
theorem dX12_drop_9 : decode cX12_drop 9 = .ok (.goto 4, 3) := by decide +kernel
theorem dX12_drop_12 : decode cX12_drop 12 = .ok (.iconst 1, 1) := by decide +kernel
theorem dX12_drop_13 : decode cX12_drop 13 = .ok (.putfield 68, 3) := by decide +kernel
theorem dX12_drop_16 : decode cX12_drop 16 = .ok (.aload_n 0, 1) := by decide +kernel
theorem dX12_drop_17 : decode cX12_drop 17 = .ok (.getfield 68, 3) := by decide +kernel
theorem dX12_drop_20 : decode cX12_drop 20 = .ok (.ifCond .le 7, 3) := by decide +kernel
theorem dX12_drop_23 : decode cX12_drop 23 = .ok (.iconst (-1), 1) := by decide +kernel
theorem dX12_drop_24 : decode cX12_drop 24 = .ok (.goto 8, 3) := by decide +kernel
theorem dX12_drop_27 : decode cX12_drop 27 = .ok (.aload_n 0, 1) := by decide +kernel
theorem dX12_drop_28 : decode cX12_drop 28 = .ok (.iload_n 1, 1) := by decide +kernel
theorem dX12_drop_29 : decode cX12_drop 29 = .ok (.invokevirtual 123, 3) := by decide +kernel
theorem dX12_drop_32 : decode cX12_drop 32 = .ok (.istore_n 2, 1) := by decide +kernel
theorem dX12_drop_33 : decode cX12_drop 33 = .ok (.iload_n 2, 1) := by decide +kernel
theorem dX12_drop_34 : decode cX12_drop 34 = .ok (.ifCond .lt 8, 3) := by decide +kernel
theorem dX12_drop_37 : decode cX12_drop 37 = .ok (.aload_n 0, 1) := by decide +kernel
theorem dX12_drop_38 : decode cX12_drop 38 = .ok (.iload_n 2, 1) := by decide +kernel
theorem dX12_drop_39 : decode cX12_drop 39 = .ok (.invokevirtual 126, 3) := by decide +kernel
theorem dX12_drop_42 : decode cX12_drop 42 = .ok (.iload_n 2, 1) := by decide +kernel
theorem dX12_drop_43 : decode cX12_drop 43 = .ok (.ifCond .lt 7, 3) := by decide +kernel
theorem dX12_drop_46 : decode cX12_drop 46 = .ok (.iconst 1, 1) := by decide +kernel
theorem dX12_drop_47 : decode cX12_drop 47 = .ok (.goto 4, 3) := by decide +kernel
theorem dX12_drop_50 : decode cX12_drop 50 = .ok (.iconst 0, 1) := by decide +kernel
theorem dX12_drop_51 : decode cX12_drop 51 = .ok (.ireturn, 1) := by decide +kernel
theorem dX12_nextWord_0 : decode cX12_nextWord 0 = .ok (.ldc2_w 133, 3) := by decide +kernel
theorem dX12_nextWord_3 : decode cX12_nextWord 3 = .ok (.lstore_n 3, 1) := by decide +kernel
theorem dX12_nextWord_4 : decode cX12_nextWord 4 = .ok (.iconst 0, 1) := by decide +kernel
theorem dX12_nextWord_5 : decode cX12_nextWord 5 = .ok (.istore 5, 2) := by decide +kernel
theorem dX12_nextWord_7 : decode cX12_nextWord 7 = .ok (.iload 5, 2) := by decide +kernel
theorem dX12_nextWord_9 : decode cX12_nextWord 9 = .ok (.aload_n 0, 1) := by decide +kernel
theorem dX12_nextWord_10 : decode cX12_nextWord 10 = .ok (.getfield 85, 3) := by decide +kernel
theorem dX12_nextWord_13 : decode cX12_nextWord 13 = .ok (.if_icmp .ge 84, 3) := by decide +kernel
theorem dX12_nextWord_16 : decode cX12_nextWord 16 = .ok (.sipush 200, 3) := by decide +kernel
theorem dX12_nextWord_19 : decode cX12_nextWord 19 = .ok (.iload 5, 2) := by decide +kernel
theorem dX12_nextWord_21 : decode cX12_nextWord 21 = .ok (.imul, 1) := by decide +kernel
theorem dX12_nextWord_22 : decode cX12_nextWord 22 = .ok (.istore 6, 2) := by decide +kernel
theorem dX12_nextWord_24 : decode cX12_nextWord 24 = .ok (.iload 6, 2) := by decide +kernel
theorem dX12_nextWord_26 : decode cX12_nextWord 26 = .ok (.sipush 200, 3) := by decide +kernel
theorem dX12_nextWord_29 : decode cX12_nextWord 29 = .ok (.iload 5, 2) := by decide +kernel
theorem dX12_nextWord_31 : decode cX12_nextWord 31 = .ok (.imul, 1) := by decide +kernel
theorem dX12_nextWord_32 : decode cX12_nextWord 32 = .ok (.aload_n 0, 1) := by decide +kernel
theorem dX12_nextWord_33 : decode cX12_nextWord 33 = .ok (.getfield 16, 3) := by decide +kernel
theorem dX12_nextWord_36 : decode cX12_nextWord 36 = .ok (.iload 5, 2) := by decide +kernel
theorem dX12_nextWord_38 : decode cX12_nextWord 38 = .ok (.iaload, 1) := by decide +kernel
theorem dX12_nextWord_39 : decode cX12_nextWord 39 = .ok (.iadd, 1) := by decide +kernel
theorem dX12_nextWord_40 : decode cX12_nextWord 40 = .ok (.if_icmp .ge 51, 3) := by decide +kernel
theorem dX12_nextWord_43 : decode cX12_nextWord 43 = .ok (.aload_n 0, 1) := by decide +kernel
theorem dX12_nextWord_44 : decode cX12_nextWord 44 = .ok (.getfield 19, 3) := by decide +kernel
theorem dX12_nextWord_47 : decode cX12_nextWord 47 = .ok (.iload 6, 2) := by decide +kernel
theorem dX12_nextWord_49 : decode cX12_nextWord 49 = .ok (.laload, 1) := by decide +kernel
theorem dX12_nextWord_50 : decode cX12_nextWord 50 = .ok (.lload_n 1, 1) := by decide +kernel
theorem dX12_nextWord_51 : decode cX12_nextWord 51 = .ok (.lcmp, 1) := by decide +kernel
theorem dX12_nextWord_52 : decode cX12_nextWord 52 = .ok (.ifCond .le 31, 3) := by decide +kernel
theorem dX12_nextWord_55 : decode cX12_nextWord 55 = .ok (.lload_n 3, 1) := by decide +kernel
theorem dX12_nextWord_56 : decode cX12_nextWord 56 = .ok (.lconst 0, 1) := by decide +kernel
theorem dX12_nextWord_57 : decode cX12_nextWord 57 = .ok (.lcmp, 1) := by decide +kernel
theorem dX12_nextWord_58 : decode cX12_nextWord 58 = .ok (.ifCond .lt 15, 3) := by decide +kernel
theorem dX12_nextWord_61 : decode cX12_nextWord 61 = .ok (.aload_n 0, 1) := by decide +kernel
theorem dX12_nextWord_62 : decode cX12_nextWord 62 = .ok (.getfield 19, 3) := by decide +kernel
theorem dX12_nextWord_65 : decode cX12_nextWord 65 = .ok (.iload 6, 2) := by decide +kernel
theorem dX12_nextWord_67 : decode cX12_nextWord 67 = .ok (.laload, 1) := by decide +kernel
theorem dX12_nextWord_68 : decode cX12_nextWord 68 = .ok (.lload_n 3, 1) := by decide +kernel
theorem dX12_nextWord_69 : decode cX12_nextWord 69 = .ok (.lcmp, 1) := by decide +kernel
theorem dX12_nextWord_70 : decode cX12_nextWord 70 = .ok (.ifCond .ge 13, 3) := by decide +kernel
theorem dX12_nextWord_73 : decode cX12_nextWord 73 = .ok (.aload_n 0, 1) := by decide +kernel
theorem dX12_nextWord_74 : decode cX12_nextWord 74 = .ok (.getfield 19, 3) := by decide +kernel
theorem dX12_nextWord_77 : decode cX12_nextWord 77 = .ok (.iload 6, 2) := by decide +kernel
theorem dX12_nextWord_79 : decode cX12_nextWord 79 = .ok (.laload, 1) := by decide +kernel
theorem dX12_nextWord_80 : decode cX12_nextWord 80 = .ok (.goto 4, 3) := by decide +kernel
theorem dX12_nextWord_83 : decode cX12_nextWord 83 = .ok (.lload_n 3, 1) := by decide +kernel
theorem dX12_nextWord_84 : decode cX12_nextWord 84 = .ok (.lstore_n 3, 1) := by decide +kernel
theorem dX12_nextWord_85 : decode cX12_nextWord 85 = .ok (.iinc 6 1, 3) := by decide +kernel
theorem dX12_nextWord_88 : decode cX12_nextWord 88 = .ok (.goto (-64), 3) := by decide +kernel
theorem dX12_nextWord_91 : decode cX12_nextWord 91 = .ok (.iinc 5 1, 3) := by decide +kernel
theorem dX12_nextWord_94 : decode cX12_nextWord 94 = .ok (.goto (-87), 3) := by decide +kernel
theorem dX12_nextWord_97 : decode cX12_nextWord 97 = .ok (.lload_n 3, 1) := by decide +kernel
theorem dX12_nextWord_98 : decode cX12_nextWord 98 = .ok (.lreturn, 1) := by decide +kernel
theorem dX12_told_0 : decode cX12_told 0 = .ok (.aload_n 0, 1) := by decide +kernel
theorem dX12_told_1 : decode cX12_told 1 = .ok (.iload_n 1, 1) := by decide +kernel
theorem dX12_told_2 : decode cX12_told 2 = .ok (.ifCond .lt 8, 3) := by decide +kernel
theorem dX12_told_5 : decode cX12_told 5 = .ok (.iload_n 1, 1) := by decide +kernel
theorem dX12_told_6 : decode cX12_told 6 = .ok (.iconst 2, 1) := by decide +kernel
theorem dX12_told_7 : decode cX12_told 7 = .ok (.if_icmp .le 7, 3) := by decide +kernel
theorem dX12_told_10 : decode cX12_told 10 = .ok (.iconst 1, 1) := by decide +kernel
theorem dX12_told_11 : decode cX12_told 11 = .ok (.goto 4, 3) := by decide +kernel
theorem dX12_told_14 : decode cX12_told 14 = .ok (.iconst 0, 1) := by decide +kernel
theorem dX12_told_15 : decode cX12_told 15 = .ok (.putfield 68, 3) := by decide +kernel
theorem dX12_told_18 : decode cX12_told 18 = .ok (.aload_n 0, 1) := by decide +kernel
theorem dX12_told_19 : decode cX12_told 19 = .ok (.getfield 68, 3) := by decide +kernel
theorem dX12_told_22 : decode cX12_told 22 = .ok (.ifCond .le 5, 3) := by decide +kernel
theorem dX12_told_25 : decode cX12_told 25 = .ok (.iconst 0, 1) := by decide +kernel
theorem dX12_told_26 : decode cX12_told 26 = .ok (.ireturn, 1) := by decide +kernel
theorem dX12_told_27 : decode cX12_told 27 = .ok (.iconst 0, 1) := by decide +kernel
theorem dX12_told_28 : decode cX12_told 28 = .ok (.istore_n 2, 1) := by decide +kernel
theorem dX12_told_29 : decode cX12_told 29 = .ok (.iconst 0, 1) := by decide +kernel
theorem dX12_told_30 : decode cX12_told 30 = .ok (.istore_n 3, 1) := by decide +kernel
theorem dX12_told_31 : decode cX12_told 31 = .ok (.iload_n 3, 1) := by decide +kernel
theorem dX12_told_32 : decode cX12_told 32 = .ok (.aload_n 0, 1) := by decide +kernel
theorem dX12_told_33 : decode cX12_told 33 = .ok (.getfield 85, 3) := by decide +kernel
theorem dX12_told_36 : decode cX12_told 36 = .ok (.if_icmp .ge 18, 3) := by decide +kernel
theorem dX12_told_39 : decode cX12_told 39 = .ok (.iload_n 2, 1) := by decide +kernel
theorem dX12_told_40 : decode cX12_told 40 = .ok (.aload_n 0, 1) := by decide +kernel
theorem dX12_told_41 : decode cX12_told 41 = .ok (.getfield 16, 3) := by decide +kernel
theorem dX12_told_44 : decode cX12_told 44 = .ok (.iload_n 3, 1) := by decide +kernel
theorem dX12_told_45 : decode cX12_told 45 = .ok (.iaload, 1) := by decide +kernel
theorem dX12_told_46 : decode cX12_told 46 = .ok (.iadd, 1) := by decide +kernel
theorem dX12_told_47 : decode cX12_told 47 = .ok (.istore_n 2, 1) := by decide +kernel
theorem dX12_told_48 : decode cX12_told 48 = .ok (.iinc 3 1, 3) := by decide +kernel
theorem dX12_told_51 : decode cX12_told 51 = .ok (.goto (-20), 3) := by decide +kernel
theorem dX12_told_54 : decode cX12_told 54 = .ok (.iconst 0, 1) := by decide +kernel
theorem dX12_told_55 : decode cX12_told 55 = .ok (.istore_n 3, 1) := by decide +kernel
theorem dX12_told_56 : decode cX12_told 56 = .ok (.aload_n 0, 1) := by decide +kernel
theorem dX12_told_57 : decode cX12_told 57 = .ok (.ldc2_w 133, 3) := by decide +kernel
theorem dX12_told_60 : decode cX12_told 60 = .ok (.invokevirtual 135, 3) := by decide +kernel
theorem dX12_told_63 : decode cX12_told 63 = .ok (.lstore 4, 2) := by decide +kernel
theorem dX12_told_65 : decode cX12_told 65 = .ok (.lload 4, 2) := by decide +kernel
theorem dX12_told_67 : decode cX12_told 67 = .ok (.lconst 0, 1) := by decide +kernel
theorem dX12_told_68 : decode cX12_told 68 = .ok (.lcmp, 1) := by decide +kernel
theorem dX12_told_69 : decode cX12_told 69 = .ok (.ifCond .lt 22, 3) := by decide +kernel
theorem dX12_told_72 : decode cX12_told 72 = .ok (.iload_n 1, 1) := by decide +kernel
theorem dX12_told_73 : decode cX12_told 73 = .ok (.iconst 1, 1) := by decide +kernel
theorem dX12_told_74 : decode cX12_told 74 = .ok (.if_icmp .ne 17, 3) := by decide +kernel
theorem dX12_told_77 : decode cX12_told 77 = .ok (.iinc 3 1, 3) := by decide +kernel
theorem dX12_told_80 : decode cX12_told 80 = .ok (.aload_n 0, 1) := by decide +kernel
theorem dX12_told_81 : decode cX12_told 81 = .ok (.lload 4, 2) := by decide +kernel
theorem dX12_told_83 : decode cX12_told 83 = .ok (.invokevirtual 135, 3) := by decide +kernel
theorem dX12_told_86 : decode cX12_told 86 = .ok (.lstore 4, 2) := by decide +kernel
theorem dX12_told_88 : decode cX12_told 88 = .ok (.goto (-23), 3) := by decide +kernel
theorem dX12_told_91 : decode cX12_told 91 = .ok (.iload_n 1, 1) := by decide +kernel
theorem dX12_told_92 : decode cX12_told 92 = .ok (.ifCond .ne 10, 3) := by decide +kernel
theorem dX12_told_95 : decode cX12_told 95 = .ok (.aload_n 0, 1) := by decide +kernel
theorem dX12_told_96 : decode cX12_told 96 = .ok (.getfield 85, 3) := by decide +kernel
theorem dX12_told_99 : decode cX12_told 99 = .ok (.goto 13, 3) := by decide +kernel
theorem dX12_told_102 : decode cX12_told 102 = .ok (.iload_n 1, 1) := by decide +kernel
theorem dX12_told_103 : decode cX12_told 103 = .ok (.iconst 1, 1) := by decide +kernel
theorem dX12_told_104 : decode cX12_told 104 = .ok (.if_icmp .ne 7, 3) := by decide +kernel
theorem dX12_told_107 : decode cX12_told 107 = .ok (.iload_n 3, 1) := by decide +kernel
theorem dX12_told_108 : decode cX12_told 108 = .ok (.goto 4, 3) := by decide +kernel
theorem dX12_told_111 : decode cX12_told 111 = .ok (.iload_n 2, 1) := by decide +kernel
theorem dX12_told_112 : decode cX12_told 112 = .ok (.ireturn, 1) := by decide +kernel
theorem dX12_word_0 : decode cX12_word 0 = .ok (.aload_n 0, 1) := by decide +kernel
theorem dX12_word_1 : decode cX12_word 1 = .ok (.iconst 0, 1) := by decide +kernel
theorem dX12_word_2 : decode cX12_word 2 = .ok (.putfield 68, 3) := by decide +kernel
theorem dX12_word_5 : decode cX12_word 5 = .ok (.iload_n 1, 1) := by decide +kernel
theorem dX12_word_6 : decode cX12_word 6 = .ok (.ifCond .ge 7, 3) := by decide +kernel
theorem dX12_word_9 : decode cX12_word 9 = .ok (.ldc2_w 133, 3) := by decide +kernel
theorem dX12_word_12 : decode cX12_word 12 = .ok (.lreturn, 1) := by decide +kernel
theorem dX12_word_13 : decode cX12_word 13 = .ok (.aload_n 0, 1) := by decide +kernel
theorem dX12_word_14 : decode cX12_word 14 = .ok (.ldc2_w 133, 3) := by decide +kernel
theorem dX12_word_17 : decode cX12_word 17 = .ok (.invokevirtual 135, 3) := by decide +kernel
theorem dX12_word_20 : decode cX12_word 20 = .ok (.lstore_n 2, 1) := by decide +kernel
theorem dX12_word_21 : decode cX12_word 21 = .ok (.iconst 0, 1) := by decide +kernel
theorem dX12_word_22 : decode cX12_word 22 = .ok (.istore 4, 2) := by decide +kernel
theorem dX12_word_24 : decode cX12_word 24 = .ok (.iload 4, 2) := by decide +kernel
theorem dX12_word_26 : decode cX12_word 26 = .ok (.iload_n 1, 1) := by decide +kernel
theorem dX12_word_27 : decode cX12_word 27 = .ok (.if_icmp .ge 21, 3) := by decide +kernel
theorem dX12_word_30 : decode cX12_word 30 = .ok (.lload_n 2, 1) := by decide +kernel
theorem dX12_word_31 : decode cX12_word 31 = .ok (.lconst 0, 1) := by decide +kernel
theorem dX12_word_32 : decode cX12_word 32 = .ok (.lcmp, 1) := by decide +kernel
theorem dX12_word_33 : decode cX12_word 33 = .ok (.ifCond .lt 15, 3) := by decide +kernel
theorem dX12_word_36 : decode cX12_word 36 = .ok (.aload_n 0, 1) := by decide +kernel
theorem dX12_word_37 : decode cX12_word 37 = .ok (.lload_n 2, 1) := by decide +kernel
theorem dX12_word_38 : decode cX12_word 38 = .ok (.invokevirtual 135, 3) := by decide +kernel
theorem dX12_word_41 : decode cX12_word 41 = .ok (.lstore_n 2, 1) := by decide +kernel
theorem dX12_word_42 : decode cX12_word 42 = .ok (.iinc 4 1, 3) := by decide +kernel
theorem dX12_word_45 : decode cX12_word 45 = .ok (.goto (-21), 3) := by decide +kernel
theorem dX12_word_48 : decode cX12_word 48 = .ok (.lload_n 2, 1) := by decide +kernel
theorem dX12_word_49 : decode cX12_word 49 = .ok (.lconst 0, 1) := by decide +kernel
theorem dX12_word_50 : decode cX12_word 50 = .ok (.lcmp, 1) := by decide +kernel
theorem dX12_word_51 : decode cX12_word 51 = .ok (.ifCond .ge 7, 3) := by decide +kernel
theorem dX12_word_54 : decode cX12_word 54 = .ok (.ldc2_w 133, 3) := by decide +kernel
theorem dX12_word_57 : decode cX12_word 57 = .ok (.lreturn, 1) := by decide +kernel
theorem dX12_word_58 : decode cX12_word 58 = .ok (.lconst 0, 1) := by decide +kernel
theorem dX12_word_59 : decode cX12_word 59 = .ok (.lstore 4, 2) := by decide +kernel
theorem dX12_word_61 : decode cX12_word 61 = .ok (.iconst 0, 1) := by decide +kernel
theorem dX12_word_62 : decode cX12_word 62 = .ok (.istore 6, 2) := by decide +kernel
theorem dX12_word_64 : decode cX12_word 64 = .ok (.iload 6, 2) := by decide +kernel
theorem dX12_word_66 : decode cX12_word 66 = .ok (.bipush 12, 2) := by decide +kernel
theorem dX12_word_68 : decode cX12_word 68 = .ok (.if_icmp .ge 32, 3) := by decide +kernel
theorem dX12_word_71 : decode cX12_word 71 = .ok (.lload 4, 2) := by decide +kernel
theorem dX12_word_73 : decode cX12_word 73 = .ok (.lload_n 2, 1) := by decide +kernel
theorem dX12_word_74 : decode cX12_word 74 = .ok (.bipush 55, 2) := by decide +kernel
theorem dX12_word_76 : decode cX12_word 76 = .ok (.iconst 5, 1) := by decide +kernel
theorem dX12_word_77 : decode cX12_word 77 = .ok (.iload 6, 2) := by decide +kernel
theorem dX12_word_79 : decode cX12_word 79 = .ok (.imul, 1) := by decide +kernel
theorem dX12_word_80 : decode cX12_word 80 = .ok (.isub, 1) := by decide +kernel
theorem dX12_word_81 : decode cX12_word 81 = .ok (.lshr, 1) := by decide +kernel
theorem dX12_word_82 : decode cX12_word 82 = .ok (.ldc2_w 139, 3) := by decide +kernel
theorem dX12_word_85 : decode cX12_word 85 = .ok (.land, 1) := by decide +kernel
theorem dX12_word_86 : decode cX12_word 86 = .ok (.iconst 5, 1) := by decide +kernel
theorem dX12_word_87 : decode cX12_word 87 = .ok (.iload 6, 2) := by decide +kernel
theorem dX12_word_89 : decode cX12_word 89 = .ok (.imul, 1) := by decide +kernel
theorem dX12_word_90 : decode cX12_word 90 = .ok (.lshl, 1) := by decide +kernel
theorem dX12_word_91 : decode cX12_word 91 = .ok (.lor, 1) := by decide +kernel
theorem dX12_word_92 : decode cX12_word 92 = .ok (.lstore 4, 2) := by decide +kernel
theorem dX12_word_94 : decode cX12_word 94 = .ok (.iinc 6 1, 3) := by decide +kernel
theorem dX12_word_97 : decode cX12_word 97 = .ok (.goto (-33), 3) := by decide +kernel
theorem dX12_word_100 : decode cX12_word 100 = .ok (.lload 4, 2) := by decide +kernel
theorem dX12_word_102 : decode cX12_word 102 = .ok (.lreturn, 1) := by decide +kernel
theorem dX12_about_0 : decode cX12_about 0 = .ok (.aload_n 0, 1) := by decide +kernel
theorem dX12_about_1 : decode cX12_about 1 = .ok (.iload_n 1, 1) := by decide +kernel
theorem dX12_about_2 : decode cX12_about 2 = .ok (.ifCond .lt 8, 3) := by decide +kernel
theorem dX12_about_5 : decode cX12_about 5 = .ok (.iload_n 1, 1) := by decide +kernel
theorem dX12_about_6 : decode cX12_about 6 = .ok (.iconst 2, 1) := by decide +kernel
theorem dX12_about_7 : decode cX12_about 7 = .ok (.if_icmp .le 7, 3) := by decide +kernel
theorem dX12_about_10 : decode cX12_about 10 = .ok (.iconst 1, 1) := by decide +kernel
theorem dX12_about_11 : decode cX12_about 11 = .ok (.goto 4, 3) := by decide +kernel
theorem dX12_about_14 : decode cX12_about 14 = .ok (.iconst 0, 1) := by decide +kernel
theorem dX12_about_15 : decode cX12_about 15 = .ok (.putfield 68, 3) := by decide +kernel
theorem dX12_about_18 : decode cX12_about 18 = .ok (.aload_n 0, 1) := by decide +kernel
theorem dX12_about_19 : decode cX12_about 19 = .ok (.getfield 68, 3) := by decide +kernel
theorem dX12_about_22 : decode cX12_about 22 = .ok (.ifCond .le 5, 3) := by decide +kernel
theorem dX12_about_25 : decode cX12_about 25 = .ok (.iconst 0, 1) := by decide +kernel
theorem dX12_about_26 : decode cX12_about 26 = .ok (.ireturn, 1) := by decide +kernel
theorem dX12_about_27 : decode cX12_about 27 = .ok (.aload_n 0, 1) := by decide +kernel
theorem dX12_about_28 : decode cX12_about 28 = .ok (.invokevirtual 130, 3) := by decide +kernel
theorem dX12_about_31 : decode cX12_about 31 = .ok (.aload_n 0, 1) := by decide +kernel
theorem dX12_about_32 : decode cX12_about 32 = .ok (.getfield 71, 3) := by decide +kernel
theorem dX12_about_35 : decode cX12_about 35 = .ok (.ifCond .ne 5, 3) := by decide +kernel
theorem dX12_about_38 : decode cX12_about 38 = .ok (.iconst (-1), 1) := by decide +kernel
theorem dX12_about_39 : decode cX12_about 39 = .ok (.ireturn, 1) := by decide +kernel
theorem dX12_about_40 : decode cX12_about 40 = .ok (.iconst 0, 1) := by decide +kernel
theorem dX12_about_41 : decode cX12_about 41 = .ok (.istore_n 2, 1) := by decide +kernel
theorem dX12_about_42 : decode cX12_about 42 = .ok (.iconst 0, 1) := by decide +kernel
theorem dX12_about_43 : decode cX12_about 43 = .ok (.istore_n 3, 1) := by decide +kernel
theorem dX12_about_44 : decode cX12_about 44 = .ok (.iload_n 3, 1) := by decide +kernel
theorem dX12_about_45 : decode cX12_about 45 = .ok (.aload_n 0, 1) := by decide +kernel
theorem dX12_about_46 : decode cX12_about 46 = .ok (.getfield 85, 3) := by decide +kernel
theorem dX12_about_49 : decode cX12_about 49 = .ok (.if_icmp .ge 23, 3) := by decide +kernel
theorem dX12_about_52 : decode cX12_about 52 = .ok (.iload_n 2, 1) := by decide +kernel
theorem dX12_about_53 : decode cX12_about 53 = .ok (.aload_n 0, 1) := by decide +kernel
theorem dX12_about_54 : decode cX12_about 54 = .ok (.iload_n 3, 1) := by decide +kernel
theorem dX12_about_55 : decode cX12_about 55 = .ok (.aload_n 0, 1) := by decide +kernel
theorem dX12_about_56 : decode cX12_about 56 = .ok (.getfield 23, 3) := by decide +kernel
theorem dX12_about_59 : decode cX12_about 59 = .ok (.iconst 0, 1) := by decide +kernel
theorem dX12_about_60 : decode cX12_about 60 = .ok (.laload, 1) := by decide +kernel
theorem dX12_about_61 : decode cX12_about 61 = .ok (.invokevirtual 88, 3) := by decide +kernel
theorem dX12_about_64 : decode cX12_about 64 = .ok (.iadd, 1) := by decide +kernel
theorem dX12_about_65 : decode cX12_about 65 = .ok (.istore_n 2, 1) := by decide +kernel
theorem dX12_about_66 : decode cX12_about 66 = .ok (.iinc 3 1, 3) := by decide +kernel
theorem dX12_about_69 : decode cX12_about 69 = .ok (.goto (-25), 3) := by decide +kernel
theorem dX12_about_72 : decode cX12_about 72 = .ok (.iload_n 1, 1) := by decide +kernel
theorem dX12_about_73 : decode cX12_about 73 = .ok (.ifCond .ne 16, 3) := by decide +kernel
theorem dX12_about_76 : decode cX12_about 76 = .ok (.aload_n 0, 1) := by decide +kernel
theorem dX12_about_77 : decode cX12_about 77 = .ok (.aload_n 0, 1) := by decide +kernel
theorem dX12_about_78 : decode cX12_about 78 = .ok (.getfield 23, 3) := by decide +kernel
theorem dX12_about_81 : decode cX12_about 81 = .ok (.iconst 0, 1) := by decide +kernel
theorem dX12_about_82 : decode cX12_about 82 = .ok (.laload, 1) := by decide +kernel
theorem dX12_about_83 : decode cX12_about 83 = .ok (.invokevirtual 115, 3) := by decide +kernel
theorem dX12_about_86 : decode cX12_about 86 = .ok (.goto 22, 3) := by decide +kernel
theorem dX12_about_89 : decode cX12_about 89 = .ok (.iload_n 1, 1) := by decide +kernel
theorem dX12_about_90 : decode cX12_about 90 = .ok (.iconst 1, 1) := by decide +kernel
theorem dX12_about_91 : decode cX12_about 91 = .ok (.if_icmp .ne 16, 3) := by decide +kernel
theorem dX12_about_94 : decode cX12_about 94 = .ok (.aload_n 0, 1) := by decide +kernel
theorem dX12_about_95 : decode cX12_about 95 = .ok (.aload_n 0, 1) := by decide +kernel
theorem dX12_about_96 : decode cX12_about 96 = .ok (.getfield 23, 3) := by decide +kernel
theorem dX12_about_99 : decode cX12_about 99 = .ok (.iconst 0, 1) := by decide +kernel
theorem dX12_about_100 : decode cX12_about 100 = .ok (.laload, 1) := by decide +kernel
theorem dX12_about_101 : decode cX12_about 101 = .ok (.invokevirtual 141, 3) := by decide +kernel
theorem dX12_about_104 : decode cX12_about 104 = .ok (.goto 4, 3) := by decide +kernel
theorem dX12_about_107 : decode cX12_about 107 = .ok (.iload_n 2, 1) := by decide +kernel
theorem dX12_about_108 : decode cX12_about 108 = .ok (.ireturn, 1) := by decide +kernel
theorem dX12_byteAt_0 : decode cX12_byteAt 0 = .ok (.iload_n 1, 1) := by decide +kernel
theorem dX12_byteAt_1 : decode cX12_byteAt 1 = .ok (.aload_n 0, 1) := by decide +kernel
theorem dX12_byteAt_2 : decode cX12_byteAt 2 = .ok (.getfield 74, 3) := by decide +kernel
theorem dX12_byteAt_5 : decode cX12_byteAt 5 = .ok (.if_icmp .ge 12, 3) := by decide +kernel
theorem dX12_byteAt_8 : decode cX12_byteAt 8 = .ok (.aload_n 0, 1) := by decide +kernel
theorem dX12_byteAt_9 : decode cX12_byteAt 9 = .ok (.getfield 7, 3) := by decide +kernel
theorem dX12_byteAt_12 : decode cX12_byteAt 12 = .ok (.iload_n 1, 1) := by decide +kernel
theorem dX12_byteAt_13 : decode cX12_byteAt 13 = .ok (.iaload, 1) := by decide +kernel
theorem dX12_byteAt_14 : decode cX12_byteAt 14 = .ok (.goto 4, 3) := by decide +kernel
theorem dX12_byteAt_17 : decode cX12_byteAt 17 = .ok (.iconst (-1), 1) := by decide +kernel
theorem dX12_byteAt_18 : decode cX12_byteAt 18 = .ok (.ireturn, 1) := by decide +kernel
theorem dX12_isBlank_0 : decode cX12_isBlank 0 = .ok (.aload_n 0, 1) := by decide +kernel
theorem dX12_isBlank_1 : decode cX12_isBlank 1 = .ok (.getfield 144, 3) := by decide +kernel
theorem dX12_isBlank_4 : decode cX12_isBlank 4 = .ok (.aload_n 0, 1) := by decide +kernel
theorem dX12_isBlank_5 : decode cX12_isBlank 5 = .ok (.getfield 74, 3) := by decide +kernel
theorem dX12_isBlank_8 : decode cX12_isBlank 8 = .ok (.if_icmp .ge 21, 3) := by decide +kernel
theorem dX12_isBlank_11 : decode cX12_isBlank 11 = .ok (.aload_n 0, 1) := by decide +kernel
theorem dX12_isBlank_12 : decode cX12_isBlank 12 = .ok (.getfield 7, 3) := by decide +kernel
theorem dX12_isBlank_15 : decode cX12_isBlank 15 = .ok (.aload_n 0, 1) := by decide +kernel
theorem dX12_isBlank_16 : decode cX12_isBlank 16 = .ok (.getfield 144, 3) := by decide +kernel
theorem dX12_isBlank_19 : decode cX12_isBlank 19 = .ok (.iaload, 1) := by decide +kernel
theorem dX12_isBlank_20 : decode cX12_isBlank 20 = .ok (.bipush 32, 2) := by decide +kernel
theorem dX12_isBlank_22 : decode cX12_isBlank 22 = .ok (.if_icmp .gt 7, 3) := by decide +kernel
theorem dX12_isBlank_25 : decode cX12_isBlank 25 = .ok (.iconst 1, 1) := by decide +kernel
theorem dX12_isBlank_26 : decode cX12_isBlank 26 = .ok (.goto 4, 3) := by decide +kernel
theorem dX12_isBlank_29 : decode cX12_isBlank 29 = .ok (.iconst 0, 1) := by decide +kernel
theorem dX12_isBlank_30 : decode cX12_isBlank 30 = .ok (.ireturn, 1) := by decide +kernel
theorem dX12_skip_0 : decode cX12_skip 0 = .ok (.aload_n 0, 1) := by decide +kernel
theorem dX12_skip_1 : decode cX12_skip 1 = .ok (.invokevirtual 147, 3) := by decide +kernel
theorem dX12_skip_4 : decode cX12_skip 4 = .ok (.ifCond .eq 16, 3) := by decide +kernel
theorem dX12_skip_7 : decode cX12_skip 7 = .ok (.aload_n 0, 1) := by decide +kernel
theorem dX12_skip_8 : decode cX12_skip 8 = .ok (.dup, 1) := by decide +kernel
theorem dX12_skip_9 : decode cX12_skip 9 = .ok (.getfield 144, 3) := by decide +kernel
theorem dX12_skip_12 : decode cX12_skip 12 = .ok (.iconst 1, 1) := by decide +kernel
theorem dX12_skip_13 : decode cX12_skip 13 = .ok (.iadd, 1) := by decide +kernel
theorem dX12_skip_14 : decode cX12_skip 14 = .ok (.putfield 144, 3) := by decide +kernel
theorem dX12_skip_17 : decode cX12_skip 17 = .ok (.goto (-17), 3) := by decide +kernel
theorem dX12_skip_20 : decode cX12_skip 20 = .ok (.return_, 1) := by decide +kernel
theorem dX12_bad_0 : decode cX12_bad 0 = .ok (.aload_n 0, 1) := by decide +kernel
theorem dX12_bad_1 : decode cX12_bad 1 = .ok (.iload_n 1, 1) := by decide +kernel
theorem dX12_bad_2 : decode cX12_bad 2 = .ok (.ifCond .eq 10, 3) := by decide +kernel
theorem dX12_bad_5 : decode cX12_bad 5 = .ok (.aload_n 0, 1) := by decide +kernel
theorem dX12_bad_6 : decode cX12_bad 6 = .ok (.getfield 151, 3) := by decide +kernel
theorem dX12_bad_9 : decode cX12_bad 9 = .ok (.goto 4, 3) := by decide +kernel
theorem dX12_bad_12 : decode cX12_bad 12 = .ok (.iload_n 2, 1) := by decide +kernel
theorem dX12_bad_13 : decode cX12_bad 13 = .ok (.putfield 151, 3) := by decide +kernel
theorem dX12_bad_16 : decode cX12_bad 16 = .ok (.aload_n 0, 1) := by decide +kernel
theorem dX12_bad_17 : decode cX12_bad 17 = .ok (.iload_n 1, 1) := by decide +kernel
theorem dX12_bad_18 : decode cX12_bad 18 = .ok (.ifCond .eq 10, 3) := by decide +kernel
theorem dX12_bad_21 : decode cX12_bad 21 = .ok (.aload_n 0, 1) := by decide +kernel
theorem dX12_bad_22 : decode cX12_bad 22 = .ok (.getfield 42, 3) := by decide +kernel
theorem dX12_bad_25 : decode cX12_bad 25 = .ok (.goto 7, 3) := by decide +kernel
theorem dX12_bad_28 : decode cX12_bad 28 = .ok (.aload_n 0, 1) := by decide +kernel
theorem dX12_bad_29 : decode cX12_bad 29 = .ok (.getfield 144, 3) := by decide +kernel
theorem dX12_bad_32 : decode cX12_bad 32 = .ok (.putfield 42, 3) := by decide +kernel
theorem dX12_bad_35 : decode cX12_bad 35 = .ok (.iload_n 1, 1) := by decide +kernel
theorem dX12_bad_36 : decode cX12_bad 36 = .ok (.ifCond .ne 7, 3) := by decide +kernel
theorem dX12_bad_39 : decode cX12_bad 39 = .ok (.iconst 1, 1) := by decide +kernel
theorem dX12_bad_40 : decode cX12_bad 40 = .ok (.goto 4, 3) := by decide +kernel
theorem dX12_bad_43 : decode cX12_bad 43 = .ok (.iconst 0, 1) := by decide +kernel
theorem dX12_bad_44 : decode cX12_bad 44 = .ok (.ireturn, 1) := by decide +kernel
theorem dX12_isTermBad_0 : decode cX12_isTermBad 0 = .ok (.aload_n 0, 1) := by decide +kernel
theorem dX12_isTermBad_1 : decode cX12_isTermBad 1 = .ok (.getfield 154, 3) := by decide +kernel
theorem dX12_isTermBad_4 : decode cX12_isTermBad 4 = .ok (.istore_n 1, 1) := by decide +kernel
theorem dX12_isTermBad_5 : decode cX12_isTermBad 5 = .ok (.aload_n 0, 1) := by decide +kernel
theorem dX12_isTermBad_6 : decode cX12_isTermBad 6 = .ok (.getfield 36, 3) := by decide +kernel
theorem dX12_isTermBad_9 : decode cX12_isTermBad 9 = .ok (.iload_n 1, 1) := by decide +kernel
theorem dX12_isTermBad_10 : decode cX12_isTermBad 10 = .ok (.aload_n 0, 1) := by decide +kernel
theorem dX12_isTermBad_11 : decode cX12_isTermBad 11 = .ok (.aload_n 0, 1) := by decide +kernel
theorem dX12_isTermBad_12 : decode cX12_isTermBad 12 = .ok (.getfield 144, 3) := by decide +kernel
theorem dX12_isTermBad_15 : decode cX12_isTermBad 15 = .ok (.invokevirtual 157, 3) := by decide +kernel
theorem dX12_isTermBad_18 : decode cX12_isTermBad 18 = .ok (.bipush 43, 2) := by decide +kernel
theorem dX12_isTermBad_20 : decode cX12_isTermBad 20 = .ok (.if_icmp .ne 7, 3) := by decide +kernel
theorem dX12_isTermBad_23 : decode cX12_isTermBad 23 = .ok (.iconst 1, 1) := by decide +kernel
theorem dX12_isTermBad_24 : decode cX12_isTermBad 24 = .ok (.goto 21, 3) := by decide +kernel
theorem dX12_isTermBad_27 : decode cX12_isTermBad 27 = .ok (.aload_n 0, 1) := by decide +kernel
theorem dX12_isTermBad_28 : decode cX12_isTermBad 28 = .ok (.aload_n 0, 1) := by decide +kernel
theorem dX12_isTermBad_29 : decode cX12_isTermBad 29 = .ok (.getfield 144, 3) := by decide +kernel
theorem dX12_isTermBad_32 : decode cX12_isTermBad 32 = .ok (.invokevirtual 157, 3) := by decide +kernel
theorem dX12_isTermBad_35 : decode cX12_isTermBad 35 = .ok (.bipush 45, 2) := by decide +kernel
theorem dX12_isTermBad_37 : decode cX12_isTermBad 37 = .ok (.if_icmp .ne 7, 3) := by decide +kernel
theorem dX12_isTermBad_40 : decode cX12_isTermBad 40 = .ok (.iconst 2, 1) := by decide +kernel
theorem dX12_isTermBad_41 : decode cX12_isTermBad 41 = .ok (.goto 4, 3) := by decide +kernel
theorem dX12_isTermBad_44 : decode cX12_isTermBad 44 = .ok (.iconst 0, 1) := by decide +kernel
theorem dX12_isTermBad_45 : decode cX12_isTermBad 45 = .ok (.iastore, 1) := by decide +kernel
theorem dX12_isTermBad_46 : decode cX12_isTermBad 46 = .ok (.aload_n 0, 1) := by decide +kernel
theorem dX12_isTermBad_47 : decode cX12_isTermBad 47 = .ok (.aload_n 0, 1) := by decide +kernel
theorem dX12_isTermBad_48 : decode cX12_isTermBad 48 = .ok (.getfield 36, 3) := by decide +kernel
theorem dX12_isTermBad_51 : decode cX12_isTermBad 51 = .ok (.iload_n 1, 1) := by decide +kernel
theorem dX12_isTermBad_52 : decode cX12_isTermBad 52 = .ok (.iaload, 1) := by decide +kernel
theorem dX12_isTermBad_53 : decode cX12_isTermBad 53 = .ok (.ifCond .le 12, 3) := by decide +kernel
theorem dX12_isTermBad_56 : decode cX12_isTermBad 56 = .ok (.aload_n 0, 1) := by decide +kernel
theorem dX12_isTermBad_57 : decode cX12_isTermBad 57 = .ok (.getfield 144, 3) := by decide +kernel
theorem dX12_isTermBad_60 : decode cX12_isTermBad 60 = .ok (.iconst 1, 1) := by decide +kernel
theorem dX12_isTermBad_61 : decode cX12_isTermBad 61 = .ok (.iadd, 1) := by decide +kernel
theorem dX12_isTermBad_62 : decode cX12_isTermBad 62 = .ok (.goto 7, 3) := by decide +kernel
theorem dX12_isTermBad_65 : decode cX12_isTermBad 65 = .ok (.aload_n 0, 1) := by decide +kernel
theorem dX12_isTermBad_66 : decode cX12_isTermBad 66 = .ok (.getfield 144, 3) := by decide +kernel
theorem dX12_isTermBad_69 : decode cX12_isTermBad 69 = .ok (.putfield 144, 3) := by decide +kernel
theorem dX12_isTermBad_72 : decode cX12_isTermBad 72 = .ok (.aload_n 0, 1) := by decide +kernel
theorem dX12_isTermBad_73 : decode cX12_isTermBad 73 = .ok (.getfield 26, 3) := by decide +kernel
theorem dX12_isTermBad_76 : decode cX12_isTermBad 76 = .ok (.iload_n 1, 1) := by decide +kernel
theorem dX12_isTermBad_77 : decode cX12_isTermBad 77 = .ok (.lconst 0, 1) := by decide +kernel
theorem dX12_isTermBad_78 : decode cX12_isTermBad 78 = .ok (.lastore, 1) := by decide +kernel
theorem dX12_isTermBad_79 : decode cX12_isTermBad 79 = .ok (.iconst 0, 1) := by decide +kernel
theorem dX12_isTermBad_80 : decode cX12_isTermBad 80 = .ok (.istore_n 2, 1) := by decide +kernel
theorem dX12_isTermBad_81 : decode cX12_isTermBad 81 = .ok (.aload_n 0, 1) := by decide +kernel
theorem dX12_isTermBad_82 : decode cX12_isTermBad 82 = .ok (.aload_n 0, 1) := by decide +kernel
theorem dX12_isTermBad_83 : decode cX12_isTermBad 83 = .ok (.getfield 144, 3) := by decide +kernel
theorem dX12_isTermBad_86 : decode cX12_isTermBad 86 = .ok (.aload_n 0, 1) := by decide +kernel
theorem dX12_isTermBad_87 : decode cX12_isTermBad 87 = .ok (.getfield 74, 3) := by decide +kernel
theorem dX12_isTermBad_90 : decode cX12_isTermBad 90 = .ok (.if_icmp .ge 22, 3) := by decide +kernel
theorem dX12_isTermBad_93 : decode cX12_isTermBad 93 = .ok (.aload_n 0, 1) := by decide +kernel
theorem dX12_isTermBad_94 : decode cX12_isTermBad 94 = .ok (.getfield 7, 3) := by decide +kernel
theorem dX12_isTermBad_97 : decode cX12_isTermBad 97 = .ok (.aload_n 0, 1) := by decide +kernel
theorem dX12_isTermBad_98 : decode cX12_isTermBad 98 = .ok (.getfield 144, 3) := by decide +kernel
theorem dX12_isTermBad_101 : decode cX12_isTermBad 101 = .ok (.iaload, 1) := by decide +kernel
theorem dX12_isTermBad_102 : decode cX12_isTermBad 102 = .ok (.invokestatic 77, 3) := by decide +kernel
theorem dX12_isTermBad_105 : decode cX12_isTermBad 105 = .ok (.ifCond .le 7, 3) := by decide +kernel
theorem dX12_isTermBad_108 : decode cX12_isTermBad 108 = .ok (.iconst 1, 1) := by decide +kernel
theorem dX12_isTermBad_109 : decode cX12_isTermBad 109 = .ok (.goto 4, 3) := by decide +kernel
theorem dX12_isTermBad_112 : decode cX12_isTermBad 112 = .ok (.iconst 0, 1) := by decide +kernel
theorem dX12_isTermBad_113 : decode cX12_isTermBad 113 = .ok (.iconst 1, 1) := by decide +kernel
theorem dX12_isTermBad_114 : decode cX12_isTermBad 114 = .ok (.invokevirtual 160, 3) := by decide +kernel
theorem dX12_isTermBad_117 : decode cX12_isTermBad 117 = .ok (.ifCond .eq 5, 3) := by decide +kernel
theorem dX12_isTermBad_120 : decode cX12_isTermBad 120 = .ok (.iconst 1, 1) := by decide +kernel
theorem dX12_isTermBad_121 : decode cX12_isTermBad 121 = .ok (.ireturn, 1) := by decide +kernel
theorem dX12_isTermBad_122 : decode cX12_isTermBad 122 = .ok (.aload_n 0, 1) := by decide +kernel
theorem dX12_isTermBad_123 : decode cX12_isTermBad 123 = .ok (.getfield 144, 3) := by decide +kernel
theorem dX12_isTermBad_126 : decode cX12_isTermBad 126 = .ok (.aload_n 0, 1) := by decide +kernel
theorem dX12_isTermBad_127 : decode cX12_isTermBad 127 = .ok (.getfield 74, 3) := by decide +kernel
theorem dX12_isTermBad_130 : decode cX12_isTermBad 130 = .ok (.if_icmp .ge 83, 3) := by decide +kernel
theorem dX12_isTermBad_133 : decode cX12_isTermBad 133 = .ok (.aload_n 0, 1) := by decide +kernel
theorem dX12_isTermBad_134 : decode cX12_isTermBad 134 = .ok (.getfield 7, 3) := by decide +kernel
theorem dX12_isTermBad_137 : decode cX12_isTermBad 137 = .ok (.aload_n 0, 1) := by decide +kernel
theorem dX12_isTermBad_138 : decode cX12_isTermBad 138 = .ok (.getfield 144, 3) := by decide +kernel
theorem dX12_isTermBad_141 : decode cX12_isTermBad 141 = .ok (.iaload, 1) := by decide +kernel
theorem dX12_isTermBad_142 : decode cX12_isTermBad 142 = .ok (.invokestatic 77, 3) := by decide +kernel
theorem dX12_isTermBad_145 : decode cX12_isTermBad 145 = .ok (.ifCond .le 68, 3) := by decide +kernel
theorem dX12_isTermBad_148 : decode cX12_isTermBad 148 = .ok (.aload_n 0, 1) := by decide +kernel
theorem dX12_isTermBad_149 : decode cX12_isTermBad 149 = .ok (.iload_n 2, 1) := by decide +kernel
theorem dX12_isTermBad_150 : decode cX12_isTermBad 150 = .ok (.bipush 12, 2) := by decide +kernel
theorem dX12_isTermBad_152 : decode cX12_isTermBad 152 = .ok (.if_icmp .ge 7, 3) := by decide +kernel
theorem dX12_isTermBad_155 : decode cX12_isTermBad 155 = .ok (.iconst 1, 1) := by decide +kernel
theorem dX12_isTermBad_156 : decode cX12_isTermBad 156 = .ok (.goto 4, 3) := by decide +kernel
theorem dX12_isTermBad_159 : decode cX12_isTermBad 159 = .ok (.iconst 0, 1) := by decide +kernel
theorem dX12_isTermBad_160 : decode cX12_isTermBad 160 = .ok (.iconst 2, 1) := by decide +kernel
theorem dX12_isTermBad_161 : decode cX12_isTermBad 161 = .ok (.invokevirtual 160, 3) := by decide +kernel
theorem dX12_isTermBad_164 : decode cX12_isTermBad 164 = .ok (.ifCond .eq 5, 3) := by decide +kernel
theorem dX12_isTermBad_167 : decode cX12_isTermBad 167 = .ok (.iconst 1, 1) := by decide +kernel
theorem dX12_isTermBad_168 : decode cX12_isTermBad 168 = .ok (.ireturn, 1) := by decide +kernel
theorem dX12_isTermBad_169 : decode cX12_isTermBad 169 = .ok (.aload_n 0, 1) := by decide +kernel
theorem dX12_isTermBad_170 : decode cX12_isTermBad 170 = .ok (.getfield 26, 3) := by decide +kernel
theorem dX12_isTermBad_173 : decode cX12_isTermBad 173 = .ok (.iload_n 1, 1) := by decide +kernel
theorem dX12_isTermBad_174 : decode cX12_isTermBad 174 = .ok (.aload_n 0, 1) := by decide +kernel
theorem dX12_isTermBad_175 : decode cX12_isTermBad 175 = .ok (.getfield 26, 3) := by decide +kernel
theorem dX12_isTermBad_178 : decode cX12_isTermBad 178 = .ok (.iload_n 1, 1) := by decide +kernel
theorem dX12_isTermBad_179 : decode cX12_isTermBad 179 = .ok (.laload, 1) := by decide +kernel
theorem dX12_isTermBad_180 : decode cX12_isTermBad 180 = .ok (.iload_n 2, 1) := by decide +kernel
theorem dX12_isTermBad_181 : decode cX12_isTermBad 181 = .ok (.aload_n 0, 1) := by decide +kernel
theorem dX12_isTermBad_182 : decode cX12_isTermBad 182 = .ok (.getfield 7, 3) := by decide +kernel
theorem dX12_isTermBad_185 : decode cX12_isTermBad 185 = .ok (.aload_n 0, 1) := by decide +kernel
theorem dX12_isTermBad_186 : decode cX12_isTermBad 186 = .ok (.getfield 144, 3) := by decide +kernel
theorem dX12_isTermBad_189 : decode cX12_isTermBad 189 = .ok (.iaload, 1) := by decide +kernel
theorem dX12_isTermBad_190 : decode cX12_isTermBad 190 = .ok (.invokestatic 77, 3) := by decide +kernel
theorem dX12_isTermBad_193 : decode cX12_isTermBad 193 = .ok (.invokestatic 81, 3) := by decide +kernel
theorem dX12_isTermBad_196 : decode cX12_isTermBad 196 = .ok (.lastore, 1) := by decide +kernel
theorem dX12_isTermBad_197 : decode cX12_isTermBad 197 = .ok (.iinc 2 1, 3) := by decide +kernel
theorem dX12_isTermBad_200 : decode cX12_isTermBad 200 = .ok (.aload_n 0, 1) := by decide +kernel
theorem dX12_isTermBad_201 : decode cX12_isTermBad 201 = .ok (.dup, 1) := by decide +kernel
theorem dX12_isTermBad_202 : decode cX12_isTermBad 202 = .ok (.getfield 144, 3) := by decide +kernel
theorem dX12_isTermBad_205 : decode cX12_isTermBad 205 = .ok (.iconst 1, 1) := by decide +kernel
theorem dX12_isTermBad_206 : decode cX12_isTermBad 206 = .ok (.iadd, 1) := by decide +kernel
theorem dX12_isTermBad_207 : decode cX12_isTermBad 207 = .ok (.putfield 144, 3) := by decide +kernel
theorem dX12_isTermBad_210 : decode cX12_isTermBad 210 = .ok (.goto (-88), 3) := by decide +kernel
theorem dX12_isTermBad_213 : decode cX12_isTermBad 213 = .ok (.aload_n 0, 1) := by decide +kernel
theorem dX12_isTermBad_214 : decode cX12_isTermBad 214 = .ok (.getfield 29, 3) := by decide +kernel
theorem dX12_isTermBad_217 : decode cX12_isTermBad 217 = .ok (.iload_n 1, 1) := by decide +kernel
theorem dX12_isTermBad_218 : decode cX12_isTermBad 218 = .ok (.iload_n 2, 1) := by decide +kernel
theorem dX12_isTermBad_219 : decode cX12_isTermBad 219 = .ok (.iastore, 1) := by decide +kernel
theorem dX12_isTermBad_220 : decode cX12_isTermBad 220 = .ok (.aload_n 0, 1) := by decide +kernel
theorem dX12_isTermBad_221 : decode cX12_isTermBad 221 = .ok (.getfield 32, 3) := by decide +kernel
theorem dX12_isTermBad_224 : decode cX12_isTermBad 224 = .ok (.iload_n 1, 1) := by decide +kernel
theorem dX12_isTermBad_225 : decode cX12_isTermBad 225 = .ok (.aload_n 0, 1) := by decide +kernel
theorem dX12_isTermBad_226 : decode cX12_isTermBad 226 = .ok (.aload_n 0, 1) := by decide +kernel
theorem dX12_isTermBad_227 : decode cX12_isTermBad 227 = .ok (.getfield 144, 3) := by decide +kernel
theorem dX12_isTermBad_230 : decode cX12_isTermBad 230 = .ok (.invokevirtual 157, 3) := by decide +kernel
theorem dX12_isTermBad_233 : decode cX12_isTermBad 233 = .ok (.bipush 42, 2) := by decide +kernel
theorem dX12_isTermBad_235 : decode cX12_isTermBad 235 = .ok (.if_icmp .ne 7, 3) := by decide +kernel
theorem dX12_isTermBad_238 : decode cX12_isTermBad 238 = .ok (.iconst 1, 1) := by decide +kernel
theorem dX12_isTermBad_239 : decode cX12_isTermBad 239 = .ok (.goto 4, 3) := by decide +kernel
theorem dX12_isTermBad_242 : decode cX12_isTermBad 242 = .ok (.iconst 0, 1) := by decide +kernel
theorem dX12_isTermBad_243 : decode cX12_isTermBad 243 = .ok (.bastore, 1) := by decide +kernel
theorem dX12_isTermBad_244 : decode cX12_isTermBad 244 = .ok (.aload_n 0, 1) := by decide +kernel
theorem dX12_isTermBad_245 : decode cX12_isTermBad 245 = .ok (.aload_n 0, 1) := by decide +kernel
theorem dX12_isTermBad_246 : decode cX12_isTermBad 246 = .ok (.getfield 32, 3) := by decide +kernel
theorem dX12_isTermBad_249 : decode cX12_isTermBad 249 = .ok (.iload_n 1, 1) := by decide +kernel
theorem dX12_isTermBad_250 : decode cX12_isTermBad 250 = .ok (.baload, 1) := by decide +kernel
theorem dX12_isTermBad_251 : decode cX12_isTermBad 251 = .ok (.ifCond .eq 12, 3) := by decide +kernel
theorem dX12_isTermBad_254 : decode cX12_isTermBad 254 = .ok (.aload_n 0, 1) := by decide +kernel
theorem dX12_isTermBad_255 : decode cX12_isTermBad 255 = .ok (.getfield 144, 3) := by decide +kernel
theorem dX12_isTermBad_258 : decode cX12_isTermBad 258 = .ok (.iconst 1, 1) := by decide +kernel
theorem dX12_isTermBad_259 : decode cX12_isTermBad 259 = .ok (.iadd, 1) := by decide +kernel
theorem dX12_isTermBad_260 : decode cX12_isTermBad 260 = .ok (.goto 7, 3) := by decide +kernel
theorem dX12_isTermBad_263 : decode cX12_isTermBad 263 = .ok (.aload_n 0, 1) := by decide +kernel
theorem dX12_isTermBad_264 : decode cX12_isTermBad 264 = .ok (.getfield 144, 3) := by decide +kernel
theorem dX12_isTermBad_267 : decode cX12_isTermBad 267 = .ok (.putfield 144, 3) := by decide +kernel
theorem dX12_isTermBad_270 : decode cX12_isTermBad 270 = .ok (.aload_n 0, 1) := by decide +kernel
theorem dX12_isTermBad_271 : decode cX12_isTermBad 271 = .ok (.getfield 39, 3) := by decide +kernel
theorem dX12_isTermBad_274 : decode cX12_isTermBad 274 = .ok (.iload_n 1, 1) := by decide +kernel
theorem dX12_isTermBad_275 : decode cX12_isTermBad 275 = .ok (.iconst 1, 1) := by decide +kernel
theorem dX12_isTermBad_276 : decode cX12_isTermBad 276 = .ok (.iastore, 1) := by decide +kernel
theorem dX12_isTermBad_277 : decode cX12_isTermBad 277 = .ok (.aload_n 0, 1) := by decide +kernel
theorem dX12_isTermBad_278 : decode cX12_isTermBad 278 = .ok (.aload_n 0, 1) := by decide +kernel
theorem dX12_isTermBad_279 : decode cX12_isTermBad 279 = .ok (.getfield 144, 3) := by decide +kernel
theorem dX12_isTermBad_282 : decode cX12_isTermBad 282 = .ok (.invokevirtual 157, 3) := by decide +kernel
theorem dX12_isTermBad_285 : decode cX12_isTermBad 285 = .ok (.bipush 94, 2) := by decide +kernel
theorem dX12_isTermBad_287 : decode cX12_isTermBad 287 = .ok (.if_icmp .ne 82, 3) := by decide +kernel
theorem dX12_isTermBad_290 : decode cX12_isTermBad 290 = .ok (.aload_n 0, 1) := by decide +kernel
theorem dX12_isTermBad_291 : decode cX12_isTermBad 291 = .ok (.dup, 1) := by decide +kernel
theorem dX12_isTermBad_292 : decode cX12_isTermBad 292 = .ok (.getfield 144, 3) := by decide +kernel
theorem dX12_isTermBad_295 : decode cX12_isTermBad 295 = .ok (.iconst 1, 1) := by decide +kernel
theorem dX12_isTermBad_296 : decode cX12_isTermBad 296 = .ok (.iadd, 1) := by decide +kernel
theorem dX12_isTermBad_297 : decode cX12_isTermBad 297 = .ok (.putfield 144, 3) := by decide +kernel
theorem dX12_isTermBad_300 : decode cX12_isTermBad 300 = .ok (.aload_n 0, 1) := by decide +kernel
theorem dX12_isTermBad_301 : decode cX12_isTermBad 301 = .ok (.aload_n 0, 1) := by decide +kernel
theorem dX12_isTermBad_302 : decode cX12_isTermBad 302 = .ok (.aload_n 0, 1) := by decide +kernel
theorem dX12_isTermBad_303 : decode cX12_isTermBad 303 = .ok (.getfield 144, 3) := by decide +kernel
theorem dX12_isTermBad_306 : decode cX12_isTermBad 306 = .ok (.invokevirtual 157, 3) := by decide +kernel
theorem dX12_isTermBad_309 : decode cX12_isTermBad 309 = .ok (.bipush 49, 2) := by decide +kernel
theorem dX12_isTermBad_311 : decode cX12_isTermBad 311 = .ok (.if_icmp .lt 20, 3) := by decide +kernel
theorem dX12_isTermBad_314 : decode cX12_isTermBad 314 = .ok (.aload_n 0, 1) := by decide +kernel
theorem dX12_isTermBad_315 : decode cX12_isTermBad 315 = .ok (.aload_n 0, 1) := by decide +kernel
theorem dX12_isTermBad_316 : decode cX12_isTermBad 316 = .ok (.getfield 144, 3) := by decide +kernel
theorem dX12_isTermBad_319 : decode cX12_isTermBad 319 = .ok (.invokevirtual 157, 3) := by decide +kernel
theorem dX12_isTermBad_322 : decode cX12_isTermBad 322 = .ok (.bipush 57, 2) := by decide +kernel
theorem dX12_isTermBad_324 : decode cX12_isTermBad 324 = .ok (.if_icmp .gt 7, 3) := by decide +kernel
theorem dX12_isTermBad_327 : decode cX12_isTermBad 327 = .ok (.iconst 1, 1) := by decide +kernel
theorem dX12_isTermBad_328 : decode cX12_isTermBad 328 = .ok (.goto 4, 3) := by decide +kernel
theorem dX12_isTermBad_331 : decode cX12_isTermBad 331 = .ok (.iconst 0, 1) := by decide +kernel
theorem dX12_isTermBad_332 : decode cX12_isTermBad 332 = .ok (.iconst 1, 1) := by decide +kernel
theorem dX12_isTermBad_333 : decode cX12_isTermBad 333 = .ok (.invokevirtual 160, 3) := by decide +kernel
theorem dX12_isTermBad_336 : decode cX12_isTermBad 336 = .ok (.ifCond .eq 5, 3) := by decide +kernel
theorem dX12_isTermBad_339 : decode cX12_isTermBad 339 = .ok (.iconst 1, 1) := by decide +kernel
theorem dX12_isTermBad_340 : decode cX12_isTermBad 340 = .ok (.ireturn, 1) := by decide +kernel
theorem dX12_isTermBad_341 : decode cX12_isTermBad 341 = .ok (.aload_n 0, 1) := by decide +kernel
theorem dX12_isTermBad_342 : decode cX12_isTermBad 342 = .ok (.getfield 39, 3) := by decide +kernel
theorem dX12_isTermBad_345 : decode cX12_isTermBad 345 = .ok (.iload_n 1, 1) := by decide +kernel
theorem dX12_isTermBad_346 : decode cX12_isTermBad 346 = .ok (.aload_n 0, 1) := by decide +kernel
theorem dX12_isTermBad_347 : decode cX12_isTermBad 347 = .ok (.getfield 7, 3) := by decide +kernel
theorem dX12_isTermBad_350 : decode cX12_isTermBad 350 = .ok (.aload_n 0, 1) := by decide +kernel
theorem dX12_isTermBad_351 : decode cX12_isTermBad 351 = .ok (.getfield 144, 3) := by decide +kernel
theorem dX12_isTermBad_354 : decode cX12_isTermBad 354 = .ok (.iaload, 1) := by decide +kernel
theorem dX12_isTermBad_355 : decode cX12_isTermBad 355 = .ok (.bipush 48, 2) := by decide +kernel
theorem dX12_isTermBad_357 : decode cX12_isTermBad 357 = .ok (.isub, 1) := by decide +kernel
theorem dX12_isTermBad_358 : decode cX12_isTermBad 358 = .ok (.iastore, 1) := by decide +kernel
theorem dX12_isTermBad_359 : decode cX12_isTermBad 359 = .ok (.aload_n 0, 1) := by decide +kernel
theorem dX12_isTermBad_360 : decode cX12_isTermBad 360 = .ok (.dup, 1) := by decide +kernel
theorem dX12_isTermBad_361 : decode cX12_isTermBad 361 = .ok (.getfield 144, 3) := by decide +kernel
theorem dX12_isTermBad_364 : decode cX12_isTermBad 364 = .ok (.iconst 1, 1) := by decide +kernel
theorem dX12_isTermBad_365 : decode cX12_isTermBad 365 = .ok (.iadd, 1) := by decide +kernel
theorem dX12_isTermBad_366 : decode cX12_isTermBad 366 = .ok (.putfield 144, 3) := by decide +kernel
theorem dX12_isTermBad_369 : decode cX12_isTermBad 369 = .ok (.aload_n 0, 1) := by decide +kernel
theorem dX12_isTermBad_370 : decode cX12_isTermBad 370 = .ok (.dup, 1) := by decide +kernel
theorem dX12_isTermBad_371 : decode cX12_isTermBad 371 = .ok (.getfield 154, 3) := by decide +kernel
theorem dX12_isTermBad_374 : decode cX12_isTermBad 374 = .ok (.iconst 1, 1) := by decide +kernel
theorem dX12_isTermBad_375 : decode cX12_isTermBad 375 = .ok (.iadd, 1) := by decide +kernel
theorem dX12_isTermBad_376 : decode cX12_isTermBad 376 = .ok (.putfield 154, 3) := by decide +kernel
theorem dX12_isTermBad_379 : decode cX12_isTermBad 379 = .ok (.aload_n 0, 1) := by decide +kernel
theorem dX12_isTermBad_380 : decode cX12_isTermBad 380 = .ok (.aload_n 0, 1) := by decide +kernel
theorem dX12_isTermBad_381 : decode cX12_isTermBad 381 = .ok (.getfield 144, 3) := by decide +kernel
theorem dX12_isTermBad_384 : decode cX12_isTermBad 384 = .ok (.aload_n 0, 1) := by decide +kernel
theorem dX12_isTermBad_385 : decode cX12_isTermBad 385 = .ok (.getfield 74, 3) := by decide +kernel
theorem dX12_isTermBad_388 : decode cX12_isTermBad 388 = .ok (.if_icmp .eq 10, 3) := by decide +kernel
theorem dX12_isTermBad_391 : decode cX12_isTermBad 391 = .ok (.aload_n 0, 1) := by decide +kernel
theorem dX12_isTermBad_392 : decode cX12_isTermBad 392 = .ok (.invokevirtual 147, 3) := by decide +kernel
theorem dX12_isTermBad_395 : decode cX12_isTermBad 395 = .ok (.ifCond .eq 7, 3) := by decide +kernel
theorem dX12_isTermBad_398 : decode cX12_isTermBad 398 = .ok (.iconst 1, 1) := by decide +kernel
theorem dX12_isTermBad_399 : decode cX12_isTermBad 399 = .ok (.goto 4, 3) := by decide +kernel
theorem dX12_isTermBad_402 : decode cX12_isTermBad 402 = .ok (.iconst 0, 1) := by decide +kernel
theorem dX12_isTermBad_403 : decode cX12_isTermBad 403 = .ok (.iconst 1, 1) := by decide +kernel
theorem dX12_isTermBad_404 : decode cX12_isTermBad 404 = .ok (.invokevirtual 160, 3) := by decide +kernel
theorem dX12_isTermBad_407 : decode cX12_isTermBad 407 = .ok (.ireturn, 1) := by decide +kernel
theorem dX12_isTermStart_0 : decode cX12_isTermStart 0 = .ok (.aload_n 0, 1) := by decide +kernel
theorem dX12_isTermStart_1 : decode cX12_isTermStart 1 = .ok (.getfield 7, 3) := by decide +kernel
theorem dX12_isTermStart_4 : decode cX12_isTermStart 4 = .ok (.aload_n 0, 1) := by decide +kernel
theorem dX12_isTermStart_5 : decode cX12_isTermStart 5 = .ok (.getfield 144, 3) := by decide +kernel
theorem dX12_isTermStart_8 : decode cX12_isTermStart 8 = .ok (.iaload, 1) := by decide +kernel
theorem dX12_isTermStart_9 : decode cX12_isTermStart 9 = .ok (.invokestatic 77, 3) := by decide +kernel
theorem dX12_isTermStart_12 : decode cX12_isTermStart 12 = .ok (.ifCond .gt 31, 3) := by decide +kernel
theorem dX12_isTermStart_15 : decode cX12_isTermStart 15 = .ok (.aload_n 0, 1) := by decide +kernel
theorem dX12_isTermStart_16 : decode cX12_isTermStart 16 = .ok (.getfield 7, 3) := by decide +kernel
theorem dX12_isTermStart_19 : decode cX12_isTermStart 19 = .ok (.aload_n 0, 1) := by decide +kernel
theorem dX12_isTermStart_20 : decode cX12_isTermStart 20 = .ok (.getfield 144, 3) := by decide +kernel
theorem dX12_isTermStart_23 : decode cX12_isTermStart 23 = .ok (.iaload, 1) := by decide +kernel
theorem dX12_isTermStart_24 : decode cX12_isTermStart 24 = .ok (.bipush 43, 2) := by decide +kernel
theorem dX12_isTermStart_26 : decode cX12_isTermStart 26 = .ok (.if_icmp .eq 17, 3) := by decide +kernel
theorem dX12_isTermStart_29 : decode cX12_isTermStart 29 = .ok (.aload_n 0, 1) := by decide +kernel
theorem dX12_isTermStart_30 : decode cX12_isTermStart 30 = .ok (.getfield 7, 3) := by decide +kernel
theorem dX12_isTermStart_33 : decode cX12_isTermStart 33 = .ok (.aload_n 0, 1) := by decide +kernel
theorem dX12_isTermStart_34 : decode cX12_isTermStart 34 = .ok (.getfield 144, 3) := by decide +kernel
theorem dX12_isTermStart_37 : decode cX12_isTermStart 37 = .ok (.iaload, 1) := by decide +kernel
theorem dX12_isTermStart_38 : decode cX12_isTermStart 38 = .ok (.bipush 45, 2) := by decide +kernel
theorem dX12_isTermStart_40 : decode cX12_isTermStart 40 = .ok (.if_icmp .ne 7, 3) := by decide +kernel
theorem dX12_isTermStart_43 : decode cX12_isTermStart 43 = .ok (.iconst 1, 1) := by decide +kernel
theorem dX12_isTermStart_44 : decode cX12_isTermStart 44 = .ok (.goto 4, 3) := by decide +kernel
theorem dX12_isTermStart_47 : decode cX12_isTermStart 47 = .ok (.iconst 0, 1) := by decide +kernel
theorem dX12_isTermStart_48 : decode cX12_isTermStart 48 = .ok (.ireturn, 1) := by decide +kernel
theorem dX12_isQuery_0 : decode cX12_isQuery 0 = .ok (.aload_n 0, 1) := by decide +kernel
theorem dX12_isQuery_1 : decode cX12_isQuery 1 = .ok (.iconst 0, 1) := by decide +kernel
theorem dX12_isQuery_2 : decode cX12_isQuery 2 = .ok (.putfield 154, 3) := by decide +kernel
theorem dX12_isQuery_5 : decode cX12_isQuery 5 = .ok (.aload_n 0, 1) := by decide +kernel
theorem dX12_isQuery_6 : decode cX12_isQuery 6 = .ok (.iconst 0, 1) := by decide +kernel
theorem dX12_isQuery_7 : decode cX12_isQuery 7 = .ok (.putfield 144, 3) := by decide +kernel
theorem dX12_isQuery_10 : decode cX12_isQuery 10 = .ok (.aload_n 0, 1) := by decide +kernel
theorem dX12_isQuery_11 : decode cX12_isQuery 11 = .ok (.iconst 0, 1) := by decide +kernel
theorem dX12_isQuery_12 : decode cX12_isQuery 12 = .ok (.putfield 151, 3) := by decide +kernel
theorem dX12_isQuery_15 : decode cX12_isQuery 15 = .ok (.aload_n 0, 1) := by decide +kernel
theorem dX12_isQuery_16 : decode cX12_isQuery 16 = .ok (.iconst (-1), 1) := by decide +kernel
theorem dX12_isQuery_17 : decode cX12_isQuery 17 = .ok (.putfield 42, 3) := by decide +kernel
theorem dX12_isQuery_20 : decode cX12_isQuery 20 = .ok (.aload_n 0, 1) := by decide +kernel
theorem dX12_isQuery_21 : decode cX12_isQuery 21 = .ok (.invokevirtual 164, 3) := by decide +kernel
theorem dX12_isQuery_24 : decode cX12_isQuery 24 = .ok (.aload_n 0, 1) := by decide +kernel
theorem dX12_isQuery_25 : decode cX12_isQuery 25 = .ok (.getfield 144, 3) := by decide +kernel
theorem dX12_isQuery_28 : decode cX12_isQuery 28 = .ok (.aload_n 0, 1) := by decide +kernel
theorem dX12_isQuery_29 : decode cX12_isQuery 29 = .ok (.getfield 74, 3) := by decide +kernel
theorem dX12_isQuery_32 : decode cX12_isQuery 32 = .ok (.if_icmp .ge 53, 3) := by decide +kernel
theorem dX12_isQuery_35 : decode cX12_isQuery 35 = .ok (.aload_n 0, 1) := by decide +kernel
theorem dX12_isQuery_36 : decode cX12_isQuery 36 = .ok (.aload_n 0, 1) := by decide +kernel
theorem dX12_isQuery_37 : decode cX12_isQuery 37 = .ok (.invokevirtual 167, 3) := by decide +kernel
theorem dX12_isQuery_40 : decode cX12_isQuery 40 = .ok (.iconst 1, 1) := by decide +kernel
theorem dX12_isQuery_41 : decode cX12_isQuery 41 = .ok (.invokevirtual 160, 3) := by decide +kernel
theorem dX12_isQuery_44 : decode cX12_isQuery 44 = .ok (.ifCond .ne 32, 3) := by decide +kernel
theorem dX12_isQuery_47 : decode cX12_isQuery 47 = .ok (.aload_n 0, 1) := by decide +kernel
theorem dX12_isQuery_48 : decode cX12_isQuery 48 = .ok (.aload_n 0, 1) := by decide +kernel
theorem dX12_isQuery_49 : decode cX12_isQuery 49 = .ok (.getfield 154, 3) := by decide +kernel
theorem dX12_isQuery_52 : decode cX12_isQuery 52 = .ok (.bipush 16, 2) := by decide +kernel
theorem dX12_isQuery_54 : decode cX12_isQuery 54 = .ok (.if_icmp .ge 7, 3) := by decide +kernel
theorem dX12_isQuery_57 : decode cX12_isQuery 57 = .ok (.iconst 1, 1) := by decide +kernel
theorem dX12_isQuery_58 : decode cX12_isQuery 58 = .ok (.goto 4, 3) := by decide +kernel
theorem dX12_isQuery_61 : decode cX12_isQuery 61 = .ok (.iconst 0, 1) := by decide +kernel
theorem dX12_isQuery_62 : decode cX12_isQuery 62 = .ok (.iconst 3, 1) := by decide +kernel
theorem dX12_isQuery_63 : decode cX12_isQuery 63 = .ok (.invokevirtual 160, 3) := by decide +kernel
theorem dX12_isQuery_66 : decode cX12_isQuery 66 = .ok (.ifCond .ne 10, 3) := by decide +kernel
theorem dX12_isQuery_69 : decode cX12_isQuery 69 = .ok (.aload_n 0, 1) := by decide +kernel
theorem dX12_isQuery_70 : decode cX12_isQuery 70 = .ok (.invokevirtual 170, 3) := by decide +kernel
theorem dX12_isQuery_73 : decode cX12_isQuery 73 = .ok (.ifCond .eq 5, 3) := by decide +kernel
theorem dX12_isQuery_76 : decode cX12_isQuery 76 = .ok (.iconst 0, 1) := by decide +kernel
theorem dX12_isQuery_77 : decode cX12_isQuery 77 = .ok (.ireturn, 1) := by decide +kernel
theorem dX12_isQuery_78 : decode cX12_isQuery 78 = .ok (.aload_n 0, 1) := by decide +kernel
theorem dX12_isQuery_79 : decode cX12_isQuery 79 = .ok (.invokevirtual 164, 3) := by decide +kernel
theorem dX12_isQuery_82 : decode cX12_isQuery 82 = .ok (.goto (-58), 3) := by decide +kernel
theorem dX12_isQuery_85 : decode cX12_isQuery 85 = .ok (.iconst 1, 1) := by decide +kernel
theorem dX12_isQuery_86 : decode cX12_isQuery 86 = .ok (.ireturn, 1) := by decide +kernel
theorem dX12_stands_0 : decode cX12_stands 0 = .ok (.aload_n 0, 1) := by decide +kernel
theorem dX12_stands_1 : decode cX12_stands 1 = .ok (.getfield 32, 3) := by decide +kernel
theorem dX12_stands_4 : decode cX12_stands 4 = .ok (.iload_n 1, 1) := by decide +kernel
theorem dX12_stands_5 : decode cX12_stands 5 = .ok (.baload, 1) := by decide +kernel
theorem dX12_stands_6 : decode cX12_stands 6 = .ok (.ifCond .eq 22, 3) := by decide +kernel
theorem dX12_stands_9 : decode cX12_stands 9 = .ok (.lload_n 2, 1) := by decide +kernel
theorem dX12_stands_10 : decode cX12_stands 10 = .ok (.aload_n 0, 1) := by decide +kernel
theorem dX12_stands_11 : decode cX12_stands 11 = .ok (.getfield 26, 3) := by decide +kernel
theorem dX12_stands_14 : decode cX12_stands 14 = .ok (.iload_n 1, 1) := by decide +kernel
theorem dX12_stands_15 : decode cX12_stands 15 = .ok (.laload, 1) := by decide +kernel
theorem dX12_stands_16 : decode cX12_stands 16 = .ok (.aload_n 0, 1) := by decide +kernel
theorem dX12_stands_17 : decode cX12_stands 17 = .ok (.getfield 29, 3) := by decide +kernel
theorem dX12_stands_20 : decode cX12_stands 20 = .ok (.iload_n 1, 1) := by decide +kernel
theorem dX12_stands_21 : decode cX12_stands 21 = .ok (.iaload, 1) := by decide +kernel
theorem dX12_stands_22 : decode cX12_stands 22 = .ok (.invokestatic 173, 3) := by decide +kernel
theorem dX12_stands_25 : decode cX12_stands 25 = .ok (.goto 19, 3) := by decide +kernel
theorem dX12_stands_28 : decode cX12_stands 28 = .ok (.lload_n 2, 1) := by decide +kernel
theorem dX12_stands_29 : decode cX12_stands 29 = .ok (.aload_n 0, 1) := by decide +kernel
theorem dX12_stands_30 : decode cX12_stands 30 = .ok (.getfield 26, 3) := by decide +kernel
theorem dX12_stands_33 : decode cX12_stands 33 = .ok (.iload_n 1, 1) := by decide +kernel
theorem dX12_stands_34 : decode cX12_stands 34 = .ok (.laload, 1) := by decide +kernel
theorem dX12_stands_35 : decode cX12_stands 35 = .ok (.lcmp, 1) := by decide +kernel
theorem dX12_stands_36 : decode cX12_stands 36 = .ok (.ifCond .ne 7, 3) := by decide +kernel
theorem dX12_stands_39 : decode cX12_stands 39 = .ok (.iconst 1, 1) := by decide +kernel
theorem dX12_stands_40 : decode cX12_stands 40 = .ok (.goto 4, 3) := by decide +kernel
theorem dX12_stands_43 : decode cX12_stands 43 = .ok (.iconst 0, 1) := by decide +kernel
theorem dX12_stands_44 : decode cX12_stands 44 = .ok (.ireturn, 1) := by decide +kernel
theorem dX12_scoreOf_0 : decode cX12_scoreOf 0 = .ok (.iconst 0, 1) := by decide +kernel
theorem dX12_scoreOf_1 : decode cX12_scoreOf 1 = .ok (.istore_n 2, 1) := by decide +kernel
theorem dX12_scoreOf_2 : decode cX12_scoreOf 2 = .ok (.iconst 0, 1) := by decide +kernel
theorem dX12_scoreOf_3 : decode cX12_scoreOf 3 = .ok (.istore_n 3, 1) := by decide +kernel
theorem dX12_scoreOf_4 : decode cX12_scoreOf 4 = .ok (.iload_n 3, 1) := by decide +kernel
theorem dX12_scoreOf_5 : decode cX12_scoreOf 5 = .ok (.aload_n 0, 1) := by decide +kernel
theorem dX12_scoreOf_6 : decode cX12_scoreOf 6 = .ok (.getfield 154, 3) := by decide +kernel
theorem dX12_scoreOf_9 : decode cX12_scoreOf 9 = .ok (.if_icmp .ge 145, 3) := by decide +kernel
theorem dX12_scoreOf_12 : decode cX12_scoreOf 12 = .ok (.iconst 0, 1) := by decide +kernel
theorem dX12_scoreOf_13 : decode cX12_scoreOf 13 = .ok (.istore 4, 2) := by decide +kernel
theorem dX12_scoreOf_15 : decode cX12_scoreOf 15 = .ok (.iconst 0, 1) := by decide +kernel
theorem dX12_scoreOf_16 : decode cX12_scoreOf 16 = .ok (.istore 5, 2) := by decide +kernel
theorem dX12_scoreOf_18 : decode cX12_scoreOf 18 = .ok (.iload 5, 2) := by decide +kernel
theorem dX12_scoreOf_20 : decode cX12_scoreOf 20 = .ok (.aload_n 0, 1) := by decide +kernel
theorem dX12_scoreOf_21 : decode cX12_scoreOf 21 = .ok (.getfield 16, 3) := by decide +kernel
theorem dX12_scoreOf_24 : decode cX12_scoreOf 24 = .ok (.iload_n 1, 1) := by decide +kernel
theorem dX12_scoreOf_25 : decode cX12_scoreOf 25 = .ok (.iaload, 1) := by decide +kernel
theorem dX12_scoreOf_26 : decode cX12_scoreOf 26 = .ok (.if_icmp .ge 90, 3) := by decide +kernel
theorem dX12_scoreOf_29 : decode cX12_scoreOf 29 = .ok (.aload_n 0, 1) := by decide +kernel
theorem dX12_scoreOf_30 : decode cX12_scoreOf 30 = .ok (.getfield 19, 3) := by decide +kernel
theorem dX12_scoreOf_33 : decode cX12_scoreOf 33 = .ok (.sipush 200, 3) := by decide +kernel
theorem dX12_scoreOf_36 : decode cX12_scoreOf 36 = .ok (.iload_n 1, 1) := by decide +kernel
theorem dX12_scoreOf_37 : decode cX12_scoreOf 37 = .ok (.imul, 1) := by decide +kernel
theorem dX12_scoreOf_38 : decode cX12_scoreOf 38 = .ok (.iload 5, 2) := by decide +kernel
theorem dX12_scoreOf_40 : decode cX12_scoreOf 40 = .ok (.iadd, 1) := by decide +kernel
theorem dX12_scoreOf_41 : decode cX12_scoreOf 41 = .ok (.laload, 1) := by decide +kernel
theorem dX12_scoreOf_42 : decode cX12_scoreOf 42 = .ok (.lstore 6, 2) := by decide +kernel
theorem dX12_scoreOf_44 : decode cX12_scoreOf 44 = .ok (.aload_n 0, 1) := by decide +kernel
theorem dX12_scoreOf_45 : decode cX12_scoreOf 45 = .ok (.getfield 55, 3) := by decide +kernel
theorem dX12_scoreOf_48 : decode cX12_scoreOf 48 = .ok (.sipush 200, 3) := by decide +kernel
theorem dX12_scoreOf_51 : decode cX12_scoreOf 51 = .ok (.iload_n 1, 1) := by decide +kernel
theorem dX12_scoreOf_52 : decode cX12_scoreOf 52 = .ok (.imul, 1) := by decide +kernel
theorem dX12_scoreOf_53 : decode cX12_scoreOf 53 = .ok (.iload 5, 2) := by decide +kernel
theorem dX12_scoreOf_55 : decode cX12_scoreOf 55 = .ok (.iadd, 1) := by decide +kernel
theorem dX12_scoreOf_56 : decode cX12_scoreOf 56 = .ok (.baload, 1) := by decide +kernel
theorem dX12_scoreOf_57 : decode cX12_scoreOf 57 = .ok (.ifCond .eq 53, 3) := by decide +kernel
theorem dX12_scoreOf_60 : decode cX12_scoreOf 60 = .ok (.aload_n 0, 1) := by decide +kernel
theorem dX12_scoreOf_61 : decode cX12_scoreOf 61 = .ok (.iload_n 3, 1) := by decide +kernel
theorem dX12_scoreOf_62 : decode cX12_scoreOf 62 = .ok (.lload 6, 2) := by decide +kernel
theorem dX12_scoreOf_64 : decode cX12_scoreOf 64 = .ok (.invokevirtual 177, 3) := by decide +kernel
theorem dX12_scoreOf_67 : decode cX12_scoreOf 67 = .ok (.ifCond .eq 43, 3) := by decide +kernel
theorem dX12_scoreOf_70 : decode cX12_scoreOf 70 = .ok (.iconst 1, 1) := by decide +kernel
theorem dX12_scoreOf_71 : decode cX12_scoreOf 71 = .ok (.istore 4, 2) := by decide +kernel
theorem dX12_scoreOf_73 : decode cX12_scoreOf 73 = .ok (.aload_n 0, 1) := by decide +kernel
theorem dX12_scoreOf_74 : decode cX12_scoreOf 74 = .ok (.getfield 36, 3) := by decide +kernel
theorem dX12_scoreOf_77 : decode cX12_scoreOf 77 = .ok (.iload_n 3, 1) := by decide +kernel
theorem dX12_scoreOf_78 : decode cX12_scoreOf 78 = .ok (.iaload, 1) := by decide +kernel
theorem dX12_scoreOf_79 : decode cX12_scoreOf 79 = .ok (.iconst 2, 1) := by decide +kernel
theorem dX12_scoreOf_80 : decode cX12_scoreOf 80 = .ok (.if_icmp .ne 7, 3) := by decide +kernel
theorem dX12_scoreOf_83 : decode cX12_scoreOf 83 = .ok (.iload_n 2, 1) := by decide +kernel
theorem dX12_scoreOf_84 : decode cX12_scoreOf 84 = .ok (.goto 25, 3) := by decide +kernel
theorem dX12_scoreOf_87 : decode cX12_scoreOf 87 = .ok (.iload_n 2, 1) := by decide +kernel
theorem dX12_scoreOf_88 : decode cX12_scoreOf 88 = .ok (.aload_n 0, 1) := by decide +kernel
theorem dX12_scoreOf_89 : decode cX12_scoreOf 89 = .ok (.getfield 39, 3) := by decide +kernel
theorem dX12_scoreOf_92 : decode cX12_scoreOf 92 = .ok (.iload_n 3, 1) := by decide +kernel
theorem dX12_scoreOf_93 : decode cX12_scoreOf 93 = .ok (.iaload, 1) := by decide +kernel
theorem dX12_scoreOf_94 : decode cX12_scoreOf 94 = .ok (.aload_n 0, 1) := by decide +kernel
theorem dX12_scoreOf_95 : decode cX12_scoreOf 95 = .ok (.getfield 58, 3) := by decide +kernel
theorem dX12_scoreOf_98 : decode cX12_scoreOf 98 = .ok (.sipush 200, 3) := by decide +kernel
theorem dX12_scoreOf_101 : decode cX12_scoreOf 101 = .ok (.iload_n 1, 1) := by decide +kernel
theorem dX12_scoreOf_102 : decode cX12_scoreOf 102 = .ok (.imul, 1) := by decide +kernel
theorem dX12_scoreOf_103 : decode cX12_scoreOf 103 = .ok (.iload 5, 2) := by decide +kernel
theorem dX12_scoreOf_105 : decode cX12_scoreOf 105 = .ok (.iadd, 1) := by decide +kernel
theorem dX12_scoreOf_106 : decode cX12_scoreOf 106 = .ok (.iaload, 1) := by decide +kernel
theorem dX12_scoreOf_107 : decode cX12_scoreOf 107 = .ok (.imul, 1) := by decide +kernel
theorem dX12_scoreOf_108 : decode cX12_scoreOf 108 = .ok (.iadd, 1) := by decide +kernel
theorem dX12_scoreOf_109 : decode cX12_scoreOf 109 = .ok (.istore_n 2, 1) := by decide +kernel
theorem dX12_scoreOf_110 : decode cX12_scoreOf 110 = .ok (.iinc 5 1, 3) := by decide +kernel
theorem dX12_scoreOf_113 : decode cX12_scoreOf 113 = .ok (.goto (-95), 3) := by decide +kernel
theorem dX12_scoreOf_116 : decode cX12_scoreOf 116 = .ok (.aload_n 0, 1) := by decide +kernel
theorem dX12_scoreOf_117 : decode cX12_scoreOf 117 = .ok (.getfield 36, 3) := by decide +kernel
theorem dX12_scoreOf_120 : decode cX12_scoreOf 120 = .ok (.iload_n 3, 1) := by decide +kernel
theorem dX12_scoreOf_121 : decode cX12_scoreOf 121 = .ok (.iaload, 1) := by decide +kernel
theorem dX12_scoreOf_122 : decode cX12_scoreOf 122 = .ok (.iconst 1, 1) := by decide +kernel
theorem dX12_scoreOf_123 : decode cX12_scoreOf 123 = .ok (.if_icmp .ne 8, 3) := by decide +kernel
theorem dX12_scoreOf_126 : decode cX12_scoreOf 126 = .ok (.iload 4, 2) := by decide +kernel
theorem dX12_scoreOf_128 : decode cX12_scoreOf 128 = .ok (.ifCond .eq 18, 3) := by decide +kernel
theorem dX12_scoreOf_131 : decode cX12_scoreOf 131 = .ok (.aload_n 0, 1) := by decide +kernel
theorem dX12_scoreOf_132 : decode cX12_scoreOf 132 = .ok (.getfield 36, 3) := by decide +kernel
theorem dX12_scoreOf_135 : decode cX12_scoreOf 135 = .ok (.iload_n 3, 1) := by decide +kernel
theorem dX12_scoreOf_136 : decode cX12_scoreOf 136 = .ok (.iaload, 1) := by decide +kernel
theorem dX12_scoreOf_137 : decode cX12_scoreOf 137 = .ok (.iconst 2, 1) := by decide +kernel
theorem dX12_scoreOf_138 : decode cX12_scoreOf 138 = .ok (.if_icmp .ne 10, 3) := by decide +kernel
theorem dX12_scoreOf_141 : decode cX12_scoreOf 141 = .ok (.iload 4, 2) := by decide +kernel
theorem dX12_scoreOf_143 : decode cX12_scoreOf 143 = .ok (.ifCond .eq 5, 3) := by decide +kernel
theorem dX12_scoreOf_146 : decode cX12_scoreOf 146 = .ok (.iconst (-1), 1) := by decide +kernel
theorem dX12_scoreOf_147 : decode cX12_scoreOf 147 = .ok (.ireturn, 1) := by decide +kernel
theorem dX12_scoreOf_148 : decode cX12_scoreOf 148 = .ok (.iinc 3 1, 3) := by decide +kernel
theorem dX12_scoreOf_151 : decode cX12_scoreOf 151 = .ok (.goto (-147), 3) := by decide +kernel
theorem dX12_scoreOf_154 : decode cX12_scoreOf 154 = .ok (.iload_n 2, 1) := by decide +kernel
theorem dX12_scoreOf_155 : decode cX12_scoreOf 155 = .ok (.ifCond .le 7, 3) := by decide +kernel
theorem dX12_scoreOf_158 : decode cX12_scoreOf 158 = .ok (.iload_n 2, 1) := by decide +kernel
theorem dX12_scoreOf_159 : decode cX12_scoreOf 159 = .ok (.goto 4, 3) := by decide +kernel
theorem dX12_scoreOf_162 : decode cX12_scoreOf 162 = .ok (.iconst (-1), 1) := by decide +kernel
theorem dX12_scoreOf_163 : decode cX12_scoreOf 163 = .ok (.ireturn, 1) := by decide +kernel
theorem dX12_pick_0 : decode cX12_pick 0 = .ok (.aload_n 0, 1) := by decide +kernel
theorem dX12_pick_1 : decode cX12_pick 1 = .ok (.invokevirtual 112, 3) := by decide +kernel
theorem dX12_pick_4 : decode cX12_pick 4 = .ok (.iconst 0, 1) := by decide +kernel
theorem dX12_pick_5 : decode cX12_pick 5 = .ok (.istore_n 3, 1) := by decide +kernel
theorem dX12_pick_6 : decode cX12_pick 6 = .ok (.iload_n 3, 1) := by decide +kernel
theorem dX12_pick_7 : decode cX12_pick 7 = .ok (.aload_n 0, 1) := by decide +kernel
theorem dX12_pick_8 : decode cX12_pick 8 = .ok (.getfield 85, 3) := by decide +kernel
theorem dX12_pick_11 : decode cX12_pick 11 = .ok (.if_icmp .ge 34, 3) := by decide +kernel
theorem dX12_pick_14 : decode cX12_pick 14 = .ok (.aload_n 0, 1) := by decide +kernel
theorem dX12_pick_15 : decode cX12_pick 15 = .ok (.getfield 46, 3) := by decide +kernel
theorem dX12_pick_18 : decode cX12_pick 18 = .ok (.iload_n 3, 1) := by decide +kernel
theorem dX12_pick_19 : decode cX12_pick 19 = .ok (.aload_n 0, 1) := by decide +kernel
theorem dX12_pick_20 : decode cX12_pick 20 = .ok (.getfield 13, 3) := by decide +kernel
theorem dX12_pick_23 : decode cX12_pick 23 = .ok (.iload_n 3, 1) := by decide +kernel
theorem dX12_pick_24 : decode cX12_pick 24 = .ok (.iaload, 1) := by decide +kernel
theorem dX12_pick_25 : decode cX12_pick 25 = .ok (.iload_n 2, 1) := by decide +kernel
theorem dX12_pick_26 : decode cX12_pick 26 = .ok (.if_icmp .ne 7, 3) := by decide +kernel
theorem dX12_pick_29 : decode cX12_pick 29 = .ok (.iconst (-1), 1) := by decide +kernel
theorem dX12_pick_30 : decode cX12_pick 30 = .ok (.goto 8, 3) := by decide +kernel
theorem dX12_pick_33 : decode cX12_pick 33 = .ok (.aload_n 0, 1) := by decide +kernel
theorem dX12_pick_34 : decode cX12_pick 34 = .ok (.iload_n 3, 1) := by decide +kernel
theorem dX12_pick_35 : decode cX12_pick 35 = .ok (.invokevirtual 181, 3) := by decide +kernel
theorem dX12_pick_38 : decode cX12_pick 38 = .ok (.iastore, 1) := by decide +kernel
theorem dX12_pick_39 : decode cX12_pick 39 = .ok (.iinc 3 1, 3) := by decide +kernel
theorem dX12_pick_42 : decode cX12_pick 42 = .ok (.goto (-36), 3) := by decide +kernel
theorem dX12_pick_45 : decode cX12_pick 45 = .ok (.aload_n 0, 1) := by decide +kernel
theorem dX12_pick_46 : decode cX12_pick 46 = .ok (.iconst 0, 1) := by decide +kernel
theorem dX12_pick_47 : decode cX12_pick 47 = .ok (.putfield 184, 3) := by decide +kernel
theorem dX12_pick_50 : decode cX12_pick 50 = .ok (.iconst 0, 1) := by decide +kernel
theorem dX12_pick_51 : decode cX12_pick 51 = .ok (.istore_n 3, 1) := by decide +kernel
theorem dX12_pick_52 : decode cX12_pick 52 = .ok (.iload_n 3, 1) := by decide +kernel
theorem dX12_pick_53 : decode cX12_pick 53 = .ok (.iload_n 1, 1) := by decide +kernel
theorem dX12_pick_54 : decode cX12_pick 54 = .ok (.if_icmp .ge 177, 3) := by decide +kernel
theorem dX12_pick_57 : decode cX12_pick 57 = .ok (.iconst (-1), 1) := by decide +kernel
theorem dX12_pick_58 : decode cX12_pick 58 = .ok (.istore 4, 2) := by decide +kernel
theorem dX12_pick_60 : decode cX12_pick 60 = .ok (.iconst 0, 1) := by decide +kernel
theorem dX12_pick_61 : decode cX12_pick 61 = .ok (.istore 5, 2) := by decide +kernel
theorem dX12_pick_63 : decode cX12_pick 63 = .ok (.iload 5, 2) := by decide +kernel
theorem dX12_pick_65 : decode cX12_pick 65 = .ok (.aload_n 0, 1) := by decide +kernel
theorem dX12_pick_66 : decode cX12_pick 66 = .ok (.getfield 85, 3) := by decide +kernel
theorem dX12_pick_69 : decode cX12_pick 69 = .ok (.if_icmp .ge 96, 3) := by decide +kernel
theorem dX12_pick_72 : decode cX12_pick 72 = .ok (.iload 4, 2) := by decide +kernel
theorem dX12_pick_74 : decode cX12_pick 74 = .ok (.ifCond .lt 54, 3) := by decide +kernel
theorem dX12_pick_77 : decode cX12_pick 77 = .ok (.aload_n 0, 1) := by decide +kernel
theorem dX12_pick_78 : decode cX12_pick 78 = .ok (.getfield 46, 3) := by decide +kernel
theorem dX12_pick_81 : decode cX12_pick 81 = .ok (.iload 5, 2) := by decide +kernel
theorem dX12_pick_83 : decode cX12_pick 83 = .ok (.iaload, 1) := by decide +kernel
theorem dX12_pick_84 : decode cX12_pick 84 = .ok (.aload_n 0, 1) := by decide +kernel
theorem dX12_pick_85 : decode cX12_pick 85 = .ok (.getfield 46, 3) := by decide +kernel
theorem dX12_pick_88 : decode cX12_pick 88 = .ok (.iload 4, 2) := by decide +kernel
theorem dX12_pick_90 : decode cX12_pick 90 = .ok (.iaload, 1) := by decide +kernel
theorem dX12_pick_91 : decode cX12_pick 91 = .ok (.if_icmp .gt 37, 3) := by decide +kernel
theorem dX12_pick_94 : decode cX12_pick 94 = .ok (.aload_n 0, 1) := by decide +kernel
theorem dX12_pick_95 : decode cX12_pick 95 = .ok (.getfield 46, 3) := by decide +kernel
theorem dX12_pick_98 : decode cX12_pick 98 = .ok (.iload 5, 2) := by decide +kernel
theorem dX12_pick_100 : decode cX12_pick 100 = .ok (.iaload, 1) := by decide +kernel
theorem dX12_pick_101 : decode cX12_pick 101 = .ok (.aload_n 0, 1) := by decide +kernel
theorem dX12_pick_102 : decode cX12_pick 102 = .ok (.getfield 46, 3) := by decide +kernel
theorem dX12_pick_105 : decode cX12_pick 105 = .ok (.iload 4, 2) := by decide +kernel
theorem dX12_pick_107 : decode cX12_pick 107 = .ok (.iaload, 1) := by decide +kernel
theorem dX12_pick_108 : decode cX12_pick 108 = .ok (.if_icmp .ne 24, 3) := by decide +kernel
theorem dX12_pick_111 : decode cX12_pick 111 = .ok (.aload_n 0, 1) := by decide +kernel
theorem dX12_pick_112 : decode cX12_pick 112 = .ok (.getfield 13, 3) := by decide +kernel
theorem dX12_pick_115 : decode cX12_pick 115 = .ok (.iload 5, 2) := by decide +kernel
theorem dX12_pick_117 : decode cX12_pick 117 = .ok (.iaload, 1) := by decide +kernel
theorem dX12_pick_118 : decode cX12_pick 118 = .ok (.aload_n 0, 1) := by decide +kernel
theorem dX12_pick_119 : decode cX12_pick 119 = .ok (.getfield 13, 3) := by decide +kernel
theorem dX12_pick_122 : decode cX12_pick 122 = .ok (.iload 4, 2) := by decide +kernel
theorem dX12_pick_124 : decode cX12_pick 124 = .ok (.iaload, 1) := by decide +kernel
theorem dX12_pick_125 : decode cX12_pick 125 = .ok (.if_icmp .ge 7, 3) := by decide +kernel
theorem dX12_pick_128 : decode cX12_pick 128 = .ok (.iconst 1, 1) := by decide +kernel
theorem dX12_pick_129 : decode cX12_pick 129 = .ok (.goto 4, 3) := by decide +kernel
theorem dX12_pick_132 : decode cX12_pick 132 = .ok (.iconst 0, 1) := by decide +kernel
theorem dX12_pick_133 : decode cX12_pick 133 = .ok (.istore 6, 2) := by decide +kernel
theorem dX12_pick_135 : decode cX12_pick 135 = .ok (.aload_n 0, 1) := by decide +kernel
theorem dX12_pick_136 : decode cX12_pick 136 = .ok (.getfield 46, 3) := by decide +kernel
theorem dX12_pick_139 : decode cX12_pick 139 = .ok (.iload 5, 2) := by decide +kernel
theorem dX12_pick_141 : decode cX12_pick 141 = .ok (.iaload, 1) := by decide +kernel
theorem dX12_pick_142 : decode cX12_pick 142 = .ok (.ifCond .le 13, 3) := by decide +kernel
theorem dX12_pick_145 : decode cX12_pick 145 = .ok (.iload 6, 2) := by decide +kernel
theorem dX12_pick_147 : decode cX12_pick 147 = .ok (.ifCond .eq 8, 3) := by decide +kernel
theorem dX12_pick_150 : decode cX12_pick 150 = .ok (.iload 5, 2) := by decide +kernel
theorem dX12_pick_152 : decode cX12_pick 152 = .ok (.goto 5, 3) := by decide +kernel
theorem dX12_pick_155 : decode cX12_pick 155 = .ok (.iload 4, 2) := by decide +kernel
theorem dX12_pick_157 : decode cX12_pick 157 = .ok (.istore 4, 2) := by decide +kernel
theorem dX12_pick_159 : decode cX12_pick 159 = .ok (.iinc 5 1, 3) := by decide +kernel
theorem dX12_pick_162 : decode cX12_pick 162 = .ok (.goto (-99), 3) := by decide +kernel
theorem dX12_pick_165 : decode cX12_pick 165 = .ok (.iload 4, 2) := by decide +kernel
theorem dX12_pick_167 : decode cX12_pick 167 = .ok (.ifCond .ge 8, 3) := by decide +kernel
theorem dX12_pick_170 : decode cX12_pick 170 = .ok (.aload_n 0, 1) := by decide +kernel
theorem dX12_pick_171 : decode cX12_pick 171 = .ok (.getfield 184, 3) := by decide +kernel
theorem dX12_pick_174 : decode cX12_pick 174 = .ok (.ireturn, 1) := by decide +kernel
theorem dX12_pick_175 : decode cX12_pick 175 = .ok (.aload_n 0, 1) := by decide +kernel
theorem dX12_pick_176 : decode cX12_pick 176 = .ok (.getfield 49, 3) := by decide +kernel
theorem dX12_pick_179 : decode cX12_pick 179 = .ok (.aload_n 0, 1) := by decide +kernel
theorem dX12_pick_180 : decode cX12_pick 180 = .ok (.getfield 184, 3) := by decide +kernel
theorem dX12_pick_183 : decode cX12_pick 183 = .ok (.aload_n 0, 1) := by decide +kernel
theorem dX12_pick_184 : decode cX12_pick 184 = .ok (.getfield 13, 3) := by decide +kernel
theorem dX12_pick_187 : decode cX12_pick 187 = .ok (.iload 4, 2) := by decide +kernel
theorem dX12_pick_189 : decode cX12_pick 189 = .ok (.iaload, 1) := by decide +kernel
theorem dX12_pick_190 : decode cX12_pick 190 = .ok (.iastore, 1) := by decide +kernel
theorem dX12_pick_191 : decode cX12_pick 191 = .ok (.aload_n 0, 1) := by decide +kernel
theorem dX12_pick_192 : decode cX12_pick 192 = .ok (.getfield 52, 3) := by decide +kernel
theorem dX12_pick_195 : decode cX12_pick 195 = .ok (.aload_n 0, 1) := by decide +kernel
theorem dX12_pick_196 : decode cX12_pick 196 = .ok (.getfield 184, 3) := by decide +kernel
theorem dX12_pick_199 : decode cX12_pick 199 = .ok (.aload_n 0, 1) := by decide +kernel
theorem dX12_pick_200 : decode cX12_pick 200 = .ok (.getfield 46, 3) := by decide +kernel
theorem dX12_pick_203 : decode cX12_pick 203 = .ok (.iload 4, 2) := by decide +kernel
theorem dX12_pick_205 : decode cX12_pick 205 = .ok (.iaload, 1) := by decide +kernel
theorem dX12_pick_206 : decode cX12_pick 206 = .ok (.iastore, 1) := by decide +kernel
theorem dX12_pick_207 : decode cX12_pick 207 = .ok (.aload_n 0, 1) := by decide +kernel
theorem dX12_pick_208 : decode cX12_pick 208 = .ok (.getfield 46, 3) := by decide +kernel
theorem dX12_pick_211 : decode cX12_pick 211 = .ok (.iload 4, 2) := by decide +kernel
theorem dX12_pick_213 : decode cX12_pick 213 = .ok (.iconst (-1), 1) := by decide +kernel
theorem dX12_pick_214 : decode cX12_pick 214 = .ok (.iastore, 1) := by decide +kernel
theorem dX12_pick_215 : decode cX12_pick 215 = .ok (.aload_n 0, 1) := by decide +kernel
theorem dX12_pick_216 : decode cX12_pick 216 = .ok (.dup, 1) := by decide +kernel
theorem dX12_pick_217 : decode cX12_pick 217 = .ok (.getfield 184, 3) := by decide +kernel
theorem dX12_pick_220 : decode cX12_pick 220 = .ok (.iconst 1, 1) := by decide +kernel
theorem dX12_pick_221 : decode cX12_pick 221 = .ok (.iadd, 1) := by decide +kernel
theorem dX12_pick_222 : decode cX12_pick 222 = .ok (.putfield 184, 3) := by decide +kernel
theorem dX12_pick_225 : decode cX12_pick 225 = .ok (.iinc 3 1, 3) := by decide +kernel
theorem dX12_pick_228 : decode cX12_pick 228 = .ok (.goto (-176), 3) := by decide +kernel
theorem dX12_pick_231 : decode cX12_pick 231 = .ok (.aload_n 0, 1) := by decide +kernel
theorem dX12_pick_232 : decode cX12_pick 232 = .ok (.getfield 184, 3) := by decide +kernel
theorem dX12_pick_235 : decode cX12_pick 235 = .ok (.ireturn, 1) := by decide +kernel
theorem dX12_find_0 : decode cX12_find 0 = .ok (.aload_n 0, 1) := by decide +kernel
theorem dX12_find_1 : decode cX12_find 1 = .ok (.iload_n 1, 1) := by decide +kernel
theorem dX12_find_2 : decode cX12_find 2 = .ok (.iconst 1, 1) := by decide +kernel
theorem dX12_find_3 : decode cX12_find 3 = .ok (.if_icmp .lt 9, 3) := by decide +kernel
theorem dX12_find_6 : decode cX12_find 6 = .ok (.iload_n 1, 1) := by decide +kernel
theorem dX12_find_7 : decode cX12_find 7 = .ok (.bipush 50, 2) := by decide +kernel
theorem dX12_find_9 : decode cX12_find 9 = .ok (.if_icmp .le 7, 3) := by decide +kernel
theorem dX12_find_12 : decode cX12_find 12 = .ok (.iconst 1, 1) := by decide +kernel
theorem dX12_find_13 : decode cX12_find 13 = .ok (.goto 4, 3) := by decide +kernel
theorem dX12_find_16 : decode cX12_find 16 = .ok (.iconst 0, 1) := by decide +kernel
theorem dX12_find_17 : decode cX12_find 17 = .ok (.putfield 68, 3) := by decide +kernel
theorem dX12_find_20 : decode cX12_find 20 = .ok (.aload_n 0, 1) := by decide +kernel
theorem dX12_find_21 : decode cX12_find 21 = .ok (.getfield 68, 3) := by decide +kernel
theorem dX12_find_24 : decode cX12_find 24 = .ok (.ifCond .le 5, 3) := by decide +kernel
theorem dX12_find_27 : decode cX12_find 27 = .ok (.iconst 0, 1) := by decide +kernel
theorem dX12_find_28 : decode cX12_find 28 = .ok (.ireturn, 1) := by decide +kernel
theorem dX12_find_29 : decode cX12_find 29 = .ok (.aload_n 0, 1) := by decide +kernel
theorem dX12_find_30 : decode cX12_find 30 = .ok (.iconst 0, 1) := by decide +kernel
theorem dX12_find_31 : decode cX12_find 31 = .ok (.putfield 184, 3) := by decide +kernel
theorem dX12_find_34 : decode cX12_find 34 = .ok (.aload_n 0, 1) := by decide +kernel
theorem dX12_find_35 : decode cX12_find 35 = .ok (.invokevirtual 187, 3) := by decide +kernel
theorem dX12_find_38 : decode cX12_find 38 = .ok (.ifCond .eq 12, 3) := by decide +kernel
theorem dX12_find_41 : decode cX12_find 41 = .ok (.aload_n 0, 1) := by decide +kernel
theorem dX12_find_42 : decode cX12_find 42 = .ok (.iload_n 1, 1) := by decide +kernel
theorem dX12_find_43 : decode cX12_find 43 = .ok (.iconst (-1), 1) := by decide +kernel
theorem dX12_find_44 : decode cX12_find 44 = .ok (.invokevirtual 190, 3) := by decide +kernel
theorem dX12_find_47 : decode cX12_find 47 = .ok (.goto 4, 3) := by decide +kernel
theorem dX12_find_50 : decode cX12_find 50 = .ok (.iconst (-1), 1) := by decide +kernel
theorem dX12_find_51 : decode cX12_find 51 = .ok (.ireturn, 1) := by decide +kernel
theorem dX12_fault_0 : decode cX12_fault 0 = .ok (.aload_n 0, 1) := by decide +kernel
theorem dX12_fault_1 : decode cX12_fault 1 = .ok (.iconst 0, 1) := by decide +kernel
theorem dX12_fault_2 : decode cX12_fault 2 = .ok (.putfield 68, 3) := by decide +kernel
theorem dX12_fault_5 : decode cX12_fault 5 = .ok (.aload_n 0, 1) := by decide +kernel
theorem dX12_fault_6 : decode cX12_fault 6 = .ok (.getfield 151, 3) := by decide +kernel
theorem dX12_fault_9 : decode cX12_fault 9 = .ok (.ireturn, 1) := by decide +kernel
theorem dX12_place_0 : decode cX12_place 0 = .ok (.aload_n 0, 1) := by decide +kernel
theorem dX12_place_1 : decode cX12_place 1 = .ok (.iconst 0, 1) := by decide +kernel
theorem dX12_place_2 : decode cX12_place 2 = .ok (.putfield 68, 3) := by decide +kernel
theorem dX12_place_5 : decode cX12_place 5 = .ok (.aload_n 0, 1) := by decide +kernel
theorem dX12_place_6 : decode cX12_place 6 = .ok (.getfield 42, 3) := by decide +kernel
theorem dX12_place_9 : decode cX12_place 9 = .ok (.ireturn, 1) := by decide +kernel
theorem dX12_similar_0 : decode cX12_similar 0 = .ok (.iload_n 1, 1) := by decide +kernel
theorem dX12_similar_1 : decode cX12_similar 1 = .ok (.invokestatic 119, 3) := by decide +kernel
theorem dX12_similar_4 : decode cX12_similar 4 = .ok (.ifCond .eq 11, 3) := by decide +kernel
theorem dX12_similar_7 : decode cX12_similar 7 = .ok (.aload_n 0, 1) := by decide +kernel
theorem dX12_similar_8 : decode cX12_similar 8 = .ok (.iload_n 1, 1) := by decide +kernel
theorem dX12_similar_9 : decode cX12_similar 9 = .ok (.invokevirtual 123, 3) := by decide +kernel
theorem dX12_similar_12 : decode cX12_similar 12 = .ok (.goto 4, 3) := by decide +kernel
theorem dX12_similar_15 : decode cX12_similar 15 = .ok (.iconst (-1), 1) := by decide +kernel
theorem dX12_similar_16 : decode cX12_similar 16 = .ok (.istore_n 3, 1) := by decide +kernel
theorem dX12_similar_17 : decode cX12_similar 17 = .ok (.aload_n 0, 1) := by decide +kernel
theorem dX12_similar_18 : decode cX12_similar 18 = .ok (.iload_n 2, 1) := by decide +kernel
theorem dX12_similar_19 : decode cX12_similar 19 = .ok (.iconst 1, 1) := by decide +kernel
theorem dX12_similar_20 : decode cX12_similar 20 = .ok (.if_icmp .lt 13, 3) := by decide +kernel
theorem dX12_similar_23 : decode cX12_similar 23 = .ok (.iload_n 2, 1) := by decide +kernel
theorem dX12_similar_24 : decode cX12_similar 24 = .ok (.bipush 50, 2) := by decide +kernel
theorem dX12_similar_26 : decode cX12_similar 26 = .ok (.if_icmp .gt 7, 3) := by decide +kernel
theorem dX12_similar_29 : decode cX12_similar 29 = .ok (.iload_n 3, 1) := by decide +kernel
theorem dX12_similar_30 : decode cX12_similar 30 = .ok (.ifCond .ge 7, 3) := by decide +kernel
theorem dX12_similar_33 : decode cX12_similar 33 = .ok (.iconst 1, 1) := by decide +kernel
theorem dX12_similar_34 : decode cX12_similar 34 = .ok (.goto 4, 3) := by decide +kernel
theorem dX12_similar_37 : decode cX12_similar 37 = .ok (.iconst 0, 1) := by decide +kernel
theorem dX12_similar_38 : decode cX12_similar 38 = .ok (.putfield 68, 3) := by decide +kernel
theorem dX12_similar_41 : decode cX12_similar 41 = .ok (.aload_n 0, 1) := by decide +kernel
theorem dX12_similar_42 : decode cX12_similar 42 = .ok (.getfield 68, 3) := by decide +kernel
theorem dX12_similar_45 : decode cX12_similar 45 = .ok (.ifCond .le 5, 3) := by decide +kernel
theorem dX12_similar_48 : decode cX12_similar 48 = .ok (.iconst 0, 1) := by decide +kernel
theorem dX12_similar_49 : decode cX12_similar 49 = .ok (.ireturn, 1) := by decide +kernel
theorem dX12_similar_50 : decode cX12_similar 50 = .ok (.aload_n 0, 1) := by decide +kernel
theorem dX12_similar_51 : decode cX12_similar 51 = .ok (.iconst 0, 1) := by decide +kernel
theorem dX12_similar_52 : decode cX12_similar 52 = .ok (.putfield 154, 3) := by decide +kernel
theorem dX12_similar_55 : decode cX12_similar 55 = .ok (.iconst 0, 1) := by decide +kernel
theorem dX12_similar_56 : decode cX12_similar 56 = .ok (.istore 4, 2) := by decide +kernel
theorem dX12_similar_58 : decode cX12_similar 58 = .ok (.iload 4, 2) := by decide +kernel
theorem dX12_similar_60 : decode cX12_similar 60 = .ok (.aload_n 0, 1) := by decide +kernel
theorem dX12_similar_61 : decode cX12_similar 61 = .ok (.getfield 16, 3) := by decide +kernel
theorem dX12_similar_64 : decode cX12_similar 64 = .ok (.iload_n 3, 1) := by decide +kernel
theorem dX12_similar_65 : decode cX12_similar 65 = .ok (.iaload, 1) := by decide +kernel
theorem dX12_similar_66 : decode cX12_similar 66 = .ok (.if_icmp .ge 107, 3) := by decide +kernel
theorem dX12_similar_69 : decode cX12_similar 69 = .ok (.aload_n 0, 1) := by decide +kernel
theorem dX12_similar_70 : decode cX12_similar 70 = .ok (.iload_n 3, 1) := by decide +kernel
theorem dX12_similar_71 : decode cX12_similar 71 = .ok (.iload 4, 2) := by decide +kernel
theorem dX12_similar_73 : decode cX12_similar 73 = .ok (.invokevirtual 98, 3) := by decide +kernel
theorem dX12_similar_76 : decode cX12_similar 76 = .ok (.ifCond .eq 91, 3) := by decide +kernel
theorem dX12_similar_79 : decode cX12_similar 79 = .ok (.aload_n 0, 1) := by decide +kernel
theorem dX12_similar_80 : decode cX12_similar 80 = .ok (.getfield 19, 3) := by decide +kernel
theorem dX12_similar_83 : decode cX12_similar 83 = .ok (.sipush 200, 3) := by decide +kernel
theorem dX12_similar_86 : decode cX12_similar 86 = .ok (.iload_n 3, 1) := by decide +kernel
theorem dX12_similar_87 : decode cX12_similar 87 = .ok (.imul, 1) := by decide +kernel
theorem dX12_similar_88 : decode cX12_similar 88 = .ok (.iload 4, 2) := by decide +kernel
theorem dX12_similar_90 : decode cX12_similar 90 = .ok (.iadd, 1) := by decide +kernel
theorem dX12_similar_91 : decode cX12_similar 91 = .ok (.laload, 1) := by decide +kernel
theorem dX12_similar_92 : decode cX12_similar 92 = .ok (.lstore 5, 2) := by decide +kernel
theorem dX12_similar_94 : decode cX12_similar 94 = .ok (.aload_n 0, 1) := by decide +kernel
theorem dX12_similar_95 : decode cX12_similar 95 = .ok (.iload_n 3, 1) := by decide +kernel
theorem dX12_similar_96 : decode cX12_similar 96 = .ok (.lload 5, 2) := by decide +kernel
theorem dX12_similar_98 : decode cX12_similar 98 = .ok (.invokevirtual 88, 3) := by decide +kernel
theorem dX12_similar_101 : decode cX12_similar 101 = .ok (.istore 7, 2) := by decide +kernel
theorem dX12_similar_103 : decode cX12_similar 103 = .ok (.aload_n 0, 1) := by decide +kernel
theorem dX12_similar_104 : decode cX12_similar 104 = .ok (.getfield 26, 3) := by decide +kernel
theorem dX12_similar_107 : decode cX12_similar 107 = .ok (.aload_n 0, 1) := by decide +kernel
theorem dX12_similar_108 : decode cX12_similar 108 = .ok (.getfield 154, 3) := by decide +kernel
theorem dX12_similar_111 : decode cX12_similar 111 = .ok (.lload 5, 2) := by decide +kernel
theorem dX12_similar_113 : decode cX12_similar 113 = .ok (.lastore, 1) := by decide +kernel
theorem dX12_similar_114 : decode cX12_similar 114 = .ok (.aload_n 0, 1) := by decide +kernel
theorem dX12_similar_115 : decode cX12_similar 115 = .ok (.getfield 32, 3) := by decide +kernel
theorem dX12_similar_118 : decode cX12_similar 118 = .ok (.aload_n 0, 1) := by decide +kernel
theorem dX12_similar_119 : decode cX12_similar 119 = .ok (.getfield 154, 3) := by decide +kernel
theorem dX12_similar_122 : decode cX12_similar 122 = .ok (.iconst 0, 1) := by decide +kernel
theorem dX12_similar_123 : decode cX12_similar 123 = .ok (.bastore, 1) := by decide +kernel
theorem dX12_similar_124 : decode cX12_similar 124 = .ok (.aload_n 0, 1) := by decide +kernel
theorem dX12_similar_125 : decode cX12_similar 125 = .ok (.getfield 36, 3) := by decide +kernel
theorem dX12_similar_128 : decode cX12_similar 128 = .ok (.aload_n 0, 1) := by decide +kernel
theorem dX12_similar_129 : decode cX12_similar 129 = .ok (.getfield 154, 3) := by decide +kernel
theorem dX12_similar_132 : decode cX12_similar 132 = .ok (.iconst 0, 1) := by decide +kernel
theorem dX12_similar_133 : decode cX12_similar 133 = .ok (.iastore, 1) := by decide +kernel
theorem dX12_similar_134 : decode cX12_similar 134 = .ok (.aload_n 0, 1) := by decide +kernel
theorem dX12_similar_135 : decode cX12_similar 135 = .ok (.getfield 39, 3) := by decide +kernel
theorem dX12_similar_138 : decode cX12_similar 138 = .ok (.aload_n 0, 1) := by decide +kernel
theorem dX12_similar_139 : decode cX12_similar 139 = .ok (.getfield 154, 3) := by decide +kernel
theorem dX12_similar_142 : decode cX12_similar 142 = .ok (.iload 7, 2) := by decide +kernel
theorem dX12_similar_144 : decode cX12_similar 144 = .ok (.bipush 9, 2) := by decide +kernel
theorem dX12_similar_146 : decode cX12_similar 146 = .ok (.if_icmp .le 8, 3) := by decide +kernel
theorem dX12_similar_149 : decode cX12_similar 149 = .ok (.bipush 9, 2) := by decide +kernel
theorem dX12_similar_151 : decode cX12_similar 151 = .ok (.goto 5, 3) := by decide +kernel
theorem dX12_similar_154 : decode cX12_similar 154 = .ok (.iload 7, 2) := by decide +kernel
theorem dX12_similar_156 : decode cX12_similar 156 = .ok (.iastore, 1) := by decide +kernel
theorem dX12_similar_157 : decode cX12_similar 157 = .ok (.aload_n 0, 1) := by decide +kernel
theorem dX12_similar_158 : decode cX12_similar 158 = .ok (.dup, 1) := by decide +kernel
theorem dX12_similar_159 : decode cX12_similar 159 = .ok (.getfield 154, 3) := by decide +kernel
theorem dX12_similar_162 : decode cX12_similar 162 = .ok (.iconst 1, 1) := by decide +kernel
theorem dX12_similar_163 : decode cX12_similar 163 = .ok (.iadd, 1) := by decide +kernel
theorem dX12_similar_164 : decode cX12_similar 164 = .ok (.putfield 154, 3) := by decide +kernel
theorem dX12_similar_167 : decode cX12_similar 167 = .ok (.iinc 4 1, 3) := by decide +kernel
theorem dX12_similar_170 : decode cX12_similar 170 = .ok (.goto (-112), 3) := by decide +kernel
theorem dX12_similar_173 : decode cX12_similar 173 = .ok (.aload_n 0, 1) := by decide +kernel
theorem dX12_similar_174 : decode cX12_similar 174 = .ok (.iload_n 2, 1) := by decide +kernel
theorem dX12_similar_175 : decode cX12_similar 175 = .ok (.iload_n 1, 1) := by decide +kernel
theorem dX12_similar_176 : decode cX12_similar 176 = .ok (.invokevirtual 190, 3) := by decide +kernel
theorem dX12_similar_179 : decode cX12_similar 179 = .ok (.ireturn, 1) := by decide +kernel
theorem dX12_hit_0 : decode cX12_hit 0 = .ok (.aload_n 0, 1) := by decide +kernel
theorem dX12_hit_1 : decode cX12_hit 1 = .ok (.iload_n 1, 1) := by decide +kernel
theorem dX12_hit_2 : decode cX12_hit 2 = .ok (.ifCond .lt 11, 3) := by decide +kernel
theorem dX12_hit_5 : decode cX12_hit 5 = .ok (.iload_n 1, 1) := by decide +kernel
theorem dX12_hit_6 : decode cX12_hit 6 = .ok (.aload_n 0, 1) := by decide +kernel
theorem dX12_hit_7 : decode cX12_hit 7 = .ok (.getfield 184, 3) := by decide +kernel
