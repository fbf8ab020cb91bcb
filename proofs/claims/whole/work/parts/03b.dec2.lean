theorem dX12_rewinds_14 : decode cX12_rewinds 14 = .ok (.aload_n 0, 1) := by decide +kernel
theorem dX12_rewinds_15 : decode cX12_rewinds 15 = .ok (.getfield 7, 3) := by decide +kernel
theorem dX12_rewinds_18 : decode cX12_rewinds 18 = .ok (.iconst 2, 1) := by decide +kernel
theorem dX12_rewinds_19 : decode cX12_rewinds 19 = .ok (.iconst 0, 1) := by decide +kernel
theorem dX12_rewinds_20 : decode cX12_rewinds 20 = .ok (.iastore, 1) := by decide +kernel
theorem dX12_rewinds_21 : decode cX12_rewinds 21 = .ok (.aload_n 0, 1) := by decide +kernel
theorem dX12_rewinds_22 : decode cX12_rewinds 22 = .ok (.getfield 7, 3) := by decide +kernel
theorem dX12_rewinds_25 : decode cX12_rewinds 25 = .ok (.iconst 3, 1) := by decide +kernel
theorem dX12_rewinds_26 : decode cX12_rewinds 26 = .ok (.iconst 0, 1) := by decide +kernel
theorem dX12_rewinds_27 : decode cX12_rewinds 27 = .ok (.iastore, 1) := by decide +kernel
theorem dX12_rewinds_28 : decode cX12_rewinds 28 = .ok (.aload_n 0, 1) := by decide +kernel
theorem dX12_rewinds_29 : decode cX12_rewinds 29 = .ok (.getfield 7, 3) := by decide +kernel
theorem dX12_rewinds_32 : decode cX12_rewinds 32 = .ok (.iconst 4, 1) := by decide +kernel
theorem dX12_rewinds_33 : decode cX12_rewinds 33 = .ok (.iconst 0, 1) := by decide +kernel
theorem dX12_rewinds_34 : decode cX12_rewinds 34 = .ok (.iastore, 1) := by decide +kernel
theorem dX12_rewinds_35 : decode cX12_rewinds 35 = .ok (.aload_n 0, 1) := by decide +kernel
theorem dX12_rewinds_36 : decode cX12_rewinds 36 = .ok (.iconst 0, 1) := by decide +kernel
theorem dX12_rewinds_37 : decode cX12_rewinds 37 = .ok (.invokevirtual 83, 3) := by decide +kernel
theorem dX12_rewinds_40 : decode cX12_rewinds 40 = .ok (.return_, 1) := by decide +kernel
theorem dX12_forgets_0 : decode cX12_forgets 0 = .ok (.aload_n 0, 1) := by decide +kernel
theorem dX12_forgets_1 : decode cX12_forgets 1 = .ok (.iconst 0, 1) := by decide +kernel
theorem dX12_forgets_2 : decode cX12_forgets 2 = .ok (.putfield 87, 3) := by decide +kernel
theorem dX12_forgets_5 : decode cX12_forgets 5 = .ok (.return_, 1) := by decide +kernel
theorem dX12_state_0 : decode cX12_state 0 = .ok (.aload_n 0, 1) := by decide +kernel
theorem dX12_state_1 : decode cX12_state 1 = .ok (.getfield 7, 3) := by decide +kernel
theorem dX12_state_4 : decode cX12_state 4 = .ok (.iconst 5, 1) := by decide +kernel
theorem dX12_state_5 : decode cX12_state 5 = .ok (.iaload, 1) := by decide +kernel
theorem dX12_state_6 : decode cX12_state 6 = .ok (.istore_n 2, 1) := by decide +kernel
theorem dX12_state_7 : decode cX12_state 7 = .ok (.aload_n 0, 1) := by decide +kernel
theorem dX12_state_8 : decode cX12_state 8 = .ok (.getfield 7, 3) := by decide +kernel
theorem dX12_state_11 : decode cX12_state 11 = .ok (.iconst 5, 1) := by decide +kernel
theorem dX12_state_12 : decode cX12_state 12 = .ok (.iload_n 1, 1) := by decide +kernel
theorem dX12_state_13 : decode cX12_state 13 = .ok (.iastore, 1) := by decide +kernel
theorem dX12_state_14 : decode cX12_state 14 = .ok (.aload_n 0, 1) := by decide +kernel
theorem dX12_state_15 : decode cX12_state 15 = .ok (.invokevirtual 90, 3) := by decide +kernel
theorem dX12_state_18 : decode cX12_state 18 = .ok (.iload_n 2, 1) := by decide +kernel
theorem dX12_state_19 : decode cX12_state 19 = .ok (.ireturn, 1) := by decide +kernel
theorem dX12_draw_0 : decode cX12_draw 0 = .ok (.aload_n 0, 1) := by decide +kernel
theorem dX12_draw_1 : decode cX12_draw 1 = .ok (.getfield 7, 3) := by decide +kernel
theorem dX12_draw_4 : decode cX12_draw 4 = .ok (.iconst 5, 1) := by decide +kernel
theorem dX12_draw_5 : decode cX12_draw 5 = .ok (.ldc 93, 2) := by decide +kernel
theorem dX12_draw_7 : decode cX12_draw 7 = .ok (.aload_n 0, 1) := by decide +kernel
theorem dX12_draw_8 : decode cX12_draw 8 = .ok (.getfield 7, 3) := by decide +kernel
theorem dX12_draw_11 : decode cX12_draw 11 = .ok (.iconst 5, 1) := by decide +kernel
theorem dX12_draw_12 : decode cX12_draw 12 = .ok (.iaload, 1) := by decide +kernel
theorem dX12_draw_13 : decode cX12_draw 13 = .ok (.imul, 1) := by decide +kernel
theorem dX12_draw_14 : decode cX12_draw 14 = .ok (.ldc 94, 2) := by decide +kernel
theorem dX12_draw_16 : decode cX12_draw 16 = .ok (.iadd, 1) := by decide +kernel
theorem dX12_draw_17 : decode cX12_draw 17 = .ok (.iastore, 1) := by decide +kernel
theorem dX12_draw_18 : decode cX12_draw 18 = .ok (.aload_n 0, 1) := by decide +kernel
theorem dX12_draw_19 : decode cX12_draw 19 = .ok (.getfield 7, 3) := by decide +kernel
theorem dX12_draw_22 : decode cX12_draw 22 = .ok (.iconst 5, 1) := by decide +kernel
theorem dX12_draw_23 : decode cX12_draw 23 = .ok (.iaload, 1) := by decide +kernel
theorem dX12_draw_24 : decode cX12_draw 24 = .ok (.bipush 8, 2) := by decide +kernel
theorem dX12_draw_26 : decode cX12_draw 26 = .ok (.iushr, 1) := by decide +kernel
theorem dX12_draw_27 : decode cX12_draw 27 = .ok (.iload_n 1, 1) := by decide +kernel
theorem dX12_draw_28 : decode cX12_draw 28 = .ok (.irem, 1) := by decide +kernel
theorem dX12_draw_29 : decode cX12_draw 29 = .ok (.ireturn, 1) := by decide +kernel
theorem dX12_set_0 : decode cX12_set 0 = .ok (.iload_n 1, 1) := by decide +kernel
theorem dX12_set_1 : decode cX12_set 1 = .ok (.iconst 0, 1) := by decide +kernel
theorem dX12_set_2 : decode cX12_set 2 = .ok (.iconst 1, 1) := by decide +kernel
theorem dX12_set_3 : decode cX12_set 3 = .ok (.invokestatic 71, 3) := by decide +kernel
theorem dX12_set_6 : decode cX12_set 6 = .ok (.ifCond .eq 21, 3) := by decide +kernel
theorem dX12_set_9 : decode cX12_set 9 = .ok (.iload_n 2, 1) := by decide +kernel
theorem dX12_set_10 : decode cX12_set 10 = .ok (.iconst 0, 1) := by decide +kernel
theorem dX12_set_11 : decode cX12_set 11 = .ok (.iload_n 1, 1) := by decide +kernel
theorem dX12_set_12 : decode cX12_set 12 = .ok (.ifCond .ne 7, 3) := by decide +kernel
theorem dX12_set_15 : decode cX12_set 15 = .ok (.iconst 4, 1) := by decide +kernel
theorem dX12_set_16 : decode cX12_set 16 = .ok (.goto 5, 3) := by decide +kernel
theorem dX12_set_19 : decode cX12_set 19 = .ok (.bipush 99, 2) := by decide +kernel
theorem dX12_set_21 : decode cX12_set 21 = .ok (.invokestatic 71, 3) := by decide +kernel
theorem dX12_set_24 : decode cX12_set 24 = .ok (.ifCond .ne 5, 3) := by decide +kernel
theorem dX12_set_27 : decode cX12_set 27 = .ok (.iconst 0, 1) := by decide +kernel
theorem dX12_set_28 : decode cX12_set 28 = .ok (.ireturn, 1) := by decide +kernel
theorem dX12_set_29 : decode cX12_set 29 = .ok (.aload_n 0, 1) := by decide +kernel
theorem dX12_set_30 : decode cX12_set 30 = .ok (.getfield 7, 3) := by decide +kernel
theorem dX12_set_33 : decode cX12_set 33 = .ok (.iload_n 1, 1) := by decide +kernel
theorem dX12_set_34 : decode cX12_set 34 = .ok (.ifCond .ne 9, 3) := by decide +kernel
theorem dX12_set_37 : decode cX12_set 37 = .ok (.sipush 209, 3) := by decide +kernel
theorem dX12_set_40 : decode cX12_set 40 = .ok (.goto 6, 3) := by decide +kernel
theorem dX12_set_43 : decode cX12_set 43 = .ok (.sipush 210, 3) := by decide +kernel
theorem dX12_set_46 : decode cX12_set 46 = .ok (.iload_n 2, 1) := by decide +kernel
theorem dX12_set_47 : decode cX12_set 47 = .ok (.iastore, 1) := by decide +kernel
theorem dX12_set_48 : decode cX12_set 48 = .ok (.aload_n 0, 1) := by decide +kernel
theorem dX12_set_49 : decode cX12_set 49 = .ok (.invokevirtual 90, 3) := by decide +kernel
theorem dX12_set_52 : decode cX12_set 52 = .ok (.iconst 1, 1) := by decide +kernel
theorem dX12_set_53 : decode cX12_set 53 = .ok (.ireturn, 1) := by decide +kernel
theorem dX12_feed_0 : decode cX12_feed 0 = .ok (.aload_n 0, 1) := by decide +kernel
theorem dX12_feed_1 : decode cX12_feed 1 = .ok (.getfield 95, 3) := by decide +kernel
theorem dX12_feed_4 : decode cX12_feed 4 = .ok (.bipush 20, 2) := by decide +kernel
theorem dX12_feed_6 : decode cX12_feed 6 = .ok (.iadd, 1) := by decide +kernel
theorem dX12_feed_7 : decode cX12_feed 7 = .ok (.sipush 400, 3) := by decide +kernel
theorem dX12_feed_10 : decode cX12_feed 10 = .ok (.if_icmp .le 5, 3) := by decide +kernel
theorem dX12_feed_13 : decode cX12_feed 13 = .ok (.iconst (-1), 1) := by decide +kernel
theorem dX12_feed_14 : decode cX12_feed 14 = .ok (.ireturn, 1) := by decide +kernel
theorem dX12_feed_15 : decode cX12_feed 15 = .ok (.iconst 0, 1) := by decide +kernel
theorem dX12_feed_16 : decode cX12_feed 16 = .ok (.istore 6, 2) := by decide +kernel
theorem dX12_feed_18 : decode cX12_feed 18 = .ok (.iload 6, 2) := by decide +kernel
theorem dX12_feed_20 : decode cX12_feed 20 = .ok (.bipush 20, 2) := by decide +kernel
theorem dX12_feed_22 : decode cX12_feed 22 = .ok (.if_icmp .ge 93, 3) := by decide +kernel
theorem dX12_feed_25 : decode cX12_feed 25 = .ok (.iload 6, 2) := by decide +kernel
theorem dX12_feed_27 : decode cX12_feed 27 = .ok (.iconst 4, 1) := by decide +kernel
theorem dX12_feed_28 : decode cX12_feed 28 = .ok (.if_icmp .ge 7, 3) := by decide +kernel
theorem dX12_feed_31 : decode cX12_feed 31 = .ok (.iload_n 1, 1) := by decide +kernel
theorem dX12_feed_32 : decode cX12_feed 32 = .ok (.goto 39, 3) := by decide +kernel
theorem dX12_feed_35 : decode cX12_feed 35 = .ok (.iload 6, 2) := by decide +kernel
theorem dX12_feed_37 : decode cX12_feed 37 = .ok (.bipush 8, 2) := by decide +kernel
theorem dX12_feed_39 : decode cX12_feed 39 = .ok (.if_icmp .ge 7, 3) := by decide +kernel
theorem dX12_feed_42 : decode cX12_feed 42 = .ok (.iload_n 2, 1) := by decide +kernel
theorem dX12_feed_43 : decode cX12_feed 43 = .ok (.goto 28, 3) := by decide +kernel
theorem dX12_feed_46 : decode cX12_feed 46 = .ok (.iload 6, 2) := by decide +kernel
theorem dX12_feed_48 : decode cX12_feed 48 = .ok (.bipush 12, 2) := by decide +kernel
theorem dX12_feed_50 : decode cX12_feed 50 = .ok (.if_icmp .ge 7, 3) := by decide +kernel
theorem dX12_feed_53 : decode cX12_feed 53 = .ok (.iload_n 3, 1) := by decide +kernel
theorem dX12_feed_54 : decode cX12_feed 54 = .ok (.goto 17, 3) := by decide +kernel
theorem dX12_feed_57 : decode cX12_feed 57 = .ok (.iload 6, 2) := by decide +kernel
theorem dX12_feed_59 : decode cX12_feed 59 = .ok (.bipush 16, 2) := by decide +kernel
theorem dX12_feed_61 : decode cX12_feed 61 = .ok (.if_icmp .ge 8, 3) := by decide +kernel
theorem dX12_feed_64 : decode cX12_feed 64 = .ok (.iload 4, 2) := by decide +kernel
theorem dX12_feed_66 : decode cX12_feed 66 = .ok (.goto 5, 3) := by decide +kernel
theorem dX12_feed_69 : decode cX12_feed 69 = .ok (.iload 5, 2) := by decide +kernel
theorem dX12_feed_71 : decode cX12_feed 71 = .ok (.istore 7, 2) := by decide +kernel
theorem dX12_feed_73 : decode cX12_feed 73 = .ok (.aload_n 0, 1) := by decide +kernel
theorem dX12_feed_74 : decode cX12_feed 74 = .ok (.getfield 40, 3) := by decide +kernel
theorem dX12_feed_77 : decode cX12_feed 77 = .ok (.aload_n 0, 1) := by decide +kernel
theorem dX12_feed_78 : decode cX12_feed 78 = .ok (.getfield 95, 3) := by decide +kernel
theorem dX12_feed_81 : decode cX12_feed 81 = .ok (.iload 7, 2) := by decide +kernel
theorem dX12_feed_83 : decode cX12_feed 83 = .ok (.bipush 24, 2) := by decide +kernel
theorem dX12_feed_85 : decode cX12_feed 85 = .ok (.bipush 8, 2) := by decide +kernel
theorem dX12_feed_87 : decode cX12_feed 87 = .ok (.iload 6, 2) := by decide +kernel
theorem dX12_feed_89 : decode cX12_feed 89 = .ok (.iconst 4, 1) := by decide +kernel
theorem dX12_feed_90 : decode cX12_feed 90 = .ok (.irem, 1) := by decide +kernel
theorem dX12_feed_91 : decode cX12_feed 91 = .ok (.imul, 1) := by decide +kernel
theorem dX12_feed_92 : decode cX12_feed 92 = .ok (.isub, 1) := by decide +kernel
theorem dX12_feed_93 : decode cX12_feed 93 = .ok (.ishr, 1) := by decide +kernel
theorem dX12_feed_94 : decode cX12_feed 94 = .ok (.sipush 255, 3) := by decide +kernel
theorem dX12_feed_97 : decode cX12_feed 97 = .ok (.iand, 1) := by decide +kernel
theorem dX12_feed_98 : decode cX12_feed 98 = .ok (.iastore, 1) := by decide +kernel
theorem dX12_feed_99 : decode cX12_feed 99 = .ok (.aload_n 0, 1) := by decide +kernel
theorem dX12_feed_100 : decode cX12_feed 100 = .ok (.dup, 1) := by decide +kernel
theorem dX12_feed_101 : decode cX12_feed 101 = .ok (.getfield 95, 3) := by decide +kernel
theorem dX12_feed_104 : decode cX12_feed 104 = .ok (.iconst 1, 1) := by decide +kernel
theorem dX12_feed_105 : decode cX12_feed 105 = .ok (.iadd, 1) := by decide +kernel
theorem dX12_feed_106 : decode cX12_feed 106 = .ok (.putfield 95, 3) := by decide +kernel
theorem dX12_feed_109 : decode cX12_feed 109 = .ok (.iinc 6 1, 3) := by decide +kernel
theorem dX12_feed_112 : decode cX12_feed 112 = .ok (.goto (-94), 3) := by decide +kernel
theorem dX12_feed_115 : decode cX12_feed 115 = .ok (.aload_n 0, 1) := by decide +kernel
theorem dX12_feed_116 : decode cX12_feed 116 = .ok (.getfield 95, 3) := by decide +kernel
theorem dX12_feed_119 : decode cX12_feed 119 = .ok (.ireturn, 1) := by decide +kernel
theorem dX12_end_0 : decode cX12_end 0 = .ok (.iload_n 1, 1) := by decide +kernel
theorem dX12_end_1 : decode cX12_end 1 = .ok (.iconst 0, 1) := by decide +kernel
theorem dX12_end_2 : decode cX12_end 2 = .ok (.aload_n 0, 1) := by decide +kernel
theorem dX12_end_3 : decode cX12_end 3 = .ok (.getfield 95, 3) := by decide +kernel
theorem dX12_end_6 : decode cX12_end 6 = .ok (.invokestatic 71, 3) := by decide +kernel
theorem dX12_end_9 : decode cX12_end 9 = .ok (.ifCond .ne 5, 3) := by decide +kernel
theorem dX12_end_12 : decode cX12_end 12 = .ok (.iconst 0, 1) := by decide +kernel
theorem dX12_end_13 : decode cX12_end 13 = .ok (.ireturn, 1) := by decide +kernel
theorem dX12_end_14 : decode cX12_end 14 = .ok (.aload_n 0, 1) := by decide +kernel
theorem dX12_end_15 : decode cX12_end 15 = .ok (.iload_n 1, 1) := by decide +kernel
theorem dX12_end_16 : decode cX12_end 16 = .ok (.putfield 95, 3) := by decide +kernel
theorem dX12_end_19 : decode cX12_end 19 = .ok (.iconst 1, 1) := by decide +kernel
theorem dX12_end_20 : decode cX12_end 20 = .ok (.ireturn, 1) := by decide +kernel
theorem dX12_see_0 : decode cX12_see 0 = .ok (.iload_n 1, 1) := by decide +kernel
theorem dX12_see_1 : decode cX12_see 1 = .ok (.aload_n 0, 1) := by decide +kernel
theorem dX12_see_2 : decode cX12_see 2 = .ok (.getfield 95, 3) := by decide +kernel
theorem dX12_see_5 : decode cX12_see 5 = .ok (.if_icmp .ge 12, 3) := by decide +kernel
theorem dX12_see_8 : decode cX12_see 8 = .ok (.aload_n 0, 1) := by decide +kernel
theorem dX12_see_9 : decode cX12_see 9 = .ok (.getfield 40, 3) := by decide +kernel
theorem dX12_see_12 : decode cX12_see 12 = .ok (.iload_n 1, 1) := by decide +kernel
theorem dX12_see_13 : decode cX12_see 13 = .ok (.iaload, 1) := by decide +kernel
theorem dX12_see_14 : decode cX12_see 14 = .ok (.goto 4, 3) := by decide +kernel
theorem dX12_see_17 : decode cX12_see 17 = .ok (.iconst (-1), 1) := by decide +kernel
theorem dX12_see_18 : decode cX12_see 18 = .ok (.ireturn, 1) := by decide +kernel
theorem dX12_isLetter_0 : decode cX12_isLetter 0 = .ok (.iload_n 0, 1) := by decide +kernel
theorem dX12_isLetter_1 : decode cX12_isLetter 1 = .ok (.bipush 97, 2) := by decide +kernel
theorem dX12_isLetter_3 : decode cX12_isLetter 3 = .ok (.bipush 122, 2) := by decide +kernel
theorem dX12_isLetter_5 : decode cX12_isLetter 5 = .ok (.invokestatic 71, 3) := by decide +kernel
theorem dX12_isLetter_8 : decode cX12_isLetter 8 = .ok (.ifCond .ne 14, 3) := by decide +kernel
theorem dX12_isLetter_11 : decode cX12_isLetter 11 = .ok (.iload_n 0, 1) := by decide +kernel
theorem dX12_isLetter_12 : decode cX12_isLetter 12 = .ok (.bipush 65, 2) := by decide +kernel
theorem dX12_isLetter_14 : decode cX12_isLetter 14 = .ok (.bipush 90, 2) := by decide +kernel
theorem dX12_isLetter_16 : decode cX12_isLetter 16 = .ok (.invokestatic 71, 3) := by decide +kernel
theorem dX12_isLetter_19 : decode cX12_isLetter 19 = .ok (.ifCond .eq 7, 3) := by decide +kernel
theorem dX12_isLetter_22 : decode cX12_isLetter 22 = .ok (.iconst 1, 1) := by decide +kernel
theorem dX12_isLetter_23 : decode cX12_isLetter 23 = .ok (.goto 4, 3) := by decide +kernel
theorem dX12_isLetter_26 : decode cX12_isLetter 26 = .ok (.iconst 0, 1) := by decide +kernel
theorem dX12_isLetter_27 : decode cX12_isLetter 27 = .ok (.ireturn, 1) := by decide +kernel
theorem dX12_isDigit_0 : decode cX12_isDigit 0 = .ok (.iload_n 0, 1) := by decide +kernel
theorem dX12_isDigit_1 : decode cX12_isDigit 1 = .ok (.bipush 48, 2) := by decide +kernel
theorem dX12_isDigit_3 : decode cX12_isDigit 3 = .ok (.bipush 57, 2) := by decide +kernel
theorem dX12_isDigit_5 : decode cX12_isDigit 5 = .ok (.invokestatic 71, 3) := by decide +kernel
theorem dX12_isDigit_8 : decode cX12_isDigit 8 = .ok (.ireturn, 1) := by decide +kernel
theorem dX12_is_0 : decode cX12_is 0 = .ok (.aload_n 0, 1) := by decide +kernel
theorem dX12_is_1 : decode cX12_is 1 = .ok (.getfield 98, 3) := by decide +kernel
theorem dX12_is_4 : decode cX12_is 4 = .ok (.aload_n 0, 1) := by decide +kernel
theorem dX12_is_5 : decode cX12_is 5 = .ok (.getfield 101, 3) := by decide +kernel
theorem dX12_is_8 : decode cX12_is 8 = .ok (.isub, 1) := by decide +kernel
theorem dX12_is_9 : decode cX12_is 9 = .ok (.aload_n 1, 1) := by decide +kernel
theorem dX12_is_10 : decode cX12_is 10 = .ok (.invokevirtual 104, 3) := by decide +kernel
theorem dX12_is_13 : decode cX12_is 13 = .ok (.if_icmp .ne 7, 3) := by decide +kernel
theorem dX12_is_16 : decode cX12_is 16 = .ok (.iconst 1, 1) := by decide +kernel
theorem dX12_is_17 : decode cX12_is 17 = .ok (.goto 4, 3) := by decide +kernel
theorem dX12_is_20 : decode cX12_is 20 = .ok (.iconst 0, 1) := by decide +kernel
theorem dX12_is_21 : decode cX12_is 21 = .ok (.istore_n 2, 1) := by decide +kernel
theorem dX12_is_22 : decode cX12_is 22 = .ok (.iconst 0, 1) := by decide +kernel
theorem dX12_is_23 : decode cX12_is 23 = .ok (.istore_n 3, 1) := by decide +kernel
theorem dX12_is_24 : decode cX12_is 24 = .ok (.iload_n 3, 1) := by decide +kernel
theorem dX12_is_25 : decode cX12_is 25 = .ok (.aload_n 1, 1) := by decide +kernel
theorem dX12_is_26 : decode cX12_is 26 = .ok (.invokevirtual 104, 3) := by decide +kernel
theorem dX12_is_29 : decode cX12_is 29 = .ok (.if_icmp .ge 38, 3) := by decide +kernel
theorem dX12_is_32 : decode cX12_is 32 = .ok (.iload_n 2, 1) := by decide +kernel
theorem dX12_is_33 : decode cX12_is 33 = .ok (.ifCond .eq 34, 3) := by decide +kernel
theorem dX12_is_36 : decode cX12_is 36 = .ok (.aload_n 0, 1) := by decide +kernel
theorem dX12_is_37 : decode cX12_is 37 = .ok (.getfield 40, 3) := by decide +kernel
theorem dX12_is_40 : decode cX12_is 40 = .ok (.aload_n 0, 1) := by decide +kernel
theorem dX12_is_41 : decode cX12_is 41 = .ok (.getfield 101, 3) := by decide +kernel
theorem dX12_is_44 : decode cX12_is 44 = .ok (.iload_n 3, 1) := by decide +kernel
theorem dX12_is_45 : decode cX12_is 45 = .ok (.iadd, 1) := by decide +kernel
theorem dX12_is_46 : decode cX12_is 46 = .ok (.iaload, 1) := by decide +kernel
theorem dX12_is_47 : decode cX12_is 47 = .ok (.aload_n 1, 1) := by decide +kernel
theorem dX12_is_48 : decode cX12_is 48 = .ok (.iload_n 3, 1) := by decide +kernel
theorem dX12_is_49 : decode cX12_is 49 = .ok (.invokevirtual 110, 3) := by decide +kernel
theorem dX12_is_52 : decode cX12_is 52 = .ok (.if_icmp .ne 7, 3) := by decide +kernel
theorem dX12_is_55 : decode cX12_is 55 = .ok (.iconst 1, 1) := by decide +kernel
theorem dX12_is_56 : decode cX12_is 56 = .ok (.goto 4, 3) := by decide +kernel
theorem dX12_is_59 : decode cX12_is 59 = .ok (.iconst 0, 1) := by decide +kernel
theorem dX12_is_60 : decode cX12_is 60 = .ok (.istore_n 2, 1) := by decide +kernel
theorem dX12_is_61 : decode cX12_is 61 = .ok (.iinc 3 1, 3) := by decide +kernel
theorem dX12_is_64 : decode cX12_is 64 = .ok (.goto (-40), 3) := by decide +kernel
theorem dX12_is_67 : decode cX12_is 67 = .ok (.iload_n 2, 1) := by decide +kernel
theorem dX12_is_68 : decode cX12_is 68 = .ok (.ireturn, 1) := by decide +kernel
theorem dX12_tapeWord_0 : decode cX12_tapeWord 0 = .ok (.aload_n 0, 1) := by decide +kernel
theorem dX12_tapeWord_1 : decode cX12_tapeWord 1 = .ok (.ldc 114, 2) := by decide +kernel
theorem dX12_tapeWord_3 : decode cX12_tapeWord 3 = .ok (.invokevirtual 116, 3) := by decide +kernel
theorem dX12_tapeWord_6 : decode cX12_tapeWord 6 = .ok (.ifCond .eq 6, 3) := by decide +kernel
theorem dX12_tapeWord_9 : decode cX12_tapeWord 9 = .ok (.bipush 7, 2) := by decide +kernel
theorem dX12_tapeWord_11 : decode cX12_tapeWord 11 = .ok (.ireturn, 1) := by decide +kernel
theorem dX12_tapeWord_12 : decode cX12_tapeWord 12 = .ok (.aload_n 0, 1) := by decide +kernel
theorem dX12_tapeWord_13 : decode cX12_tapeWord 13 = .ok (.ldc 120, 2) := by decide +kernel
theorem dX12_tapeWord_15 : decode cX12_tapeWord 15 = .ok (.invokevirtual 116, 3) := by decide +kernel
theorem dX12_tapeWord_18 : decode cX12_tapeWord 18 = .ok (.ifCond .eq 6, 3) := by decide +kernel
theorem dX12_tapeWord_21 : decode cX12_tapeWord 21 = .ok (.bipush 8, 2) := by decide +kernel
theorem dX12_tapeWord_23 : decode cX12_tapeWord 23 = .ok (.ireturn, 1) := by decide +kernel
theorem dX12_tapeWord_24 : decode cX12_tapeWord 24 = .ok (.aload_n 0, 1) := by decide +kernel
theorem dX12_tapeWord_25 : decode cX12_tapeWord 25 = .ok (.ldc 122, 2) := by decide +kernel
theorem dX12_tapeWord_27 : decode cX12_tapeWord 27 = .ok (.invokevirtual 116, 3) := by decide +kernel
theorem dX12_tapeWord_30 : decode cX12_tapeWord 30 = .ok (.ifCond .eq 6, 3) := by decide +kernel
theorem dX12_tapeWord_33 : decode cX12_tapeWord 33 = .ok (.bipush 9, 2) := by decide +kernel
theorem dX12_tapeWord_35 : decode cX12_tapeWord 35 = .ok (.ireturn, 1) := by decide +kernel
theorem dX12_tapeWord_36 : decode cX12_tapeWord 36 = .ok (.aload_n 0, 1) := by decide +kernel
theorem dX12_tapeWord_37 : decode cX12_tapeWord 37 = .ok (.ldc 124, 2) := by decide +kernel
theorem dX12_tapeWord_39 : decode cX12_tapeWord 39 = .ok (.invokevirtual 116, 3) := by decide +kernel
theorem dX12_tapeWord_42 : decode cX12_tapeWord 42 = .ok (.ifCond .eq 8, 3) := by decide +kernel
theorem dX12_tapeWord_45 : decode cX12_tapeWord 45 = .ok (.bipush 10, 2) := by decide +kernel
theorem dX12_tapeWord_47 : decode cX12_tapeWord 47 = .ok (.goto 4, 3) := by decide +kernel
theorem dX12_tapeWord_50 : decode cX12_tapeWord 50 = .ok (.iconst 1, 1) := by decide +kernel
theorem dX12_tapeWord_51 : decode cX12_tapeWord 51 = .ok (.ireturn, 1) := by decide +kernel
theorem dX12_asked_0 : decode cX12_asked 0 = .ok (.aload_n 0, 1) := by decide +kernel
theorem dX12_asked_1 : decode cX12_asked 1 = .ok (.ldc 126, 2) := by decide +kernel
theorem dX12_asked_3 : decode cX12_asked 3 = .ok (.invokevirtual 116, 3) := by decide +kernel
theorem dX12_asked_6 : decode cX12_asked 6 = .ok (.ifCond .eq 6, 3) := by decide +kernel
theorem dX12_asked_9 : decode cX12_asked 9 = .ok (.bipush 41, 2) := by decide +kernel
theorem dX12_asked_11 : decode cX12_asked 11 = .ok (.ireturn, 1) := by decide +kernel
theorem dX12_asked_12 : decode cX12_asked 12 = .ok (.aload_n 0, 1) := by decide +kernel
theorem dX12_asked_13 : decode cX12_asked 13 = .ok (.ldc 127, 2) := by decide +kernel
theorem dX12_asked_15 : decode cX12_asked 15 = .ok (.invokevirtual 116, 3) := by decide +kernel
theorem dX12_asked_18 : decode cX12_asked 18 = .ok (.ifCond .eq 6, 3) := by decide +kernel
theorem dX12_asked_21 : decode cX12_asked 21 = .ok (.bipush 42, 2) := by decide +kernel
theorem dX12_asked_23 : decode cX12_asked 23 = .ok (.ireturn, 1) := by decide +kernel
theorem dX12_asked_24 : decode cX12_asked 24 = .ok (.aload_n 0, 1) := by decide +kernel
theorem dX12_asked_25 : decode cX12_asked 25 = .ok (.ldc 129, 2) := by decide +kernel
theorem dX12_asked_27 : decode cX12_asked 27 = .ok (.invokevirtual 116, 3) := by decide +kernel
theorem dX12_asked_30 : decode cX12_asked 30 = .ok (.ifCond .eq 6, 3) := by decide +kernel
theorem dX12_asked_33 : decode cX12_asked 33 = .ok (.bipush 43, 2) := by decide +kernel
theorem dX12_asked_35 : decode cX12_asked 35 = .ok (.ireturn, 1) := by decide +kernel
theorem dX12_asked_36 : decode cX12_asked 36 = .ok (.aload_n 0, 1) := by decide +kernel
theorem dX12_asked_37 : decode cX12_asked 37 = .ok (.ldc 131, 2) := by decide +kernel
theorem dX12_asked_39 : decode cX12_asked 39 = .ok (.invokevirtual 116, 3) := by decide +kernel
theorem dX12_asked_42 : decode cX12_asked 42 = .ok (.ifCond .eq 6, 3) := by decide +kernel
theorem dX12_asked_45 : decode cX12_asked 45 = .ok (.bipush 44, 2) := by decide +kernel
theorem dX12_asked_47 : decode cX12_asked 47 = .ok (.ireturn, 1) := by decide +kernel
theorem dX12_asked_48 : decode cX12_asked 48 = .ok (.aload_n 0, 1) := by decide +kernel
theorem dX12_asked_49 : decode cX12_asked 49 = .ok (.ldc 133, 2) := by decide +kernel
theorem dX12_asked_51 : decode cX12_asked 51 = .ok (.invokevirtual 116, 3) := by decide +kernel
theorem dX12_asked_54 : decode cX12_asked 54 = .ok (.ifCond .eq 6, 3) := by decide +kernel
theorem dX12_asked_57 : decode cX12_asked 57 = .ok (.bipush 45, 2) := by decide +kernel
theorem dX12_asked_59 : decode cX12_asked 59 = .ok (.ireturn, 1) := by decide +kernel
theorem dX12_asked_60 : decode cX12_asked 60 = .ok (.aload_n 0, 1) := by decide +kernel
theorem dX12_asked_61 : decode cX12_asked 61 = .ok (.ldc 114, 2) := by decide +kernel
theorem dX12_asked_63 : decode cX12_asked 63 = .ok (.invokevirtual 116, 3) := by decide +kernel
theorem dX12_asked_66 : decode cX12_asked 66 = .ok (.ifCond .eq 6, 3) := by decide +kernel
theorem dX12_asked_69 : decode cX12_asked 69 = .ok (.bipush 46, 2) := by decide +kernel
theorem dX12_asked_71 : decode cX12_asked 71 = .ok (.ireturn, 1) := by decide +kernel
theorem dX12_asked_72 : decode cX12_asked 72 = .ok (.aload_n 0, 1) := by decide +kernel
theorem dX12_asked_73 : decode cX12_asked 73 = .ok (.ldc 135, 2) := by decide +kernel
theorem dX12_asked_75 : decode cX12_asked 75 = .ok (.invokevirtual 116, 3) := by decide +kernel
theorem dX12_asked_78 : decode cX12_asked 78 = .ok (.ifCond .eq 8, 3) := by decide +kernel
theorem dX12_asked_81 : decode cX12_asked 81 = .ok (.bipush 47, 2) := by decide +kernel
theorem dX12_asked_83 : decode cX12_asked 83 = .ok (.goto 4, 3) := by decide +kernel
theorem dX12_asked_86 : decode cX12_asked 86 = .ok (.iconst 1, 1) := by decide +kernel
theorem dX12_asked_87 : decode cX12_asked 87 = .ok (.ireturn, 1) := by decide +kernel
theorem dX12_lawWord_0 : decode cX12_lawWord 0 = .ok (.aload_n 0, 1) := by decide +kernel
theorem dX12_lawWord_1 : decode cX12_lawWord 1 = .ok (.ldc 137, 2) := by decide +kernel
theorem dX12_lawWord_3 : decode cX12_lawWord 3 = .ok (.invokevirtual 116, 3) := by decide +kernel
theorem dX12_lawWord_6 : decode cX12_lawWord 6 = .ok (.ifCond .eq 5, 3) := by decide +kernel
theorem dX12_lawWord_9 : decode cX12_lawWord 9 = .ok (.iconst 3, 1) := by decide +kernel
theorem dX12_lawWord_10 : decode cX12_lawWord 10 = .ok (.ireturn, 1) := by decide +kernel
theorem dX12_lawWord_11 : decode cX12_lawWord 11 = .ok (.aload_n 0, 1) := by decide +kernel
theorem dX12_lawWord_12 : decode cX12_lawWord 12 = .ok (.ldc 139, 2) := by decide +kernel
theorem dX12_lawWord_14 : decode cX12_lawWord 14 = .ok (.invokevirtual 116, 3) := by decide +kernel
theorem dX12_lawWord_17 : decode cX12_lawWord 17 = .ok (.ifCond .eq 5, 3) := by decide +kernel
theorem dX12_lawWord_20 : decode cX12_lawWord 20 = .ok (.iconst 4, 1) := by decide +kernel
theorem dX12_lawWord_21 : decode cX12_lawWord 21 = .ok (.ireturn, 1) := by decide +kernel
theorem dX12_lawWord_22 : decode cX12_lawWord 22 = .ok (.aload_n 0, 1) := by decide +kernel
theorem dX12_lawWord_23 : decode cX12_lawWord 23 = .ok (.ldc 141, 2) := by decide +kernel
theorem dX12_lawWord_25 : decode cX12_lawWord 25 = .ok (.invokevirtual 116, 3) := by decide +kernel
theorem dX12_lawWord_28 : decode cX12_lawWord 28 = .ok (.ifCond .eq 5, 3) := by decide +kernel
theorem dX12_lawWord_31 : decode cX12_lawWord 31 = .ok (.iconst 5, 1) := by decide +kernel
theorem dX12_lawWord_32 : decode cX12_lawWord 32 = .ok (.ireturn, 1) := by decide +kernel
theorem dX12_lawWord_33 : decode cX12_lawWord 33 = .ok (.aload_n 0, 1) := by decide +kernel
theorem dX12_lawWord_34 : decode cX12_lawWord 34 = .ok (.ldc 143, 2) := by decide +kernel
theorem dX12_lawWord_36 : decode cX12_lawWord 36 = .ok (.invokevirtual 116, 3) := by decide +kernel
theorem dX12_lawWord_39 : decode cX12_lawWord 39 = .ok (.ifCond .eq 6, 3) := by decide +kernel
theorem dX12_lawWord_42 : decode cX12_lawWord 42 = .ok (.bipush 6, 2) := by decide +kernel
theorem dX12_lawWord_44 : decode cX12_lawWord 44 = .ok (.ireturn, 1) := by decide +kernel
theorem dX12_lawWord_45 : decode cX12_lawWord 45 = .ok (.aload_n 0, 1) := by decide +kernel
theorem dX12_lawWord_46 : decode cX12_lawWord 46 = .ok (.ldc 145, 2) := by decide +kernel
theorem dX12_lawWord_48 : decode cX12_lawWord 48 = .ok (.invokevirtual 116, 3) := by decide +kernel
theorem dX12_lawWord_51 : decode cX12_lawWord 51 = .ok (.ifCond .eq 6, 3) := by decide +kernel
theorem dX12_lawWord_54 : decode cX12_lawWord 54 = .ok (.bipush 20, 2) := by decide +kernel
theorem dX12_lawWord_56 : decode cX12_lawWord 56 = .ok (.ireturn, 1) := by decide +kernel
theorem dX12_lawWord_57 : decode cX12_lawWord 57 = .ok (.aload_n 0, 1) := by decide +kernel
theorem dX12_lawWord_58 : decode cX12_lawWord 58 = .ok (.ldc 147, 2) := by decide +kernel
theorem dX12_lawWord_60 : decode cX12_lawWord 60 = .ok (.invokevirtual 116, 3) := by decide +kernel
theorem dX12_lawWord_63 : decode cX12_lawWord 63 = .ok (.ifCond .eq 6, 3) := by decide +kernel
theorem dX12_lawWord_66 : decode cX12_lawWord 66 = .ok (.bipush 21, 2) := by decide +kernel
theorem dX12_lawWord_68 : decode cX12_lawWord 68 = .ok (.ireturn, 1) := by decide +kernel
theorem dX12_lawWord_69 : decode cX12_lawWord 69 = .ok (.aload_n 0, 1) := by decide +kernel
theorem dX12_lawWord_70 : decode cX12_lawWord 70 = .ok (.ldc 149, 2) := by decide +kernel
theorem dX12_lawWord_72 : decode cX12_lawWord 72 = .ok (.invokevirtual 116, 3) := by decide +kernel
theorem dX12_lawWord_75 : decode cX12_lawWord 75 = .ok (.ifCond .eq 8, 3) := by decide +kernel
theorem dX12_lawWord_78 : decode cX12_lawWord 78 = .ok (.bipush 22, 2) := by decide +kernel
theorem dX12_lawWord_80 : decode cX12_lawWord 80 = .ok (.goto 7, 3) := by decide +kernel
theorem dX12_lawWord_83 : decode cX12_lawWord 83 = .ok (.aload_n 0, 1) := by decide +kernel
theorem dX12_lawWord_84 : decode cX12_lawWord 84 = .ok (.invokevirtual 151, 3) := by decide +kernel
theorem dX12_lawWord_87 : decode cX12_lawWord 87 = .ok (.ireturn, 1) := by decide +kernel
theorem dX12_eveningWord_0 : decode cX12_eveningWord 0 = .ok (.aload_n 0, 1) := by decide +kernel
theorem dX12_eveningWord_1 : decode cX12_eveningWord 1 = .ok (.ldc 129, 2) := by decide +kernel
theorem dX12_eveningWord_3 : decode cX12_eveningWord 3 = .ok (.invokevirtual 116, 3) := by decide +kernel
theorem dX12_eveningWord_6 : decode cX12_eveningWord 6 = .ok (.ifCond .eq 6, 3) := by decide +kernel
theorem dX12_eveningWord_9 : decode cX12_eveningWord 9 = .ok (.bipush 11, 2) := by decide +kernel
theorem dX12_eveningWord_11 : decode cX12_eveningWord 11 = .ok (.ireturn, 1) := by decide +kernel
theorem dX12_eveningWord_12 : decode cX12_eveningWord 12 = .ok (.aload_n 0, 1) := by decide +kernel
theorem dX12_eveningWord_13 : decode cX12_eveningWord 13 = .ok (.ldc 154, 2) := by decide +kernel
theorem dX12_eveningWord_15 : decode cX12_eveningWord 15 = .ok (.invokevirtual 116, 3) := by decide +kernel
theorem dX12_eveningWord_18 : decode cX12_eveningWord 18 = .ok (.ifCond .eq 6, 3) := by decide +kernel
theorem dX12_eveningWord_21 : decode cX12_eveningWord 21 = .ok (.bipush 12, 2) := by decide +kernel
theorem dX12_eveningWord_23 : decode cX12_eveningWord 23 = .ok (.ireturn, 1) := by decide +kernel
theorem dX12_eveningWord_24 : decode cX12_eveningWord 24 = .ok (.aload_n 0, 1) := by decide +kernel
theorem dX12_eveningWord_25 : decode cX12_eveningWord 25 = .ok (.ldc 155, 2) := by decide +kernel
theorem dX12_eveningWord_27 : decode cX12_eveningWord 27 = .ok (.invokevirtual 116, 3) := by decide +kernel
theorem dX12_eveningWord_30 : decode cX12_eveningWord 30 = .ok (.ifCond .eq 6, 3) := by decide +kernel
theorem dX12_eveningWord_33 : decode cX12_eveningWord 33 = .ok (.bipush 13, 2) := by decide +kernel
theorem dX12_eveningWord_35 : decode cX12_eveningWord 35 = .ok (.ireturn, 1) := by decide +kernel
theorem dX12_eveningWord_36 : decode cX12_eveningWord 36 = .ok (.aload_n 0, 1) := by decide +kernel
theorem dX12_eveningWord_37 : decode cX12_eveningWord 37 = .ok (.ldc 124, 2) := by decide +kernel
theorem dX12_eveningWord_39 : decode cX12_eveningWord 39 = .ok (.invokevirtual 116, 3) := by decide +kernel
theorem dX12_eveningWord_42 : decode cX12_eveningWord 42 = .ok (.ifCond .eq 6, 3) := by decide +kernel
theorem dX12_eveningWord_45 : decode cX12_eveningWord 45 = .ok (.bipush 10, 2) := by decide +kernel
theorem dX12_eveningWord_47 : decode cX12_eveningWord 47 = .ok (.ireturn, 1) := by decide +kernel
theorem dX12_eveningWord_48 : decode cX12_eveningWord 48 = .ok (.aload_n 0, 1) := by decide +kernel
theorem dX12_eveningWord_49 : decode cX12_eveningWord 49 = .ok (.ldc 157, 2) := by decide +kernel
theorem dX12_eveningWord_51 : decode cX12_eveningWord 51 = .ok (.invokevirtual 116, 3) := by decide +kernel
theorem dX12_eveningWord_54 : decode cX12_eveningWord 54 = .ok (.ifCond .eq 8, 3) := by decide +kernel
theorem dX12_eveningWord_57 : decode cX12_eveningWord 57 = .ok (.bipush 14, 2) := by decide +kernel
theorem dX12_eveningWord_59 : decode cX12_eveningWord 59 = .ok (.goto 4, 3) := by decide +kernel
theorem dX12_eveningWord_62 : decode cX12_eveningWord 62 = .ok (.iconst 1, 1) := by decide +kernel
theorem dX12_eveningWord_63 : decode cX12_eveningWord 63 = .ok (.ireturn, 1) := by decide +kernel
theorem dX12_afterWord_0 : decode cX12_afterWord 0 = .ok (.aload_n 0, 1) := by decide +kernel
theorem dX12_afterWord_1 : decode cX12_afterWord 1 = .ok (.ldc 159, 2) := by decide +kernel
theorem dX12_afterWord_3 : decode cX12_afterWord 3 = .ok (.invokevirtual 116, 3) := by decide +kernel
theorem dX12_afterWord_6 : decode cX12_afterWord 6 = .ok (.ifCond .eq 6, 3) := by decide +kernel
theorem dX12_afterWord_9 : decode cX12_afterWord 9 = .ok (.bipush 15, 2) := by decide +kernel
theorem dX12_afterWord_11 : decode cX12_afterWord 11 = .ok (.ireturn, 1) := by decide +kernel
theorem dX12_afterWord_12 : decode cX12_afterWord 12 = .ok (.aload_n 0, 1) := by decide +kernel
theorem dX12_afterWord_13 : decode cX12_afterWord 13 = .ok (.ldc 120, 2) := by decide +kernel
theorem dX12_afterWord_15 : decode cX12_afterWord 15 = .ok (.invokevirtual 116, 3) := by decide +kernel
theorem dX12_afterWord_18 : decode cX12_afterWord 18 = .ok (.ifCond .eq 8, 3) := by decide +kernel
theorem dX12_afterWord_21 : decode cX12_afterWord 21 = .ok (.bipush 8, 2) := by decide +kernel
theorem dX12_afterWord_23 : decode cX12_afterWord 23 = .ok (.goto 4, 3) := by decide +kernel
theorem dX12_afterWord_26 : decode cX12_afterWord 26 = .ok (.iconst 1, 1) := by decide +kernel
theorem dX12_afterWord_27 : decode cX12_afterWord 27 = .ok (.ireturn, 1) := by decide +kernel
theorem dX12_word_0 : decode cX12_word 0 = .ok (.aload_n 0, 1) := by decide +kernel
theorem dX12_word_1 : decode cX12_word 1 = .ok (.getfield 161, 3) := by decide +kernel
theorem dX12_word_4 : decode cX12_word 4 = .ok (.tableswitch 43 0 2 #[28, 33, 38], 28) := by decide +kernel
theorem dX12_word_32 : decode cX12_word 32 = .ok (.aload_n 0, 1) := by decide +kernel
theorem dX12_word_33 : decode cX12_word 33 = .ok (.invokevirtual 164, 3) := by decide +kernel
theorem dX12_word_36 : decode cX12_word 36 = .ok (.ireturn, 1) := by decide +kernel
theorem dX12_word_37 : decode cX12_word 37 = .ok (.aload_n 0, 1) := by decide +kernel
theorem dX12_word_38 : decode cX12_word 38 = .ok (.invokevirtual 167, 3) := by decide +kernel
theorem dX12_word_41 : decode cX12_word 41 = .ok (.ireturn, 1) := by decide +kernel
theorem dX12_word_42 : decode cX12_word 42 = .ok (.aload_n 0, 1) := by decide +kernel
theorem dX12_word_43 : decode cX12_word 43 = .ok (.invokevirtual 170, 3) := by decide +kernel
theorem dX12_word_46 : decode cX12_word 46 = .ok (.ireturn, 1) := by decide +kernel
theorem dX12_word_47 : decode cX12_word 47 = .ok (.aload_n 0, 1) := by decide +kernel
theorem dX12_word_48 : decode cX12_word 48 = .ok (.invokevirtual 173, 3) := by decide +kernel
theorem dX12_word_51 : decode cX12_word 51 = .ok (.ireturn, 1) := by decide +kernel
theorem dX12_next0_0 : decode cX12_next0 0 = .ok (.aload_n 0, 1) := by decide +kernel
theorem dX12_next0_1 : decode cX12_next0 1 = .ok (.aload_n 0, 1) := by decide +kernel
theorem dX12_next0_2 : decode cX12_next0 2 = .ok (.getfield 98, 3) := by decide +kernel
theorem dX12_next0_5 : decode cX12_next0 5 = .ok (.invokevirtual 176, 3) := by decide +kernel
theorem dX12_next0_8 : decode cX12_next0 8 = .ok (.bipush 32, 2) := by decide +kernel
theorem dX12_next0_10 : decode cX12_next0 10 = .ok (.if_icmp .eq 16, 3) := by decide +kernel
theorem dX12_next0_13 : decode cX12_next0 13 = .ok (.aload_n 0, 1) := by decide +kernel
theorem dX12_next0_14 : decode cX12_next0 14 = .ok (.aload_n 0, 1) := by decide +kernel
theorem dX12_next0_15 : decode cX12_next0 15 = .ok (.getfield 98, 3) := by decide +kernel
theorem dX12_next0_18 : decode cX12_next0 18 = .ok (.invokevirtual 176, 3) := by decide +kernel
theorem dX12_next0_21 : decode cX12_next0 21 = .ok (.bipush 10, 2) := by decide +kernel
theorem dX12_next0_23 : decode cX12_next0 23 = .ok (.if_icmp .ne 16, 3) := by decide +kernel
theorem dX12_next0_26 : decode cX12_next0 26 = .ok (.aload_n 0, 1) := by decide +kernel
theorem dX12_next0_27 : decode cX12_next0 27 = .ok (.dup, 1) := by decide +kernel
theorem dX12_next0_28 : decode cX12_next0 28 = .ok (.getfield 98, 3) := by decide +kernel
theorem dX12_next0_31 : decode cX12_next0 31 = .ok (.iconst 1, 1) := by decide +kernel
theorem dX12_next0_32 : decode cX12_next0 32 = .ok (.iadd, 1) := by decide +kernel
theorem dX12_next0_33 : decode cX12_next0 33 = .ok (.putfield 98, 3) := by decide +kernel
theorem dX12_next0_36 : decode cX12_next0 36 = .ok (.goto (-36), 3) := by decide +kernel
theorem dX12_next0_39 : decode cX12_next0 39 = .ok (.aload_n 0, 1) := by decide +kernel
theorem dX12_next0_40 : decode cX12_next0 40 = .ok (.aload_n 0, 1) := by decide +kernel
theorem dX12_next0_41 : decode cX12_next0 41 = .ok (.getfield 98, 3) := by decide +kernel
theorem dX12_next0_44 : decode cX12_next0 44 = .ok (.putfield 101, 3) := by decide +kernel
theorem dX12_next0_47 : decode cX12_next0 47 = .ok (.aload_n 0, 1) := by decide +kernel
theorem dX12_next0_48 : decode cX12_next0 48 = .ok (.aload_n 0, 1) := by decide +kernel
theorem dX12_next0_49 : decode cX12_next0 49 = .ok (.getfield 98, 3) := by decide +kernel
theorem dX12_next0_52 : decode cX12_next0 52 = .ok (.invokevirtual 176, 3) := by decide +kernel
theorem dX12_next0_55 : decode cX12_next0 55 = .ok (.istore_n 1, 1) := by decide +kernel
theorem dX12_next0_56 : decode cX12_next0 56 = .ok (.iload_n 1, 1) := by decide +kernel
theorem dX12_next0_57 : decode cX12_next0 57 = .ok (.iconst (-1), 1) := by decide +kernel
theorem dX12_next0_58 : decode cX12_next0 58 = .ok (.if_icmp .ne 11, 3) := by decide +kernel
theorem dX12_next0_61 : decode cX12_next0 61 = .ok (.aload_n 0, 1) := by decide +kernel
theorem dX12_next0_62 : decode cX12_next0 62 = .ok (.iconst 0, 1) := by decide +kernel
theorem dX12_next0_63 : decode cX12_next0 63 = .ok (.putfield 180, 3) := by decide +kernel
theorem dX12_next0_66 : decode cX12_next0 66 = .ok (.goto 240, 3) := by decide +kernel
theorem dX12_next0_69 : decode cX12_next0 69 = .ok (.iload_n 1, 1) := by decide +kernel
theorem dX12_next0_70 : decode cX12_next0 70 = .ok (.invokestatic 183, 3) := by decide +kernel
theorem dX12_next0_73 : decode cX12_next0 73 = .ok (.ifCond .eq 41, 3) := by decide +kernel
theorem dX12_next0_76 : decode cX12_next0 76 = .ok (.aload_n 0, 1) := by decide +kernel
theorem dX12_next0_77 : decode cX12_next0 77 = .ok (.aload_n 0, 1) := by decide +kernel
theorem dX12_next0_78 : decode cX12_next0 78 = .ok (.getfield 98, 3) := by decide +kernel
theorem dX12_next0_81 : decode cX12_next0 81 = .ok (.invokevirtual 176, 3) := by decide +kernel
theorem dX12_next0_84 : decode cX12_next0 84 = .ok (.invokestatic 183, 3) := by decide +kernel
theorem dX12_next0_87 : decode cX12_next0 87 = .ok (.ifCond .eq 16, 3) := by decide +kernel
theorem dX12_next0_90 : decode cX12_next0 90 = .ok (.aload_n 0, 1) := by decide +kernel
theorem dX12_next0_91 : decode cX12_next0 91 = .ok (.dup, 1) := by decide +kernel
theorem dX12_next0_92 : decode cX12_next0 92 = .ok (.getfield 98, 3) := by decide +kernel
theorem dX12_next0_95 : decode cX12_next0 95 = .ok (.iconst 1, 1) := by decide +kernel
theorem dX12_next0_96 : decode cX12_next0 96 = .ok (.iadd, 1) := by decide +kernel
theorem dX12_next0_97 : decode cX12_next0 97 = .ok (.putfield 98, 3) := by decide +kernel
theorem dX12_next0_100 : decode cX12_next0 100 = .ok (.goto (-24), 3) := by decide +kernel
theorem dX12_next0_103 : decode cX12_next0 103 = .ok (.aload_n 0, 1) := by decide +kernel
theorem dX12_next0_104 : decode cX12_next0 104 = .ok (.aload_n 0, 1) := by decide +kernel
theorem dX12_next0_105 : decode cX12_next0 105 = .ok (.invokevirtual 186, 3) := by decide +kernel
theorem dX12_next0_108 : decode cX12_next0 108 = .ok (.putfield 180, 3) := by decide +kernel
theorem dX12_next0_111 : decode cX12_next0 111 = .ok (.goto 195, 3) := by decide +kernel
theorem dX12_next0_114 : decode cX12_next0 114 = .ok (.iload_n 1, 1) := by decide +kernel
theorem dX12_next0_115 : decode cX12_next0 115 = .ok (.invokestatic 189, 3) := by decide +kernel
theorem dX12_next0_118 : decode cX12_next0 118 = .ok (.ifCond .eq 96, 3) := by decide +kernel
theorem dX12_next0_121 : decode cX12_next0 121 = .ok (.aload_n 0, 1) := by decide +kernel
theorem dX12_next0_122 : decode cX12_next0 122 = .ok (.iconst 0, 1) := by decide +kernel
theorem dX12_next0_123 : decode cX12_next0 123 = .ok (.putfield 192, 3) := by decide +kernel
theorem dX12_next0_126 : decode cX12_next0 126 = .ok (.aload_n 0, 1) := by decide +kernel
theorem dX12_next0_127 : decode cX12_next0 127 = .ok (.aload_n 0, 1) := by decide +kernel
theorem dX12_next0_128 : decode cX12_next0 128 = .ok (.getfield 98, 3) := by decide +kernel
theorem dX12_next0_131 : decode cX12_next0 131 = .ok (.invokevirtual 176, 3) := by decide +kernel
theorem dX12_next0_134 : decode cX12_next0 134 = .ok (.invokestatic 189, 3) := by decide +kernel
theorem dX12_next0_137 : decode cX12_next0 137 = .ok (.ifCond .eq 52, 3) := by decide +kernel
theorem dX12_next0_140 : decode cX12_next0 140 = .ok (.aload_n 0, 1) := by decide +kernel
theorem dX12_next0_141 : decode cX12_next0 141 = .ok (.getfield 98, 3) := by decide +kernel
theorem dX12_next0_144 : decode cX12_next0 144 = .ok (.aload_n 0, 1) := by decide +kernel
theorem dX12_next0_145 : decode cX12_next0 145 = .ok (.getfield 101, 3) := by decide +kernel
theorem dX12_next0_148 : decode cX12_next0 148 = .ok (.iconst 4, 1) := by decide +kernel
theorem dX12_next0_149 : decode cX12_next0 149 = .ok (.iadd, 1) := by decide +kernel
theorem dX12_next0_150 : decode cX12_next0 150 = .ok (.if_icmp .ge 26, 3) := by decide +kernel
theorem dX12_next0_153 : decode cX12_next0 153 = .ok (.aload_n 0, 1) := by decide +kernel
theorem dX12_next0_154 : decode cX12_next0 154 = .ok (.bipush 10, 2) := by decide +kernel
theorem dX12_next0_156 : decode cX12_next0 156 = .ok (.aload_n 0, 1) := by decide +kernel
theorem dX12_next0_157 : decode cX12_next0 157 = .ok (.getfield 192, 3) := by decide +kernel
theorem dX12_next0_160 : decode cX12_next0 160 = .ok (.imul, 1) := by decide +kernel
theorem dX12_next0_161 : decode cX12_next0 161 = .ok (.aload_n 0, 1) := by decide +kernel
theorem dX12_next0_162 : decode cX12_next0 162 = .ok (.aload_n 0, 1) := by decide +kernel
theorem dX12_next0_163 : decode cX12_next0 163 = .ok (.getfield 98, 3) := by decide +kernel
theorem dX12_next0_166 : decode cX12_next0 166 = .ok (.invokevirtual 176, 3) := by decide +kernel
theorem dX12_next0_169 : decode cX12_next0 169 = .ok (.iadd, 1) := by decide +kernel
theorem dX12_next0_170 : decode cX12_next0 170 = .ok (.bipush 48, 2) := by decide +kernel
theorem dX12_next0_172 : decode cX12_next0 172 = .ok (.isub, 1) := by decide +kernel
theorem dX12_next0_173 : decode cX12_next0 173 = .ok (.putfield 192, 3) := by decide +kernel
theorem dX12_next0_176 : decode cX12_next0 176 = .ok (.aload_n 0, 1) := by decide +kernel
theorem dX12_next0_177 : decode cX12_next0 177 = .ok (.dup, 1) := by decide +kernel
theorem dX12_next0_178 : decode cX12_next0 178 = .ok (.getfield 98, 3) := by decide +kernel
theorem dX12_next0_181 : decode cX12_next0 181 = .ok (.iconst 1, 1) := by decide +kernel
theorem dX12_next0_182 : decode cX12_next0 182 = .ok (.iadd, 1) := by decide +kernel
theorem dX12_next0_183 : decode cX12_next0 183 = .ok (.putfield 98, 3) := by decide +kernel
theorem dX12_next0_186 : decode cX12_next0 186 = .ok (.goto (-60), 3) := by decide +kernel
theorem dX12_next0_189 : decode cX12_next0 189 = .ok (.aload_n 0, 1) := by decide +kernel
theorem dX12_next0_190 : decode cX12_next0 190 = .ok (.aload_n 0, 1) := by decide +kernel
theorem dX12_next0_191 : decode cX12_next0 191 = .ok (.getfield 98, 3) := by decide +kernel
theorem dX12_next0_194 : decode cX12_next0 194 = .ok (.aload_n 0, 1) := by decide +kernel
theorem dX12_next0_195 : decode cX12_next0 195 = .ok (.getfield 101, 3) := by decide +kernel
theorem dX12_next0_198 : decode cX12_next0 198 = .ok (.isub, 1) := by decide +kernel
theorem dX12_next0_199 : decode cX12_next0 199 = .ok (.iconst 5, 1) := by decide +kernel
theorem dX12_next0_200 : decode cX12_next0 200 = .ok (.if_icmp .ge 7, 3) := by decide +kernel
theorem dX12_next0_203 : decode cX12_next0 203 = .ok (.iconst 2, 1) := by decide +kernel
theorem dX12_next0_204 : decode cX12_next0 204 = .ok (.goto 4, 3) := by decide +kernel
theorem dX12_next0_207 : decode cX12_next0 207 = .ok (.iconst 1, 1) := by decide +kernel
theorem dX12_next0_208 : decode cX12_next0 208 = .ok (.putfield 180, 3) := by decide +kernel
theorem dX12_next0_211 : decode cX12_next0 211 = .ok (.goto 95, 3) := by decide +kernel
theorem dX12_next0_214 : decode cX12_next0 214 = .ok (.aload_n 0, 1) := by decide +kernel
theorem dX12_next0_215 : decode cX12_next0 215 = .ok (.dup, 1) := by decide +kernel
theorem dX12_next0_216 : decode cX12_next0 216 = .ok (.getfield 98, 3) := by decide +kernel
theorem dX12_next0_219 : decode cX12_next0 219 = .ok (.iconst 1, 1) := by decide +kernel
theorem dX12_next0_220 : decode cX12_next0 220 = .ok (.iadd, 1) := by decide +kernel
theorem dX12_next0_221 : decode cX12_next0 221 = .ok (.putfield 98, 3) := by decide +kernel
theorem dX12_next0_224 : decode cX12_next0 224 = .ok (.iload_n 1, 1) := by decide +kernel
theorem dX12_next0_225 : decode cX12_next0 225 = .ok (.bipush 59, 2) := by decide +kernel
theorem dX12_next0_227 : decode cX12_next0 227 = .ok (.if_icmp .eq 57, 3) := by decide +kernel
theorem dX12_next0_230 : decode cX12_next0 230 = .ok (.iload_n 1, 1) := by decide +kernel
theorem dX12_next0_231 : decode cX12_next0 231 = .ok (.bipush 43, 2) := by decide +kernel
theorem dX12_next0_233 : decode cX12_next0 233 = .ok (.if_icmp .eq 51, 3) := by decide +kernel
theorem dX12_next0_236 : decode cX12_next0 236 = .ok (.iload_n 1, 1) := by decide +kernel
theorem dX12_next0_237 : decode cX12_next0 237 = .ok (.bipush 45, 2) := by decide +kernel
theorem dX12_next0_239 : decode cX12_next0 239 = .ok (.if_icmp .eq 45, 3) := by decide +kernel
theorem dX12_next0_242 : decode cX12_next0 242 = .ok (.iload_n 1, 1) := by decide +kernel
theorem dX12_next0_243 : decode cX12_next0 243 = .ok (.bipush 42, 2) := by decide +kernel
theorem dX12_next0_245 : decode cX12_next0 245 = .ok (.if_icmp .eq 39, 3) := by decide +kernel
theorem dX12_next0_248 : decode cX12_next0 248 = .ok (.iload_n 1, 1) := by decide +kernel
theorem dX12_next0_249 : decode cX12_next0 249 = .ok (.bipush 47, 2) := by decide +kernel
theorem dX12_next0_251 : decode cX12_next0 251 = .ok (.if_icmp .eq 33, 3) := by decide +kernel
theorem dX12_next0_254 : decode cX12_next0 254 = .ok (.iload_n 1, 1) := by decide +kernel
theorem dX12_next0_255 : decode cX12_next0 255 = .ok (.bipush 40, 2) := by decide +kernel
theorem dX12_next0_257 : decode cX12_next0 257 = .ok (.if_icmp .eq 27, 3) := by decide +kernel
theorem dX12_next0_260 : decode cX12_next0 260 = .ok (.iload_n 1, 1) := by decide +kernel
theorem dX12_next0_261 : decode cX12_next0 261 = .ok (.bipush 41, 2) := by decide +kernel
theorem dX12_next0_263 : decode cX12_next0 263 = .ok (.if_icmp .eq 21, 3) := by decide +kernel
theorem dX12_next0_266 : decode cX12_next0 266 = .ok (.iload_n 1, 1) := by decide +kernel
theorem dX12_next0_267 : decode cX12_next0 267 = .ok (.bipush 60, 2) := by decide +kernel
theorem dX12_next0_269 : decode cX12_next0 269 = .ok (.if_icmp .eq 15, 3) := by decide +kernel
theorem dX12_next0_272 : decode cX12_next0 272 = .ok (.iload_n 1, 1) := by decide +kernel
theorem dX12_next0_273 : decode cX12_next0 273 = .ok (.bipush 61, 2) := by decide +kernel
theorem dX12_next0_275 : decode cX12_next0 275 = .ok (.if_icmp .eq 9, 3) := by decide +kernel
theorem dX12_next0_278 : decode cX12_next0 278 = .ok (.iload_n 1, 1) := by decide +kernel
theorem dX12_next0_279 : decode cX12_next0 279 = .ok (.bipush 62, 2) := by decide +kernel
theorem dX12_next0_281 : decode cX12_next0 281 = .ok (.if_icmp .ne 7, 3) := by decide +kernel
theorem dX12_next0_284 : decode cX12_next0 284 = .ok (.iconst 1, 1) := by decide +kernel
theorem dX12_next0_285 : decode cX12_next0 285 = .ok (.goto 4, 3) := by decide +kernel
theorem dX12_next0_288 : decode cX12_next0 288 = .ok (.iconst 0, 1) := by decide +kernel
theorem dX12_next0_289 : decode cX12_next0 289 = .ok (.istore_n 2, 1) := by decide +kernel
theorem dX12_next0_290 : decode cX12_next0 290 = .ok (.aload_n 0, 1) := by decide +kernel
theorem dX12_next0_291 : decode cX12_next0 291 = .ok (.iload_n 2, 1) := by decide +kernel
theorem dX12_next0_292 : decode cX12_next0 292 = .ok (.ifCond .eq 10, 3) := by decide +kernel
theorem dX12_next0_295 : decode cX12_next0 295 = .ok (.bipush 100, 2) := by decide +kernel
theorem dX12_next0_297 : decode cX12_next0 297 = .ok (.iload_n 1, 1) := by decide +kernel
theorem dX12_next0_298 : decode cX12_next0 298 = .ok (.iadd, 1) := by decide +kernel
theorem dX12_next0_299 : decode cX12_next0 299 = .ok (.goto 4, 3) := by decide +kernel
theorem dX12_next0_302 : decode cX12_next0 302 = .ok (.iconst 1, 1) := by decide +kernel
theorem dX12_next0_303 : decode cX12_next0 303 = .ok (.putfield 180, 3) := by decide +kernel
theorem dX12_next0_306 : decode cX12_next0 306 = .ok (.return_, 1) := by decide +kernel
theorem dX12_bad_0 : decode cX12_bad 0 = .ok (.aload_n 0, 1) := by decide +kernel
theorem dX12_bad_1 : decode cX12_bad 1 = .ok (.iload_n 1, 1) := by decide +kernel
theorem dX12_bad_2 : decode cX12_bad 2 = .ok (.putfield 195, 3) := by decide +kernel
theorem dX12_bad_5 : decode cX12_bad 5 = .ok (.aload_n 0, 1) := by decide +kernel
theorem dX12_bad_6 : decode cX12_bad 6 = .ok (.aload_n 0, 1) := by decide +kernel
theorem dX12_bad_7 : decode cX12_bad 7 = .ok (.getfield 101, 3) := by decide +kernel
theorem dX12_bad_10 : decode cX12_bad 10 = .ok (.putfield 198, 3) := by decide +kernel
theorem dX12_bad_13 : decode cX12_bad 13 = .ok (.iconst 0, 1) := by decide +kernel
theorem dX12_bad_14 : decode cX12_bad 14 = .ok (.ireturn, 1) := by decide +kernel
theorem dX12_need_0 : decode cX12_need 0 = .ok (.aload_n 0, 1) := by decide +kernel
theorem dX12_need_1 : decode cX12_need 1 = .ok (.getfield 180, 3) := by decide +kernel
theorem dX12_need_4 : decode cX12_need 4 = .ok (.iload_n 1, 1) := by decide +kernel
theorem dX12_need_5 : decode cX12_need 5 = .ok (.if_icmp .eq 9, 3) := by decide +kernel
theorem dX12_need_8 : decode cX12_need 8 = .ok (.aload_n 0, 1) := by decide +kernel
theorem dX12_need_9 : decode cX12_need 9 = .ok (.iconst 1, 1) := by decide +kernel
theorem dX12_need_10 : decode cX12_need 10 = .ok (.invokevirtual 201, 3) := by decide +kernel
theorem dX12_need_13 : decode cX12_need 13 = .ok (.ireturn, 1) := by decide +kernel
theorem dX12_need_14 : decode cX12_need 14 = .ok (.aload_n 0, 1) := by decide +kernel
theorem dX12_need_15 : decode cX12_need 15 = .ok (.invokevirtual 204, 3) := by decide +kernel
theorem dX12_need_18 : decode cX12_need 18 = .ok (.iconst 1, 1) := by decide +kernel
theorem dX12_need_19 : decode cX12_need 19 = .ok (.ireturn, 1) := by decide +kernel
theorem dX12_lay_0 : decode cX12_lay 0 = .ok (.aload_n 0, 1) := by decide +kernel
theorem dX12_lay_1 : decode cX12_lay 1 = .ok (.getfield 25, 3) := by decide +kernel
theorem dX12_lay_4 : decode cX12_lay 4 = .ok (.iconst 2, 1) := by decide +kernel
theorem dX12_lay_5 : decode cX12_lay 5 = .ok (.aload_n 0, 1) := by decide +kernel
theorem dX12_lay_6 : decode cX12_lay 6 = .ok (.getfield 207, 3) := by decide +kernel
theorem dX12_lay_9 : decode cX12_lay 9 = .ok (.imul, 1) := by decide +kernel
theorem dX12_lay_10 : decode cX12_lay 10 = .ok (.iload_n 1, 1) := by decide +kernel
theorem dX12_lay_11 : decode cX12_lay 11 = .ok (.iastore, 1) := by decide +kernel
theorem dX12_lay_12 : decode cX12_lay 12 = .ok (.aload_n 0, 1) := by decide +kernel
theorem dX12_lay_13 : decode cX12_lay 13 = .ok (.getfield 25, 3) := by decide +kernel
theorem dX12_lay_16 : decode cX12_lay 16 = .ok (.iconst 2, 1) := by decide +kernel
theorem dX12_lay_17 : decode cX12_lay 17 = .ok (.aload_n 0, 1) := by decide +kernel
theorem dX12_lay_18 : decode cX12_lay 18 = .ok (.getfield 207, 3) := by decide +kernel
theorem dX12_lay_21 : decode cX12_lay 21 = .ok (.imul, 1) := by decide +kernel
theorem dX12_lay_22 : decode cX12_lay 22 = .ok (.iconst 1, 1) := by decide +kernel
theorem dX12_lay_23 : decode cX12_lay 23 = .ok (.iadd, 1) := by decide +kernel
theorem dX12_lay_24 : decode cX12_lay 24 = .ok (.iload_n 2, 1) := by decide +kernel
theorem dX12_lay_25 : decode cX12_lay 25 = .ok (.iastore, 1) := by decide +kernel
theorem dX12_lay_26 : decode cX12_lay 26 = .ok (.aload_n 0, 1) := by decide +kernel
theorem dX12_lay_27 : decode cX12_lay 27 = .ok (.dup, 1) := by decide +kernel
theorem dX12_lay_28 : decode cX12_lay 28 = .ok (.getfield 207, 3) := by decide +kernel
theorem dX12_lay_31 : decode cX12_lay 31 = .ok (.iconst 1, 1) := by decide +kernel
theorem dX12_lay_32 : decode cX12_lay 32 = .ok (.iadd, 1) := by decide +kernel
theorem dX12_lay_33 : decode cX12_lay 33 = .ok (.putfield 207, 3) := by decide +kernel
theorem dX12_lay_36 : decode cX12_lay 36 = .ok (.return_, 1) := by decide +kernel
theorem dX12_opens_0 : decode cX12_opens 0 = .ok (.aload_n 0, 1) := by decide +kernel
theorem dX12_opens_1 : decode cX12_opens 1 = .ok (.getfield 210, 3) := by decide +kernel
theorem dX12_opens_4 : decode cX12_opens 4 = .ok (.bipush 8, 2) := by decide +kernel
theorem dX12_opens_6 : decode cX12_opens 6 = .ok (.if_icmp .ne 9, 3) := by decide +kernel
theorem dX12_opens_9 : decode cX12_opens 9 = .ok (.aload_n 0, 1) := by decide +kernel
theorem dX12_opens_10 : decode cX12_opens 10 = .ok (.iconst 3, 1) := by decide +kernel
theorem dX12_opens_11 : decode cX12_opens 11 = .ok (.invokevirtual 201, 3) := by decide +kernel
theorem dX12_opens_14 : decode cX12_opens 14 = .ok (.ireturn, 1) := by decide +kernel
theorem dX12_opens_15 : decode cX12_opens 15 = .ok (.aload_n 0, 1) := by decide +kernel
theorem dX12_opens_16 : decode cX12_opens 16 = .ok (.dup, 1) := by decide +kernel
theorem dX12_opens_17 : decode cX12_opens 17 = .ok (.getfield 210, 3) := by decide +kernel
theorem dX12_opens_20 : decode cX12_opens 20 = .ok (.iconst 1, 1) := by decide +kernel
theorem dX12_opens_21 : decode cX12_opens 21 = .ok (.iadd, 1) := by decide +kernel
theorem dX12_opens_22 : decode cX12_opens 22 = .ok (.putfield 210, 3) := by decide +kernel
theorem dX12_opens_25 : decode cX12_opens 25 = .ok (.aload_n 0, 1) := by decide +kernel
theorem dX12_opens_26 : decode cX12_opens 26 = .ok (.invokevirtual 204, 3) := by decide +kernel
theorem dX12_opens_29 : decode cX12_opens 29 = .ok (.iconst 1, 1) := by decide +kernel
theorem dX12_opens_30 : decode cX12_opens 30 = .ok (.ireturn, 1) := by decide +kernel
theorem dX12_sumUp_0 : decode cX12_sumUp 0 = .ok (.aload_n 0, 1) := by decide +kernel
theorem dX12_sumUp_1 : decode cX12_sumUp 1 = .ok (.invokevirtual 213, 3) := by decide +kernel
theorem dX12_sumUp_4 : decode cX12_sumUp 4 = .ok (.ifCond .ne 5, 3) := by decide +kernel
theorem dX12_sumUp_7 : decode cX12_sumUp 7 = .ok (.iconst 0, 1) := by decide +kernel
theorem dX12_sumUp_8 : decode cX12_sumUp 8 = .ok (.ireturn, 1) := by decide +kernel
theorem dX12_sumUp_9 : decode cX12_sumUp 9 = .ok (.aload_n 0, 1) := by decide +kernel
theorem dX12_sumUp_10 : decode cX12_sumUp 10 = .ok (.getfield 180, 3) := by decide +kernel
theorem dX12_sumUp_13 : decode cX12_sumUp 13 = .ok (.sipush 143, 3) := by decide +kernel
theorem dX12_sumUp_16 : decode cX12_sumUp 16 = .ok (.if_icmp .eq 13, 3) := by decide +kernel
theorem dX12_sumUp_19 : decode cX12_sumUp 19 = .ok (.aload_n 0, 1) := by decide +kernel
theorem dX12_sumUp_20 : decode cX12_sumUp 20 = .ok (.getfield 180, 3) := by decide +kernel
theorem dX12_sumUp_23 : decode cX12_sumUp 23 = .ok (.sipush 145, 3) := by decide +kernel
theorem dX12_sumUp_26 : decode cX12_sumUp 26 = .ok (.if_icmp .ne 43, 3) := by decide +kernel
theorem dX12_sumUp_29 : decode cX12_sumUp 29 = .ok (.aload_n 0, 1) := by decide +kernel
theorem dX12_sumUp_30 : decode cX12_sumUp 30 = .ok (.getfield 180, 3) := by decide +kernel
theorem dX12_sumUp_33 : decode cX12_sumUp 33 = .ok (.sipush 143, 3) := by decide +kernel
theorem dX12_sumUp_36 : decode cX12_sumUp 36 = .ok (.if_icmp .ne 8, 3) := by decide +kernel
theorem dX12_sumUp_39 : decode cX12_sumUp 39 = .ok (.bipush 23, 2) := by decide +kernel
theorem dX12_sumUp_41 : decode cX12_sumUp 41 = .ok (.goto 5, 3) := by decide +kernel
theorem dX12_sumUp_44 : decode cX12_sumUp 44 = .ok (.bipush 24, 2) := by decide +kernel
theorem dX12_sumUp_46 : decode cX12_sumUp 46 = .ok (.istore_n 1, 1) := by decide +kernel
theorem dX12_sumUp_47 : decode cX12_sumUp 47 = .ok (.aload_n 0, 1) := by decide +kernel
theorem dX12_sumUp_48 : decode cX12_sumUp 48 = .ok (.invokevirtual 204, 3) := by decide +kernel
theorem dX12_sumUp_51 : decode cX12_sumUp 51 = .ok (.aload_n 0, 1) := by decide +kernel
theorem dX12_sumUp_52 : decode cX12_sumUp 52 = .ok (.invokevirtual 213, 3) := by decide +kernel
theorem dX12_sumUp_55 : decode cX12_sumUp 55 = .ok (.ifCond .ne 5, 3) := by decide +kernel
theorem dX12_sumUp_58 : decode cX12_sumUp 58 = .ok (.iconst 0, 1) := by decide +kernel
theorem dX12_sumUp_59 : decode cX12_sumUp 59 = .ok (.ireturn, 1) := by decide +kernel
theorem dX12_sumUp_60 : decode cX12_sumUp 60 = .ok (.aload_n 0, 1) := by decide +kernel
theorem dX12_sumUp_61 : decode cX12_sumUp 61 = .ok (.iload_n 1, 1) := by decide +kernel
theorem dX12_sumUp_62 : decode cX12_sumUp 62 = .ok (.iconst 0, 1) := by decide +kernel
theorem dX12_sumUp_63 : decode cX12_sumUp 63 = .ok (.invokevirtual 217, 3) := by decide +kernel
theorem dX12_sumUp_66 : decode cX12_sumUp 66 = .ok (.goto (-57), 3) := by decide +kernel
theorem dX12_sumUp_69 : decode cX12_sumUp 69 = .ok (.iconst 1, 1) := by decide +kernel
theorem dX12_sumUp_70 : decode cX12_sumUp 70 = .ok (.ireturn, 1) := by decide +kernel
theorem dX12_product_0 : decode cX12_product 0 = .ok (.aload_n 0, 1) := by decide +kernel
theorem dX12_product_1 : decode cX12_product 1 = .ok (.invokevirtual 221, 3) := by decide +kernel
theorem dX12_product_4 : decode cX12_product 4 = .ok (.ifCond .ne 5, 3) := by decide +kernel
theorem dX12_product_7 : decode cX12_product 7 = .ok (.iconst 0, 1) := by decide +kernel
theorem dX12_product_8 : decode cX12_product 8 = .ok (.ireturn, 1) := by decide +kernel
theorem dX12_product_9 : decode cX12_product 9 = .ok (.aload_n 0, 1) := by decide +kernel
theorem dX12_product_10 : decode cX12_product 10 = .ok (.getfield 180, 3) := by decide +kernel
theorem dX12_product_13 : decode cX12_product 13 = .ok (.sipush 142, 3) := by decide +kernel
theorem dX12_product_16 : decode cX12_product 16 = .ok (.if_icmp .eq 13, 3) := by decide +kernel
theorem dX12_product_19 : decode cX12_product 19 = .ok (.aload_n 0, 1) := by decide +kernel
theorem dX12_product_20 : decode cX12_product 20 = .ok (.getfield 180, 3) := by decide +kernel
theorem dX12_product_23 : decode cX12_product 23 = .ok (.sipush 147, 3) := by decide +kernel
theorem dX12_product_26 : decode cX12_product 26 = .ok (.if_icmp .ne 89, 3) := by decide +kernel
theorem dX12_product_29 : decode cX12_product 29 = .ok (.aload_n 0, 1) := by decide +kernel
theorem dX12_product_30 : decode cX12_product 30 = .ok (.getfield 180, 3) := by decide +kernel
theorem dX12_product_33 : decode cX12_product 33 = .ok (.sipush 147, 3) := by decide +kernel
theorem dX12_product_36 : decode cX12_product 36 = .ok (.if_icmp .ne 7, 3) := by decide +kernel
theorem dX12_product_39 : decode cX12_product 39 = .ok (.iconst 1, 1) := by decide +kernel
theorem dX12_product_40 : decode cX12_product 40 = .ok (.goto 4, 3) := by decide +kernel
theorem dX12_product_43 : decode cX12_product 43 = .ok (.iconst 0, 1) := by decide +kernel
theorem dX12_product_44 : decode cX12_product 44 = .ok (.istore_n 1, 1) := by decide +kernel
theorem dX12_product_45 : decode cX12_product 45 = .ok (.aload_n 0, 1) := by decide +kernel
theorem dX12_product_46 : decode cX12_product 46 = .ok (.invokevirtual 204, 3) := by decide +kernel
theorem dX12_product_49 : decode cX12_product 49 = .ok (.iload_n 1, 1) := by decide +kernel
theorem dX12_product_50 : decode cX12_product 50 = .ok (.ifCond .eq 46, 3) := by decide +kernel
theorem dX12_product_53 : decode cX12_product 53 = .ok (.aload_n 0, 1) := by decide +kernel
theorem dX12_product_54 : decode cX12_product 54 = .ok (.getfield 192, 3) := by decide +kernel
theorem dX12_product_57 : decode cX12_product 57 = .ok (.istore_n 2, 1) := by decide +kernel
theorem dX12_product_58 : decode cX12_product 58 = .ok (.aload_n 0, 1) := by decide +kernel
theorem dX12_product_59 : decode cX12_product 59 = .ok (.getfield 180, 3) := by decide +kernel
theorem dX12_product_62 : decode cX12_product 62 = .ok (.iconst 2, 1) := by decide +kernel
theorem dX12_product_63 : decode cX12_product 63 = .ok (.if_icmp .eq 9, 3) := by decide +kernel
theorem dX12_product_66 : decode cX12_product 66 = .ok (.aload_n 0, 1) := by decide +kernel
theorem dX12_product_67 : decode cX12_product 67 = .ok (.iconst 1, 1) := by decide +kernel
theorem dX12_product_68 : decode cX12_product 68 = .ok (.invokevirtual 201, 3) := by decide +kernel
theorem dX12_product_71 : decode cX12_product 71 = .ok (.ireturn, 1) := by decide +kernel
theorem dX12_product_72 : decode cX12_product 72 = .ok (.iload_n 2, 1) := by decide +kernel
theorem dX12_product_73 : decode cX12_product 73 = .ok (.ifCond .ne 9, 3) := by decide +kernel
theorem dX12_product_76 : decode cX12_product 76 = .ok (.aload_n 0, 1) := by decide +kernel
theorem dX12_product_77 : decode cX12_product 77 = .ok (.iconst 2, 1) := by decide +kernel
theorem dX12_product_78 : decode cX12_product 78 = .ok (.invokevirtual 201, 3) := by decide +kernel
theorem dX12_product_81 : decode cX12_product 81 = .ok (.ireturn, 1) := by decide +kernel
theorem dX12_product_82 : decode cX12_product 82 = .ok (.aload_n 0, 1) := by decide +kernel
theorem dX12_product_83 : decode cX12_product 83 = .ok (.invokevirtual 204, 3) := by decide +kernel
theorem dX12_product_86 : decode cX12_product 86 = .ok (.aload_n 0, 1) := by decide +kernel
theorem dX12_product_87 : decode cX12_product 87 = .ok (.bipush 26, 2) := by decide +kernel
theorem dX12_product_89 : decode cX12_product 89 = .ok (.iload_n 2, 1) := by decide +kernel
theorem dX12_product_90 : decode cX12_product 90 = .ok (.invokevirtual 217, 3) := by decide +kernel
theorem dX12_product_93 : decode cX12_product 93 = .ok (.goto 19, 3) := by decide +kernel
theorem dX12_product_96 : decode cX12_product 96 = .ok (.aload_n 0, 1) := by decide +kernel
theorem dX12_product_97 : decode cX12_product 97 = .ok (.invokevirtual 221, 3) := by decide +kernel
theorem dX12_product_100 : decode cX12_product 100 = .ok (.ifCond .ne 5, 3) := by decide +kernel
theorem dX12_product_103 : decode cX12_product 103 = .ok (.iconst 0, 1) := by decide +kernel
theorem dX12_product_104 : decode cX12_product 104 = .ok (.ireturn, 1) := by decide +kernel
theorem dX12_product_105 : decode cX12_product 105 = .ok (.aload_n 0, 1) := by decide +kernel
theorem dX12_product_106 : decode cX12_product 106 = .ok (.bipush 25, 2) := by decide +kernel
theorem dX12_product_108 : decode cX12_product 108 = .ok (.iconst 0, 1) := by decide +kernel
theorem dX12_product_109 : decode cX12_product 109 = .ok (.invokevirtual 217, 3) := by decide +kernel
theorem dX12_product_112 : decode cX12_product 112 = .ok (.goto (-103), 3) := by decide +kernel
theorem dX12_product_115 : decode cX12_product 115 = .ok (.iconst 1, 1) := by decide +kernel
theorem dX12_product_116 : decode cX12_product 116 = .ok (.ireturn, 1) := by decide +kernel
theorem dX12_unit_0 : decode cX12_unit 0 = .ok (.aload_n 0, 1) := by decide +kernel
theorem dX12_unit_1 : decode cX12_unit 1 = .ok (.getfield 180, 3) := by decide +kernel
theorem dX12_unit_4 : decode cX12_unit 4 = .ok (.bipush 41, 2) := by decide +kernel
theorem dX12_unit_6 : decode cX12_unit 6 = .ok (.bipush 47, 2) := by decide +kernel
theorem dX12_unit_8 : decode cX12_unit 8 = .ok (.invokestatic 71, 3) := by decide +kernel
theorem dX12_unit_11 : decode cX12_unit 11 = .ok (.istore_n 1, 1) := by decide +kernel
theorem dX12_unit_12 : decode cX12_unit 12 = .ok (.aload_n 0, 1) := by decide +kernel
theorem dX12_unit_13 : decode cX12_unit 13 = .ok (.getfield 180, 3) := by decide +kernel
theorem dX12_unit_16 : decode cX12_unit 16 = .ok (.iconst 2, 1) := by decide +kernel
theorem dX12_unit_17 : decode cX12_unit 17 = .ok (.if_icmp .eq 13, 3) := by decide +kernel
theorem dX12_unit_20 : decode cX12_unit 20 = .ok (.iload_n 1, 1) := by decide +kernel
theorem dX12_unit_21 : decode cX12_unit 21 = .ok (.ifCond .ne 9, 3) := by decide +kernel
theorem dX12_unit_24 : decode cX12_unit 24 = .ok (.aload_n 0, 1) := by decide +kernel
theorem dX12_unit_25 : decode cX12_unit 25 = .ok (.iconst 1, 1) := by decide +kernel
theorem dX12_unit_26 : decode cX12_unit 26 = .ok (.invokevirtual 201, 3) := by decide +kernel
theorem dX12_unit_29 : decode cX12_unit 29 = .ok (.ireturn, 1) := by decide +kernel
theorem dX12_unit_30 : decode cX12_unit 30 = .ok (.aload_n 0, 1) := by decide +kernel
theorem dX12_unit_31 : decode cX12_unit 31 = .ok (.iload_n 1, 1) := by decide +kernel
theorem dX12_unit_32 : decode cX12_unit 32 = .ok (.ifCond .eq 13, 3) := by decide +kernel
theorem dX12_unit_35 : decode cX12_unit 35 = .ok (.aload_n 0, 1) := by decide +kernel
theorem dX12_unit_36 : decode cX12_unit 36 = .ok (.getfield 180, 3) := by decide +kernel
theorem dX12_unit_39 : decode cX12_unit 39 = .ok (.bipush 40, 2) := by decide +kernel
theorem dX12_unit_41 : decode cX12_unit 41 = .ok (.isub, 1) := by decide +kernel
theorem dX12_unit_42 : decode cX12_unit 42 = .ok (.goto 4, 3) := by decide +kernel
theorem dX12_unit_45 : decode cX12_unit 45 = .ok (.iconst 0, 1) := by decide +kernel
theorem dX12_unit_46 : decode cX12_unit 46 = .ok (.aload_n 0, 1) := by decide +kernel
theorem dX12_unit_47 : decode cX12_unit 47 = .ok (.getfield 192, 3) := by decide +kernel
theorem dX12_unit_50 : decode cX12_unit 50 = .ok (.invokevirtual 217, 3) := by decide +kernel
theorem dX12_unit_53 : decode cX12_unit 53 = .ok (.aload_n 0, 1) := by decide +kernel
theorem dX12_unit_54 : decode cX12_unit 54 = .ok (.invokevirtual 204, 3) := by decide +kernel
theorem dX12_unit_57 : decode cX12_unit 57 = .ok (.iconst 1, 1) := by decide +kernel
theorem dX12_unit_58 : decode cX12_unit 58 = .ok (.ireturn, 1) := by decide +kernel
theorem dX12_any_0 : decode cX12_any 0 = .ok (.aload_n 0, 1) := by decide +kernel
theorem dX12_any_1 : decode cX12_any 1 = .ok (.invokevirtual 224, 3) := by decide +kernel
theorem dX12_any_4 : decode cX12_any 4 = .ok (.ifCond .ne 5, 3) := by decide +kernel
theorem dX12_any_7 : decode cX12_any 7 = .ok (.iconst 0, 1) := by decide +kernel
theorem dX12_any_8 : decode cX12_any 8 = .ok (.ireturn, 1) := by decide +kernel
theorem dX12_any_9 : decode cX12_any 9 = .ok (.aload_n 0, 1) := by decide +kernel
theorem dX12_any_10 : decode cX12_any 10 = .ok (.getfield 180, 3) := by decide +kernel
theorem dX12_any_13 : decode cX12_any 13 = .ok (.iconst 4, 1) := by decide +kernel
theorem dX12_any_14 : decode cX12_any 14 = .ok (.if_icmp .ne 26, 3) := by decide +kernel
theorem dX12_any_17 : decode cX12_any 17 = .ok (.aload_n 0, 1) := by decide +kernel
theorem dX12_any_18 : decode cX12_any 18 = .ok (.invokevirtual 204, 3) := by decide +kernel
theorem dX12_any_21 : decode cX12_any 21 = .ok (.aload_n 0, 1) := by decide +kernel
theorem dX12_any_22 : decode cX12_any 22 = .ok (.invokevirtual 224, 3) := by decide +kernel
theorem dX12_any_25 : decode cX12_any 25 = .ok (.ifCond .ne 5, 3) := by decide +kernel
theorem dX12_any_28 : decode cX12_any 28 = .ok (.iconst 0, 1) := by decide +kernel
theorem dX12_any_29 : decode cX12_any 29 = .ok (.ireturn, 1) := by decide +kernel
theorem dX12_any_30 : decode cX12_any 30 = .ok (.aload_n 0, 1) := by decide +kernel
theorem dX12_any_31 : decode cX12_any 31 = .ok (.bipush 32, 2) := by decide +kernel
theorem dX12_any_33 : decode cX12_any 33 = .ok (.iconst 0, 1) := by decide +kernel
theorem dX12_any_34 : decode cX12_any 34 = .ok (.invokevirtual 217, 3) := by decide +kernel
theorem dX12_any_37 : decode cX12_any 37 = .ok (.goto (-28), 3) := by decide +kernel
theorem dX12_any_40 : decode cX12_any 40 = .ok (.iconst 1, 1) := by decide +kernel
theorem dX12_any_41 : decode cX12_any 41 = .ok (.ireturn, 1) := by decide +kernel
theorem dX12_every_0 : decode cX12_every 0 = .ok (.aload_n 0, 1) := by decide +kernel
theorem dX12_every_1 : decode cX12_every 1 = .ok (.invokevirtual 227, 3) := by decide +kernel
theorem dX12_every_4 : decode cX12_every 4 = .ok (.ifCond .ne 5, 3) := by decide +kernel
theorem dX12_every_7 : decode cX12_every 7 = .ok (.iconst 0, 1) := by decide +kernel
theorem dX12_every_8 : decode cX12_every 8 = .ok (.ireturn, 1) := by decide +kernel
theorem dX12_every_9 : decode cX12_every 9 = .ok (.aload_n 0, 1) := by decide +kernel
theorem dX12_every_10 : decode cX12_every 10 = .ok (.getfield 180, 3) := by decide +kernel
theorem dX12_every_13 : decode cX12_every 13 = .ok (.iconst 5, 1) := by decide +kernel
theorem dX12_every_14 : decode cX12_every 14 = .ok (.if_icmp .ne 26, 3) := by decide +kernel
theorem dX12_every_17 : decode cX12_every 17 = .ok (.aload_n 0, 1) := by decide +kernel
theorem dX12_every_18 : decode cX12_every 18 = .ok (.invokevirtual 204, 3) := by decide +kernel
theorem dX12_every_21 : decode cX12_every 21 = .ok (.aload_n 0, 1) := by decide +kernel
theorem dX12_every_22 : decode cX12_every 22 = .ok (.invokevirtual 227, 3) := by decide +kernel
theorem dX12_every_25 : decode cX12_every 25 = .ok (.ifCond .ne 5, 3) := by decide +kernel
theorem dX12_every_28 : decode cX12_every 28 = .ok (.iconst 0, 1) := by decide +kernel
theorem dX12_every_29 : decode cX12_every 29 = .ok (.ireturn, 1) := by decide +kernel
theorem dX12_every_30 : decode cX12_every 30 = .ok (.aload_n 0, 1) := by decide +kernel
theorem dX12_every_31 : decode cX12_every 31 = .ok (.bipush 31, 2) := by decide +kernel
theorem dX12_every_33 : decode cX12_every 33 = .ok (.iconst 0, 1) := by decide +kernel
theorem dX12_every_34 : decode cX12_every 34 = .ok (.invokevirtual 217, 3) := by decide +kernel
theorem dX12_every_37 : decode cX12_every 37 = .ok (.goto (-28), 3) := by decide +kernel
theorem dX12_every_40 : decode cX12_every 40 = .ok (.iconst 1, 1) := by decide +kernel
theorem dX12_every_41 : decode cX12_every 41 = .ok (.ireturn, 1) := by decide +kernel
theorem dX12_oneTest_0 : decode cX12_oneTest 0 = .ok (.aload_n 0, 1) := by decide +kernel
theorem dX12_oneTest_1 : decode cX12_oneTest 1 = .ok (.getfield 180, 3) := by decide +kernel
theorem dX12_oneTest_4 : decode cX12_oneTest 4 = .ok (.bipush 6, 2) := by decide +kernel
theorem dX12_oneTest_6 : decode cX12_oneTest 6 = .ok (.if_icmp .ne 38, 3) := by decide +kernel
theorem dX12_oneTest_9 : decode cX12_oneTest 9 = .ok (.aload_n 0, 1) := by decide +kernel
theorem dX12_oneTest_10 : decode cX12_oneTest 10 = .ok (.invokevirtual 230, 3) := by decide +kernel
theorem dX12_oneTest_13 : decode cX12_oneTest 13 = .ok (.ifCond .eq 10, 3) := by decide +kernel
theorem dX12_oneTest_16 : decode cX12_oneTest 16 = .ok (.aload_n 0, 1) := by decide +kernel
theorem dX12_oneTest_17 : decode cX12_oneTest 17 = .ok (.invokevirtual 227, 3) := by decide +kernel
theorem dX12_oneTest_20 : decode cX12_oneTest 20 = .ok (.ifCond .ne 5, 3) := by decide +kernel
theorem dX12_oneTest_23 : decode cX12_oneTest 23 = .ok (.iconst 0, 1) := by decide +kernel
theorem dX12_oneTest_24 : decode cX12_oneTest 24 = .ok (.ireturn, 1) := by decide +kernel
theorem dX12_oneTest_25 : decode cX12_oneTest 25 = .ok (.aload_n 0, 1) := by decide +kernel
theorem dX12_oneTest_26 : decode cX12_oneTest 26 = .ok (.dup, 1) := by decide +kernel
theorem dX12_oneTest_27 : decode cX12_oneTest 27 = .ok (.getfield 210, 3) := by decide +kernel
theorem dX12_oneTest_30 : decode cX12_oneTest 30 = .ok (.iconst 1, 1) := by decide +kernel
theorem dX12_oneTest_31 : decode cX12_oneTest 31 = .ok (.isub, 1) := by decide +kernel
theorem dX12_oneTest_32 : decode cX12_oneTest 32 = .ok (.putfield 210, 3) := by decide +kernel
theorem dX12_oneTest_35 : decode cX12_oneTest 35 = .ok (.aload_n 0, 1) := by decide +kernel
theorem dX12_oneTest_36 : decode cX12_oneTest 36 = .ok (.bipush 30, 2) := by decide +kernel
theorem dX12_oneTest_38 : decode cX12_oneTest 38 = .ok (.iconst 0, 1) := by decide +kernel
theorem dX12_oneTest_39 : decode cX12_oneTest 39 = .ok (.invokevirtual 217, 3) := by decide +kernel
theorem dX12_oneTest_42 : decode cX12_oneTest 42 = .ok (.iconst 1, 1) := by decide +kernel
theorem dX12_oneTest_43 : decode cX12_oneTest 43 = .ok (.ireturn, 1) := by decide +kernel
theorem dX12_oneTest_44 : decode cX12_oneTest 44 = .ok (.aload_n 0, 1) := by decide +kernel
theorem dX12_oneTest_45 : decode cX12_oneTest 45 = .ok (.getfield 180, 3) := by decide +kernel
theorem dX12_oneTest_48 : decode cX12_oneTest 48 = .ok (.sipush 140, 3) := by decide +kernel
theorem dX12_oneTest_51 : decode cX12_oneTest 51 = .ok (.if_icmp .ne 41, 3) := by decide +kernel
theorem dX12_oneTest_54 : decode cX12_oneTest 54 = .ok (.aload_n 0, 1) := by decide +kernel
theorem dX12_oneTest_55 : decode cX12_oneTest 55 = .ok (.invokevirtual 230, 3) := by decide +kernel
theorem dX12_oneTest_58 : decode cX12_oneTest 58 = .ok (.ifCond .eq 20, 3) := by decide +kernel
theorem dX12_oneTest_61 : decode cX12_oneTest 61 = .ok (.aload_n 0, 1) := by decide +kernel
theorem dX12_oneTest_62 : decode cX12_oneTest 62 = .ok (.invokevirtual 233, 3) := by decide +kernel
theorem dX12_oneTest_65 : decode cX12_oneTest 65 = .ok (.ifCond .eq 13, 3) := by decide +kernel
theorem dX12_oneTest_68 : decode cX12_oneTest 68 = .ok (.aload_n 0, 1) := by decide +kernel
theorem dX12_oneTest_69 : decode cX12_oneTest 69 = .ok (.sipush 141, 3) := by decide +kernel
theorem dX12_oneTest_72 : decode cX12_oneTest 72 = .ok (.invokevirtual 236, 3) := by decide +kernel
theorem dX12_oneTest_75 : decode cX12_oneTest 75 = .ok (.ifCond .ne 5, 3) := by decide +kernel
theorem dX12_oneTest_78 : decode cX12_oneTest 78 = .ok (.iconst 0, 1) := by decide +kernel
theorem dX12_oneTest_79 : decode cX12_oneTest 79 = .ok (.ireturn, 1) := by decide +kernel
theorem dX12_oneTest_80 : decode cX12_oneTest 80 = .ok (.aload_n 0, 1) := by decide +kernel
theorem dX12_oneTest_81 : decode cX12_oneTest 81 = .ok (.dup, 1) := by decide +kernel
theorem dX12_oneTest_82 : decode cX12_oneTest 82 = .ok (.getfield 210, 3) := by decide +kernel
theorem dX12_oneTest_85 : decode cX12_oneTest 85 = .ok (.iconst 1, 1) := by decide +kernel
theorem dX12_oneTest_86 : decode cX12_oneTest 86 = .ok (.isub, 1) := by decide +kernel
theorem dX12_oneTest_87 : decode cX12_oneTest 87 = .ok (.putfield 210, 3) := by decide +kernel
theorem dX12_oneTest_90 : decode cX12_oneTest 90 = .ok (.iconst 1, 1) := by decide +kernel
theorem dX12_oneTest_91 : decode cX12_oneTest 91 = .ok (.ireturn, 1) := by decide +kernel
theorem dX12_oneTest_92 : decode cX12_oneTest 92 = .ok (.aload_n 0, 1) := by decide +kernel
theorem dX12_oneTest_93 : decode cX12_oneTest 93 = .ok (.invokevirtual 239, 3) := by decide +kernel
theorem dX12_oneTest_96 : decode cX12_oneTest 96 = .ok (.ifCond .ne 5, 3) := by decide +kernel
theorem dX12_oneTest_99 : decode cX12_oneTest 99 = .ok (.iconst 0, 1) := by decide +kernel
theorem dX12_oneTest_100 : decode cX12_oneTest 100 = .ok (.ireturn, 1) := by decide +kernel
theorem dX12_oneTest_101 : decode cX12_oneTest 101 = .ok (.aload_n 0, 1) := by decide +kernel
theorem dX12_oneTest_102 : decode cX12_oneTest 102 = .ok (.getfield 180, 3) := by decide +kernel
theorem dX12_oneTest_105 : decode cX12_oneTest 105 = .ok (.sipush 160, 3) := by decide +kernel
theorem dX12_oneTest_108 : decode cX12_oneTest 108 = .ok (.if_icmp .ne 8, 3) := by decide +kernel
theorem dX12_oneTest_111 : decode cX12_oneTest 111 = .ok (.bipush 27, 2) := by decide +kernel
theorem dX12_oneTest_113 : decode cX12_oneTest 113 = .ok (.goto 34, 3) := by decide +kernel
theorem dX12_oneTest_116 : decode cX12_oneTest 116 = .ok (.aload_n 0, 1) := by decide +kernel
theorem dX12_oneTest_117 : decode cX12_oneTest 117 = .ok (.getfield 180, 3) := by decide +kernel
theorem dX12_oneTest_120 : decode cX12_oneTest 120 = .ok (.sipush 161, 3) := by decide +kernel
theorem dX12_oneTest_123 : decode cX12_oneTest 123 = .ok (.if_icmp .ne 8, 3) := by decide +kernel
theorem dX12_oneTest_126 : decode cX12_oneTest 126 = .ok (.bipush 28, 2) := by decide +kernel
theorem dX12_oneTest_128 : decode cX12_oneTest 128 = .ok (.goto 19, 3) := by decide +kernel
theorem dX12_oneTest_131 : decode cX12_oneTest 131 = .ok (.aload_n 0, 1) := by decide +kernel
theorem dX12_oneTest_132 : decode cX12_oneTest 132 = .ok (.getfield 180, 3) := by decide +kernel
theorem dX12_oneTest_135 : decode cX12_oneTest 135 = .ok (.sipush 162, 3) := by decide +kernel
theorem dX12_oneTest_138 : decode cX12_oneTest 138 = .ok (.if_icmp .ne 8, 3) := by decide +kernel
theorem dX12_oneTest_141 : decode cX12_oneTest 141 = .ok (.bipush 29, 2) := by decide +kernel
theorem dX12_oneTest_143 : decode cX12_oneTest 143 = .ok (.goto 4, 3) := by decide +kernel
theorem dX12_oneTest_146 : decode cX12_oneTest 146 = .ok (.iconst (-1), 1) := by decide +kernel
theorem dX12_oneTest_147 : decode cX12_oneTest 147 = .ok (.istore_n 1, 1) := by decide +kernel
theorem dX12_oneTest_148 : decode cX12_oneTest 148 = .ok (.iload_n 1, 1) := by decide +kernel
theorem dX12_oneTest_149 : decode cX12_oneTest 149 = .ok (.iconst (-1), 1) := by decide +kernel
theorem dX12_oneTest_150 : decode cX12_oneTest 150 = .ok (.if_icmp .ne 9, 3) := by decide +kernel
theorem dX12_oneTest_153 : decode cX12_oneTest 153 = .ok (.aload_n 0, 1) := by decide +kernel
theorem dX12_oneTest_154 : decode cX12_oneTest 154 = .ok (.iconst 1, 1) := by decide +kernel
theorem dX12_oneTest_155 : decode cX12_oneTest 155 = .ok (.invokevirtual 201, 3) := by decide +kernel
theorem dX12_oneTest_158 : decode cX12_oneTest 158 = .ok (.ireturn, 1) := by decide +kernel
theorem dX12_oneTest_159 : decode cX12_oneTest 159 = .ok (.aload_n 0, 1) := by decide +kernel
theorem dX12_oneTest_160 : decode cX12_oneTest 160 = .ok (.invokevirtual 204, 3) := by decide +kernel
theorem dX12_oneTest_163 : decode cX12_oneTest 163 = .ok (.aload_n 0, 1) := by decide +kernel
theorem dX12_oneTest_164 : decode cX12_oneTest 164 = .ok (.invokevirtual 239, 3) := by decide +kernel
theorem dX12_oneTest_167 : decode cX12_oneTest 167 = .ok (.ifCond .ne 5, 3) := by decide +kernel
theorem dX12_oneTest_170 : decode cX12_oneTest 170 = .ok (.iconst 0, 1) := by decide +kernel
theorem dX12_oneTest_171 : decode cX12_oneTest 171 = .ok (.ireturn, 1) := by decide +kernel
theorem dX12_oneTest_172 : decode cX12_oneTest 172 = .ok (.aload_n 0, 1) := by decide +kernel
theorem dX12_oneTest_173 : decode cX12_oneTest 173 = .ok (.iload_n 1, 1) := by decide +kernel
theorem dX12_oneTest_174 : decode cX12_oneTest 174 = .ok (.iconst 0, 1) := by decide +kernel
theorem dX12_oneTest_175 : decode cX12_oneTest 175 = .ok (.invokevirtual 217, 3) := by decide +kernel
theorem dX12_oneTest_178 : decode cX12_oneTest 178 = .ok (.iconst 1, 1) := by decide +kernel
theorem dX12_oneTest_179 : decode cX12_oneTest 179 = .ok (.ireturn, 1) := by decide +kernel
theorem dX12_aLine_0 : decode cX12_aLine 0 = .ok (.aload_n 0, 1) := by decide +kernel
theorem dX12_aLine_1 : decode cX12_aLine 1 = .ok (.getfield 180, 3) := by decide +kernel
theorem dX12_aLine_4 : decode cX12_aLine 4 = .ok (.bipush 20, 2) := by decide +kernel
theorem dX12_aLine_6 : decode cX12_aLine 6 = .ok (.bipush 22, 2) := by decide +kernel
theorem dX12_aLine_8 : decode cX12_aLine 8 = .ok (.invokestatic 71, 3) := by decide +kernel
theorem dX12_aLine_11 : decode cX12_aLine 11 = .ok (.ifCond .ne 9, 3) := by decide +kernel
theorem dX12_aLine_14 : decode cX12_aLine 14 = .ok (.aload_n 0, 1) := by decide +kernel
theorem dX12_aLine_15 : decode cX12_aLine 15 = .ok (.iconst 1, 1) := by decide +kernel
theorem dX12_aLine_16 : decode cX12_aLine 16 = .ok (.invokevirtual 201, 3) := by decide +kernel
theorem dX12_aLine_19 : decode cX12_aLine 19 = .ok (.ireturn, 1) := by decide +kernel
theorem dX12_aLine_20 : decode cX12_aLine 20 = .ok (.aload_n 0, 1) := by decide +kernel
theorem dX12_aLine_21 : decode cX12_aLine 21 = .ok (.getfield 242, 3) := by decide +kernel
theorem dX12_aLine_24 : decode cX12_aLine 24 = .ok (.bipush 16, 2) := by decide +kernel
theorem dX12_aLine_26 : decode cX12_aLine 26 = .ok (.if_icmp .ne 9, 3) := by decide +kernel
theorem dX12_aLine_29 : decode cX12_aLine 29 = .ok (.aload_n 0, 1) := by decide +kernel
theorem dX12_aLine_30 : decode cX12_aLine 30 = .ok (.iconst 3, 1) := by decide +kernel
theorem dX12_aLine_31 : decode cX12_aLine 31 = .ok (.invokevirtual 201, 3) := by decide +kernel
theorem dX12_aLine_34 : decode cX12_aLine 34 = .ok (.ireturn, 1) := by decide +kernel
theorem dX12_aLine_35 : decode cX12_aLine 35 = .ok (.aload_n 0, 1) := by decide +kernel
theorem dX12_aLine_36 : decode cX12_aLine 36 = .ok (.iconst 0, 1) := by decide +kernel
theorem dX12_aLine_37 : decode cX12_aLine 37 = .ok (.putfield 210, 3) := by decide +kernel
theorem dX12_aLine_40 : decode cX12_aLine 40 = .ok (.aload_n 0, 1) := by decide +kernel
theorem dX12_aLine_41 : decode cX12_aLine 41 = .ok (.getfield 22, 3) := by decide +kernel
theorem dX12_aLine_44 : decode cX12_aLine 44 = .ok (.iconst 4, 1) := by decide +kernel
theorem dX12_aLine_45 : decode cX12_aLine 45 = .ok (.aload_n 0, 1) := by decide +kernel
theorem dX12_aLine_46 : decode cX12_aLine 46 = .ok (.getfield 242, 3) := by decide +kernel
theorem dX12_aLine_49 : decode cX12_aLine 49 = .ok (.imul, 1) := by decide +kernel
theorem dX12_aLine_50 : decode cX12_aLine 50 = .ok (.iconst 3, 1) := by decide +kernel
theorem dX12_aLine_51 : decode cX12_aLine 51 = .ok (.iadd, 1) := by decide +kernel
theorem dX12_aLine_52 : decode cX12_aLine 52 = .ok (.aload_n 0, 1) := by decide +kernel
theorem dX12_aLine_53 : decode cX12_aLine 53 = .ok (.getfield 180, 3) := by decide +kernel
theorem dX12_aLine_56 : decode cX12_aLine 56 = .ok (.iastore, 1) := by decide +kernel
theorem dX12_aLine_57 : decode cX12_aLine 57 = .ok (.aload_n 0, 1) := by decide +kernel
theorem dX12_aLine_58 : decode cX12_aLine 58 = .ok (.invokevirtual 204, 3) := by decide +kernel
theorem dX12_aLine_61 : decode cX12_aLine 61 = .ok (.aload_n 0, 1) := by decide +kernel
theorem dX12_aLine_62 : decode cX12_aLine 62 = .ok (.getfield 22, 3) := by decide +kernel
theorem dX12_aLine_65 : decode cX12_aLine 65 = .ok (.iconst 4, 1) := by decide +kernel
theorem dX12_aLine_66 : decode cX12_aLine 66 = .ok (.aload_n 0, 1) := by decide +kernel
theorem dX12_aLine_67 : decode cX12_aLine 67 = .ok (.getfield 242, 3) := by decide +kernel
theorem dX12_aLine_70 : decode cX12_aLine 70 = .ok (.imul, 1) := by decide +kernel
theorem dX12_aLine_71 : decode cX12_aLine 71 = .ok (.aload_n 0, 1) := by decide +kernel
theorem dX12_aLine_72 : decode cX12_aLine 72 = .ok (.getfield 207, 3) := by decide +kernel
theorem dX12_aLine_75 : decode cX12_aLine 75 = .ok (.iastore, 1) := by decide +kernel
theorem dX12_aLine_76 : decode cX12_aLine 76 = .ok (.aload_n 0, 1) := by decide +kernel
theorem dX12_aLine_77 : decode cX12_aLine 77 = .ok (.invokevirtual 239, 3) := by decide +kernel
theorem dX12_aLine_80 : decode cX12_aLine 80 = .ok (.ifCond .ne 5, 3) := by decide +kernel
theorem dX12_aLine_83 : decode cX12_aLine 83 = .ok (.iconst 0, 1) := by decide +kernel
theorem dX12_aLine_84 : decode cX12_aLine 84 = .ok (.ireturn, 1) := by decide +kernel
theorem dX12_aLine_85 : decode cX12_aLine 85 = .ok (.aload_n 0, 1) := by decide +kernel
theorem dX12_aLine_86 : decode cX12_aLine 86 = .ok (.getfield 22, 3) := by decide +kernel
theorem dX12_aLine_89 : decode cX12_aLine 89 = .ok (.iconst 4, 1) := by decide +kernel
theorem dX12_aLine_90 : decode cX12_aLine 90 = .ok (.aload_n 0, 1) := by decide +kernel
theorem dX12_aLine_91 : decode cX12_aLine 91 = .ok (.getfield 242, 3) := by decide +kernel
theorem dX12_aLine_94 : decode cX12_aLine 94 = .ok (.imul, 1) := by decide +kernel
theorem dX12_aLine_95 : decode cX12_aLine 95 = .ok (.iconst 1, 1) := by decide +kernel
theorem dX12_aLine_96 : decode cX12_aLine 96 = .ok (.iadd, 1) := by decide +kernel
theorem dX12_aLine_97 : decode cX12_aLine 97 = .ok (.aload_n 0, 1) := by decide +kernel
theorem dX12_aLine_98 : decode cX12_aLine 98 = .ok (.getfield 207, 3) := by decide +kernel
theorem dX12_aLine_101 : decode cX12_aLine 101 = .ok (.iastore, 1) := by decide +kernel
theorem dX12_aLine_102 : decode cX12_aLine 102 = .ok (.aload_n 0, 1) := by decide +kernel
theorem dX12_aLine_103 : decode cX12_aLine 103 = .ok (.getfield 180, 3) := by decide +kernel
theorem dX12_aLine_106 : decode cX12_aLine 106 = .ok (.iconst 3, 1) := by decide +kernel
theorem dX12_aLine_107 : decode cX12_aLine 107 = .ok (.if_icmp .ne 16, 3) := by decide +kernel
theorem dX12_aLine_110 : decode cX12_aLine 110 = .ok (.aload_n 0, 1) := by decide +kernel
theorem dX12_aLine_111 : decode cX12_aLine 111 = .ok (.invokevirtual 204, 3) := by decide +kernel
theorem dX12_aLine_114 : decode cX12_aLine 114 = .ok (.aload_n 0, 1) := by decide +kernel
theorem dX12_aLine_115 : decode cX12_aLine 115 = .ok (.invokevirtual 233, 3) := by decide +kernel
theorem dX12_aLine_118 : decode cX12_aLine 118 = .ok (.ifCond .ne 5, 3) := by decide +kernel
theorem dX12_aLine_121 : decode cX12_aLine 121 = .ok (.iconst 0, 1) := by decide +kernel
theorem dX12_aLine_122 : decode cX12_aLine 122 = .ok (.ireturn, 1) := by decide +kernel
theorem dX12_aLine_123 : decode cX12_aLine 123 = .ok (.aload_n 0, 1) := by decide +kernel
theorem dX12_aLine_124 : decode cX12_aLine 124 = .ok (.getfield 22, 3) := by decide +kernel
theorem dX12_aLine_127 : decode cX12_aLine 127 = .ok (.iconst 4, 1) := by decide +kernel
theorem dX12_aLine_128 : decode cX12_aLine 128 = .ok (.aload_n 0, 1) := by decide +kernel
theorem dX12_aLine_129 : decode cX12_aLine 129 = .ok (.getfield 242, 3) := by decide +kernel
theorem dX12_aLine_132 : decode cX12_aLine 132 = .ok (.imul, 1) := by decide +kernel
theorem dX12_aLine_133 : decode cX12_aLine 133 = .ok (.iconst 2, 1) := by decide +kernel
theorem dX12_aLine_134 : decode cX12_aLine 134 = .ok (.iadd, 1) := by decide +kernel
theorem dX12_aLine_135 : decode cX12_aLine 135 = .ok (.aload_n 0, 1) := by decide +kernel
theorem dX12_aLine_136 : decode cX12_aLine 136 = .ok (.getfield 207, 3) := by decide +kernel
theorem dX12_aLine_139 : decode cX12_aLine 139 = .ok (.iastore, 1) := by decide +kernel
theorem dX12_aLine_140 : decode cX12_aLine 140 = .ok (.aload_n 0, 1) := by decide +kernel
theorem dX12_aLine_141 : decode cX12_aLine 141 = .ok (.sipush 159, 3) := by decide +kernel
theorem dX12_aLine_144 : decode cX12_aLine 144 = .ok (.invokevirtual 236, 3) := by decide +kernel
theorem dX12_aLine_147 : decode cX12_aLine 147 = .ok (.ireturn, 1) := by decide +kernel
theorem dX12_readsLaw_0 : decode cX12_readsLaw 0 = .ok (.aload_n 0, 1) := by decide +kernel
theorem dX12_readsLaw_1 : decode cX12_readsLaw 1 = .ok (.iconst 0, 1) := by decide +kernel
theorem dX12_readsLaw_2 : decode cX12_readsLaw 2 = .ok (.putfield 242, 3) := by decide +kernel
theorem dX12_readsLaw_5 : decode cX12_readsLaw 5 = .ok (.aload_n 0, 1) := by decide +kernel
theorem dX12_readsLaw_6 : decode cX12_readsLaw 6 = .ok (.iconst 0, 1) := by decide +kernel
theorem dX12_readsLaw_7 : decode cX12_readsLaw 7 = .ok (.putfield 207, 3) := by decide +kernel
theorem dX12_readsLaw_10 : decode cX12_readsLaw 10 = .ok (.iconst 1, 1) := by decide +kernel
theorem dX12_readsLaw_11 : decode cX12_readsLaw 11 = .ok (.istore_n 1, 1) := by decide +kernel
theorem dX12_readsLaw_12 : decode cX12_readsLaw 12 = .ok (.iload_n 1, 1) := by decide +kernel
theorem dX12_readsLaw_13 : decode cX12_readsLaw 13 = .ok (.ifCond .eq 36, 3) := by decide +kernel
theorem dX12_readsLaw_16 : decode cX12_readsLaw 16 = .ok (.aload_n 0, 1) := by decide +kernel
theorem dX12_readsLaw_17 : decode cX12_readsLaw 17 = .ok (.getfield 180, 3) := by decide +kernel
theorem dX12_readsLaw_20 : decode cX12_readsLaw 20 = .ok (.ifCond .eq 29, 3) := by decide +kernel
theorem dX12_readsLaw_23 : decode cX12_readsLaw 23 = .ok (.aload_n 0, 1) := by decide +kernel
theorem dX12_readsLaw_24 : decode cX12_readsLaw 24 = .ok (.invokevirtual 245, 3) := by decide +kernel
theorem dX12_readsLaw_27 : decode cX12_readsLaw 27 = .ok (.istore_n 1, 1) := by decide +kernel
theorem dX12_readsLaw_28 : decode cX12_readsLaw 28 = .ok (.aload_n 0, 1) := by decide +kernel
theorem dX12_readsLaw_29 : decode cX12_readsLaw 29 = .ok (.dup, 1) := by decide +kernel
theorem dX12_readsLaw_30 : decode cX12_readsLaw 30 = .ok (.getfield 242, 3) := by decide +kernel
theorem dX12_readsLaw_33 : decode cX12_readsLaw 33 = .ok (.iload_n 1, 1) := by decide +kernel
theorem dX12_readsLaw_34 : decode cX12_readsLaw 34 = .ok (.ifCond .eq 7, 3) := by decide +kernel
theorem dX12_readsLaw_37 : decode cX12_readsLaw 37 = .ok (.iconst 1, 1) := by decide +kernel
theorem dX12_readsLaw_38 : decode cX12_readsLaw 38 = .ok (.goto 4, 3) := by decide +kernel
theorem dX12_readsLaw_41 : decode cX12_readsLaw 41 = .ok (.iconst 0, 1) := by decide +kernel
theorem dX12_readsLaw_42 : decode cX12_readsLaw 42 = .ok (.iadd, 1) := by decide +kernel
theorem dX12_readsLaw_43 : decode cX12_readsLaw 43 = .ok (.putfield 242, 3) := by decide +kernel
theorem dX12_readsLaw_46 : decode cX12_readsLaw 46 = .ok (.goto (-34), 3) := by decide +kernel
theorem dX12_readsLaw_49 : decode cX12_readsLaw 49 = .ok (.iload_n 1, 1) := by decide +kernel
theorem dX12_readsLaw_50 : decode cX12_readsLaw 50 = .ok (.ireturn, 1) := by decide +kernel
theorem dX12_number_0 : decode cX12_number 0 = .ok (.aload_n 0, 1) := by decide +kernel
theorem dX12_number_1 : decode cX12_number 1 = .ok (.getfield 180, 3) := by decide +kernel
theorem dX12_number_4 : decode cX12_number 4 = .ok (.iconst 2, 1) := by decide +kernel
theorem dX12_number_5 : decode cX12_number 5 = .ok (.if_icmp .eq 9, 3) := by decide +kernel
theorem dX12_number_8 : decode cX12_number 8 = .ok (.aload_n 0, 1) := by decide +kernel
theorem dX12_number_9 : decode cX12_number 9 = .ok (.iconst 1, 1) := by decide +kernel
theorem dX12_number_10 : decode cX12_number 10 = .ok (.invokevirtual 201, 3) := by decide +kernel
theorem dX12_number_13 : decode cX12_number 13 = .ok (.ireturn, 1) := by decide +kernel
theorem dX12_number_14 : decode cX12_number 14 = .ok (.aload_n 0, 1) := by decide +kernel
theorem dX12_number_15 : decode cX12_number 15 = .ok (.getfield 192, 3) := by decide +kernel
theorem dX12_number_18 : decode cX12_number 18 = .ok (.iload_n 1, 1) := by decide +kernel
theorem dX12_number_19 : decode cX12_number 19 = .ok (.iload_n 2, 1) := by decide +kernel
theorem dX12_number_20 : decode cX12_number 20 = .ok (.invokestatic 71, 3) := by decide +kernel
theorem dX12_number_23 : decode cX12_number 23 = .ok (.ifCond .ne 9, 3) := by decide +kernel
theorem dX12_number_26 : decode cX12_number 26 = .ok (.aload_n 0, 1) := by decide +kernel
theorem dX12_number_27 : decode cX12_number 27 = .ok (.iconst 2, 1) := by decide +kernel
theorem dX12_number_28 : decode cX12_number 28 = .ok (.invokevirtual 201, 3) := by decide +kernel
theorem dX12_number_31 : decode cX12_number 31 = .ok (.ireturn, 1) := by decide +kernel
theorem dX12_number_32 : decode cX12_number 32 = .ok (.aload_n 0, 1) := by decide +kernel
theorem dX12_number_33 : decode cX12_number 33 = .ok (.aload_n 0, 1) := by decide +kernel
theorem dX12_number_34 : decode cX12_number 34 = .ok (.getfield 192, 3) := by decide +kernel
theorem dX12_number_37 : decode cX12_number 37 = .ok (.putfield 248, 3) := by decide +kernel
theorem dX12_number_40 : decode cX12_number 40 = .ok (.aload_n 0, 1) := by decide +kernel
theorem dX12_number_41 : decode cX12_number 41 = .ok (.invokevirtual 204, 3) := by decide +kernel
theorem dX12_number_44 : decode cX12_number 44 = .ok (.iconst 1, 1) := by decide +kernel
theorem dX12_number_45 : decode cX12_number 45 = .ok (.ireturn, 1) := by decide +kernel
theorem dX12_lies_0 : decode cX12_lies 0 = .ok (.iload_n 1, 1) := by decide +kernel
theorem dX12_lies_1 : decode cX12_lies 1 = .ok (.ifCond .ne 10, 3) := by decide +kernel
theorem dX12_lies_4 : decode cX12_lies 4 = .ok (.aload_n 0, 1) := by decide +kernel
theorem dX12_lies_5 : decode cX12_lies 5 = .ok (.getfield 251, 3) := by decide +kernel
theorem dX12_lies_8 : decode cX12_lies 8 = .ok (.goto 7, 3) := by decide +kernel
theorem dX12_lies_11 : decode cX12_lies 11 = .ok (.aload_n 0, 1) := by decide +kernel
theorem dX12_lies_12 : decode cX12_lies 12 = .ok (.getfield 254, 3) := by decide +kernel
theorem dX12_lies_15 : decode cX12_lies 15 = .ok (.istore 4, 2) := by decide +kernel
theorem dX12_lies_17 : decode cX12_lies 17 = .ok (.iload 4, 2) := by decide +kernel
theorem dX12_lies_19 : decode cX12_lies 19 = .ok (.istore 5, 2) := by decide +kernel
theorem dX12_lies_21 : decode cX12_lies 21 = .ok (.iload 5, 2) := by decide +kernel
theorem dX12_lies_23 : decode cX12_lies 23 = .ok (.iload 4, 2) := by decide +kernel
theorem dX12_lies_25 : decode cX12_lies 25 = .ok (.iload_n 2, 1) := by decide +kernel
theorem dX12_lies_26 : decode cX12_lies 26 = .ok (.iadd, 1) := by decide +kernel
theorem dX12_lies_27 : decode cX12_lies 27 = .ok (.if_icmp .ge 31, 3) := by decide +kernel
theorem dX12_lies_30 : decode cX12_lies 30 = .ok (.iload 5, 2) := by decide +kernel
theorem dX12_lies_32 : decode cX12_lies 32 = .ok (.sipush 200, 3) := by decide +kernel
theorem dX12_lies_35 : decode cX12_lies 35 = .ok (.if_icmp .ge 23, 3) := by decide +kernel
theorem dX12_lies_38 : decode cX12_lies 38 = .ok (.aload_n 0, 1) := by decide +kernel
theorem dX12_lies_39 : decode cX12_lies 39 = .ok (.getfield 31, 3) := by decide +kernel
theorem dX12_lies_42 : decode cX12_lies 42 = .ok (.sipush 201, 3) := by decide +kernel
theorem dX12_lies_45 : decode cX12_lies 45 = .ok (.iload_n 1, 1) := by decide +kernel
theorem dX12_lies_46 : decode cX12_lies 46 = .ok (.imul, 1) := by decide +kernel
theorem dX12_lies_47 : decode cX12_lies 47 = .ok (.iload 5, 2) := by decide +kernel
theorem dX12_lies_49 : decode cX12_lies 49 = .ok (.iadd, 1) := by decide +kernel
theorem dX12_lies_50 : decode cX12_lies 50 = .ok (.iload_n 3, 1) := by decide +kernel
theorem dX12_lies_51 : decode cX12_lies 51 = .ok (.iastore, 1) := by decide +kernel
theorem dX12_lies_52 : decode cX12_lies 52 = .ok (.iinc 5 1, 3) := by decide +kernel
theorem dX12_lies_55 : decode cX12_lies 55 = .ok (.goto (-34), 3) := by decide +kernel
theorem dX12_lies_58 : decode cX12_lies 58 = .ok (.iload_n 1, 1) := by decide +kernel
theorem dX12_lies_59 : decode cX12_lies 59 = .ok (.ifCond .ne 16, 3) := by decide +kernel
theorem dX12_lies_62 : decode cX12_lies 62 = .ok (.aload_n 0, 1) := by decide +kernel
theorem dX12_lies_63 : decode cX12_lies 63 = .ok (.dup, 1) := by decide +kernel
theorem dX12_lies_64 : decode cX12_lies 64 = .ok (.getfield 251, 3) := by decide +kernel
theorem dX12_lies_67 : decode cX12_lies 67 = .ok (.iload_n 2, 1) := by decide +kernel
theorem dX12_lies_68 : decode cX12_lies 68 = .ok (.iadd, 1) := by decide +kernel
theorem dX12_lies_69 : decode cX12_lies 69 = .ok (.putfield 251, 3) := by decide +kernel
theorem dX12_lies_72 : decode cX12_lies 72 = .ok (.goto 13, 3) := by decide +kernel
theorem dX12_lies_75 : decode cX12_lies 75 = .ok (.aload_n 0, 1) := by decide +kernel
theorem dX12_lies_76 : decode cX12_lies 76 = .ok (.dup, 1) := by decide +kernel
theorem dX12_lies_77 : decode cX12_lies 77 = .ok (.getfield 254, 3) := by decide +kernel
theorem dX12_lies_80 : decode cX12_lies 80 = .ok (.iload_n 2, 1) := by decide +kernel
theorem dX12_lies_81 : decode cX12_lies 81 = .ok (.iadd, 1) := by decide +kernel
theorem dX12_lies_82 : decode cX12_lies 82 = .ok (.putfield 254, 3) := by decide +kernel
theorem dX12_lies_85 : decode cX12_lies 85 = .ok (.return_, 1) := by decide +kernel
theorem dX12_aSong_0 : decode cX12_aSong 0 = .ok (.aload_n 0, 1) := by decide +kernel
theorem dX12_aSong_1 : decode cX12_aSong 1 = .ok (.invokevirtual 204, 3) := by decide +kernel
theorem dX12_aSong_4 : decode cX12_aSong 4 = .ok (.aload_n 0, 1) := by decide +kernel
theorem dX12_aSong_5 : decode cX12_aSong 5 = .ok (.iconst 1, 1) := by decide +kernel
theorem dX12_aSong_6 : decode cX12_aSong 6 = .ok (.bipush 60, 2) := by decide +kernel
theorem dX12_aSong_8 : decode cX12_aSong 8 = .ok (.invokevirtual 257, 3) := by decide +kernel
theorem dX12_aSong_11 : decode cX12_aSong 11 = .ok (.ifCond .ne 5, 3) := by decide +kernel
theorem dX12_aSong_14 : decode cX12_aSong 14 = .ok (.iconst 0, 1) := by decide +kernel
theorem dX12_aSong_15 : decode cX12_aSong 15 = .ok (.ireturn, 1) := by decide +kernel
theorem dX12_aSong_16 : decode cX12_aSong 16 = .ok (.aload_n 0, 1) := by decide +kernel
theorem dX12_aSong_17 : decode cX12_aSong 17 = .ok (.getfield 248, 3) := by decide +kernel
theorem dX12_aSong_20 : decode cX12_aSong 20 = .ok (.istore_n 2, 1) := by decide +kernel
theorem dX12_aSong_21 : decode cX12_aSong 21 = .ok (.aload_n 0, 1) := by decide +kernel
theorem dX12_aSong_22 : decode cX12_aSong 22 = .ok (.bipush 8, 2) := by decide +kernel
theorem dX12_aSong_24 : decode cX12_aSong 24 = .ok (.invokevirtual 236, 3) := by decide +kernel
theorem dX12_aSong_27 : decode cX12_aSong 27 = .ok (.ifCond .eq 13, 3) := by decide +kernel
theorem dX12_aSong_30 : decode cX12_aSong 30 = .ok (.aload_n 0, 1) := by decide +kernel
theorem dX12_aSong_31 : decode cX12_aSong 31 = .ok (.iconst 0, 1) := by decide +kernel
theorem dX12_aSong_32 : decode cX12_aSong 32 = .ok (.bipush 99, 2) := by decide +kernel
theorem dX12_aSong_34 : decode cX12_aSong 34 = .ok (.invokevirtual 257, 3) := by decide +kernel
theorem dX12_aSong_37 : decode cX12_aSong 37 = .ok (.ifCond .ne 5, 3) := by decide +kernel
theorem dX12_aSong_40 : decode cX12_aSong 40 = .ok (.iconst 0, 1) := by decide +kernel
theorem dX12_aSong_41 : decode cX12_aSong 41 = .ok (.ireturn, 1) := by decide +kernel
theorem dX12_aSong_42 : decode cX12_aSong 42 = .ok (.iconst 4, 1) := by decide +kernel
theorem dX12_aSong_43 : decode cX12_aSong 43 = .ok (.aload_n 0, 1) := by decide +kernel
theorem dX12_aSong_44 : decode cX12_aSong 44 = .ok (.getfield 261, 3) := by decide +kernel
theorem dX12_aSong_47 : decode cX12_aSong 47 = .ok (.imul, 1) := by decide +kernel
theorem dX12_aSong_48 : decode cX12_aSong 48 = .ok (.istore_n 3, 1) := by decide +kernel
theorem dX12_aSong_49 : decode cX12_aSong 49 = .ok (.aload_n 0, 1) := by decide +kernel
theorem dX12_aSong_50 : decode cX12_aSong 50 = .ok (.getfield 28, 3) := by decide +kernel
theorem dX12_aSong_53 : decode cX12_aSong 53 = .ok (.iload_n 3, 1) := by decide +kernel
theorem dX12_aSong_54 : decode cX12_aSong 54 = .ok (.iconst 0, 1) := by decide +kernel
theorem dX12_aSong_55 : decode cX12_aSong 55 = .ok (.iadd, 1) := by decide +kernel
theorem dX12_aSong_56 : decode cX12_aSong 56 = .ok (.iload_n 1, 1) := by decide +kernel
theorem dX12_aSong_57 : decode cX12_aSong 57 = .ok (.iastore, 1) := by decide +kernel
theorem dX12_aSong_58 : decode cX12_aSong 58 = .ok (.aload_n 0, 1) := by decide +kernel
theorem dX12_aSong_59 : decode cX12_aSong 59 = .ok (.getfield 28, 3) := by decide +kernel
theorem dX12_aSong_62 : decode cX12_aSong 62 = .ok (.iload_n 3, 1) := by decide +kernel
theorem dX12_aSong_63 : decode cX12_aSong 63 = .ok (.iconst 1, 1) := by decide +kernel
theorem dX12_aSong_64 : decode cX12_aSong 64 = .ok (.iadd, 1) := by decide +kernel
theorem dX12_aSong_65 : decode cX12_aSong 65 = .ok (.iload_n 1, 1) := by decide +kernel
theorem dX12_aSong_66 : decode cX12_aSong 66 = .ok (.ifCond .ne 10, 3) := by decide +kernel
theorem dX12_aSong_69 : decode cX12_aSong 69 = .ok (.aload_n 0, 1) := by decide +kernel
theorem dX12_aSong_70 : decode cX12_aSong 70 = .ok (.getfield 251, 3) := by decide +kernel
theorem dX12_aSong_73 : decode cX12_aSong 73 = .ok (.goto 7, 3) := by decide +kernel
theorem dX12_aSong_76 : decode cX12_aSong 76 = .ok (.aload_n 0, 1) := by decide +kernel
theorem dX12_aSong_77 : decode cX12_aSong 77 = .ok (.getfield 254, 3) := by decide +kernel
theorem dX12_aSong_80 : decode cX12_aSong 80 = .ok (.iastore, 1) := by decide +kernel
theorem dX12_aSong_81 : decode cX12_aSong 81 = .ok (.aload_n 0, 1) := by decide +kernel
theorem dX12_aSong_82 : decode cX12_aSong 82 = .ok (.getfield 28, 3) := by decide +kernel
theorem dX12_aSong_85 : decode cX12_aSong 85 = .ok (.iload_n 3, 1) := by decide +kernel
theorem dX12_aSong_86 : decode cX12_aSong 86 = .ok (.iconst 2, 1) := by decide +kernel
theorem dX12_aSong_87 : decode cX12_aSong 87 = .ok (.iadd, 1) := by decide +kernel
theorem dX12_aSong_88 : decode cX12_aSong 88 = .ok (.iload_n 2, 1) := by decide +kernel
theorem dX12_aSong_89 : decode cX12_aSong 89 = .ok (.iastore, 1) := by decide +kernel
theorem dX12_aSong_90 : decode cX12_aSong 90 = .ok (.aload_n 0, 1) := by decide +kernel
theorem dX12_aSong_91 : decode cX12_aSong 91 = .ok (.getfield 28, 3) := by decide +kernel
theorem dX12_aSong_94 : decode cX12_aSong 94 = .ok (.iload_n 3, 1) := by decide +kernel
theorem dX12_aSong_95 : decode cX12_aSong 95 = .ok (.iconst 3, 1) := by decide +kernel
theorem dX12_aSong_96 : decode cX12_aSong 96 = .ok (.iadd, 1) := by decide +kernel
theorem dX12_aSong_97 : decode cX12_aSong 97 = .ok (.aload_n 0, 1) := by decide +kernel
theorem dX12_aSong_98 : decode cX12_aSong 98 = .ok (.getfield 248, 3) := by decide +kernel
theorem dX12_aSong_101 : decode cX12_aSong 101 = .ok (.iastore, 1) := by decide +kernel
theorem dX12_aSong_102 : decode cX12_aSong 102 = .ok (.aload_n 0, 1) := by decide +kernel
theorem dX12_aSong_103 : decode cX12_aSong 103 = .ok (.iload_n 1, 1) := by decide +kernel
theorem dX12_aSong_104 : decode cX12_aSong 104 = .ok (.iload_n 2, 1) := by decide +kernel
theorem dX12_aSong_105 : decode cX12_aSong 105 = .ok (.aload_n 0, 1) := by decide +kernel
theorem dX12_aSong_106 : decode cX12_aSong 106 = .ok (.getfield 261, 3) := by decide +kernel
theorem dX12_aSong_109 : decode cX12_aSong 109 = .ok (.invokevirtual 264, 3) := by decide +kernel
theorem dX12_aSong_112 : decode cX12_aSong 112 = .ok (.aload_n 0, 1) := by decide +kernel
theorem dX12_aSong_113 : decode cX12_aSong 113 = .ok (.dup, 1) := by decide +kernel
theorem dX12_aSong_114 : decode cX12_aSong 114 = .ok (.getfield 261, 3) := by decide +kernel
theorem dX12_aSong_117 : decode cX12_aSong 117 = .ok (.iconst 1, 1) := by decide +kernel
theorem dX12_aSong_118 : decode cX12_aSong 118 = .ok (.iadd, 1) := by decide +kernel
theorem dX12_aSong_119 : decode cX12_aSong 119 = .ok (.putfield 261, 3) := by decide +kernel
theorem dX12_aSong_122 : decode cX12_aSong 122 = .ok (.aload_n 0, 1) := by decide +kernel
theorem dX12_aSong_123 : decode cX12_aSong 123 = .ok (.sipush 159, 3) := by decide +kernel
theorem dX12_aSong_126 : decode cX12_aSong 126 = .ok (.invokevirtual 236, 3) := by decide +kernel
theorem dX12_aSong_129 : decode cX12_aSong 129 = .ok (.ireturn, 1) := by decide +kernel
theorem dX12_aGap_0 : decode cX12_aGap 0 = .ok (.aload_n 0, 1) := by decide +kernel
theorem dX12_aGap_1 : decode cX12_aGap 1 = .ok (.invokevirtual 204, 3) := by decide +kernel
theorem dX12_aGap_4 : decode cX12_aGap 4 = .ok (.aload_n 0, 1) := by decide +kernel
theorem dX12_aGap_5 : decode cX12_aGap 5 = .ok (.iconst 1, 1) := by decide +kernel
theorem dX12_aGap_6 : decode cX12_aGap 6 = .ok (.bipush 60, 2) := by decide +kernel
theorem dX12_aGap_8 : decode cX12_aGap 8 = .ok (.invokevirtual 257, 3) := by decide +kernel
theorem dX12_aGap_11 : decode cX12_aGap 11 = .ok (.ifCond .ne 5, 3) := by decide +kernel
theorem dX12_aGap_14 : decode cX12_aGap 14 = .ok (.iconst 0, 1) := by decide +kernel
theorem dX12_aGap_15 : decode cX12_aGap 15 = .ok (.ireturn, 1) := by decide +kernel
theorem dX12_aGap_16 : decode cX12_aGap 16 = .ok (.aload_n 0, 1) := by decide +kernel
theorem dX12_aGap_17 : decode cX12_aGap 17 = .ok (.iload_n 1, 1) := by decide +kernel
theorem dX12_aGap_18 : decode cX12_aGap 18 = .ok (.aload_n 0, 1) := by decide +kernel
theorem dX12_aGap_19 : decode cX12_aGap 19 = .ok (.getfield 248, 3) := by decide +kernel
theorem dX12_aGap_22 : decode cX12_aGap 22 = .ok (.bipush 98, 2) := by decide +kernel
theorem dX12_aGap_24 : decode cX12_aGap 24 = .ok (.invokevirtual 264, 3) := by decide +kernel
theorem dX12_aGap_27 : decode cX12_aGap 27 = .ok (.aload_n 0, 1) := by decide +kernel
theorem dX12_aGap_28 : decode cX12_aGap 28 = .ok (.sipush 159, 3) := by decide +kernel
theorem dX12_aGap_31 : decode cX12_aGap 31 = .ok (.invokevirtual 236, 3) := by decide +kernel
theorem dX12_aGap_34 : decode cX12_aGap 34 = .ok (.ireturn, 1) := by decide +kernel
theorem dX12_readsSide_0 : decode cX12_readsSide 0 = .ok (.iconst 1, 1) := by decide +kernel
theorem dX12_readsSide_1 : decode cX12_readsSide 1 = .ok (.istore_n 2, 1) := by decide +kernel
theorem dX12_readsSide_2 : decode cX12_readsSide 2 = .ok (.iload_n 2, 1) := by decide +kernel
theorem dX12_readsSide_3 : decode cX12_readsSide 3 = .ok (.ifCond .eq 90, 3) := by decide +kernel
theorem dX12_readsSide_6 : decode cX12_readsSide 6 = .ok (.aload_n 0, 1) := by decide +kernel
theorem dX12_readsSide_7 : decode cX12_readsSide 7 = .ok (.getfield 180, 3) := by decide +kernel
theorem dX12_readsSide_10 : decode cX12_readsSide 10 = .ok (.bipush 7, 2) := by decide +kernel
theorem dX12_readsSide_12 : decode cX12_readsSide 12 = .ok (.if_icmp .eq 12, 3) := by decide +kernel
theorem dX12_readsSide_15 : decode cX12_readsSide 15 = .ok (.aload_n 0, 1) := by decide +kernel
theorem dX12_readsSide_16 : decode cX12_readsSide 16 = .ok (.getfield 180, 3) := by decide +kernel
theorem dX12_readsSide_19 : decode cX12_readsSide 19 = .ok (.bipush 9, 2) := by decide +kernel
theorem dX12_readsSide_21 : decode cX12_readsSide 21 = .ok (.if_icmp .ne 72, 3) := by decide +kernel
theorem dX12_readsSide_24 : decode cX12_readsSide 24 = .ok (.aload_n 0, 1) := by decide +kernel
theorem dX12_readsSide_25 : decode cX12_readsSide 25 = .ok (.getfield 268, 3) := by decide +kernel
theorem dX12_readsSide_28 : decode cX12_readsSide 28 = .ok (.bipush 20, 2) := by decide +kernel
theorem dX12_readsSide_30 : decode cX12_readsSide 30 = .ok (.if_icmp .eq 21, 3) := by decide +kernel
theorem dX12_readsSide_33 : decode cX12_readsSide 33 = .ok (.aload_n 0, 1) := by decide +kernel
theorem dX12_readsSide_34 : decode cX12_readsSide 34 = .ok (.getfield 180, 3) := by decide +kernel
theorem dX12_readsSide_37 : decode cX12_readsSide 37 = .ok (.bipush 7, 2) := by decide +kernel
theorem dX12_readsSide_39 : decode cX12_readsSide 39 = .ok (.if_icmp .ne 18, 3) := by decide +kernel
theorem dX12_readsSide_42 : decode cX12_readsSide 42 = .ok (.aload_n 0, 1) := by decide +kernel
theorem dX12_readsSide_43 : decode cX12_readsSide 43 = .ok (.getfield 261, 3) := by decide +kernel
theorem dX12_readsSide_46 : decode cX12_readsSide 46 = .ok (.bipush 14, 2) := by decide +kernel
theorem dX12_readsSide_48 : decode cX12_readsSide 48 = .ok (.if_icmp .ne 9, 3) := by decide +kernel
theorem dX12_readsSide_51 : decode cX12_readsSide 51 = .ok (.aload_n 0, 1) := by decide +kernel
theorem dX12_readsSide_52 : decode cX12_readsSide 52 = .ok (.iconst 3, 1) := by decide +kernel
theorem dX12_readsSide_53 : decode cX12_readsSide 53 = .ok (.invokevirtual 201, 3) := by decide +kernel
theorem dX12_readsSide_56 : decode cX12_readsSide 56 = .ok (.ireturn, 1) := by decide +kernel
theorem dX12_readsSide_57 : decode cX12_readsSide 57 = .ok (.aload_n 0, 1) := by decide +kernel
theorem dX12_readsSide_58 : decode cX12_readsSide 58 = .ok (.getfield 180, 3) := by decide +kernel
theorem dX12_readsSide_61 : decode cX12_readsSide 61 = .ok (.bipush 7, 2) := by decide +kernel
theorem dX12_readsSide_63 : decode cX12_readsSide 63 = .ok (.if_icmp .ne 11, 3) := by decide +kernel
theorem dX12_readsSide_66 : decode cX12_readsSide 66 = .ok (.aload_n 0, 1) := by decide +kernel
theorem dX12_readsSide_67 : decode cX12_readsSide 67 = .ok (.iload_n 1, 1) := by decide +kernel
theorem dX12_readsSide_68 : decode cX12_readsSide 68 = .ok (.invokevirtual 271, 3) := by decide +kernel
theorem dX12_readsSide_71 : decode cX12_readsSide 71 = .ok (.goto 8, 3) := by decide +kernel
theorem dX12_readsSide_74 : decode cX12_readsSide 74 = .ok (.aload_n 0, 1) := by decide +kernel
theorem dX12_readsSide_75 : decode cX12_readsSide 75 = .ok (.iload_n 1, 1) := by decide +kernel
theorem dX12_readsSide_76 : decode cX12_readsSide 76 = .ok (.invokevirtual 274, 3) := by decide +kernel
theorem dX12_readsSide_79 : decode cX12_readsSide 79 = .ok (.istore_n 2, 1) := by decide +kernel
theorem dX12_readsSide_80 : decode cX12_readsSide 80 = .ok (.aload_n 0, 1) := by decide +kernel
theorem dX12_readsSide_81 : decode cX12_readsSide 81 = .ok (.dup, 1) := by decide +kernel
theorem dX12_readsSide_82 : decode cX12_readsSide 82 = .ok (.getfield 268, 3) := by decide +kernel
theorem dX12_readsSide_85 : decode cX12_readsSide 85 = .ok (.iconst 1, 1) := by decide +kernel
theorem dX12_readsSide_86 : decode cX12_readsSide 86 = .ok (.iadd, 1) := by decide +kernel
theorem dX12_readsSide_87 : decode cX12_readsSide 87 = .ok (.putfield 268, 3) := by decide +kernel
theorem dX12_readsSide_90 : decode cX12_readsSide 90 = .ok (.goto (-88), 3) := by decide +kernel
theorem dX12_readsSide_93 : decode cX12_readsSide 93 = .ok (.iload_n 2, 1) := by decide +kernel
theorem dX12_readsSide_94 : decode cX12_readsSide 94 = .ok (.ireturn, 1) := by decide +kernel
theorem dX12_readsTape_0 : decode cX12_readsTape 0 = .ok (.aload_n 0, 1) := by decide +kernel
theorem dX12_readsTape_1 : decode cX12_readsTape 1 = .ok (.iconst 0, 1) := by decide +kernel
theorem dX12_readsTape_2 : decode cX12_readsTape 2 = .ok (.putfield 268, 3) := by decide +kernel
theorem dX12_readsTape_5 : decode cX12_readsTape 5 = .ok (.aload_n 0, 1) := by decide +kernel
theorem dX12_readsTape_6 : decode cX12_readsTape 6 = .ok (.iconst 0, 1) := by decide +kernel
theorem dX12_readsTape_7 : decode cX12_readsTape 7 = .ok (.putfield 261, 3) := by decide +kernel
theorem dX12_readsTape_10 : decode cX12_readsTape 10 = .ok (.aload_n 0, 1) := by decide +kernel
theorem dX12_readsTape_11 : decode cX12_readsTape 11 = .ok (.iconst 0, 1) := by decide +kernel
theorem dX12_readsTape_12 : decode cX12_readsTape 12 = .ok (.putfield 251, 3) := by decide +kernel
theorem dX12_readsTape_15 : decode cX12_readsTape 15 = .ok (.aload_n 0, 1) := by decide +kernel
theorem dX12_readsTape_16 : decode cX12_readsTape 16 = .ok (.iconst 0, 1) := by decide +kernel
theorem dX12_readsTape_17 : decode cX12_readsTape 17 = .ok (.putfield 254, 3) := by decide +kernel
theorem dX12_readsTape_20 : decode cX12_readsTape 20 = .ok (.iconst 0, 1) := by decide +kernel
theorem dX12_readsTape_21 : decode cX12_readsTape 21 = .ok (.istore_n 1, 1) := by decide +kernel
theorem dX12_readsTape_22 : decode cX12_readsTape 22 = .ok (.iload_n 1, 1) := by decide +kernel
theorem dX12_readsTape_23 : decode cX12_readsTape 23 = .ok (.sipush 402, 3) := by decide +kernel
theorem dX12_readsTape_26 : decode cX12_readsTape 26 = .ok (.if_icmp .ge 17, 3) := by decide +kernel
theorem dX12_readsTape_29 : decode cX12_readsTape 29 = .ok (.aload_n 0, 1) := by decide +kernel
theorem dX12_readsTape_30 : decode cX12_readsTape 30 = .ok (.getfield 31, 3) := by decide +kernel
theorem dX12_readsTape_33 : decode cX12_readsTape 33 = .ok (.iload_n 1, 1) := by decide +kernel
theorem dX12_readsTape_34 : decode cX12_readsTape 34 = .ok (.bipush 98, 2) := by decide +kernel
theorem dX12_readsTape_36 : decode cX12_readsTape 36 = .ok (.iastore, 1) := by decide +kernel
theorem dX12_readsTape_37 : decode cX12_readsTape 37 = .ok (.iinc 1 1, 3) := by decide +kernel
theorem dX12_readsTape_40 : decode cX12_readsTape 40 = .ok (.goto (-18), 3) := by decide +kernel
theorem dX12_readsTape_43 : decode cX12_readsTape 43 = .ok (.aload_n 0, 1) := by decide +kernel
theorem dX12_readsTape_44 : decode cX12_readsTape 44 = .ok (.iconst 0, 1) := by decide +kernel
theorem dX12_readsTape_45 : decode cX12_readsTape 45 = .ok (.invokevirtual 277, 3) := by decide +kernel
theorem dX12_readsTape_48 : decode cX12_readsTape 48 = .ok (.ifCond .ne 5, 3) := by decide +kernel
theorem dX12_readsTape_51 : decode cX12_readsTape 51 = .ok (.iconst 0, 1) := by decide +kernel
theorem dX12_readsTape_52 : decode cX12_readsTape 52 = .ok (.ireturn, 1) := by decide +kernel
theorem dX12_readsTape_53 : decode cX12_readsTape 53 = .ok (.aload_n 0, 1) := by decide +kernel
theorem dX12_readsTape_54 : decode cX12_readsTape 54 = .ok (.getfield 180, 3) := by decide +kernel
theorem dX12_readsTape_57 : decode cX12_readsTape 57 = .ok (.bipush 10, 2) := by decide +kernel
theorem dX12_readsTape_59 : decode cX12_readsTape 59 = .ok (.if_icmp .ne 27, 3) := by decide +kernel
theorem dX12_readsTape_62 : decode cX12_readsTape 62 = .ok (.aload_n 0, 1) := by decide +kernel
theorem dX12_readsTape_63 : decode cX12_readsTape 63 = .ok (.invokevirtual 204, 3) := by decide +kernel
theorem dX12_readsTape_66 : decode cX12_readsTape 66 = .ok (.aload_n 0, 1) := by decide +kernel
theorem dX12_readsTape_67 : decode cX12_readsTape 67 = .ok (.sipush 159, 3) := by decide +kernel
theorem dX12_readsTape_70 : decode cX12_readsTape 70 = .ok (.invokevirtual 236, 3) := by decide +kernel
theorem dX12_readsTape_73 : decode cX12_readsTape 73 = .ok (.ifCond .eq 11, 3) := by decide +kernel
theorem dX12_readsTape_76 : decode cX12_readsTape 76 = .ok (.aload_n 0, 1) := by decide +kernel
theorem dX12_readsTape_77 : decode cX12_readsTape 77 = .ok (.iconst 1, 1) := by decide +kernel
theorem dX12_readsTape_78 : decode cX12_readsTape 78 = .ok (.invokevirtual 277, 3) := by decide +kernel
theorem dX12_readsTape_81 : decode cX12_readsTape 81 = .ok (.ifCond .ne 5, 3) := by decide +kernel
theorem dX12_readsTape_84 : decode cX12_readsTape 84 = .ok (.iconst 0, 1) := by decide +kernel
theorem dX12_readsTape_85 : decode cX12_readsTape 85 = .ok (.ireturn, 1) := by decide +kernel
theorem dX12_readsTape_86 : decode cX12_readsTape 86 = .ok (.aload_n 0, 1) := by decide +kernel
theorem dX12_readsTape_87 : decode cX12_readsTape 87 = .ok (.getfield 180, 3) := by decide +kernel
theorem dX12_readsTape_90 : decode cX12_readsTape 90 = .ok (.ifCond .eq 9, 3) := by decide +kernel
theorem dX12_readsTape_93 : decode cX12_readsTape 93 = .ok (.aload_n 0, 1) := by decide +kernel
theorem dX12_readsTape_94 : decode cX12_readsTape 94 = .ok (.iconst 1, 1) := by decide +kernel
theorem dX12_readsTape_95 : decode cX12_readsTape 95 = .ok (.invokevirtual 201, 3) := by decide +kernel
theorem dX12_readsTape_98 : decode cX12_readsTape 98 = .ok (.ireturn, 1) := by decide +kernel
theorem dX12_readsTape_99 : decode cX12_readsTape 99 = .ok (.aload_n 0, 1) := by decide +kernel
theorem dX12_readsTape_100 : decode cX12_readsTape 100 = .ok (.getfield 251, 3) := by decide +kernel
theorem dX12_readsTape_103 : decode cX12_readsTape 103 = .ok (.sipush 200, 3) := by decide +kernel
theorem dX12_readsTape_106 : decode cX12_readsTape 106 = .ok (.if_icmp .gt 13, 3) := by decide +kernel
theorem dX12_readsTape_109 : decode cX12_readsTape 109 = .ok (.aload_n 0, 1) := by decide +kernel
theorem dX12_readsTape_110 : decode cX12_readsTape 110 = .ok (.getfield 254, 3) := by decide +kernel
theorem dX12_readsTape_113 : decode cX12_readsTape 113 = .ok (.sipush 200, 3) := by decide +kernel
theorem dX12_readsTape_116 : decode cX12_readsTape 116 = .ok (.if_icmp .le 11, 3) := by decide +kernel
theorem dX12_readsTape_119 : decode cX12_readsTape 119 = .ok (.aload_n 0, 1) := by decide +kernel
theorem dX12_readsTape_120 : decode cX12_readsTape 120 = .ok (.iconst 4, 1) := by decide +kernel
theorem dX12_readsTape_121 : decode cX12_readsTape 121 = .ok (.invokevirtual 201, 3) := by decide +kernel
theorem dX12_readsTape_124 : decode cX12_readsTape 124 = .ok (.ifCond .eq 7, 3) := by decide +kernel
theorem dX12_readsTape_127 : decode cX12_readsTape 127 = .ok (.iconst 1, 1) := by decide +kernel
theorem dX12_readsTape_128 : decode cX12_readsTape 128 = .ok (.goto 4, 3) := by decide +kernel
theorem dX12_readsTape_131 : decode cX12_readsTape 131 = .ok (.iconst 0, 1) := by decide +kernel
theorem dX12_readsTape_132 : decode cX12_readsTape 132 = .ok (.ireturn, 1) := by decide +kernel
theorem dX12_does_0 : decode cX12_does 0 = .ok (.aload_n 0, 1) := by decide +kernel
theorem dX12_does_1 : decode cX12_does 1 = .ok (.getfield 280, 3) := by decide +kernel
theorem dX12_does_4 : decode cX12_does 4 = .ok (.bipush 60, 2) := by decide +kernel
theorem dX12_does_6 : decode cX12_does 6 = .ok (.if_icmp .ge 13, 3) := by decide +kernel
theorem dX12_does_9 : decode cX12_does 9 = .ok (.aload_n 0, 1) := by decide +kernel
theorem dX12_does_10 : decode cX12_does 10 = .ok (.getfield 34, 3) := by decide +kernel
theorem dX12_does_13 : decode cX12_does 13 = .ok (.aload_n 0, 1) := by decide +kernel
theorem dX12_does_14 : decode cX12_does 14 = .ok (.getfield 280, 3) := by decide +kernel
theorem dX12_does_17 : decode cX12_does 17 = .ok (.iload_n 1, 1) := by decide +kernel
theorem dX12_does_18 : decode cX12_does 18 = .ok (.iastore, 1) := by decide +kernel
theorem dX12_does_19 : decode cX12_does 19 = .ok (.aload_n 0, 1) := by decide +kernel
theorem dX12_does_20 : decode cX12_does 20 = .ok (.dup, 1) := by decide +kernel
theorem dX12_does_21 : decode cX12_does 21 = .ok (.getfield 280, 3) := by decide +kernel
theorem dX12_does_24 : decode cX12_does 24 = .ok (.iconst 1, 1) := by decide +kernel
theorem dX12_does_25 : decode cX12_does 25 = .ok (.iadd, 1) := by decide +kernel
theorem dX12_does_26 : decode cX12_does 26 = .ok (.putfield 280, 3) := by decide +kernel
theorem dX12_does_29 : decode cX12_does 29 = .ok (.return_, 1) := by decide +kernel
theorem dX12_aDeed_0 : decode cX12_aDeed 0 = .ok (.aload_n 0, 1) := by decide +kernel
theorem dX12_aDeed_1 : decode cX12_aDeed 1 = .ok (.getfield 180, 3) := by decide +kernel
theorem dX12_aDeed_4 : decode cX12_aDeed 4 = .ok (.istore_n 1, 1) := by decide +kernel
theorem dX12_aDeed_5 : decode cX12_aDeed 5 = .ok (.aload_n 0, 1) := by decide +kernel
theorem dX12_aDeed_6 : decode cX12_aDeed 6 = .ok (.invokevirtual 204, 3) := by decide +kernel
theorem dX12_aDeed_9 : decode cX12_aDeed 9 = .ok (.iload_n 1, 1) := by decide +kernel
theorem dX12_aDeed_10 : decode cX12_aDeed 10 = .ok (.bipush 10, 2) := by decide +kernel
theorem dX12_aDeed_12 : decode cX12_aDeed 12 = .ok (.if_icmp .ne 12, 3) := by decide +kernel
theorem dX12_aDeed_15 : decode cX12_aDeed 15 = .ok (.aload_n 0, 1) := by decide +kernel
theorem dX12_aDeed_16 : decode cX12_aDeed 16 = .ok (.sipush 300, 3) := by decide +kernel
theorem dX12_aDeed_19 : decode cX12_aDeed 19 = .ok (.invokevirtual 283, 3) := by decide +kernel
theorem dX12_aDeed_22 : decode cX12_aDeed 22 = .ok (.iconst 1, 1) := by decide +kernel
theorem dX12_aDeed_23 : decode cX12_aDeed 23 = .ok (.ireturn, 1) := by decide +kernel
theorem dX12_aDeed_24 : decode cX12_aDeed 24 = .ok (.aload_n 0, 1) := by decide +kernel
theorem dX12_aDeed_25 : decode cX12_aDeed 25 = .ok (.iconst 1, 1) := by decide +kernel
theorem dX12_aDeed_26 : decode cX12_aDeed 26 = .ok (.iload_n 1, 1) := by decide +kernel
theorem dX12_aDeed_27 : decode cX12_aDeed 27 = .ok (.bipush 13, 2) := by decide +kernel
theorem dX12_aDeed_29 : decode cX12_aDeed 29 = .ok (.if_icmp .ne 8, 3) := by decide +kernel
theorem dX12_aDeed_32 : decode cX12_aDeed 32 = .ok (.bipush 30, 2) := by decide +kernel
theorem dX12_aDeed_34 : decode cX12_aDeed 34 = .ok (.goto 5, 3) := by decide +kernel
theorem dX12_aDeed_37 : decode cX12_aDeed 37 = .ok (.bipush 60, 2) := by decide +kernel
theorem dX12_aDeed_39 : decode cX12_aDeed 39 = .ok (.invokevirtual 257, 3) := by decide +kernel
theorem dX12_aDeed_42 : decode cX12_aDeed 42 = .ok (.ifCond .ne 5, 3) := by decide +kernel
theorem dX12_aDeed_45 : decode cX12_aDeed 45 = .ok (.iconst 0, 1) := by decide +kernel
theorem dX12_aDeed_46 : decode cX12_aDeed 46 = .ok (.ireturn, 1) := by decide +kernel
theorem dX12_aDeed_47 : decode cX12_aDeed 47 = .ok (.aload_n 0, 1) := by decide +kernel
theorem dX12_aDeed_48 : decode cX12_aDeed 48 = .ok (.bipush 100, 2) := by decide +kernel
theorem dX12_aDeed_50 : decode cX12_aDeed 50 = .ok (.iload_n 1, 1) := by decide +kernel
theorem dX12_aDeed_51 : decode cX12_aDeed 51 = .ok (.bipush 11, 2) := by decide +kernel
theorem dX12_aDeed_53 : decode cX12_aDeed 53 = .ok (.if_icmp .ne 7, 3) := by decide +kernel
theorem dX12_aDeed_56 : decode cX12_aDeed 56 = .ok (.iconst 0, 1) := by decide +kernel
theorem dX12_aDeed_57 : decode cX12_aDeed 57 = .ok (.goto 14, 3) := by decide +kernel
theorem dX12_aDeed_60 : decode cX12_aDeed 60 = .ok (.iload_n 1, 1) := by decide +kernel
theorem dX12_aDeed_61 : decode cX12_aDeed 61 = .ok (.bipush 12, 2) := by decide +kernel
theorem dX12_aDeed_63 : decode cX12_aDeed 63 = .ok (.if_icmp .ne 7, 3) := by decide +kernel
theorem dX12_aDeed_66 : decode cX12_aDeed 66 = .ok (.iconst 1, 1) := by decide +kernel
theorem dX12_aDeed_67 : decode cX12_aDeed 67 = .ok (.goto 4, 3) := by decide +kernel
theorem dX12_aDeed_70 : decode cX12_aDeed 70 = .ok (.iconst 2, 1) := by decide +kernel
theorem dX12_aDeed_71 : decode cX12_aDeed 71 = .ok (.imul, 1) := by decide +kernel
theorem dX12_aDeed_72 : decode cX12_aDeed 72 = .ok (.aload_n 0, 1) := by decide +kernel
theorem dX12_aDeed_73 : decode cX12_aDeed 73 = .ok (.getfield 248, 3) := by decide +kernel
theorem dX12_aDeed_76 : decode cX12_aDeed 76 = .ok (.iadd, 1) := by decide +kernel
theorem dX12_aDeed_77 : decode cX12_aDeed 77 = .ok (.invokevirtual 283, 3) := by decide +kernel
theorem dX12_aDeed_80 : decode cX12_aDeed 80 = .ok (.iconst 1, 1) := by decide +kernel
theorem dX12_aDeed_81 : decode cX12_aDeed 81 = .ok (.ireturn, 1) := by decide +kernel
theorem dX12_again_0 : decode cX12_again 0 = .ok (.iload_n 1, 1) := by decide +kernel
theorem dX12_again_1 : decode cX12_again 1 = .ok (.iconst 4, 1) := by decide +kernel
theorem dX12_again_2 : decode cX12_again 2 = .ok (.if_icmp .ne 9, 3) := by decide +kernel
theorem dX12_again_5 : decode cX12_again 5 = .ok (.aload_n 0, 1) := by decide +kernel
theorem dX12_again_6 : decode cX12_again 6 = .ok (.iconst 3, 1) := by decide +kernel
theorem dX12_again_7 : decode cX12_again 7 = .ok (.invokevirtual 201, 3) := by decide +kernel
theorem dX12_again_10 : decode cX12_again 10 = .ok (.ireturn, 1) := by decide +kernel
theorem dX12_again_11 : decode cX12_again 11 = .ok (.aload_n 0, 1) := by decide +kernel
theorem dX12_again_12 : decode cX12_again 12 = .ok (.invokevirtual 204, 3) := by decide +kernel
theorem dX12_again_15 : decode cX12_again 15 = .ok (.aload_n 0, 1) := by decide +kernel
theorem dX12_again_16 : decode cX12_again 16 = .ok (.iconst 1, 1) := by decide +kernel
theorem dX12_again_17 : decode cX12_again 17 = .ok (.bipush 9, 2) := by decide +kernel
theorem dX12_again_19 : decode cX12_again 19 = .ok (.invokevirtual 257, 3) := by decide +kernel
theorem dX12_again_22 : decode cX12_again 22 = .ok (.ifCond .ne 5, 3) := by decide +kernel
theorem dX12_again_25 : decode cX12_again 25 = .ok (.iconst 0, 1) := by decide +kernel
theorem dX12_again_26 : decode cX12_again 26 = .ok (.ireturn, 1) := by decide +kernel
theorem dX12_again_27 : decode cX12_again 27 = .ok (.aload_n 0, 1) := by decide +kernel
theorem dX12_again_28 : decode cX12_again 28 = .ok (.getfield 248, 3) := by decide +kernel
theorem dX12_again_31 : decode cX12_again 31 = .ok (.istore_n 2, 1) := by decide +kernel
theorem dX12_again_32 : decode cX12_again 32 = .ok (.aload_n 0, 1) := by decide +kernel
theorem dX12_again_33 : decode cX12_again 33 = .ok (.getfield 280, 3) := by decide +kernel
theorem dX12_again_36 : decode cX12_again 36 = .ok (.istore_n 3, 1) := by decide +kernel
theorem dX12_again_37 : decode cX12_again 37 = .ok (.aload_n 0, 1) := by decide +kernel
theorem dX12_again_38 : decode cX12_again 38 = .ok (.sipush 140, 3) := by decide +kernel
theorem dX12_again_41 : decode cX12_again 41 = .ok (.invokevirtual 236, 3) := by decide +kernel
theorem dX12_again_44 : decode cX12_again 44 = .ok (.ifCond .eq 23, 3) := by decide +kernel
theorem dX12_again_47 : decode cX12_again 47 = .ok (.aload_n 0, 1) := by decide +kernel
theorem dX12_again_48 : decode cX12_again 48 = .ok (.iload_n 1, 1) := by decide +kernel
theorem dX12_again_49 : decode cX12_again 49 = .ok (.iconst 1, 1) := by decide +kernel
theorem dX12_again_50 : decode cX12_again 50 = .ok (.iadd, 1) := by decide +kernel
theorem dX12_again_51 : decode cX12_again 51 = .ok (.invokevirtual 286, 3) := by decide +kernel
theorem dX12_again_54 : decode cX12_again 54 = .ok (.ifCond .eq 13, 3) := by decide +kernel
theorem dX12_again_57 : decode cX12_again 57 = .ok (.aload_n 0, 1) := by decide +kernel
theorem dX12_again_58 : decode cX12_again 58 = .ok (.sipush 141, 3) := by decide +kernel
theorem dX12_again_61 : decode cX12_again 61 = .ok (.invokevirtual 236, 3) := by decide +kernel
theorem dX12_again_64 : decode cX12_again 64 = .ok (.ifCond .ne 5, 3) := by decide +kernel
theorem dX12_again_67 : decode cX12_again 67 = .ok (.iconst 0, 1) := by decide +kernel
theorem dX12_again_68 : decode cX12_again 68 = .ok (.ireturn, 1) := by decide +kernel
theorem dX12_again_69 : decode cX12_again 69 = .ok (.aload_n 0, 1) := by decide +kernel
theorem dX12_again_70 : decode cX12_again 70 = .ok (.getfield 280, 3) := by decide +kernel
theorem dX12_again_73 : decode cX12_again 73 = .ok (.iload_n 3, 1) := by decide +kernel
theorem dX12_again_74 : decode cX12_again 74 = .ok (.isub, 1) := by decide +kernel
theorem dX12_again_75 : decode cX12_again 75 = .ok (.iload_n 2, 1) := by decide +kernel
theorem dX12_again_76 : decode cX12_again 76 = .ok (.iconst 1, 1) := by decide +kernel
theorem dX12_again_77 : decode cX12_again 77 = .ok (.isub, 1) := by decide +kernel
theorem dX12_again_78 : decode cX12_again 78 = .ok (.imul, 1) := by decide +kernel
theorem dX12_again_79 : decode cX12_again 79 = .ok (.istore 4, 2) := by decide +kernel
theorem dX12_again_81 : decode cX12_again 81 = .ok (.iconst 0, 1) := by decide +kernel
theorem dX12_again_82 : decode cX12_again 82 = .ok (.istore 5, 2) := by decide +kernel
theorem dX12_again_84 : decode cX12_again 84 = .ok (.iload 5, 2) := by decide +kernel
theorem dX12_again_86 : decode cX12_again 86 = .ok (.iload 4, 2) := by decide +kernel
theorem dX12_again_88 : decode cX12_again 88 = .ok (.if_icmp .ge 35, 3) := by decide +kernel
theorem dX12_again_91 : decode cX12_again 91 = .ok (.aload_n 0, 1) := by decide +kernel
theorem dX12_again_92 : decode cX12_again 92 = .ok (.aload_n 0, 1) := by decide +kernel
theorem dX12_again_93 : decode cX12_again 93 = .ok (.getfield 280, 3) := by decide +kernel
theorem dX12_again_96 : decode cX12_again 96 = .ok (.bipush 60, 2) := by decide +kernel
theorem dX12_again_98 : decode cX12_again 98 = .ok (.if_icmp .ge 15, 3) := by decide +kernel
theorem dX12_again_101 : decode cX12_again 101 = .ok (.aload_n 0, 1) := by decide +kernel
theorem dX12_again_102 : decode cX12_again 102 = .ok (.getfield 34, 3) := by decide +kernel
theorem dX12_again_105 : decode cX12_again 105 = .ok (.iload_n 3, 1) := by decide +kernel
theorem dX12_again_106 : decode cX12_again 106 = .ok (.iload 5, 2) := by decide +kernel
theorem dX12_again_108 : decode cX12_again 108 = .ok (.iadd, 1) := by decide +kernel
theorem dX12_again_109 : decode cX12_again 109 = .ok (.iaload, 1) := by decide +kernel
theorem dX12_again_110 : decode cX12_again 110 = .ok (.goto 4, 3) := by decide +kernel
theorem dX12_again_113 : decode cX12_again 113 = .ok (.iconst 0, 1) := by decide +kernel
theorem dX12_again_114 : decode cX12_again 114 = .ok (.invokevirtual 283, 3) := by decide +kernel
theorem dX12_again_117 : decode cX12_again 117 = .ok (.iinc 5 1, 3) := by decide +kernel
theorem dX12_again_120 : decode cX12_again 120 = .ok (.goto (-36), 3) := by decide +kernel
theorem dX12_again_123 : decode cX12_again 123 = .ok (.iconst 1, 1) := by decide +kernel
theorem dX12_again_124 : decode cX12_again 124 = .ok (.ireturn, 1) := by decide +kernel
theorem dX12_someDeeds_0 : decode cX12_someDeeds 0 = .ok (.iconst 1, 1) := by decide +kernel
theorem dX12_someDeeds_1 : decode cX12_someDeeds 1 = .ok (.istore_n 2, 1) := by decide +kernel
theorem dX12_someDeeds_2 : decode cX12_someDeeds 2 = .ok (.iload_n 2, 1) := by decide +kernel
theorem dX12_someDeeds_3 : decode cX12_someDeeds 3 = .ok (.ifCond .eq 42, 3) := by decide +kernel
theorem dX12_someDeeds_6 : decode cX12_someDeeds 6 = .ok (.aload_n 0, 1) := by decide +kernel
theorem dX12_someDeeds_7 : decode cX12_someDeeds 7 = .ok (.getfield 180, 3) := by decide +kernel
theorem dX12_someDeeds_10 : decode cX12_someDeeds 10 = .ok (.bipush 10, 2) := by decide +kernel
theorem dX12_someDeeds_12 : decode cX12_someDeeds 12 = .ok (.bipush 14, 2) := by decide +kernel
theorem dX12_someDeeds_14 : decode cX12_someDeeds 14 = .ok (.invokestatic 71, 3) := by decide +kernel
theorem dX12_someDeeds_17 : decode cX12_someDeeds 17 = .ok (.ifCond .eq 28, 3) := by decide +kernel
theorem dX12_someDeeds_20 : decode cX12_someDeeds 20 = .ok (.aload_n 0, 1) := by decide +kernel
theorem dX12_someDeeds_21 : decode cX12_someDeeds 21 = .ok (.getfield 180, 3) := by decide +kernel
theorem dX12_someDeeds_24 : decode cX12_someDeeds 24 = .ok (.bipush 14, 2) := by decide +kernel
theorem dX12_someDeeds_26 : decode cX12_someDeeds 26 = .ok (.if_icmp .ne 11, 3) := by decide +kernel
theorem dX12_someDeeds_29 : decode cX12_someDeeds 29 = .ok (.aload_n 0, 1) := by decide +kernel
theorem dX12_someDeeds_30 : decode cX12_someDeeds 30 = .ok (.iload_n 1, 1) := by decide +kernel
theorem dX12_someDeeds_31 : decode cX12_someDeeds 31 = .ok (.invokevirtual 289, 3) := by decide +kernel
theorem dX12_someDeeds_34 : decode cX12_someDeeds 34 = .ok (.goto 7, 3) := by decide +kernel
theorem dX12_someDeeds_37 : decode cX12_someDeeds 37 = .ok (.aload_n 0, 1) := by decide +kernel
theorem dX12_someDeeds_38 : decode cX12_someDeeds 38 = .ok (.invokevirtual 291, 3) := by decide +kernel
theorem dX12_someDeeds_41 : decode cX12_someDeeds 41 = .ok (.istore_n 2, 1) := by decide +kernel
theorem dX12_someDeeds_42 : decode cX12_someDeeds 42 = .ok (.goto (-40), 3) := by decide +kernel
theorem dX12_someDeeds_45 : decode cX12_someDeeds 45 = .ok (.iload_n 2, 1) := by decide +kernel
theorem dX12_someDeeds_46 : decode cX12_someDeeds 46 = .ok (.ireturn, 1) := by decide +kernel
theorem dX12_readsEvening_0 : decode cX12_readsEvening 0 = .ok (.aload_n 0, 1) := by decide +kernel
theorem dX12_readsEvening_1 : decode cX12_readsEvening 1 = .ok (.iconst 0, 1) := by decide +kernel
theorem dX12_readsEvening_2 : decode cX12_readsEvening 2 = .ok (.putfield 280, 3) := by decide +kernel
theorem dX12_readsEvening_5 : decode cX12_readsEvening 5 = .ok (.aload_n 0, 1) := by decide +kernel
theorem dX12_readsEvening_6 : decode cX12_readsEvening 6 = .ok (.iconst 0, 1) := by decide +kernel
theorem dX12_readsEvening_7 : decode cX12_readsEvening 7 = .ok (.invokevirtual 286, 3) := by decide +kernel
theorem dX12_readsEvening_10 : decode cX12_readsEvening 10 = .ok (.ifCond .ne 5, 3) := by decide +kernel
theorem dX12_readsEvening_13 : decode cX12_readsEvening 13 = .ok (.iconst 0, 1) := by decide +kernel
theorem dX12_readsEvening_14 : decode cX12_readsEvening 14 = .ok (.ireturn, 1) := by decide +kernel
theorem dX12_readsEvening_15 : decode cX12_readsEvening 15 = .ok (.aload_n 0, 1) := by decide +kernel
theorem dX12_readsEvening_16 : decode cX12_readsEvening 16 = .ok (.getfield 180, 3) := by decide +kernel
theorem dX12_readsEvening_19 : decode cX12_readsEvening 19 = .ok (.ifCond .eq 9, 3) := by decide +kernel
theorem dX12_readsEvening_22 : decode cX12_readsEvening 22 = .ok (.aload_n 0, 1) := by decide +kernel
theorem dX12_readsEvening_23 : decode cX12_readsEvening 23 = .ok (.iconst 1, 1) := by decide +kernel
theorem dX12_readsEvening_24 : decode cX12_readsEvening 24 = .ok (.invokevirtual 201, 3) := by decide +kernel
theorem dX12_readsEvening_27 : decode cX12_readsEvening 27 = .ok (.ireturn, 1) := by decide +kernel
theorem dX12_readsEvening_28 : decode cX12_readsEvening 28 = .ok (.aload_n 0, 1) := by decide +kernel
theorem dX12_readsEvening_29 : decode cX12_readsEvening 29 = .ok (.getfield 280, 3) := by decide +kernel
theorem dX12_readsEvening_32 : decode cX12_readsEvening 32 = .ok (.bipush 60, 2) := by decide +kernel
theorem dX12_readsEvening_34 : decode cX12_readsEvening 34 = .ok (.if_icmp .le 11, 3) := by decide +kernel
theorem dX12_readsEvening_37 : decode cX12_readsEvening 37 = .ok (.aload_n 0, 1) := by decide +kernel
theorem dX12_readsEvening_38 : decode cX12_readsEvening 38 = .ok (.iconst 4, 1) := by decide +kernel
theorem dX12_readsEvening_39 : decode cX12_readsEvening 39 = .ok (.invokevirtual 201, 3) := by decide +kernel
theorem dX12_readsEvening_42 : decode cX12_readsEvening 42 = .ok (.ifCond .eq 7, 3) := by decide +kernel
theorem dX12_readsEvening_45 : decode cX12_readsEvening 45 = .ok (.iconst 1, 1) := by decide +kernel
theorem dX12_readsEvening_46 : decode cX12_readsEvening 46 = .ok (.goto 4, 3) := by decide +kernel
theorem dX12_readsEvening_49 : decode cX12_readsEvening 49 = .ok (.iconst 0, 1) := by decide +kernel
theorem dX12_readsEvening_50 : decode cX12_readsEvening 50 = .ok (.ireturn, 1) := by decide +kernel
theorem dX12_anAfter_0 : decode cX12_anAfter 0 = .ok (.aload_n 0, 1) := by decide +kernel
theorem dX12_anAfter_1 : decode cX12_anAfter 1 = .ok (.getfield 180, 3) := by decide +kernel
theorem dX12_anAfter_4 : decode cX12_anAfter 4 = .ok (.bipush 15, 2) := by decide +kernel
theorem dX12_anAfter_6 : decode cX12_anAfter 6 = .ok (.if_icmp .eq 9, 3) := by decide +kernel
theorem dX12_anAfter_9 : decode cX12_anAfter 9 = .ok (.aload_n 0, 1) := by decide +kernel
theorem dX12_anAfter_10 : decode cX12_anAfter 10 = .ok (.iconst 1, 1) := by decide +kernel
theorem dX12_anAfter_11 : decode cX12_anAfter 11 = .ok (.invokevirtual 201, 3) := by decide +kernel
theorem dX12_anAfter_14 : decode cX12_anAfter 14 = .ok (.ireturn, 1) := by decide +kernel
theorem dX12_anAfter_15 : decode cX12_anAfter 15 = .ok (.aload_n 0, 1) := by decide +kernel
theorem dX12_anAfter_16 : decode cX12_anAfter 16 = .ok (.getfield 268, 3) := by decide +kernel
theorem dX12_anAfter_19 : decode cX12_anAfter 19 = .ok (.bipush 16, 2) := by decide +kernel
theorem dX12_anAfter_21 : decode cX12_anAfter 21 = .ok (.if_icmp .ne 9, 3) := by decide +kernel
theorem dX12_anAfter_24 : decode cX12_anAfter 24 = .ok (.aload_n 0, 1) := by decide +kernel
theorem dX12_anAfter_25 : decode cX12_anAfter 25 = .ok (.iconst 3, 1) := by decide +kernel
theorem dX12_anAfter_26 : decode cX12_anAfter 26 = .ok (.invokevirtual 201, 3) := by decide +kernel
theorem dX12_anAfter_29 : decode cX12_anAfter 29 = .ok (.ireturn, 1) := by decide +kernel
theorem dX12_anAfter_30 : decode cX12_anAfter 30 = .ok (.aload_n 0, 1) := by decide +kernel
theorem dX12_anAfter_31 : decode cX12_anAfter 31 = .ok (.invokevirtual 204, 3) := by decide +kernel
theorem dX12_anAfter_34 : decode cX12_anAfter 34 = .ok (.aload_n 0, 1) := by decide +kernel
theorem dX12_anAfter_35 : decode cX12_anAfter 35 = .ok (.iconst 0, 1) := by decide +kernel
theorem dX12_anAfter_36 : decode cX12_anAfter 36 = .ok (.aload_n 0, 1) := by decide +kernel
theorem dX12_anAfter_37 : decode cX12_anAfter 37 = .ok (.getfield 7, 3) := by decide +kernel
theorem dX12_anAfter_40 : decode cX12_anAfter 40 = .ok (.sipush 211, 3) := by decide +kernel
theorem dX12_anAfter_43 : decode cX12_anAfter 43 = .ok (.iaload, 1) := by decide +kernel
theorem dX12_anAfter_44 : decode cX12_anAfter 44 = .ok (.iconst 1, 1) := by decide +kernel
theorem dX12_anAfter_45 : decode cX12_anAfter 45 = .ok (.isub, 1) := by decide +kernel
theorem dX12_anAfter_46 : decode cX12_anAfter 46 = .ok (.invokevirtual 257, 3) := by decide +kernel
theorem dX12_anAfter_49 : decode cX12_anAfter 49 = .ok (.ifCond .ne 5, 3) := by decide +kernel
theorem dX12_anAfter_52 : decode cX12_anAfter 52 = .ok (.iconst 0, 1) := by decide +kernel
theorem dX12_anAfter_53 : decode cX12_anAfter 53 = .ok (.ireturn, 1) := by decide +kernel
theorem dX12_anAfter_54 : decode cX12_anAfter 54 = .ok (.aload_n 0, 1) := by decide +kernel
theorem dX12_anAfter_55 : decode cX12_anAfter 55 = .ok (.getfield 248, 3) := by decide +kernel
theorem dX12_anAfter_58 : decode cX12_anAfter 58 = .ok (.istore_n 1, 1) := by decide +kernel
theorem dX12_anAfter_59 : decode cX12_anAfter 59 = .ok (.aload_n 0, 1) := by decide +kernel
theorem dX12_anAfter_60 : decode cX12_anAfter 60 = .ok (.getfield 180, 3) := by decide +kernel
theorem dX12_anAfter_63 : decode cX12_anAfter 63 = .ok (.iconst 2, 1) := by decide +kernel
theorem dX12_anAfter_64 : decode cX12_anAfter 64 = .ok (.if_icmp .ne 17, 3) := by decide +kernel
theorem dX12_anAfter_67 : decode cX12_anAfter 67 = .ok (.aload_n 0, 1) := by decide +kernel
theorem dX12_anAfter_68 : decode cX12_anAfter 68 = .ok (.getfield 192, 3) := by decide +kernel
theorem dX12_anAfter_71 : decode cX12_anAfter 71 = .ok (.iload_n 1, 1) := by decide +kernel
theorem dX12_anAfter_72 : decode cX12_anAfter 72 = .ok (.if_icmp .ne 9, 3) := by decide +kernel
theorem dX12_anAfter_75 : decode cX12_anAfter 75 = .ok (.aload_n 0, 1) := by decide +kernel
theorem dX12_anAfter_76 : decode cX12_anAfter 76 = .ok (.iconst 2, 1) := by decide +kernel
theorem dX12_anAfter_77 : decode cX12_anAfter 77 = .ok (.invokevirtual 201, 3) := by decide +kernel
theorem dX12_anAfter_80 : decode cX12_anAfter 80 = .ok (.ireturn, 1) := by decide +kernel
theorem dX12_anAfter_81 : decode cX12_anAfter 81 = .ok (.aload_n 0, 1) := by decide +kernel
theorem dX12_anAfter_82 : decode cX12_anAfter 82 = .ok (.iconst 0, 1) := by decide +kernel
theorem dX12_anAfter_83 : decode cX12_anAfter 83 = .ok (.aload_n 0, 1) := by decide +kernel
theorem dX12_anAfter_84 : decode cX12_anAfter 84 = .ok (.getfield 7, 3) := by decide +kernel
theorem dX12_anAfter_87 : decode cX12_anAfter 87 = .ok (.sipush 211, 3) := by decide +kernel
theorem dX12_anAfter_90 : decode cX12_anAfter 90 = .ok (.iaload, 1) := by decide +kernel
theorem dX12_anAfter_91 : decode cX12_anAfter 91 = .ok (.iconst 1, 1) := by decide +kernel
theorem dX12_anAfter_92 : decode cX12_anAfter 92 = .ok (.isub, 1) := by decide +kernel
theorem dX12_anAfter_93 : decode cX12_anAfter 93 = .ok (.invokevirtual 257, 3) := by decide +kernel
theorem dX12_anAfter_96 : decode cX12_anAfter 96 = .ok (.ifCond .ne 5, 3) := by decide +kernel
theorem dX12_anAfter_99 : decode cX12_anAfter 99 = .ok (.iconst 0, 1) := by decide +kernel
theorem dX12_anAfter_100 : decode cX12_anAfter 100 = .ok (.ireturn, 1) := by decide +kernel
theorem dX12_anAfter_101 : decode cX12_anAfter 101 = .ok (.aload_n 0, 1) := by decide +kernel
theorem dX12_anAfter_102 : decode cX12_anAfter 102 = .ok (.getfield 37, 3) := by decide +kernel
theorem dX12_anAfter_105 : decode cX12_anAfter 105 = .ok (.iconst 3, 1) := by decide +kernel
theorem dX12_anAfter_106 : decode cX12_anAfter 106 = .ok (.aload_n 0, 1) := by decide +kernel
theorem dX12_anAfter_107 : decode cX12_anAfter 107 = .ok (.getfield 268, 3) := by decide +kernel
theorem dX12_anAfter_110 : decode cX12_anAfter 110 = .ok (.imul, 1) := by decide +kernel
theorem dX12_anAfter_111 : decode cX12_anAfter 111 = .ok (.iload_n 1, 1) := by decide +kernel
theorem dX12_anAfter_112 : decode cX12_anAfter 112 = .ok (.iastore, 1) := by decide +kernel
theorem dX12_anAfter_113 : decode cX12_anAfter 113 = .ok (.aload_n 0, 1) := by decide +kernel
theorem dX12_anAfter_114 : decode cX12_anAfter 114 = .ok (.getfield 37, 3) := by decide +kernel
theorem dX12_anAfter_117 : decode cX12_anAfter 117 = .ok (.iconst 3, 1) := by decide +kernel
theorem dX12_anAfter_118 : decode cX12_anAfter 118 = .ok (.aload_n 0, 1) := by decide +kernel
theorem dX12_anAfter_119 : decode cX12_anAfter 119 = .ok (.getfield 268, 3) := by decide +kernel
theorem dX12_anAfter_122 : decode cX12_anAfter 122 = .ok (.imul, 1) := by decide +kernel
theorem dX12_anAfter_123 : decode cX12_anAfter 123 = .ok (.iconst 1, 1) := by decide +kernel
theorem dX12_anAfter_124 : decode cX12_anAfter 124 = .ok (.iadd, 1) := by decide +kernel
theorem dX12_anAfter_125 : decode cX12_anAfter 125 = .ok (.aload_n 0, 1) := by decide +kernel
theorem dX12_anAfter_126 : decode cX12_anAfter 126 = .ok (.getfield 248, 3) := by decide +kernel
theorem dX12_anAfter_129 : decode cX12_anAfter 129 = .ok (.iastore, 1) := by decide +kernel
theorem dX12_anAfter_130 : decode cX12_anAfter 130 = .ok (.aload_n 0, 1) := by decide +kernel
theorem dX12_anAfter_131 : decode cX12_anAfter 131 = .ok (.bipush 8, 2) := by decide +kernel
theorem dX12_anAfter_133 : decode cX12_anAfter 133 = .ok (.invokevirtual 236, 3) := by decide +kernel
theorem dX12_anAfter_136 : decode cX12_anAfter 136 = .ok (.ifCond .eq 13, 3) := by decide +kernel
theorem dX12_anAfter_139 : decode cX12_anAfter 139 = .ok (.aload_n 0, 1) := by decide +kernel
theorem dX12_anAfter_140 : decode cX12_anAfter 140 = .ok (.iconst 0, 1) := by decide +kernel
theorem dX12_anAfter_141 : decode cX12_anAfter 141 = .ok (.bipush 99, 2) := by decide +kernel
theorem dX12_anAfter_143 : decode cX12_anAfter 143 = .ok (.invokevirtual 257, 3) := by decide +kernel
theorem dX12_anAfter_146 : decode cX12_anAfter 146 = .ok (.ifCond .ne 5, 3) := by decide +kernel
theorem dX12_anAfter_149 : decode cX12_anAfter 149 = .ok (.iconst 0, 1) := by decide +kernel
theorem dX12_anAfter_150 : decode cX12_anAfter 150 = .ok (.ireturn, 1) := by decide +kernel
theorem dX12_anAfter_151 : decode cX12_anAfter 151 = .ok (.aload_n 0, 1) := by decide +kernel
theorem dX12_anAfter_152 : decode cX12_anAfter 152 = .ok (.getfield 37, 3) := by decide +kernel
theorem dX12_anAfter_155 : decode cX12_anAfter 155 = .ok (.iconst 3, 1) := by decide +kernel
theorem dX12_anAfter_156 : decode cX12_anAfter 156 = .ok (.aload_n 0, 1) := by decide +kernel
theorem dX12_anAfter_157 : decode cX12_anAfter 157 = .ok (.getfield 268, 3) := by decide +kernel
theorem dX12_anAfter_160 : decode cX12_anAfter 160 = .ok (.imul, 1) := by decide +kernel
theorem dX12_anAfter_161 : decode cX12_anAfter 161 = .ok (.iconst 2, 1) := by decide +kernel
theorem dX12_anAfter_162 : decode cX12_anAfter 162 = .ok (.iadd, 1) := by decide +kernel
theorem dX12_anAfter_163 : decode cX12_anAfter 163 = .ok (.aload_n 0, 1) := by decide +kernel
theorem dX12_anAfter_164 : decode cX12_anAfter 164 = .ok (.getfield 248, 3) := by decide +kernel
theorem dX12_anAfter_167 : decode cX12_anAfter 167 = .ok (.iastore, 1) := by decide +kernel
theorem dX12_anAfter_168 : decode cX12_anAfter 168 = .ok (.aload_n 0, 1) := by decide +kernel
theorem dX12_anAfter_169 : decode cX12_anAfter 169 = .ok (.dup, 1) := by decide +kernel
theorem dX12_anAfter_170 : decode cX12_anAfter 170 = .ok (.getfield 268, 3) := by decide +kernel
theorem dX12_anAfter_173 : decode cX12_anAfter 173 = .ok (.iconst 1, 1) := by decide +kernel
theorem dX12_anAfter_174 : decode cX12_anAfter 174 = .ok (.iadd, 1) := by decide +kernel
theorem dX12_anAfter_175 : decode cX12_anAfter 175 = .ok (.putfield 268, 3) := by decide +kernel
theorem dX12_anAfter_178 : decode cX12_anAfter 178 = .ok (.aload_n 0, 1) := by decide +kernel
theorem dX12_anAfter_179 : decode cX12_anAfter 179 = .ok (.sipush 159, 3) := by decide +kernel
theorem dX12_anAfter_182 : decode cX12_anAfter 182 = .ok (.invokevirtual 236, 3) := by decide +kernel
theorem dX12_anAfter_185 : decode cX12_anAfter 185 = .ok (.ireturn, 1) := by decide +kernel
theorem dX12_readsAfter_0 : decode cX12_readsAfter 0 = .ok (.aload_n 0, 1) := by decide +kernel
theorem dX12_readsAfter_1 : decode cX12_readsAfter 1 = .ok (.iconst 0, 1) := by decide +kernel
theorem dX12_readsAfter_2 : decode cX12_readsAfter 2 = .ok (.putfield 268, 3) := by decide +kernel
theorem dX12_readsAfter_5 : decode cX12_readsAfter 5 = .ok (.iconst 1, 1) := by decide +kernel
theorem dX12_readsAfter_6 : decode cX12_readsAfter 6 = .ok (.istore_n 1, 1) := by decide +kernel
theorem dX12_readsAfter_7 : decode cX12_readsAfter 7 = .ok (.iload_n 1, 1) := by decide +kernel
theorem dX12_readsAfter_8 : decode cX12_readsAfter 8 = .ok (.ifCond .eq 18, 3) := by decide +kernel
theorem dX12_readsAfter_11 : decode cX12_readsAfter 11 = .ok (.aload_n 0, 1) := by decide +kernel
theorem dX12_readsAfter_12 : decode cX12_readsAfter 12 = .ok (.getfield 180, 3) := by decide +kernel
theorem dX12_readsAfter_15 : decode cX12_readsAfter 15 = .ok (.ifCond .eq 11, 3) := by decide +kernel
theorem dX12_readsAfter_18 : decode cX12_readsAfter 18 = .ok (.aload_n 0, 1) := by decide +kernel
theorem dX12_readsAfter_19 : decode cX12_readsAfter 19 = .ok (.invokevirtual 294, 3) := by decide +kernel
theorem dX12_readsAfter_22 : decode cX12_readsAfter 22 = .ok (.istore_n 1, 1) := by decide +kernel
theorem dX12_readsAfter_23 : decode cX12_readsAfter 23 = .ok (.goto (-16), 3) := by decide +kernel
theorem dX12_readsAfter_26 : decode cX12_readsAfter 26 = .ok (.iload_n 1, 1) := by decide +kernel
theorem dX12_readsAfter_27 : decode cX12_readsAfter 27 = .ok (.ireturn, 1) := by decide +kernel
theorem dX12_putsTape_0 : decode cX12_putsTape 0 = .ok (.aload_n 0, 1) := by decide +kernel
theorem dX12_putsTape_1 : decode cX12_putsTape 1 = .ok (.getfield 7, 3) := by decide +kernel
theorem dX12_putsTape_4 : decode cX12_putsTape 4 = .ok (.sipush 211, 3) := by decide +kernel
theorem dX12_putsTape_7 : decode cX12_putsTape 7 = .ok (.aload_n 0, 1) := by decide +kernel
theorem dX12_putsTape_8 : decode cX12_putsTape 8 = .ok (.getfield 261, 3) := by decide +kernel
theorem dX12_putsTape_11 : decode cX12_putsTape 11 = .ok (.iastore, 1) := by decide +kernel
theorem dX12_putsTape_12 : decode cX12_putsTape 12 = .ok (.aload_n 0, 1) := by decide +kernel
theorem dX12_putsTape_13 : decode cX12_putsTape 13 = .ok (.getfield 7, 3) := by decide +kernel
theorem dX12_putsTape_16 : decode cX12_putsTape 16 = .ok (.sipush 208, 3) := by decide +kernel
theorem dX12_putsTape_19 : decode cX12_putsTape 19 = .ok (.aload_n 0, 1) := by decide +kernel
theorem dX12_putsTape_20 : decode cX12_putsTape 20 = .ok (.getfield 251, 3) := by decide +kernel
theorem dX12_putsTape_23 : decode cX12_putsTape 23 = .ok (.aload_n 0, 1) := by decide +kernel
theorem dX12_putsTape_24 : decode cX12_putsTape 24 = .ok (.getfield 254, 3) := by decide +kernel
theorem dX12_putsTape_27 : decode cX12_putsTape 27 = .ok (.invokestatic 297, 3) := by decide +kernel
theorem dX12_putsTape_30 : decode cX12_putsTape 30 = .ok (.iastore, 1) := by decide +kernel
theorem dX12_putsTape_31 : decode cX12_putsTape 31 = .ok (.iconst 0, 1) := by decide +kernel
theorem dX12_putsTape_32 : decode cX12_putsTape 32 = .ok (.istore_n 1, 1) := by decide +kernel
theorem dX12_putsTape_33 : decode cX12_putsTape 33 = .ok (.iload_n 1, 1) := by decide +kernel
theorem dX12_putsTape_34 : decode cX12_putsTape 34 = .ok (.iconst 4, 1) := by decide +kernel
theorem dX12_putsTape_35 : decode cX12_putsTape 35 = .ok (.aload_n 0, 1) := by decide +kernel
theorem dX12_putsTape_36 : decode cX12_putsTape 36 = .ok (.getfield 261, 3) := by decide +kernel
theorem dX12_putsTape_39 : decode cX12_putsTape 39 = .ok (.imul, 1) := by decide +kernel
theorem dX12_putsTape_40 : decode cX12_putsTape 40 = .ok (.if_icmp .ge 25, 3) := by decide +kernel
theorem dX12_putsTape_43 : decode cX12_putsTape 43 = .ok (.aload_n 0, 1) := by decide +kernel
theorem dX12_putsTape_44 : decode cX12_putsTape 44 = .ok (.getfield 7, 3) := by decide +kernel
theorem dX12_putsTape_47 : decode cX12_putsTape 47 = .ok (.sipush 216, 3) := by decide +kernel
theorem dX12_putsTape_50 : decode cX12_putsTape 50 = .ok (.iload_n 1, 1) := by decide +kernel
theorem dX12_putsTape_51 : decode cX12_putsTape 51 = .ok (.iadd, 1) := by decide +kernel
theorem dX12_putsTape_52 : decode cX12_putsTape 52 = .ok (.aload_n 0, 1) := by decide +kernel
theorem dX12_putsTape_53 : decode cX12_putsTape 53 = .ok (.getfield 28, 3) := by decide +kernel
theorem dX12_putsTape_56 : decode cX12_putsTape 56 = .ok (.iload_n 1, 1) := by decide +kernel
theorem dX12_putsTape_57 : decode cX12_putsTape 57 = .ok (.iaload, 1) := by decide +kernel
theorem dX12_putsTape_58 : decode cX12_putsTape 58 = .ok (.iastore, 1) := by decide +kernel
theorem dX12_putsTape_59 : decode cX12_putsTape 59 = .ok (.iinc 1 1, 3) := by decide +kernel
theorem dX12_putsTape_62 : decode cX12_putsTape 62 = .ok (.goto (-29), 3) := by decide +kernel
theorem dX12_putsTape_65 : decode cX12_putsTape 65 = .ok (.iconst 0, 1) := by decide +kernel
theorem dX12_putsTape_66 : decode cX12_putsTape 66 = .ok (.istore_n 1, 1) := by decide +kernel
theorem dX12_putsTape_67 : decode cX12_putsTape 67 = .ok (.iload_n 1, 1) := by decide +kernel
theorem dX12_putsTape_68 : decode cX12_putsTape 68 = .ok (.sipush 402, 3) := by decide +kernel
theorem dX12_putsTape_71 : decode cX12_putsTape 71 = .ok (.if_icmp .ge 25, 3) := by decide +kernel
theorem dX12_putsTape_74 : decode cX12_putsTape 74 = .ok (.aload_n 0, 1) := by decide +kernel
theorem dX12_putsTape_75 : decode cX12_putsTape 75 = .ok (.getfield 7, 3) := by decide +kernel
theorem dX12_putsTape_78 : decode cX12_putsTape 78 = .ok (.sipush 272, 3) := by decide +kernel
theorem dX12_putsTape_81 : decode cX12_putsTape 81 = .ok (.iload_n 1, 1) := by decide +kernel
theorem dX12_putsTape_82 : decode cX12_putsTape 82 = .ok (.iadd, 1) := by decide +kernel
theorem dX12_putsTape_83 : decode cX12_putsTape 83 = .ok (.aload_n 0, 1) := by decide +kernel
theorem dX12_putsTape_84 : decode cX12_putsTape 84 = .ok (.getfield 31, 3) := by decide +kernel
theorem dX12_putsTape_87 : decode cX12_putsTape 87 = .ok (.iload_n 1, 1) := by decide +kernel
theorem dX12_putsTape_88 : decode cX12_putsTape 88 = .ok (.iaload, 1) := by decide +kernel
theorem dX12_putsTape_89 : decode cX12_putsTape 89 = .ok (.iastore, 1) := by decide +kernel
theorem dX12_putsTape_90 : decode cX12_putsTape 90 = .ok (.iinc 1 1, 3) := by decide +kernel
theorem dX12_putsTape_93 : decode cX12_putsTape 93 = .ok (.goto (-26), 3) := by decide +kernel
theorem dX12_putsTape_96 : decode cX12_putsTape 96 = .ok (.aload_n 0, 1) := by decide +kernel
theorem dX12_putsTape_97 : decode cX12_putsTape 97 = .ok (.getfield 7, 3) := by decide +kernel
theorem dX12_putsTape_100 : decode cX12_putsTape 100 = .ok (.sipush 213, 3) := by decide +kernel
theorem dX12_putsTape_103 : decode cX12_putsTape 103 = .ok (.iconst 0, 1) := by decide +kernel
theorem dX12_putsTape_104 : decode cX12_putsTape 104 = .ok (.iastore, 1) := by decide +kernel
theorem dX12_putsTape_105 : decode cX12_putsTape 105 = .ok (.aload_n 0, 1) := by decide +kernel
theorem dX12_putsTape_106 : decode cX12_putsTape 106 = .ok (.getfield 7, 3) := by decide +kernel
theorem dX12_putsTape_109 : decode cX12_putsTape 109 = .ok (.sipush 214, 3) := by decide +kernel
theorem dX12_putsTape_112 : decode cX12_putsTape 112 = .ok (.iconst 0, 1) := by decide +kernel
theorem dX12_putsTape_113 : decode cX12_putsTape 113 = .ok (.iastore, 1) := by decide +kernel
theorem dX12_putsTape_114 : decode cX12_putsTape 114 = .ok (.iconst 0, 1) := by decide +kernel
theorem dX12_putsTape_115 : decode cX12_putsTape 115 = .ok (.istore_n 1, 1) := by decide +kernel
theorem dX12_putsTape_116 : decode cX12_putsTape 116 = .ok (.iload_n 1, 1) := by decide +kernel
theorem dX12_putsTape_117 : decode cX12_putsTape 117 = .ok (.sipush 196, 3) := by decide +kernel
theorem dX12_putsTape_120 : decode cX12_putsTape 120 = .ok (.if_icmp .ge 20, 3) := by decide +kernel
theorem dX12_putsTape_123 : decode cX12_putsTape 123 = .ok (.aload_n 0, 1) := by decide +kernel
theorem dX12_putsTape_124 : decode cX12_putsTape 124 = .ok (.getfield 7, 3) := by decide +kernel
theorem dX12_putsTape_127 : decode cX12_putsTape 127 = .ok (.sipush 734, 3) := by decide +kernel
theorem dX12_putsTape_130 : decode cX12_putsTape 130 = .ok (.iload_n 1, 1) := by decide +kernel
theorem dX12_putsTape_131 : decode cX12_putsTape 131 = .ok (.iadd, 1) := by decide +kernel
theorem dX12_putsTape_132 : decode cX12_putsTape 132 = .ok (.iconst 0, 1) := by decide +kernel
theorem dX12_putsTape_133 : decode cX12_putsTape 133 = .ok (.iastore, 1) := by decide +kernel
theorem dX12_putsTape_134 : decode cX12_putsTape 134 = .ok (.iinc 1 1, 3) := by decide +kernel
theorem dX12_putsTape_137 : decode cX12_putsTape 137 = .ok (.goto (-21), 3) := by decide +kernel
theorem dX12_putsTape_140 : decode cX12_putsTape 140 = .ok (.aload_n 0, 1) := by decide +kernel
theorem dX12_putsTape_141 : decode cX12_putsTape 141 = .ok (.invokevirtual 68, 3) := by decide +kernel
theorem dX12_putsTape_144 : decode cX12_putsTape 144 = .ok (.aload_n 0, 1) := by decide +kernel
theorem dX12_putsTape_145 : decode cX12_putsTape 145 = .ok (.getfield 261, 3) := by decide +kernel
theorem dX12_putsTape_148 : decode cX12_putsTape 148 = .ok (.ireturn, 1) := by decide +kernel
theorem dX12_putsLaw_0 : decode cX12_putsLaw 0 = .ok (.aload_n 0, 1) := by decide +kernel
theorem dX12_putsLaw_1 : decode cX12_putsLaw 1 = .ok (.getfield 7, 3) := by decide +kernel
theorem dX12_putsLaw_4 : decode cX12_putsLaw 4 = .ok (.sipush 212, 3) := by decide +kernel
theorem dX12_putsLaw_7 : decode cX12_putsLaw 7 = .ok (.aload_n 0, 1) := by decide +kernel
theorem dX12_putsLaw_8 : decode cX12_putsLaw 8 = .ok (.getfield 242, 3) := by decide +kernel
theorem dX12_putsLaw_11 : decode cX12_putsLaw 11 = .ok (.iastore, 1) := by decide +kernel
theorem dX12_putsLaw_12 : decode cX12_putsLaw 12 = .ok (.iconst 0, 1) := by decide +kernel
theorem dX12_putsLaw_13 : decode cX12_putsLaw 13 = .ok (.istore_n 1, 1) := by decide +kernel
theorem dX12_putsLaw_14 : decode cX12_putsLaw 14 = .ok (.iload_n 1, 1) := by decide +kernel
theorem dX12_putsLaw_15 : decode cX12_putsLaw 15 = .ok (.aload_n 0, 1) := by decide +kernel
theorem dX12_putsLaw_16 : decode cX12_putsLaw 16 = .ok (.getfield 242, 3) := by decide +kernel
theorem dX12_putsLaw_19 : decode cX12_putsLaw 19 = .ok (.if_icmp .ge 87, 3) := by decide +kernel
theorem dX12_putsLaw_22 : decode cX12_putsLaw 22 = .ok (.aload_n 0, 1) := by decide +kernel
theorem dX12_putsLaw_23 : decode cX12_putsLaw 23 = .ok (.getfield 7, 3) := by decide +kernel
theorem dX12_putsLaw_26 : decode cX12_putsLaw 26 = .ok (.sipush 1554, 3) := by decide +kernel
theorem dX12_putsLaw_29 : decode cX12_putsLaw 29 = .ok (.iload_n 1, 1) := by decide +kernel
theorem dX12_putsLaw_30 : decode cX12_putsLaw 30 = .ok (.iadd, 1) := by decide +kernel
theorem dX12_putsLaw_31 : decode cX12_putsLaw 31 = .ok (.aload_n 0, 1) := by decide +kernel
theorem dX12_putsLaw_32 : decode cX12_putsLaw 32 = .ok (.getfield 22, 3) := by decide +kernel
theorem dX12_putsLaw_35 : decode cX12_putsLaw 35 = .ok (.iconst 4, 1) := by decide +kernel
theorem dX12_putsLaw_36 : decode cX12_putsLaw 36 = .ok (.iload_n 1, 1) := by decide +kernel
theorem dX12_putsLaw_37 : decode cX12_putsLaw 37 = .ok (.imul, 1) := by decide +kernel
theorem dX12_putsLaw_38 : decode cX12_putsLaw 38 = .ok (.iaload, 1) := by decide +kernel
theorem dX12_putsLaw_39 : decode cX12_putsLaw 39 = .ok (.iastore, 1) := by decide +kernel
theorem dX12_putsLaw_40 : decode cX12_putsLaw 40 = .ok (.aload_n 0, 1) := by decide +kernel
theorem dX12_putsLaw_41 : decode cX12_putsLaw 41 = .ok (.getfield 7, 3) := by decide +kernel
theorem dX12_putsLaw_44 : decode cX12_putsLaw 44 = .ok (.sipush 1570, 3) := by decide +kernel
theorem dX12_putsLaw_47 : decode cX12_putsLaw 47 = .ok (.iload_n 1, 1) := by decide +kernel
theorem dX12_putsLaw_48 : decode cX12_putsLaw 48 = .ok (.iadd, 1) := by decide +kernel
theorem dX12_putsLaw_49 : decode cX12_putsLaw 49 = .ok (.aload_n 0, 1) := by decide +kernel
theorem dX12_putsLaw_50 : decode cX12_putsLaw 50 = .ok (.getfield 22, 3) := by decide +kernel
theorem dX12_putsLaw_53 : decode cX12_putsLaw 53 = .ok (.iconst 4, 1) := by decide +kernel
theorem dX12_putsLaw_54 : decode cX12_putsLaw 54 = .ok (.iload_n 1, 1) := by decide +kernel
theorem dX12_putsLaw_55 : decode cX12_putsLaw 55 = .ok (.imul, 1) := by decide +kernel
theorem dX12_putsLaw_56 : decode cX12_putsLaw 56 = .ok (.iconst 1, 1) := by decide +kernel
theorem dX12_putsLaw_57 : decode cX12_putsLaw 57 = .ok (.iadd, 1) := by decide +kernel
theorem dX12_putsLaw_58 : decode cX12_putsLaw 58 = .ok (.iaload, 1) := by decide +kernel
theorem dX12_putsLaw_59 : decode cX12_putsLaw 59 = .ok (.iastore, 1) := by decide +kernel
theorem dX12_putsLaw_60 : decode cX12_putsLaw 60 = .ok (.aload_n 0, 1) := by decide +kernel
theorem dX12_putsLaw_61 : decode cX12_putsLaw 61 = .ok (.getfield 7, 3) := by decide +kernel
theorem dX12_putsLaw_64 : decode cX12_putsLaw 64 = .ok (.sipush 1586, 3) := by decide +kernel
theorem dX12_putsLaw_67 : decode cX12_putsLaw 67 = .ok (.iload_n 1, 1) := by decide +kernel
theorem dX12_putsLaw_68 : decode cX12_putsLaw 68 = .ok (.iadd, 1) := by decide +kernel
theorem dX12_putsLaw_69 : decode cX12_putsLaw 69 = .ok (.aload_n 0, 1) := by decide +kernel
theorem dX12_putsLaw_70 : decode cX12_putsLaw 70 = .ok (.getfield 22, 3) := by decide +kernel
theorem dX12_putsLaw_73 : decode cX12_putsLaw 73 = .ok (.iconst 4, 1) := by decide +kernel
theorem dX12_putsLaw_74 : decode cX12_putsLaw 74 = .ok (.iload_n 1, 1) := by decide +kernel
theorem dX12_putsLaw_75 : decode cX12_putsLaw 75 = .ok (.imul, 1) := by decide +kernel
theorem dX12_putsLaw_76 : decode cX12_putsLaw 76 = .ok (.iconst 2, 1) := by decide +kernel
theorem dX12_putsLaw_77 : decode cX12_putsLaw 77 = .ok (.iadd, 1) := by decide +kernel
theorem dX12_putsLaw_78 : decode cX12_putsLaw 78 = .ok (.iaload, 1) := by decide +kernel
theorem dX12_putsLaw_79 : decode cX12_putsLaw 79 = .ok (.iastore, 1) := by decide +kernel
theorem dX12_putsLaw_80 : decode cX12_putsLaw 80 = .ok (.aload_n 0, 1) := by decide +kernel
theorem dX12_putsLaw_81 : decode cX12_putsLaw 81 = .ok (.getfield 7, 3) := by decide +kernel
theorem dX12_putsLaw_84 : decode cX12_putsLaw 84 = .ok (.sipush 1602, 3) := by decide +kernel
theorem dX12_putsLaw_87 : decode cX12_putsLaw 87 = .ok (.iload_n 1, 1) := by decide +kernel
theorem dX12_putsLaw_88 : decode cX12_putsLaw 88 = .ok (.iadd, 1) := by decide +kernel
theorem dX12_putsLaw_89 : decode cX12_putsLaw 89 = .ok (.aload_n 0, 1) := by decide +kernel
theorem dX12_putsLaw_90 : decode cX12_putsLaw 90 = .ok (.getfield 22, 3) := by decide +kernel
theorem dX12_putsLaw_93 : decode cX12_putsLaw 93 = .ok (.iconst 4, 1) := by decide +kernel
theorem dX12_putsLaw_94 : decode cX12_putsLaw 94 = .ok (.iload_n 1, 1) := by decide +kernel
theorem dX12_putsLaw_95 : decode cX12_putsLaw 95 = .ok (.imul, 1) := by decide +kernel
theorem dX12_putsLaw_96 : decode cX12_putsLaw 96 = .ok (.iconst 3, 1) := by decide +kernel
theorem dX12_putsLaw_97 : decode cX12_putsLaw 97 = .ok (.iadd, 1) := by decide +kernel
theorem dX12_putsLaw_98 : decode cX12_putsLaw 98 = .ok (.iaload, 1) := by decide +kernel
theorem dX12_putsLaw_99 : decode cX12_putsLaw 99 = .ok (.iastore, 1) := by decide +kernel
theorem dX12_putsLaw_100 : decode cX12_putsLaw 100 = .ok (.iinc 1 1, 3) := by decide +kernel
theorem dX12_putsLaw_103 : decode cX12_putsLaw 103 = .ok (.goto (-89), 3) := by decide +kernel
theorem dX12_putsLaw_106 : decode cX12_putsLaw 106 = .ok (.iconst 0, 1) := by decide +kernel
theorem dX12_putsLaw_107 : decode cX12_putsLaw 107 = .ok (.istore_n 1, 1) := by decide +kernel
theorem dX12_putsLaw_108 : decode cX12_putsLaw 108 = .ok (.iload_n 1, 1) := by decide +kernel
theorem dX12_putsLaw_109 : decode cX12_putsLaw 109 = .ok (.iconst 2, 1) := by decide +kernel
theorem dX12_putsLaw_110 : decode cX12_putsLaw 110 = .ok (.aload_n 0, 1) := by decide +kernel
theorem dX12_putsLaw_111 : decode cX12_putsLaw 111 = .ok (.getfield 207, 3) := by decide +kernel
theorem dX12_putsLaw_114 : decode cX12_putsLaw 114 = .ok (.imul, 1) := by decide +kernel
theorem dX12_putsLaw_115 : decode cX12_putsLaw 115 = .ok (.if_icmp .ge 25, 3) := by decide +kernel
theorem dX12_putsLaw_118 : decode cX12_putsLaw 118 = .ok (.aload_n 0, 1) := by decide +kernel
theorem dX12_putsLaw_119 : decode cX12_putsLaw 119 = .ok (.getfield 7, 3) := by decide +kernel
theorem dX12_putsLaw_122 : decode cX12_putsLaw 122 = .ok (.sipush 1620, 3) := by decide +kernel
theorem dX12_putsLaw_125 : decode cX12_putsLaw 125 = .ok (.iload_n 1, 1) := by decide +kernel
theorem dX12_putsLaw_126 : decode cX12_putsLaw 126 = .ok (.iadd, 1) := by decide +kernel
theorem dX12_putsLaw_127 : decode cX12_putsLaw 127 = .ok (.aload_n 0, 1) := by decide +kernel
theorem dX12_putsLaw_128 : decode cX12_putsLaw 128 = .ok (.getfield 25, 3) := by decide +kernel
theorem dX12_putsLaw_131 : decode cX12_putsLaw 131 = .ok (.iload_n 1, 1) := by decide +kernel
theorem dX12_putsLaw_132 : decode cX12_putsLaw 132 = .ok (.iaload, 1) := by decide +kernel
theorem dX12_putsLaw_133 : decode cX12_putsLaw 133 = .ok (.iastore, 1) := by decide +kernel
theorem dX12_putsLaw_134 : decode cX12_putsLaw 134 = .ok (.iinc 1 1, 3) := by decide +kernel
theorem dX12_putsLaw_137 : decode cX12_putsLaw 137 = .ok (.goto (-29), 3) := by decide +kernel
theorem dX12_putsLaw_140 : decode cX12_putsLaw 140 = .ok (.aload_n 0, 1) := by decide +kernel
theorem dX12_putsLaw_141 : decode cX12_putsLaw 141 = .ok (.getfield 242, 3) := by decide +kernel
theorem dX12_putsLaw_144 : decode cX12_putsLaw 144 = .ok (.ireturn, 1) := by decide +kernel
theorem dX12_putsEvening_0 : decode cX12_putsEvening 0 = .ok (.aload_n 0, 1) := by decide +kernel
theorem dX12_putsEvening_1 : decode cX12_putsEvening 1 = .ok (.getfield 7, 3) := by decide +kernel
theorem dX12_putsEvening_4 : decode cX12_putsEvening 4 = .ok (.sipush 213, 3) := by decide +kernel
theorem dX12_putsEvening_7 : decode cX12_putsEvening 7 = .ok (.aload_n 0, 1) := by decide +kernel
theorem dX12_putsEvening_8 : decode cX12_putsEvening 8 = .ok (.getfield 280, 3) := by decide +kernel
theorem dX12_putsEvening_11 : decode cX12_putsEvening 11 = .ok (.iastore, 1) := by decide +kernel
theorem dX12_putsEvening_12 : decode cX12_putsEvening 12 = .ok (.iconst 0, 1) := by decide +kernel
theorem dX12_putsEvening_13 : decode cX12_putsEvening 13 = .ok (.istore_n 1, 1) := by decide +kernel
theorem dX12_putsEvening_14 : decode cX12_putsEvening 14 = .ok (.iload_n 1, 1) := by decide +kernel
theorem dX12_putsEvening_15 : decode cX12_putsEvening 15 = .ok (.aload_n 0, 1) := by decide +kernel
theorem dX12_putsEvening_16 : decode cX12_putsEvening 16 = .ok (.getfield 280, 3) := by decide +kernel
theorem dX12_putsEvening_19 : decode cX12_putsEvening 19 = .ok (.if_icmp .ge 25, 3) := by decide +kernel
theorem dX12_putsEvening_22 : decode cX12_putsEvening 22 = .ok (.aload_n 0, 1) := by decide +kernel
theorem dX12_putsEvening_23 : decode cX12_putsEvening 23 = .ok (.getfield 7, 3) := by decide +kernel
theorem dX12_putsEvening_26 : decode cX12_putsEvening 26 = .ok (.sipush 674, 3) := by decide +kernel
theorem dX12_putsEvening_29 : decode cX12_putsEvening 29 = .ok (.iload_n 1, 1) := by decide +kernel
theorem dX12_putsEvening_30 : decode cX12_putsEvening 30 = .ok (.iadd, 1) := by decide +kernel
theorem dX12_putsEvening_31 : decode cX12_putsEvening 31 = .ok (.aload_n 0, 1) := by decide +kernel
theorem dX12_putsEvening_32 : decode cX12_putsEvening 32 = .ok (.getfield 34, 3) := by decide +kernel
theorem dX12_putsEvening_35 : decode cX12_putsEvening 35 = .ok (.iload_n 1, 1) := by decide +kernel
theorem dX12_putsEvening_36 : decode cX12_putsEvening 36 = .ok (.iaload, 1) := by decide +kernel
theorem dX12_putsEvening_37 : decode cX12_putsEvening 37 = .ok (.iastore, 1) := by decide +kernel
theorem dX12_putsEvening_38 : decode cX12_putsEvening 38 = .ok (.iinc 1 1, 3) := by decide +kernel
theorem dX12_putsEvening_41 : decode cX12_putsEvening 41 = .ok (.goto (-27), 3) := by decide +kernel
theorem dX12_putsEvening_44 : decode cX12_putsEvening 44 = .ok (.aload_n 0, 1) := by decide +kernel
theorem dX12_putsEvening_45 : decode cX12_putsEvening 45 = .ok (.getfield 280, 3) := by decide +kernel
theorem dX12_putsEvening_48 : decode cX12_putsEvening 48 = .ok (.ireturn, 1) := by decide +kernel
theorem dX12_putsAfter_0 : decode cX12_putsAfter 0 = .ok (.aload_n 0, 1) := by decide +kernel
theorem dX12_putsAfter_1 : decode cX12_putsAfter 1 = .ok (.getfield 7, 3) := by decide +kernel
theorem dX12_putsAfter_4 : decode cX12_putsAfter 4 = .ok (.sipush 214, 3) := by decide +kernel
theorem dX12_putsAfter_7 : decode cX12_putsAfter 7 = .ok (.aload_n 0, 1) := by decide +kernel
theorem dX12_putsAfter_8 : decode cX12_putsAfter 8 = .ok (.getfield 268, 3) := by decide +kernel
theorem dX12_putsAfter_11 : decode cX12_putsAfter 11 = .ok (.iastore, 1) := by decide +kernel
theorem dX12_putsAfter_12 : decode cX12_putsAfter 12 = .ok (.iconst 0, 1) := by decide +kernel
theorem dX12_putsAfter_13 : decode cX12_putsAfter 13 = .ok (.istore_n 1, 1) := by decide +kernel
theorem dX12_putsAfter_14 : decode cX12_putsAfter 14 = .ok (.iload_n 1, 1) := by decide +kernel
theorem dX12_putsAfter_15 : decode cX12_putsAfter 15 = .ok (.sipush 196, 3) := by decide +kernel
theorem dX12_putsAfter_18 : decode cX12_putsAfter 18 = .ok (.if_icmp .ge 20, 3) := by decide +kernel
theorem dX12_putsAfter_21 : decode cX12_putsAfter 21 = .ok (.aload_n 0, 1) := by decide +kernel
theorem dX12_putsAfter_22 : decode cX12_putsAfter 22 = .ok (.getfield 7, 3) := by decide +kernel
theorem dX12_putsAfter_25 : decode cX12_putsAfter 25 = .ok (.sipush 734, 3) := by decide +kernel
theorem dX12_putsAfter_28 : decode cX12_putsAfter 28 = .ok (.iload_n 1, 1) := by decide +kernel
theorem dX12_putsAfter_29 : decode cX12_putsAfter 29 = .ok (.iadd, 1) := by decide +kernel
theorem dX12_putsAfter_30 : decode cX12_putsAfter 30 = .ok (.iconst 0, 1) := by decide +kernel
theorem dX12_putsAfter_31 : decode cX12_putsAfter 31 = .ok (.iastore, 1) := by decide +kernel
theorem dX12_putsAfter_32 : decode cX12_putsAfter 32 = .ok (.iinc 1 1, 3) := by decide +kernel
theorem dX12_putsAfter_35 : decode cX12_putsAfter 35 = .ok (.goto (-21), 3) := by decide +kernel
theorem dX12_putsAfter_38 : decode cX12_putsAfter 38 = .ok (.iconst 0, 1) := by decide +kernel
theorem dX12_putsAfter_39 : decode cX12_putsAfter 39 = .ok (.istore_n 1, 1) := by decide +kernel
theorem dX12_putsAfter_40 : decode cX12_putsAfter 40 = .ok (.iload_n 1, 1) := by decide +kernel
theorem dX12_putsAfter_41 : decode cX12_putsAfter 41 = .ok (.aload_n 0, 1) := by decide +kernel
theorem dX12_putsAfter_42 : decode cX12_putsAfter 42 = .ok (.getfield 268, 3) := by decide +kernel
theorem dX12_putsAfter_45 : decode cX12_putsAfter 45 = .ok (.if_icmp .ge 50, 3) := by decide +kernel
theorem dX12_putsAfter_48 : decode cX12_putsAfter 48 = .ok (.aload_n 0, 1) := by decide +kernel
theorem dX12_putsAfter_49 : decode cX12_putsAfter 49 = .ok (.getfield 7, 3) := by decide +kernel
theorem dX12_putsAfter_52 : decode cX12_putsAfter 52 = .ok (.sipush 734, 3) := by decide +kernel
theorem dX12_putsAfter_55 : decode cX12_putsAfter 55 = .ok (.bipush 14, 2) := by decide +kernel
theorem dX12_putsAfter_57 : decode cX12_putsAfter 57 = .ok (.aload_n 0, 1) := by decide +kernel
theorem dX12_putsAfter_58 : decode cX12_putsAfter 58 = .ok (.getfield 37, 3) := by decide +kernel
theorem dX12_putsAfter_61 : decode cX12_putsAfter 61 = .ok (.iconst 3, 1) := by decide +kernel
theorem dX12_putsAfter_62 : decode cX12_putsAfter 62 = .ok (.iload_n 1, 1) := by decide +kernel
theorem dX12_putsAfter_63 : decode cX12_putsAfter 63 = .ok (.imul, 1) := by decide +kernel
theorem dX12_putsAfter_64 : decode cX12_putsAfter 64 = .ok (.iaload, 1) := by decide +kernel
theorem dX12_putsAfter_65 : decode cX12_putsAfter 65 = .ok (.imul, 1) := by decide +kernel
theorem dX12_putsAfter_66 : decode cX12_putsAfter 66 = .ok (.iadd, 1) := by decide +kernel
theorem dX12_putsAfter_67 : decode cX12_putsAfter 67 = .ok (.aload_n 0, 1) := by decide +kernel
theorem dX12_putsAfter_68 : decode cX12_putsAfter 68 = .ok (.getfield 37, 3) := by decide +kernel
theorem dX12_putsAfter_71 : decode cX12_putsAfter 71 = .ok (.iconst 3, 1) := by decide +kernel
theorem dX12_putsAfter_72 : decode cX12_putsAfter 72 = .ok (.iload_n 1, 1) := by decide +kernel
theorem dX12_putsAfter_73 : decode cX12_putsAfter 73 = .ok (.imul, 1) := by decide +kernel
theorem dX12_putsAfter_74 : decode cX12_putsAfter 74 = .ok (.iconst 1, 1) := by decide +kernel
theorem dX12_putsAfter_75 : decode cX12_putsAfter 75 = .ok (.iadd, 1) := by decide +kernel
theorem dX12_putsAfter_76 : decode cX12_putsAfter 76 = .ok (.iaload, 1) := by decide +kernel
theorem dX12_putsAfter_77 : decode cX12_putsAfter 77 = .ok (.iadd, 1) := by decide +kernel
theorem dX12_putsAfter_78 : decode cX12_putsAfter 78 = .ok (.aload_n 0, 1) := by decide +kernel
theorem dX12_putsAfter_79 : decode cX12_putsAfter 79 = .ok (.getfield 37, 3) := by decide +kernel
theorem dX12_putsAfter_82 : decode cX12_putsAfter 82 = .ok (.iconst 3, 1) := by decide +kernel
theorem dX12_putsAfter_83 : decode cX12_putsAfter 83 = .ok (.iload_n 1, 1) := by decide +kernel
theorem dX12_putsAfter_84 : decode cX12_putsAfter 84 = .ok (.imul, 1) := by decide +kernel
theorem dX12_putsAfter_85 : decode cX12_putsAfter 85 = .ok (.iconst 2, 1) := by decide +kernel
theorem dX12_putsAfter_86 : decode cX12_putsAfter 86 = .ok (.iadd, 1) := by decide +kernel
theorem dX12_putsAfter_87 : decode cX12_putsAfter 87 = .ok (.iaload, 1) := by decide +kernel
theorem dX12_putsAfter_88 : decode cX12_putsAfter 88 = .ok (.iastore, 1) := by decide +kernel
theorem dX12_putsAfter_89 : decode cX12_putsAfter 89 = .ok (.iinc 1 1, 3) := by decide +kernel
theorem dX12_putsAfter_92 : decode cX12_putsAfter 92 = .ok (.goto (-52), 3) := by decide +kernel
theorem dX12_putsAfter_95 : decode cX12_putsAfter 95 = .ok (.aload_n 0, 1) := by decide +kernel
theorem dX12_putsAfter_96 : decode cX12_putsAfter 96 = .ok (.getfield 268, 3) := by decide +kernel
theorem dX12_putsAfter_99 : decode cX12_putsAfter 99 = .ok (.ireturn, 1) := by decide +kernel
theorem dX12_putsText_0 : decode cX12_putsText 0 = .ok (.iload_n 1, 1) := by decide +kernel
theorem dX12_putsText_1 : decode cX12_putsText 1 = .ok (.iconst 1, 1) := by decide +kernel
theorem dX12_putsText_2 : decode cX12_putsText 2 = .ok (.if_icmp .ne 8, 3) := by decide +kernel
theorem dX12_putsText_5 : decode cX12_putsText 5 = .ok (.aload_n 0, 1) := by decide +kernel
theorem dX12_putsText_6 : decode cX12_putsText 6 = .ok (.invokevirtual 300, 3) := by decide +kernel
theorem dX12_putsText_9 : decode cX12_putsText 9 = .ok (.ireturn, 1) := by decide +kernel
theorem dX12_putsText_10 : decode cX12_putsText 10 = .ok (.iload_n 1, 1) := by decide +kernel
theorem dX12_putsText_11 : decode cX12_putsText 11 = .ok (.iconst 3, 1) := by decide +kernel
theorem dX12_putsText_12 : decode cX12_putsText 12 = .ok (.if_icmp .ne 8, 3) := by decide +kernel
theorem dX12_putsText_15 : decode cX12_putsText 15 = .ok (.aload_n 0, 1) := by decide +kernel
theorem dX12_putsText_16 : decode cX12_putsText 16 = .ok (.invokevirtual 303, 3) := by decide +kernel
theorem dX12_putsText_19 : decode cX12_putsText 19 = .ok (.ireturn, 1) := by decide +kernel
theorem dX12_putsText_20 : decode cX12_putsText 20 = .ok (.aload_n 0, 1) := by decide +kernel
theorem dX12_putsText_21 : decode cX12_putsText 21 = .ok (.invokevirtual 90, 3) := by decide +kernel
theorem dX12_putsText_24 : decode cX12_putsText 24 = .ok (.iload_n 1, 1) := by decide +kernel
theorem dX12_putsText_25 : decode cX12_putsText 25 = .ok (.ifCond .ne 10, 3) := by decide +kernel
theorem dX12_putsText_28 : decode cX12_putsText 28 = .ok (.aload_n 0, 1) := by decide +kernel
theorem dX12_putsText_29 : decode cX12_putsText 29 = .ok (.invokevirtual 306, 3) := by decide +kernel
theorem dX12_putsText_32 : decode cX12_putsText 32 = .ok (.goto 7, 3) := by decide +kernel
theorem dX12_putsText_35 : decode cX12_putsText 35 = .ok (.aload_n 0, 1) := by decide +kernel
theorem dX12_putsText_36 : decode cX12_putsText 36 = .ok (.invokevirtual 309, 3) := by decide +kernel
theorem dX12_putsText_39 : decode cX12_putsText 39 = .ok (.ireturn, 1) := by decide +kernel
theorem dX12_reads_0 : decode cX12_reads 0 = .ok (.iload_n 1, 1) := by decide +kernel
theorem dX12_reads_1 : decode cX12_reads 1 = .ok (.tableswitch 42 0 2 #[27, 32, 37], 27) := by decide +kernel
theorem dX12_reads_28 : decode cX12_reads 28 = .ok (.aload_n 0, 1) := by decide +kernel
theorem dX12_reads_29 : decode cX12_reads 29 = .ok (.invokevirtual 312, 3) := by decide +kernel
theorem dX12_reads_32 : decode cX12_reads 32 = .ok (.ireturn, 1) := by decide +kernel
theorem dX12_reads_33 : decode cX12_reads 33 = .ok (.aload_n 0, 1) := by decide +kernel
theorem dX12_reads_34 : decode cX12_reads 34 = .ok (.invokevirtual 315, 3) := by decide +kernel
theorem dX12_reads_37 : decode cX12_reads 37 = .ok (.ireturn, 1) := by decide +kernel
theorem dX12_reads_38 : decode cX12_reads 38 = .ok (.aload_n 0, 1) := by decide +kernel
theorem dX12_reads_39 : decode cX12_reads 39 = .ok (.invokevirtual 318, 3) := by decide +kernel
theorem dX12_reads_42 : decode cX12_reads 42 = .ok (.ireturn, 1) := by decide +kernel
theorem dX12_reads_43 : decode cX12_reads 43 = .ok (.aload_n 0, 1) := by decide +kernel
theorem dX12_reads_44 : decode cX12_reads 44 = .ok (.invokevirtual 321, 3) := by decide +kernel
theorem dX12_reads_47 : decode cX12_reads 47 = .ok (.ireturn, 1) := by decide +kernel
theorem dX12_text_0 : decode cX12_text 0 = .ok (.aload_n 0, 1) := by decide +kernel
theorem dX12_text_1 : decode cX12_text 1 = .ok (.iconst 0, 1) := by decide +kernel
theorem dX12_text_2 : decode cX12_text 2 = .ok (.putfield 324, 3) := by decide +kernel
theorem dX12_text_5 : decode cX12_text 5 = .ok (.aload_n 0, 1) := by decide +kernel
theorem dX12_text_6 : decode cX12_text 6 = .ok (.iconst (-1), 1) := by decide +kernel
theorem dX12_text_7 : decode cX12_text 7 = .ok (.putfield 49, 3) := by decide +kernel
theorem dX12_text_10 : decode cX12_text 10 = .ok (.iload_n 1, 1) := by decide +kernel
theorem dX12_text_11 : decode cX12_text 11 = .ok (.iconst 0, 1) := by decide +kernel
theorem dX12_text_12 : decode cX12_text 12 = .ok (.iconst 3, 1) := by decide +kernel
theorem dX12_text_13 : decode cX12_text 13 = .ok (.invokestatic 71, 3) := by decide +kernel
theorem dX12_text_16 : decode cX12_text 16 = .ok (.ifCond .ne 10, 3) := by decide +kernel
theorem dX12_text_19 : decode cX12_text 19 = .ok (.aload_n 0, 1) := by decide +kernel
theorem dX12_text_20 : decode cX12_text 20 = .ok (.iconst 0, 1) := by decide +kernel
theorem dX12_text_21 : decode cX12_text 21 = .ok (.putfield 95, 3) := by decide +kernel
theorem dX12_text_24 : decode cX12_text 24 = .ok (.iconst (-1), 1) := by decide +kernel
theorem dX12_text_25 : decode cX12_text 25 = .ok (.ireturn, 1) := by decide +kernel
theorem dX12_text_26 : decode cX12_text 26 = .ok (.aload_n 0, 1) := by decide +kernel
theorem dX12_text_27 : decode cX12_text 27 = .ok (.iconst 0, 1) := by decide +kernel
theorem dX12_text_28 : decode cX12_text 28 = .ok (.putfield 195, 3) := by decide +kernel
theorem dX12_text_31 : decode cX12_text 31 = .ok (.aload_n 0, 1) := by decide +kernel
theorem dX12_text_32 : decode cX12_text 32 = .ok (.iconst 0, 1) := by decide +kernel
theorem dX12_text_33 : decode cX12_text 33 = .ok (.putfield 98, 3) := by decide +kernel
theorem dX12_text_36 : decode cX12_text 36 = .ok (.aload_n 0, 1) := by decide +kernel
theorem dX12_text_37 : decode cX12_text 37 = .ok (.iload_n 1, 1) := by decide +kernel
theorem dX12_text_38 : decode cX12_text 38 = .ok (.putfield 161, 3) := by decide +kernel
theorem dX12_text_41 : decode cX12_text 41 = .ok (.aload_n 0, 1) := by decide +kernel
theorem dX12_text_42 : decode cX12_text 42 = .ok (.invokevirtual 204, 3) := by decide +kernel
theorem dX12_text_45 : decode cX12_text 45 = .ok (.aload_n 0, 1) := by decide +kernel
theorem dX12_text_46 : decode cX12_text 46 = .ok (.iload_n 1, 1) := by decide +kernel
theorem dX12_text_47 : decode cX12_text 47 = .ok (.invokevirtual 327, 3) := by decide +kernel
theorem dX12_text_50 : decode cX12_text 50 = .ok (.istore_n 2, 1) := by decide +kernel
theorem dX12_text_51 : decode cX12_text 51 = .ok (.aload_n 0, 1) := by decide +kernel
theorem dX12_text_52 : decode cX12_text 52 = .ok (.iconst 0, 1) := by decide +kernel
theorem dX12_text_53 : decode cX12_text 53 = .ok (.putfield 95, 3) := by decide +kernel
theorem dX12_text_56 : decode cX12_text 56 = .ok (.iload_n 2, 1) := by decide +kernel
theorem dX12_text_57 : decode cX12_text 57 = .ok (.ifCond .eq 9, 3) := by decide +kernel
theorem dX12_text_60 : decode cX12_text 60 = .ok (.aload_n 0, 1) := by decide +kernel
theorem dX12_text_61 : decode cX12_text 61 = .ok (.iload_n 1, 1) := by decide +kernel
theorem dX12_text_62 : decode cX12_text 62 = .ok (.invokevirtual 330, 3) := by decide +kernel
theorem dX12_text_65 : decode cX12_text 65 = .ok (.ireturn, 1) := by decide +kernel
theorem dX12_text_66 : decode cX12_text 66 = .ok (.aload_n 0, 1) := by decide +kernel
theorem dX12_text_67 : decode cX12_text 67 = .ok (.aload_n 0, 1) := by decide +kernel
theorem dX12_text_68 : decode cX12_text 68 = .ok (.getfield 195, 3) := by decide +kernel
theorem dX12_text_71 : decode cX12_text 71 = .ok (.putfield 324, 3) := by decide +kernel
theorem dX12_text_74 : decode cX12_text 74 = .ok (.aload_n 0, 1) := by decide +kernel
theorem dX12_text_75 : decode cX12_text 75 = .ok (.aload_n 0, 1) := by decide +kernel
theorem dX12_text_76 : decode cX12_text 76 = .ok (.getfield 198, 3) := by decide +kernel
theorem dX12_text_79 : decode cX12_text 79 = .ok (.putfield 49, 3) := by decide +kernel
theorem dX12_text_82 : decode cX12_text 82 = .ok (.iconst (-1), 1) := by decide +kernel
theorem dX12_text_83 : decode cX12_text 83 = .ok (.ireturn, 1) := by decide +kernel
theorem dX12_fault_0 : decode cX12_fault 0 = .ok (.iload_n 1, 1) := by decide +kernel
theorem dX12_fault_1 : decode cX12_fault 1 = .ok (.ifCond .ne 10, 3) := by decide +kernel
theorem dX12_fault_4 : decode cX12_fault 4 = .ok (.aload_n 0, 1) := by decide +kernel
theorem dX12_fault_5 : decode cX12_fault 5 = .ok (.getfield 324, 3) := by decide +kernel
theorem dX12_fault_8 : decode cX12_fault 8 = .ok (.goto 16, 3) := by decide +kernel
theorem dX12_fault_11 : decode cX12_fault 11 = .ok (.iload_n 1, 1) := by decide +kernel
theorem dX12_fault_12 : decode cX12_fault 12 = .ok (.iconst 1, 1) := by decide +kernel
theorem dX12_fault_13 : decode cX12_fault 13 = .ok (.if_icmp .ne 10, 3) := by decide +kernel
theorem dX12_fault_16 : decode cX12_fault 16 = .ok (.aload_n 0, 1) := by decide +kernel
theorem dX12_fault_17 : decode cX12_fault 17 = .ok (.getfield 49, 3) := by decide +kernel
theorem dX12_fault_20 : decode cX12_fault 20 = .ok (.goto 4, 3) := by decide +kernel
theorem dX12_fault_23 : decode cX12_fault 23 = .ok (.iconst (-1), 1) := by decide +kernel
theorem dX12_fault_24 : decode cX12_fault 24 = .ok (.ireturn, 1) := by decide +kernel
theorem dX12_both_0 : decode cX12_both 0 = .ok (.iload_n 0, 1) := by decide +kernel
theorem dX12_both_1 : decode cX12_both 1 = .ok (.tableswitch 100 23 31 #[51, 55, 59, 100, 63, 74, 85, 100, 96], 51) := by decide +kernel
theorem dX12_both_52 : decode cX12_both 52 = .ok (.iload_n 1, 1) := by decide +kernel
theorem dX12_both_53 : decode cX12_both 53 = .ok (.iload_n 2, 1) := by decide +kernel
theorem dX12_both_54 : decode cX12_both 54 = .ok (.iadd, 1) := by decide +kernel
theorem dX12_both_55 : decode cX12_both 55 = .ok (.ireturn, 1) := by decide +kernel
theorem dX12_both_56 : decode cX12_both 56 = .ok (.iload_n 1, 1) := by decide +kernel
theorem dX12_both_57 : decode cX12_both 57 = .ok (.iload_n 2, 1) := by decide +kernel
theorem dX12_both_58 : decode cX12_both 58 = .ok (.isub, 1) := by decide +kernel
theorem dX12_both_59 : decode cX12_both 59 = .ok (.ireturn, 1) := by decide +kernel
theorem dX12_both_60 : decode cX12_both 60 = .ok (.iload_n 1, 1) := by decide +kernel
theorem dX12_both_61 : decode cX12_both 61 = .ok (.iload_n 2, 1) := by decide +kernel
theorem dX12_both_62 : decode cX12_both 62 = .ok (.imul, 1) := by decide +kernel
theorem dX12_both_63 : decode cX12_both 63 = .ok (.ireturn, 1) := by decide +kernel
theorem dX12_both_64 : decode cX12_both 64 = .ok (.iload_n 1, 1) := by decide +kernel
theorem dX12_both_65 : decode cX12_both 65 = .ok (.iload_n 2, 1) := by decide +kernel
theorem dX12_both_66 : decode cX12_both 66 = .ok (.if_icmp .ge 7, 3) := by decide +kernel
theorem dX12_both_69 : decode cX12_both 69 = .ok (.iconst 1, 1) := by decide +kernel
theorem dX12_both_70 : decode cX12_both 70 = .ok (.goto 4, 3) := by decide +kernel
theorem dX12_both_73 : decode cX12_both 73 = .ok (.iconst 0, 1) := by decide +kernel
theorem dX12_both_74 : decode cX12_both 74 = .ok (.ireturn, 1) := by decide +kernel
theorem dX12_both_75 : decode cX12_both 75 = .ok (.iload_n 1, 1) := by decide +kernel
theorem dX12_both_76 : decode cX12_both 76 = .ok (.iload_n 2, 1) := by decide +kernel
theorem dX12_both_77 : decode cX12_both 77 = .ok (.if_icmp .ne 7, 3) := by decide +kernel
theorem dX12_both_80 : decode cX12_both 80 = .ok (.iconst 1, 1) := by decide +kernel
theorem dX12_both_81 : decode cX12_both 81 = .ok (.goto 4, 3) := by decide +kernel
theorem dX12_both_84 : decode cX12_both 84 = .ok (.iconst 0, 1) := by decide +kernel
theorem dX12_both_85 : decode cX12_both 85 = .ok (.ireturn, 1) := by decide +kernel
theorem dX12_both_86 : decode cX12_both 86 = .ok (.iload_n 1, 1) := by decide +kernel
theorem dX12_both_87 : decode cX12_both 87 = .ok (.iload_n 2, 1) := by decide +kernel
theorem dX12_both_88 : decode cX12_both 88 = .ok (.if_icmp .le 7, 3) := by decide +kernel
theorem dX12_both_91 : decode cX12_both 91 = .ok (.iconst 1, 1) := by decide +kernel
theorem dX12_both_92 : decode cX12_both 92 = .ok (.goto 4, 3) := by decide +kernel
theorem dX12_both_95 : decode cX12_both 95 = .ok (.iconst 0, 1) := by decide +kernel
theorem dX12_both_96 : decode cX12_both 96 = .ok (.ireturn, 1) := by decide +kernel
theorem dX12_both_97 : decode cX12_both 97 = .ok (.iload_n 1, 1) := by decide +kernel
theorem dX12_both_98 : decode cX12_both 98 = .ok (.iload_n 2, 1) := by decide +kernel
theorem dX12_both_99 : decode cX12_both 99 = .ok (.iand, 1) := by decide +kernel
theorem dX12_both_100 : decode cX12_both 100 = .ok (.ireturn, 1) := by decide +kernel
theorem dX12_both_101 : decode cX12_both 101 = .ok (.iload_n 1, 1) := by decide +kernel
theorem dX12_both_102 : decode cX12_both 102 = .ok (.iload_n 2, 1) := by decide +kernel
theorem dX12_both_103 : decode cX12_both 103 = .ok (.ior, 1) := by decide +kernel
theorem dX12_both_104 : decode cX12_both 104 = .ok (.ireturn, 1) := by decide +kernel
theorem dX12_comesTo_0 : decode cX12_comesTo 0 = .ok (.iconst 0, 1) := by decide +kernel
theorem dX12_comesTo_1 : decode cX12_comesTo 1 = .ok (.istore 4, 2) := by decide +kernel
theorem dX12_comesTo_3 : decode cX12_comesTo 3 = .ok (.iload_n 2, 1) := by decide +kernel
theorem dX12_comesTo_4 : decode cX12_comesTo 4 = .ok (.istore 5, 2) := by decide +kernel
theorem dX12_comesTo_6 : decode cX12_comesTo 6 = .ok (.iload 5, 2) := by decide +kernel
theorem dX12_comesTo_8 : decode cX12_comesTo 8 = .ok (.iload_n 3, 1) := by decide +kernel
theorem dX12_comesTo_9 : decode cX12_comesTo 9 = .ok (.if_icmp .ge 177, 3) := by decide +kernel
theorem dX12_comesTo_12 : decode cX12_comesTo 12 = .ok (.aload_n 0, 1) := by decide +kernel
theorem dX12_comesTo_13 : decode cX12_comesTo 13 = .ok (.getfield 7, 3) := by decide +kernel
theorem dX12_comesTo_16 : decode cX12_comesTo 16 = .ok (.sipush 1620, 3) := by decide +kernel
theorem dX12_comesTo_19 : decode cX12_comesTo 19 = .ok (.sipush 820, 3) := by decide +kernel
theorem dX12_comesTo_22 : decode cX12_comesTo 22 = .ok (.iload_n 1, 1) := by decide +kernel
theorem dX12_comesTo_23 : decode cX12_comesTo 23 = .ok (.imul, 1) := by decide +kernel
theorem dX12_comesTo_24 : decode cX12_comesTo 24 = .ok (.iadd, 1) := by decide +kernel
theorem dX12_comesTo_25 : decode cX12_comesTo 25 = .ok (.iconst 2, 1) := by decide +kernel
theorem dX12_comesTo_26 : decode cX12_comesTo 26 = .ok (.iload 5, 2) := by decide +kernel
theorem dX12_comesTo_28 : decode cX12_comesTo 28 = .ok (.imul, 1) := by decide +kernel
theorem dX12_comesTo_29 : decode cX12_comesTo 29 = .ok (.iadd, 1) := by decide +kernel
theorem dX12_comesTo_30 : decode cX12_comesTo 30 = .ok (.iaload, 1) := by decide +kernel
theorem dX12_comesTo_31 : decode cX12_comesTo 31 = .ok (.istore 6, 2) := by decide +kernel
theorem dX12_comesTo_33 : decode cX12_comesTo 33 = .ok (.aload_n 0, 1) := by decide +kernel
theorem dX12_comesTo_34 : decode cX12_comesTo 34 = .ok (.getfield 7, 3) := by decide +kernel
theorem dX12_comesTo_37 : decode cX12_comesTo 37 = .ok (.sipush 1620, 3) := by decide +kernel
theorem dX12_comesTo_40 : decode cX12_comesTo 40 = .ok (.sipush 820, 3) := by decide +kernel
theorem dX12_comesTo_43 : decode cX12_comesTo 43 = .ok (.iload_n 1, 1) := by decide +kernel
theorem dX12_comesTo_44 : decode cX12_comesTo 44 = .ok (.imul, 1) := by decide +kernel
theorem dX12_comesTo_45 : decode cX12_comesTo 45 = .ok (.iadd, 1) := by decide +kernel
theorem dX12_comesTo_46 : decode cX12_comesTo 46 = .ok (.iconst 2, 1) := by decide +kernel
theorem dX12_comesTo_47 : decode cX12_comesTo 47 = .ok (.iload 5, 2) := by decide +kernel
theorem dX12_comesTo_49 : decode cX12_comesTo 49 = .ok (.imul, 1) := by decide +kernel
theorem dX12_comesTo_50 : decode cX12_comesTo 50 = .ok (.iadd, 1) := by decide +kernel
theorem dX12_comesTo_51 : decode cX12_comesTo 51 = .ok (.iconst 1, 1) := by decide +kernel
theorem dX12_comesTo_52 : decode cX12_comesTo 52 = .ok (.iadd, 1) := by decide +kernel
theorem dX12_comesTo_53 : decode cX12_comesTo 53 = .ok (.iaload, 1) := by decide +kernel
theorem dX12_comesTo_54 : decode cX12_comesTo 54 = .ok (.istore 7, 2) := by decide +kernel
theorem dX12_comesTo_56 : decode cX12_comesTo 56 = .ok (.iload 6, 2) := by decide +kernel
theorem dX12_comesTo_58 : decode cX12_comesTo 58 = .ok (.bipush 23, 2) := by decide +kernel
theorem dX12_comesTo_60 : decode cX12_comesTo 60 = .ok (.if_icmp .ge 33, 3) := by decide +kernel
theorem dX12_comesTo_63 : decode cX12_comesTo 63 = .ok (.aload_n 0, 1) := by decide +kernel
theorem dX12_comesTo_64 : decode cX12_comesTo 64 = .ok (.getfield 43, 3) := by decide +kernel
theorem dX12_comesTo_67 : decode cX12_comesTo 67 = .ok (.iload 4, 2) := by decide +kernel
theorem dX12_comesTo_69 : decode cX12_comesTo 69 = .ok (.iload 6, 2) := by decide +kernel
theorem dX12_comesTo_71 : decode cX12_comesTo 71 = .ok (.ifCond .ne 8, 3) := by decide +kernel
theorem dX12_comesTo_74 : decode cX12_comesTo 74 = .ok (.iload 7, 2) := by decide +kernel
theorem dX12_comesTo_76 : decode cX12_comesTo 76 = .ok (.goto 10, 3) := by decide +kernel
theorem dX12_comesTo_79 : decode cX12_comesTo 79 = .ok (.aload_n 0, 1) := by decide +kernel
theorem dX12_comesTo_80 : decode cX12_comesTo 80 = .ok (.getfield 46, 3) := by decide +kernel
theorem dX12_comesTo_83 : decode cX12_comesTo 83 = .ok (.iload 6, 2) := by decide +kernel
theorem dX12_comesTo_85 : decode cX12_comesTo 85 = .ok (.iaload, 1) := by decide +kernel
theorem dX12_comesTo_86 : decode cX12_comesTo 86 = .ok (.iastore, 1) := by decide +kernel
theorem dX12_comesTo_87 : decode cX12_comesTo 87 = .ok (.iinc 4 1, 3) := by decide +kernel
theorem dX12_comesTo_90 : decode cX12_comesTo 90 = .ok (.goto 90, 3) := by decide +kernel
theorem dX12_comesTo_93 : decode cX12_comesTo 93 = .ok (.iload 6, 2) := by decide +kernel
theorem dX12_comesTo_95 : decode cX12_comesTo 95 = .ok (.bipush 26, 2) := by decide +kernel
theorem dX12_comesTo_97 : decode cX12_comesTo 97 = .ok (.if_icmp .ne 20, 3) := by decide +kernel
theorem dX12_comesTo_100 : decode cX12_comesTo 100 = .ok (.aload_n 0, 1) := by decide +kernel
theorem dX12_comesTo_101 : decode cX12_comesTo 101 = .ok (.getfield 43, 3) := by decide +kernel
theorem dX12_comesTo_104 : decode cX12_comesTo 104 = .ok (.iload 4, 2) := by decide +kernel
theorem dX12_comesTo_106 : decode cX12_comesTo 106 = .ok (.iconst 1, 1) := by decide +kernel
theorem dX12_comesTo_107 : decode cX12_comesTo 107 = .ok (.isub, 1) := by decide +kernel
theorem dX12_comesTo_108 : decode cX12_comesTo 108 = .ok (.dup2, 1) := by decide +kernel
theorem dX12_comesTo_109 : decode cX12_comesTo 109 = .ok (.iaload, 1) := by decide +kernel
theorem dX12_comesTo_110 : decode cX12_comesTo 110 = .ok (.iload 7, 2) := by decide +kernel
theorem dX12_comesTo_112 : decode cX12_comesTo 112 = .ok (.idiv, 1) := by decide +kernel
theorem dX12_comesTo_113 : decode cX12_comesTo 113 = .ok (.iastore, 1) := by decide +kernel
theorem dX12_comesTo_114 : decode cX12_comesTo 114 = .ok (.goto 66, 3) := by decide +kernel
theorem dX12_comesTo_117 : decode cX12_comesTo 117 = .ok (.iload 6, 2) := by decide +kernel
theorem dX12_comesTo_119 : decode cX12_comesTo 119 = .ok (.bipush 30, 2) := by decide +kernel
theorem dX12_comesTo_121 : decode cX12_comesTo 121 = .ok (.if_icmp .ne 26, 3) := by decide +kernel
theorem dX12_comesTo_124 : decode cX12_comesTo 124 = .ok (.aload_n 0, 1) := by decide +kernel
theorem dX12_comesTo_125 : decode cX12_comesTo 125 = .ok (.getfield 43, 3) := by decide +kernel
theorem dX12_comesTo_128 : decode cX12_comesTo 128 = .ok (.iload 4, 2) := by decide +kernel
theorem dX12_comesTo_130 : decode cX12_comesTo 130 = .ok (.iconst 1, 1) := by decide +kernel
theorem dX12_comesTo_131 : decode cX12_comesTo 131 = .ok (.isub, 1) := by decide +kernel
theorem dX12_comesTo_132 : decode cX12_comesTo 132 = .ok (.iconst 1, 1) := by decide +kernel
theorem dX12_comesTo_133 : decode cX12_comesTo 133 = .ok (.aload_n 0, 1) := by decide +kernel
theorem dX12_comesTo_134 : decode cX12_comesTo 134 = .ok (.getfield 43, 3) := by decide +kernel
theorem dX12_comesTo_137 : decode cX12_comesTo 137 = .ok (.iload 4, 2) := by decide +kernel
theorem dX12_comesTo_139 : decode cX12_comesTo 139 = .ok (.iconst 1, 1) := by decide +kernel
theorem dX12_comesTo_140 : decode cX12_comesTo 140 = .ok (.isub, 1) := by decide +kernel
theorem dX12_comesTo_141 : decode cX12_comesTo 141 = .ok (.iaload, 1) := by decide +kernel
theorem dX12_comesTo_142 : decode cX12_comesTo 142 = .ok (.isub, 1) := by decide +kernel
theorem dX12_comesTo_143 : decode cX12_comesTo 143 = .ok (.iastore, 1) := by decide +kernel
theorem dX12_comesTo_144 : decode cX12_comesTo 144 = .ok (.goto 36, 3) := by decide +kernel
theorem dX12_comesTo_147 : decode cX12_comesTo 147 = .ok (.iinc 4 (-1), 3) := by decide +kernel
theorem dX12_comesTo_150 : decode cX12_comesTo 150 = .ok (.aload_n 0, 1) := by decide +kernel
theorem dX12_comesTo_151 : decode cX12_comesTo 151 = .ok (.getfield 43, 3) := by decide +kernel
theorem dX12_comesTo_154 : decode cX12_comesTo 154 = .ok (.iload 4, 2) := by decide +kernel
theorem dX12_comesTo_156 : decode cX12_comesTo 156 = .ok (.iconst 1, 1) := by decide +kernel
theorem dX12_comesTo_157 : decode cX12_comesTo 157 = .ok (.isub, 1) := by decide +kernel
theorem dX12_comesTo_158 : decode cX12_comesTo 158 = .ok (.iload 6, 2) := by decide +kernel
theorem dX12_comesTo_160 : decode cX12_comesTo 160 = .ok (.aload_n 0, 1) := by decide +kernel
theorem dX12_comesTo_161 : decode cX12_comesTo 161 = .ok (.getfield 43, 3) := by decide +kernel
theorem dX12_comesTo_164 : decode cX12_comesTo 164 = .ok (.iload 4, 2) := by decide +kernel
theorem dX12_comesTo_166 : decode cX12_comesTo 166 = .ok (.iconst 1, 1) := by decide +kernel
theorem dX12_comesTo_167 : decode cX12_comesTo 167 = .ok (.isub, 1) := by decide +kernel
theorem dX12_comesTo_168 : decode cX12_comesTo 168 = .ok (.iaload, 1) := by decide +kernel
theorem dX12_comesTo_169 : decode cX12_comesTo 169 = .ok (.aload_n 0, 1) := by decide +kernel
theorem dX12_comesTo_170 : decode cX12_comesTo 170 = .ok (.getfield 43, 3) := by decide +kernel
theorem dX12_comesTo_173 : decode cX12_comesTo 173 = .ok (.iload 4, 2) := by decide +kernel
theorem dX12_comesTo_175 : decode cX12_comesTo 175 = .ok (.iaload, 1) := by decide +kernel
theorem dX12_comesTo_176 : decode cX12_comesTo 176 = .ok (.invokestatic 333, 3) := by decide +kernel
theorem dX12_comesTo_179 : decode cX12_comesTo 179 = .ok (.iastore, 1) := by decide +kernel
theorem dX12_comesTo_180 : decode cX12_comesTo 180 = .ok (.iinc 5 1, 3) := by decide +kernel
theorem dX12_comesTo_183 : decode cX12_comesTo 183 = .ok (.goto (-177), 3) := by decide +kernel
theorem dX12_comesTo_186 : decode cX12_comesTo 186 = .ok (.aload_n 0, 1) := by decide +kernel
theorem dX12_comesTo_187 : decode cX12_comesTo 187 = .ok (.getfield 43, 3) := by decide +kernel
theorem dX12_comesTo_190 : decode cX12_comesTo 190 = .ok (.iconst 0, 1) := by decide +kernel
theorem dX12_comesTo_191 : decode cX12_comesTo 191 = .ok (.iaload, 1) := by decide +kernel
theorem dX12_comesTo_192 : decode cX12_comesTo 192 = .ok (.ireturn, 1) := by decide +kernel
theorem dX12_isSo_0 : decode cX12_isSo 0 = .ok (.aload_n 0, 1) := by decide +kernel
theorem dX12_isSo_1 : decode cX12_isSo 1 = .ok (.getfield 7, 3) := by decide +kernel
theorem dX12_isSo_4 : decode cX12_isSo 4 = .ok (.sipush 1586, 3) := by decide +kernel
theorem dX12_isSo_7 : decode cX12_isSo 7 = .ok (.iload_n 1, 1) := by decide +kernel
theorem dX12_isSo_8 : decode cX12_isSo 8 = .ok (.iadd, 1) := by decide +kernel
theorem dX12_isSo_9 : decode cX12_isSo 9 = .ok (.iaload, 1) := by decide +kernel
theorem dX12_isSo_10 : decode cX12_isSo 10 = .ok (.aload_n 0, 1) := by decide +kernel
theorem dX12_isSo_11 : decode cX12_isSo 11 = .ok (.getfield 7, 3) := by decide +kernel
theorem dX12_isSo_14 : decode cX12_isSo 14 = .ok (.sipush 1570, 3) := by decide +kernel
theorem dX12_isSo_17 : decode cX12_isSo 17 = .ok (.iload_n 1, 1) := by decide +kernel
theorem dX12_isSo_18 : decode cX12_isSo 18 = .ok (.iadd, 1) := by decide +kernel
theorem dX12_isSo_19 : decode cX12_isSo 19 = .ok (.iaload, 1) := by decide +kernel
theorem dX12_isSo_20 : decode cX12_isSo 20 = .ok (.if_icmp .eq 32, 3) := by decide +kernel
theorem dX12_isSo_23 : decode cX12_isSo 23 = .ok (.aload_n 0, 1) := by decide +kernel
theorem dX12_isSo_24 : decode cX12_isSo 24 = .ok (.iconst 0, 1) := by decide +kernel
theorem dX12_isSo_25 : decode cX12_isSo 25 = .ok (.aload_n 0, 1) := by decide +kernel
theorem dX12_isSo_26 : decode cX12_isSo 26 = .ok (.getfield 7, 3) := by decide +kernel
theorem dX12_isSo_29 : decode cX12_isSo 29 = .ok (.sipush 1570, 3) := by decide +kernel
theorem dX12_isSo_32 : decode cX12_isSo 32 = .ok (.iload_n 1, 1) := by decide +kernel
theorem dX12_isSo_33 : decode cX12_isSo 33 = .ok (.iadd, 1) := by decide +kernel
theorem dX12_isSo_34 : decode cX12_isSo 34 = .ok (.iaload, 1) := by decide +kernel
theorem dX12_isSo_35 : decode cX12_isSo 35 = .ok (.aload_n 0, 1) := by decide +kernel
theorem dX12_isSo_36 : decode cX12_isSo 36 = .ok (.getfield 7, 3) := by decide +kernel
theorem dX12_isSo_39 : decode cX12_isSo 39 = .ok (.sipush 1586, 3) := by decide +kernel
theorem dX12_isSo_42 : decode cX12_isSo 42 = .ok (.iload_n 1, 1) := by decide +kernel
theorem dX12_isSo_43 : decode cX12_isSo 43 = .ok (.iadd, 1) := by decide +kernel
theorem dX12_isSo_44 : decode cX12_isSo 44 = .ok (.iaload, 1) := by decide +kernel
theorem dX12_isSo_45 : decode cX12_isSo 45 = .ok (.invokevirtual 337, 3) := by decide +kernel
theorem dX12_isSo_48 : decode cX12_isSo 48 = .ok (.iconst 1, 1) := by decide +kernel
theorem dX12_isSo_49 : decode cX12_isSo 49 = .ok (.if_icmp .ne 7, 3) := by decide +kernel
theorem dX12_isSo_52 : decode cX12_isSo 52 = .ok (.iconst 1, 1) := by decide +kernel
theorem dX12_isSo_53 : decode cX12_isSo 53 = .ok (.goto 4, 3) := by decide +kernel
theorem dX12_isSo_56 : decode cX12_isSo 56 = .ok (.iconst 0, 1) := by decide +kernel
theorem dX12_isSo_57 : decode cX12_isSo 57 = .ok (.ireturn, 1) := by decide +kernel
theorem dX12_fullAt_0 : decode cX12_fullAt 0 = .ok (.aload_n 0, 1) := by decide +kernel
theorem dX12_fullAt_1 : decode cX12_fullAt 1 = .ok (.getfield 7, 3) := by decide +kernel
theorem dX12_fullAt_4 : decode cX12_fullAt 4 = .ok (.sipush 208, 3) := by decide +kernel
theorem dX12_fullAt_7 : decode cX12_fullAt 7 = .ok (.iaload, 1) := by decide +kernel
theorem dX12_fullAt_8 : decode cX12_fullAt 8 = .ok (.ifCond .ne 7, 3) := by decide +kernel
theorem dX12_fullAt_11 : decode cX12_fullAt 11 = .ok (.iconst 0, 1) := by decide +kernel
theorem dX12_fullAt_12 : decode cX12_fullAt 12 = .ok (.goto 16, 3) := by decide +kernel
theorem dX12_fullAt_15 : decode cX12_fullAt 15 = .ok (.bipush 99, 2) := by decide +kernel
theorem dX12_fullAt_17 : decode cX12_fullAt 17 = .ok (.iload_n 1, 1) := by decide +kernel
theorem dX12_fullAt_18 : decode cX12_fullAt 18 = .ok (.imul, 1) := by decide +kernel
theorem dX12_fullAt_19 : decode cX12_fullAt 19 = .ok (.aload_n 0, 1) := by decide +kernel
theorem dX12_fullAt_20 : decode cX12_fullAt 20 = .ok (.getfield 7, 3) := by decide +kernel
theorem dX12_fullAt_23 : decode cX12_fullAt 23 = .ok (.sipush 208, 3) := by decide +kernel
theorem dX12_fullAt_26 : decode cX12_fullAt 26 = .ok (.iaload, 1) := by decide +kernel
theorem dX12_fullAt_27 : decode cX12_fullAt 27 = .ok (.idiv, 1) := by decide +kernel
theorem dX12_fullAt_28 : decode cX12_fullAt 28 = .ok (.ireturn, 1) := by decide +kernel
theorem dX12_says_0 : decode cX12_says 0 = .ok (.aload_n 0, 1) := by decide +kernel
theorem dX12_says_1 : decode cX12_says 1 = .ok (.aload_n 0, 1) := by decide +kernel
theorem dX12_says_2 : decode cX12_says 2 = .ok (.getfield 7, 3) := by decide +kernel
theorem dX12_says_5 : decode cX12_says 5 = .ok (.iconst 0, 1) := by decide +kernel
theorem dX12_says_6 : decode cX12_says 6 = .ok (.iaload, 1) := by decide +kernel
theorem dX12_says_7 : decode cX12_says 7 = .ok (.iload_n 2, 1) := by decide +kernel
theorem dX12_says_8 : decode cX12_says 8 = .ok (.invokevirtual 340, 3) := by decide +kernel
theorem dX12_says_11 : decode cX12_says 11 = .ok (.istore 8, 2) := by decide +kernel
theorem dX12_says_13 : decode cX12_says 13 = .ok (.aload_n 0, 1) := by decide +kernel
theorem dX12_says_14 : decode cX12_says 14 = .ok (.getfield 46, 3) := by decide +kernel
theorem dX12_says_17 : decode cX12_says 17 = .ok (.iconst 1, 1) := by decide +kernel
theorem dX12_says_18 : decode cX12_says 18 = .ok (.iload_n 2, 1) := by decide +kernel
theorem dX12_says_19 : decode cX12_says 19 = .ok (.iastore, 1) := by decide +kernel
theorem dX12_says_20 : decode cX12_says 20 = .ok (.aload_n 0, 1) := by decide +kernel
theorem dX12_says_21 : decode cX12_says 21 = .ok (.getfield 46, 3) := by decide +kernel
theorem dX12_says_24 : decode cX12_says 24 = .ok (.iconst 2, 1) := by decide +kernel
theorem dX12_says_25 : decode cX12_says 25 = .ok (.aload_n 0, 1) := by decide +kernel
theorem dX12_says_26 : decode cX12_says 26 = .ok (.iload_n 2, 1) := by decide +kernel
theorem dX12_says_27 : decode cX12_says 27 = .ok (.invokevirtual 343, 3) := by decide +kernel
theorem dX12_says_30 : decode cX12_says 30 = .ok (.iastore, 1) := by decide +kernel
theorem dX12_says_31 : decode cX12_says 31 = .ok (.aload_n 0, 1) := by decide +kernel
theorem dX12_says_32 : decode cX12_says 32 = .ok (.getfield 46, 3) := by decide +kernel
theorem dX12_says_35 : decode cX12_says 35 = .ok (.iconst 3, 1) := by decide +kernel
theorem dX12_says_36 : decode cX12_says 36 = .ok (.iload_n 3, 1) := by decide +kernel
theorem dX12_says_37 : decode cX12_says 37 = .ok (.ifCond .eq 7, 3) := by decide +kernel
theorem dX12_says_40 : decode cX12_says 40 = .ok (.iconst 1, 1) := by decide +kernel
theorem dX12_says_41 : decode cX12_says 41 = .ok (.goto 4, 3) := by decide +kernel
theorem dX12_says_44 : decode cX12_says 44 = .ok (.iconst 0, 1) := by decide +kernel
theorem dX12_says_45 : decode cX12_says 45 = .ok (.iastore, 1) := by decide +kernel
theorem dX12_says_46 : decode cX12_says 46 = .ok (.aload_n 0, 1) := by decide +kernel
theorem dX12_says_47 : decode cX12_says 47 = .ok (.getfield 46, 3) := by decide +kernel
theorem dX12_says_50 : decode cX12_says 50 = .ok (.iconst 4, 1) := by decide +kernel
theorem dX12_says_51 : decode cX12_says 51 = .ok (.iload 4, 2) := by decide +kernel
theorem dX12_says_53 : decode cX12_says 53 = .ok (.iastore, 1) := by decide +kernel
theorem dX12_says_54 : decode cX12_says 54 = .ok (.aload_n 0, 1) := by decide +kernel
theorem dX12_says_55 : decode cX12_says 55 = .ok (.getfield 46, 3) := by decide +kernel
theorem dX12_says_58 : decode cX12_says 58 = .ok (.iconst 5, 1) := by decide +kernel
theorem dX12_says_59 : decode cX12_says 59 = .ok (.aload_n 0, 1) := by decide +kernel
theorem dX12_says_60 : decode cX12_says 60 = .ok (.getfield 7, 3) := by decide +kernel
theorem dX12_says_63 : decode cX12_says 63 = .ok (.iconst 0, 1) := by decide +kernel
theorem dX12_says_64 : decode cX12_says 64 = .ok (.iaload, 1) := by decide +kernel
theorem dX12_says_65 : decode cX12_says 65 = .ok (.iastore, 1) := by decide +kernel
theorem dX12_says_66 : decode cX12_says 66 = .ok (.aload_n 0, 1) := by decide +kernel
theorem dX12_says_67 : decode cX12_says 67 = .ok (.getfield 46, 3) := by decide +kernel
theorem dX12_says_70 : decode cX12_says 70 = .ok (.bipush 6, 2) := by decide +kernel
theorem dX12_says_72 : decode cX12_says 72 = .ok (.iload 8, 2) := by decide +kernel
theorem dX12_says_74 : decode cX12_says 74 = .ok (.bipush 14, 2) := by decide +kernel
theorem dX12_says_76 : decode cX12_says 76 = .ok (.if_icmp .ge 8, 3) := by decide +kernel
theorem dX12_says_79 : decode cX12_says 79 = .ok (.iload 8, 2) := by decide +kernel
theorem dX12_says_81 : decode cX12_says 81 = .ok (.goto 5, 3) := by decide +kernel
theorem dX12_says_84 : decode cX12_says 84 = .ok (.bipush 99, 2) := by decide +kernel
theorem dX12_says_86 : decode cX12_says 86 = .ok (.iastore, 1) := by decide +kernel
theorem dX12_says_87 : decode cX12_says 87 = .ok (.aload_n 0, 1) := by decide +kernel
theorem dX12_says_88 : decode cX12_says 88 = .ok (.getfield 46, 3) := by decide +kernel
theorem dX12_says_91 : decode cX12_says 91 = .ok (.bipush 7, 2) := by decide +kernel
theorem dX12_says_93 : decode cX12_says 93 = .ok (.aload_n 0, 1) := by decide +kernel
theorem dX12_says_94 : decode cX12_says 94 = .ok (.getfield 7, 3) := by decide +kernel
theorem dX12_says_97 : decode cX12_says 97 = .ok (.iconst 4, 1) := by decide +kernel
theorem dX12_says_98 : decode cX12_says 98 = .ok (.iaload, 1) := by decide +kernel
theorem dX12_says_99 : decode cX12_says 99 = .ok (.iastore, 1) := by decide +kernel
theorem dX12_says_100 : decode cX12_says 100 = .ok (.iconst 0, 1) := by decide +kernel
theorem dX12_says_101 : decode cX12_says 101 = .ok (.istore 9, 2) := by decide +kernel
theorem dX12_says_103 : decode cX12_says 103 = .ok (.iload 9, 2) := by decide +kernel
theorem dX12_says_105 : decode cX12_says 105 = .ok (.aload_n 0, 1) := by decide +kernel
theorem dX12_says_106 : decode cX12_says 106 = .ok (.getfield 7, 3) := by decide +kernel
theorem dX12_says_109 : decode cX12_says 109 = .ok (.sipush 212, 3) := by decide +kernel
theorem dX12_says_112 : decode cX12_says 112 = .ok (.iaload, 1) := by decide +kernel
theorem dX12_says_113 : decode cX12_says 113 = .ok (.if_icmp .ge 71, 3) := by decide +kernel
theorem dX12_says_116 : decode cX12_says 116 = .ok (.aload_n 0, 1) := by decide +kernel
theorem dX12_says_117 : decode cX12_says 117 = .ok (.getfield 7, 3) := by decide +kernel
theorem dX12_says_120 : decode cX12_says 120 = .ok (.sipush 1602, 3) := by decide +kernel
theorem dX12_says_123 : decode cX12_says 123 = .ok (.iload 9, 2) := by decide +kernel
theorem dX12_says_125 : decode cX12_says 125 = .ok (.iadd, 1) := by decide +kernel
theorem dX12_says_126 : decode cX12_says 126 = .ok (.iaload, 1) := by decide +kernel
theorem dX12_says_127 : decode cX12_says 127 = .ok (.iload_n 1, 1) := by decide +kernel
theorem dX12_says_128 : decode cX12_says 128 = .ok (.if_icmp .ne 50, 3) := by decide +kernel
theorem dX12_says_131 : decode cX12_says 131 = .ok (.aload_n 0, 1) := by decide +kernel
theorem dX12_says_132 : decode cX12_says 132 = .ok (.iload 9, 2) := by decide +kernel
theorem dX12_says_134 : decode cX12_says 134 = .ok (.invokevirtual 346, 3) := by decide +kernel
theorem dX12_says_137 : decode cX12_says 137 = .ok (.ifCond .eq 41, 3) := by decide +kernel
theorem dX12_says_140 : decode cX12_says 140 = .ok (.iload 6, 2) := by decide +kernel
theorem dX12_says_142 : decode cX12_says 142 = .ok (.iload 7, 2) := by decide +kernel
theorem dX12_says_144 : decode cX12_says 144 = .ok (.aload_n 0, 1) := by decide +kernel
theorem dX12_says_145 : decode cX12_says 145 = .ok (.iconst 0, 1) := by decide +kernel
theorem dX12_says_146 : decode cX12_says 146 = .ok (.aload_n 0, 1) := by decide +kernel
theorem dX12_says_147 : decode cX12_says 147 = .ok (.getfield 7, 3) := by decide +kernel
theorem dX12_says_150 : decode cX12_says 150 = .ok (.sipush 1554, 3) := by decide +kernel
theorem dX12_says_153 : decode cX12_says 153 = .ok (.iload 9, 2) := by decide +kernel
theorem dX12_says_155 : decode cX12_says 155 = .ok (.iadd, 1) := by decide +kernel
theorem dX12_says_156 : decode cX12_says 156 = .ok (.iaload, 1) := by decide +kernel
theorem dX12_says_157 : decode cX12_says 157 = .ok (.aload_n 0, 1) := by decide +kernel
theorem dX12_says_158 : decode cX12_says 158 = .ok (.getfield 7, 3) := by decide +kernel
theorem dX12_says_161 : decode cX12_says 161 = .ok (.sipush 1570, 3) := by decide +kernel
theorem dX12_says_164 : decode cX12_says 164 = .ok (.iload 9, 2) := by decide +kernel
theorem dX12_says_166 : decode cX12_says 166 = .ok (.iadd, 1) := by decide +kernel
theorem dX12_says_167 : decode cX12_says 167 = .ok (.iaload, 1) := by decide +kernel
theorem dX12_says_168 : decode cX12_says 168 = .ok (.invokevirtual 337, 3) := by decide +kernel
theorem dX12_says_171 : decode cX12_says 171 = .ok (.invokestatic 349, 3) := by decide +kernel
theorem dX12_says_174 : decode cX12_says 174 = .ok (.invokestatic 297, 3) := by decide +kernel
theorem dX12_says_177 : decode cX12_says 177 = .ok (.ireturn, 1) := by decide +kernel
theorem dX12_says_178 : decode cX12_says 178 = .ok (.iinc 9 1, 3) := by decide +kernel
theorem dX12_says_181 : decode cX12_says 181 = .ok (.goto (-78), 3) := by decide +kernel
theorem dX12_says_184 : decode cX12_says 184 = .ok (.iload 6, 2) := by decide +kernel
theorem dX12_says_186 : decode cX12_says 186 = .ok (.iload 7, 2) := by decide +kernel
theorem dX12_says_188 : decode cX12_says 188 = .ok (.iload 5, 2) := by decide +kernel
theorem dX12_says_190 : decode cX12_says 190 = .ok (.invokestatic 349, 3) := by decide +kernel
theorem dX12_says_193 : decode cX12_says 193 = .ok (.invokestatic 297, 3) := by decide +kernel
theorem dX12_says_196 : decode cX12_says 196 = .ok (.ireturn, 1) := by decide +kernel
theorem dX12_speedAt_0 : decode cX12_speedAt 0 = .ok (.aload_n 0, 1) := by decide +kernel
theorem dX12_speedAt_1 : decode cX12_speedAt 1 = .ok (.bipush 20, 2) := by decide +kernel
theorem dX12_speedAt_3 : decode cX12_speedAt 3 = .ok (.iload_n 1, 1) := by decide +kernel
theorem dX12_speedAt_4 : decode cX12_speedAt 4 = .ok (.iload_n 2, 1) := by decide +kernel
theorem dX12_speedAt_5 : decode cX12_speedAt 5 = .ok (.iload_n 3, 1) := by decide +kernel
theorem dX12_speedAt_6 : decode cX12_speedAt 6 = .ok (.iconst 2, 1) := by decide +kernel
theorem dX12_speedAt_7 : decode cX12_speedAt 7 = .ok (.aload_n 0, 1) := by decide +kernel
theorem dX12_speedAt_8 : decode cX12_speedAt 8 = .ok (.iload_n 1, 1) := by decide +kernel
theorem dX12_speedAt_9 : decode cX12_speedAt 9 = .ok (.invokevirtual 343, 3) := by decide +kernel
theorem dX12_speedAt_12 : decode cX12_speedAt 12 = .ok (.bipush 20, 2) := by decide +kernel
theorem dX12_speedAt_14 : decode cX12_speedAt 14 = .ok (.idiv, 1) := by decide +kernel
theorem dX12_speedAt_15 : decode cX12_speedAt 15 = .ok (.iadd, 1) := by decide +kernel
theorem dX12_speedAt_16 : decode cX12_speedAt 16 = .ok (.iconst 1, 1) := by decide +kernel
theorem dX12_speedAt_17 : decode cX12_speedAt 17 = .ok (.bipush 30, 2) := by decide +kernel
theorem dX12_speedAt_19 : decode cX12_speedAt 19 = .ok (.invokevirtual 352, 3) := by decide +kernel
theorem dX12_speedAt_22 : decode cX12_speedAt 22 = .ok (.ireturn, 1) := by decide +kernel
theorem dX12_lateAt_0 : decode cX12_lateAt 0 = .ok (.aload_n 0, 1) := by decide +kernel
theorem dX12_lateAt_1 : decode cX12_lateAt 1 = .ok (.bipush 21, 2) := by decide +kernel
theorem dX12_lateAt_3 : decode cX12_lateAt 3 = .ok (.iload_n 1, 1) := by decide +kernel
theorem dX12_lateAt_4 : decode cX12_lateAt 4 = .ok (.iload_n 2, 1) := by decide +kernel
theorem dX12_lateAt_5 : decode cX12_lateAt 5 = .ok (.iload_n 3, 1) := by decide +kernel
theorem dX12_lateAt_6 : decode cX12_lateAt 6 = .ok (.iconst 1, 1) := by decide +kernel
theorem dX12_lateAt_7 : decode cX12_lateAt 7 = .ok (.iconst 0, 1) := by decide +kernel
theorem dX12_lateAt_8 : decode cX12_lateAt 8 = .ok (.bipush 9, 2) := by decide +kernel
theorem dX12_lateAt_10 : decode cX12_lateAt 10 = .ok (.invokevirtual 352, 3) := by decide +kernel
theorem dX12_lateAt_13 : decode cX12_lateAt 13 = .ok (.ireturn, 1) := by decide +kernel
theorem dX12_slipAt_0 : decode cX12_slipAt 0 = .ok (.aload_n 0, 1) := by decide +kernel
theorem dX12_slipAt_1 : decode cX12_slipAt 1 = .ok (.bipush 22, 2) := by decide +kernel
theorem dX12_slipAt_3 : decode cX12_slipAt 3 = .ok (.iload_n 1, 1) := by decide +kernel
theorem dX12_slipAt_4 : decode cX12_slipAt 4 = .ok (.iload_n 2, 1) := by decide +kernel
theorem dX12_slipAt_5 : decode cX12_slipAt 5 = .ok (.iload_n 3, 1) := by decide +kernel
theorem dX12_slipAt_6 : decode cX12_slipAt 6 = .ok (.iconst 0, 1) := by decide +kernel
theorem dX12_slipAt_7 : decode cX12_slipAt 7 = .ok (.iconst 0, 1) := by decide +kernel
theorem dX12_slipAt_8 : decode cX12_slipAt 8 = .ok (.sipush 1000, 3) := by decide +kernel
theorem dX12_slipAt_11 : decode cX12_slipAt 11 = .ok (.invokevirtual 352, 3) := by decide +kernel
theorem dX12_slipAt_14 : decode cX12_slipAt 14 = .ok (.ireturn, 1) := by decide +kernel
theorem dX12_going_0 : decode cX12_going 0 = .ok (.iload_n 2, 1) := by decide +kernel
theorem dX12_going_1 : decode cX12_going 1 = .ok (.ifCond .eq 20, 3) := by decide +kernel
theorem dX12_going_4 : decode cX12_going 4 = .ok (.aload_n 0, 1) := by decide +kernel
theorem dX12_going_5 : decode cX12_going 5 = .ok (.getfield 7, 3) := by decide +kernel
theorem dX12_going_8 : decode cX12_going 8 = .ok (.sipush 208, 3) := by decide +kernel
theorem dX12_going_11 : decode cX12_going 11 = .ok (.iaload, 1) := by decide +kernel
theorem dX12_going_12 : decode cX12_going 12 = .ok (.iload_n 1, 1) := by decide +kernel
theorem dX12_going_13 : decode cX12_going 13 = .ok (.iload_n 3, 1) := by decide +kernel
theorem dX12_going_14 : decode cX12_going 14 = .ok (.iadd, 1) := by decide +kernel
theorem dX12_going_15 : decode cX12_going 15 = .ok (.invokestatic 349, 3) := by decide +kernel
theorem dX12_going_18 : decode cX12_going 18 = .ok (.goto 10, 3) := by decide +kernel
theorem dX12_going_21 : decode cX12_going 21 = .ok (.iconst 0, 1) := by decide +kernel
theorem dX12_going_22 : decode cX12_going 22 = .ok (.iload_n 1, 1) := by decide +kernel
theorem dX12_going_23 : decode cX12_going 23 = .ok (.iload_n 3, 1) := by decide +kernel
theorem dX12_going_24 : decode cX12_going 24 = .ok (.isub, 1) := by decide +kernel
theorem dX12_going_25 : decode cX12_going 25 = .ok (.invokestatic 297, 3) := by decide +kernel
theorem dX12_going_28 : decode cX12_going 28 = .ok (.ireturn, 1) := by decide +kernel
theorem dX12_runsTo_0 : decode cX12_runsTo 0 = .ok (.iload_n 1, 1) := by decide +kernel
theorem dX12_runsTo_1 : decode cX12_runsTo 1 = .ok (.istore 4, 2) := by decide +kernel
theorem dX12_runsTo_3 : decode cX12_runsTo 3 = .ok (.iconst 0, 1) := by decide +kernel
theorem dX12_runsTo_4 : decode cX12_runsTo 4 = .ok (.istore 5, 2) := by decide +kernel
theorem dX12_runsTo_6 : decode cX12_runsTo 6 = .ok (.iload 5, 2) := by decide +kernel
theorem dX12_runsTo_8 : decode cX12_runsTo 8 = .ok (.iload_n 3, 1) := by decide +kernel
theorem dX12_runsTo_9 : decode cX12_runsTo 9 = .ok (.if_icmp .ge 26, 3) := by decide +kernel
theorem dX12_runsTo_12 : decode cX12_runsTo 12 = .ok (.aload_n 0, 1) := by decide +kernel
theorem dX12_runsTo_13 : decode cX12_runsTo 13 = .ok (.iload 4, 2) := by decide +kernel
theorem dX12_runsTo_15 : decode cX12_runsTo 15 = .ok (.iload_n 2, 1) := by decide +kernel
theorem dX12_runsTo_16 : decode cX12_runsTo 16 = .ok (.aload_n 0, 1) := by decide +kernel
theorem dX12_runsTo_17 : decode cX12_runsTo 17 = .ok (.iload 4, 2) := by decide +kernel
theorem dX12_runsTo_19 : decode cX12_runsTo 19 = .ok (.iload_n 2, 1) := by decide +kernel
theorem dX12_runsTo_20 : decode cX12_runsTo 20 = .ok (.iload_n 3, 1) := by decide +kernel
theorem dX12_runsTo_21 : decode cX12_runsTo 21 = .ok (.invokevirtual 356, 3) := by decide +kernel
theorem dX12_runsTo_24 : decode cX12_runsTo 24 = .ok (.invokevirtual 360, 3) := by decide +kernel
theorem dX12_runsTo_27 : decode cX12_runsTo 27 = .ok (.istore 4, 2) := by decide +kernel
theorem dX12_runsTo_29 : decode cX12_runsTo 29 = .ok (.iinc 5 1, 3) := by decide +kernel
theorem dX12_runsTo_32 : decode cX12_runsTo 32 = .ok (.goto (-26), 3) := by decide +kernel
theorem dX12_runsTo_35 : decode cX12_runsTo 35 = .ok (.aload_n 0, 1) := by decide +kernel
theorem dX12_runsTo_36 : decode cX12_runsTo 36 = .ok (.iload 4, 2) := by decide +kernel
theorem dX12_runsTo_38 : decode cX12_runsTo 38 = .ok (.iload_n 2, 1) := by decide +kernel
theorem dX12_runsTo_39 : decode cX12_runsTo 39 = .ok (.aload_n 0, 1) := by decide +kernel
theorem dX12_runsTo_40 : decode cX12_runsTo 40 = .ok (.iload 4, 2) := by decide +kernel
theorem dX12_runsTo_42 : decode cX12_runsTo 42 = .ok (.iload_n 2, 1) := by decide +kernel
theorem dX12_runsTo_43 : decode cX12_runsTo 43 = .ok (.iload_n 3, 1) := by decide +kernel
theorem dX12_runsTo_44 : decode cX12_runsTo 44 = .ok (.invokevirtual 363, 3) := by decide +kernel
theorem dX12_runsTo_47 : decode cX12_runsTo 47 = .ok (.invokevirtual 360, 3) := by decide +kernel
theorem dX12_runsTo_50 : decode cX12_runsTo 50 = .ok (.ireturn, 1) := by decide +kernel
theorem dX12_thumbs_0 : decode cX12_thumbs 0 = .ok (.iconst 2, 1) := by decide +kernel
theorem dX12_thumbs_1 : decode cX12_thumbs 1 = .ok (.aload_n 0, 1) := by decide +kernel
theorem dX12_thumbs_2 : decode cX12_thumbs 2 = .ok (.getfield 7, 3) := by decide +kernel
theorem dX12_thumbs_5 : decode cX12_thumbs 5 = .ok (.sipush 209, 3) := by decide +kernel
theorem dX12_thumbs_8 : decode cX12_thumbs 8 = .ok (.iaload, 1) := by decide +kernel
theorem dX12_thumbs_9 : decode cX12_thumbs 9 = .ok (.imul, 1) := by decide +kernel
theorem dX12_thumbs_10 : decode cX12_thumbs 10 = .ok (.iconst 1, 1) := by decide +kernel
theorem dX12_thumbs_11 : decode cX12_thumbs 11 = .ok (.iadd, 1) := by decide +kernel
theorem dX12_thumbs_12 : decode cX12_thumbs 12 = .ok (.ireturn, 1) := by decide +kernel
theorem dX12_heldBy_0 : decode cX12_heldBy 0 = .ok (.iconst 0, 1) := by decide +kernel
theorem dX12_heldBy_1 : decode cX12_heldBy 1 = .ok (.iload_n 1, 1) := by decide +kernel
theorem dX12_heldBy_2 : decode cX12_heldBy 2 = .ok (.aload_n 0, 1) := by decide +kernel
theorem dX12_heldBy_3 : decode cX12_heldBy 3 = .ok (.getfield 7, 3) := by decide +kernel
theorem dX12_heldBy_6 : decode cX12_heldBy 6 = .ok (.sipush 209, 3) := by decide +kernel
theorem dX12_heldBy_9 : decode cX12_heldBy 9 = .ok (.iaload, 1) := by decide +kernel
theorem dX12_heldBy_10 : decode cX12_heldBy 10 = .ok (.isub, 1) := by decide +kernel
theorem dX12_heldBy_11 : decode cX12_heldBy 11 = .ok (.iload_n 2, 1) := by decide +kernel
theorem dX12_heldBy_12 : decode cX12_heldBy 12 = .ok (.iadd, 1) := by decide +kernel
theorem dX12_heldBy_13 : decode cX12_heldBy 13 = .ok (.invokestatic 297, 3) := by decide +kernel
theorem dX12_heldBy_16 : decode cX12_heldBy 16 = .ok (.ireturn, 1) := by decide +kernel
theorem dX12_keeps_0 : decode cX12_keeps 0 = .ok (.aload_n 0, 1) := by decide +kernel
theorem dX12_keeps_1 : decode cX12_keeps 1 = .ok (.getfield 87, 3) := by decide +kernel
theorem dX12_keeps_4 : decode cX12_keeps 4 = .ok (.bipush 6, 2) := by decide +kernel
theorem dX12_keeps_6 : decode cX12_keeps 6 = .ok (.if_icmp .ne 44, 3) := by decide +kernel
theorem dX12_keeps_9 : decode cX12_keeps 9 = .ok (.iconst 0, 1) := by decide +kernel
theorem dX12_keeps_10 : decode cX12_keeps 10 = .ok (.istore_n 1, 1) := by decide +kernel
theorem dX12_keeps_11 : decode cX12_keeps 11 = .ok (.iload_n 1, 1) := by decide +kernel
theorem dX12_keeps_12 : decode cX12_keeps 12 = .ok (.sipush 1040, 3) := by decide +kernel
theorem dX12_keeps_15 : decode cX12_keeps 15 = .ok (.if_icmp .ge 25, 3) := by decide +kernel
theorem dX12_keeps_18 : decode cX12_keeps 18 = .ok (.aload_n 0, 1) := by decide +kernel
theorem dX12_keeps_19 : decode cX12_keeps 19 = .ok (.getfield 16, 3) := by decide +kernel
theorem dX12_keeps_22 : decode cX12_keeps 22 = .ok (.iload_n 1, 1) := by decide +kernel
theorem dX12_keeps_23 : decode cX12_keeps 23 = .ok (.aload_n 0, 1) := by decide +kernel
theorem dX12_keeps_24 : decode cX12_keeps 24 = .ok (.getfield 16, 3) := by decide +kernel
theorem dX12_keeps_27 : decode cX12_keeps 27 = .ok (.iload_n 1, 1) := by decide +kernel
theorem dX12_keeps_28 : decode cX12_keeps 28 = .ok (.sipush 208, 3) := by decide +kernel
theorem dX12_keeps_31 : decode cX12_keeps 31 = .ok (.iadd, 1) := by decide +kernel
theorem dX12_keeps_32 : decode cX12_keeps 32 = .ok (.iaload, 1) := by decide +kernel
theorem dX12_keeps_33 : decode cX12_keeps 33 = .ok (.iastore, 1) := by decide +kernel
theorem dX12_keeps_34 : decode cX12_keeps 34 = .ok (.iinc 1 1, 3) := by decide +kernel
theorem dX12_keeps_37 : decode cX12_keeps 37 = .ok (.goto (-26), 3) := by decide +kernel
theorem dX12_keeps_40 : decode cX12_keeps 40 = .ok (.aload_n 0, 1) := by decide +kernel
theorem dX12_keeps_41 : decode cX12_keeps 41 = .ok (.dup, 1) := by decide +kernel
theorem dX12_keeps_42 : decode cX12_keeps 42 = .ok (.getfield 87, 3) := by decide +kernel
theorem dX12_keeps_45 : decode cX12_keeps 45 = .ok (.iconst 1, 1) := by decide +kernel
theorem dX12_keeps_46 : decode cX12_keeps 46 = .ok (.isub, 1) := by decide +kernel
theorem dX12_keeps_47 : decode cX12_keeps 47 = .ok (.putfield 87, 3) := by decide +kernel
theorem dX12_keeps_50 : decode cX12_keeps 50 = .ok (.iconst 0, 1) := by decide +kernel
theorem dX12_keeps_51 : decode cX12_keeps 51 = .ok (.istore_n 1, 1) := by decide +kernel
theorem dX12_keeps_52 : decode cX12_keeps 52 = .ok (.iload_n 1, 1) := by decide +kernel
theorem dX12_keeps_53 : decode cX12_keeps 53 = .ok (.sipush 208, 3) := by decide +kernel
theorem dX12_keeps_56 : decode cX12_keeps 56 = .ok (.if_icmp .ge 30, 3) := by decide +kernel
theorem dX12_keeps_59 : decode cX12_keeps 59 = .ok (.aload_n 0, 1) := by decide +kernel
theorem dX12_keeps_60 : decode cX12_keeps 60 = .ok (.getfield 16, 3) := by decide +kernel
theorem dX12_keeps_63 : decode cX12_keeps 63 = .ok (.sipush 208, 3) := by decide +kernel
theorem dX12_keeps_66 : decode cX12_keeps 66 = .ok (.aload_n 0, 1) := by decide +kernel
theorem dX12_keeps_67 : decode cX12_keeps 67 = .ok (.getfield 87, 3) := by decide +kernel
theorem dX12_keeps_70 : decode cX12_keeps 70 = .ok (.imul, 1) := by decide +kernel
theorem dX12_keeps_71 : decode cX12_keeps 71 = .ok (.iload_n 1, 1) := by decide +kernel
theorem dX12_keeps_72 : decode cX12_keeps 72 = .ok (.iadd, 1) := by decide +kernel
theorem dX12_keeps_73 : decode cX12_keeps 73 = .ok (.aload_n 0, 1) := by decide +kernel
theorem dX12_keeps_74 : decode cX12_keeps 74 = .ok (.getfield 7, 3) := by decide +kernel
theorem dX12_keeps_77 : decode cX12_keeps 77 = .ok (.iload_n 1, 1) := by decide +kernel
theorem dX12_keeps_78 : decode cX12_keeps 78 = .ok (.iaload, 1) := by decide +kernel
theorem dX12_keeps_79 : decode cX12_keeps 79 = .ok (.iastore, 1) := by decide +kernel
theorem dX12_keeps_80 : decode cX12_keeps 80 = .ok (.iinc 1 1, 3) := by decide +kernel
theorem dX12_keeps_83 : decode cX12_keeps 83 = .ok (.goto (-31), 3) := by decide +kernel
theorem dX12_keeps_86 : decode cX12_keeps 86 = .ok (.aload_n 0, 1) := by decide +kernel
theorem dX12_keeps_87 : decode cX12_keeps 87 = .ok (.dup, 1) := by decide +kernel
theorem dX12_keeps_88 : decode cX12_keeps 88 = .ok (.getfield 87, 3) := by decide +kernel
theorem dX12_keeps_91 : decode cX12_keeps 91 = .ok (.iconst 1, 1) := by decide +kernel
theorem dX12_keeps_92 : decode cX12_keeps 92 = .ok (.iadd, 1) := by decide +kernel
theorem dX12_keeps_93 : decode cX12_keeps 93 = .ok (.putfield 87, 3) := by decide +kernel
theorem dX12_keeps_96 : decode cX12_keeps 96 = .ok (.return_, 1) := by decide +kernel
theorem dX12_undo_0 : decode cX12_undo 0 = .ok (.aload_n 0, 1) := by decide +kernel
theorem dX12_undo_1 : decode cX12_undo 1 = .ok (.getfield 87, 3) := by decide +kernel
theorem dX12_undo_4 : decode cX12_undo 4 = .ok (.ifCond .ne 5, 3) := by decide +kernel
theorem dX12_undo_7 : decode cX12_undo 7 = .ok (.iconst 0, 1) := by decide +kernel
theorem dX12_undo_8 : decode cX12_undo 8 = .ok (.ireturn, 1) := by decide +kernel
theorem dX12_undo_9 : decode cX12_undo 9 = .ok (.aload_n 0, 1) := by decide +kernel
theorem dX12_undo_10 : decode cX12_undo 10 = .ok (.dup, 1) := by decide +kernel
theorem dX12_undo_11 : decode cX12_undo 11 = .ok (.getfield 87, 3) := by decide +kernel
theorem dX12_undo_14 : decode cX12_undo 14 = .ok (.iconst 1, 1) := by decide +kernel
theorem dX12_undo_15 : decode cX12_undo 15 = .ok (.isub, 1) := by decide +kernel
theorem dX12_undo_16 : decode cX12_undo 16 = .ok (.putfield 87, 3) := by decide +kernel
theorem dX12_undo_19 : decode cX12_undo 19 = .ok (.iconst 0, 1) := by decide +kernel
theorem dX12_undo_20 : decode cX12_undo 20 = .ok (.istore_n 1, 1) := by decide +kernel
theorem dX12_undo_21 : decode cX12_undo 21 = .ok (.iload_n 1, 1) := by decide +kernel
theorem dX12_undo_22 : decode cX12_undo 22 = .ok (.sipush 208, 3) := by decide +kernel
theorem dX12_undo_25 : decode cX12_undo 25 = .ok (.if_icmp .ge 30, 3) := by decide +kernel
theorem dX12_undo_28 : decode cX12_undo 28 = .ok (.aload_n 0, 1) := by decide +kernel
theorem dX12_undo_29 : decode cX12_undo 29 = .ok (.getfield 7, 3) := by decide +kernel
theorem dX12_undo_32 : decode cX12_undo 32 = .ok (.iload_n 1, 1) := by decide +kernel
theorem dX12_undo_33 : decode cX12_undo 33 = .ok (.aload_n 0, 1) := by decide +kernel
theorem dX12_undo_34 : decode cX12_undo 34 = .ok (.getfield 16, 3) := by decide +kernel
theorem dX12_undo_37 : decode cX12_undo 37 = .ok (.sipush 208, 3) := by decide +kernel
theorem dX12_undo_40 : decode cX12_undo 40 = .ok (.aload_n 0, 1) := by decide +kernel
theorem dX12_undo_41 : decode cX12_undo 41 = .ok (.getfield 87, 3) := by decide +kernel
theorem dX12_undo_44 : decode cX12_undo 44 = .ok (.imul, 1) := by decide +kernel
theorem dX12_undo_45 : decode cX12_undo 45 = .ok (.iload_n 1, 1) := by decide +kernel
theorem dX12_undo_46 : decode cX12_undo 46 = .ok (.iadd, 1) := by decide +kernel
theorem dX12_undo_47 : decode cX12_undo 47 = .ok (.iaload, 1) := by decide +kernel
theorem dX12_undo_48 : decode cX12_undo 48 = .ok (.iastore, 1) := by decide +kernel
theorem dX12_undo_49 : decode cX12_undo 49 = .ok (.iinc 1 1, 3) := by decide +kernel
theorem dX12_undo_52 : decode cX12_undo 52 = .ok (.goto (-31), 3) := by decide +kernel
theorem dX12_undo_55 : decode cX12_undo 55 = .ok (.iconst 1, 1) := by decide +kernel
theorem dX12_undo_56 : decode cX12_undo 56 = .ok (.ireturn, 1) := by decide +kernel
theorem dX12_notes_0 : decode cX12_notes 0 = .ok (.aload_n 0, 1) := by decide +kernel
theorem dX12_notes_1 : decode cX12_notes 1 = .ok (.getfield 7, 3) := by decide +kernel
theorem dX12_notes_4 : decode cX12_notes 4 = .ok (.bipush 6, 2) := by decide +kernel
theorem dX12_notes_6 : decode cX12_notes 6 = .ok (.iaload, 1) := by decide +kernel
theorem dX12_notes_7 : decode cX12_notes 7 = .ok (.sipush 150, 3) := by decide +kernel
theorem dX12_notes_10 : decode cX12_notes 10 = .ok (.if_icmp .ne 4, 3) := by decide +kernel
theorem dX12_notes_13 : decode cX12_notes 13 = .ok (.return_, 1) := by decide +kernel
theorem dX12_notes_14 : decode cX12_notes 14 = .ok (.sipush 954, 3) := by decide +kernel
theorem dX12_notes_17 : decode cX12_notes 17 = .ok (.iconst 4, 1) := by decide +kernel
theorem dX12_notes_18 : decode cX12_notes 18 = .ok (.aload_n 0, 1) := by decide +kernel
theorem dX12_notes_19 : decode cX12_notes 19 = .ok (.getfield 7, 3) := by decide +kernel
theorem dX12_notes_22 : decode cX12_notes 22 = .ok (.bipush 6, 2) := by decide +kernel
theorem dX12_notes_24 : decode cX12_notes 24 = .ok (.iaload, 1) := by decide +kernel
theorem dX12_notes_25 : decode cX12_notes 25 = .ok (.imul, 1) := by decide +kernel
theorem dX12_notes_26 : decode cX12_notes 26 = .ok (.iadd, 1) := by decide +kernel
theorem dX12_notes_27 : decode cX12_notes 27 = .ok (.istore_n 3, 1) := by decide +kernel
theorem dX12_notes_28 : decode cX12_notes 28 = .ok (.aload_n 0, 1) := by decide +kernel
theorem dX12_notes_29 : decode cX12_notes 29 = .ok (.getfield 7, 3) := by decide +kernel
theorem dX12_notes_32 : decode cX12_notes 32 = .ok (.iload_n 3, 1) := by decide +kernel
theorem dX12_notes_33 : decode cX12_notes 33 = .ok (.aload_n 0, 1) := by decide +kernel
theorem dX12_notes_34 : decode cX12_notes 34 = .ok (.getfield 7, 3) := by decide +kernel
theorem dX12_notes_37 : decode cX12_notes 37 = .ok (.iconst 4, 1) := by decide +kernel
theorem dX12_notes_38 : decode cX12_notes 38 = .ok (.iaload, 1) := by decide +kernel
theorem dX12_notes_39 : decode cX12_notes 39 = .ok (.iastore, 1) := by decide +kernel
theorem dX12_notes_40 : decode cX12_notes 40 = .ok (.aload_n 0, 1) := by decide +kernel
theorem dX12_notes_41 : decode cX12_notes 41 = .ok (.getfield 7, 3) := by decide +kernel
theorem dX12_notes_44 : decode cX12_notes 44 = .ok (.iload_n 3, 1) := by decide +kernel
theorem dX12_notes_45 : decode cX12_notes 45 = .ok (.iconst 1, 1) := by decide +kernel
theorem dX12_notes_46 : decode cX12_notes 46 = .ok (.iadd, 1) := by decide +kernel
theorem dX12_notes_47 : decode cX12_notes 47 = .ok (.iload_n 1, 1) := by decide +kernel
theorem dX12_notes_48 : decode cX12_notes 48 = .ok (.iastore, 1) := by decide +kernel
theorem dX12_notes_49 : decode cX12_notes 49 = .ok (.aload_n 0, 1) := by decide +kernel
theorem dX12_notes_50 : decode cX12_notes 50 = .ok (.getfield 7, 3) := by decide +kernel
theorem dX12_notes_53 : decode cX12_notes 53 = .ok (.iload_n 3, 1) := by decide +kernel
theorem dX12_notes_54 : decode cX12_notes 54 = .ok (.iconst 2, 1) := by decide +kernel
theorem dX12_notes_55 : decode cX12_notes 55 = .ok (.iadd, 1) := by decide +kernel
theorem dX12_notes_56 : decode cX12_notes 56 = .ok (.iload_n 2, 1) := by decide +kernel
theorem dX12_notes_57 : decode cX12_notes 57 = .ok (.iastore, 1) := by decide +kernel
theorem dX12_notes_58 : decode cX12_notes 58 = .ok (.aload_n 0, 1) := by decide +kernel
theorem dX12_notes_59 : decode cX12_notes 59 = .ok (.getfield 7, 3) := by decide +kernel
theorem dX12_notes_62 : decode cX12_notes 62 = .ok (.iload_n 3, 1) := by decide +kernel
theorem dX12_notes_63 : decode cX12_notes 63 = .ok (.iconst 3, 1) := by decide +kernel
theorem dX12_notes_64 : decode cX12_notes 64 = .ok (.iadd, 1) := by decide +kernel
theorem dX12_notes_65 : decode cX12_notes 65 = .ok (.aload_n 0, 1) := by decide +kernel
theorem dX12_notes_66 : decode cX12_notes 66 = .ok (.getfield 7, 3) := by decide +kernel
theorem dX12_notes_69 : decode cX12_notes 69 = .ok (.iconst 1, 1) := by decide +kernel
theorem dX12_notes_70 : decode cX12_notes 70 = .ok (.iaload, 1) := by decide +kernel
theorem dX12_notes_71 : decode cX12_notes 71 = .ok (.iastore, 1) := by decide +kernel
theorem dX12_notes_72 : decode cX12_notes 72 = .ok (.aload_n 0, 1) := by decide +kernel
theorem dX12_notes_73 : decode cX12_notes 73 = .ok (.getfield 7, 3) := by decide +kernel
theorem dX12_notes_76 : decode cX12_notes 76 = .ok (.bipush 6, 2) := by decide +kernel
theorem dX12_notes_78 : decode cX12_notes 78 = .ok (.dup2, 1) := by decide +kernel
theorem dX12_notes_79 : decode cX12_notes 79 = .ok (.iaload, 1) := by decide +kernel
theorem dX12_notes_80 : decode cX12_notes 80 = .ok (.iconst 1, 1) := by decide +kernel
theorem dX12_notes_81 : decode cX12_notes 81 = .ok (.iadd, 1) := by decide +kernel
theorem dX12_notes_82 : decode cX12_notes 82 = .ok (.iastore, 1) := by decide +kernel
theorem dX12_notes_83 : decode cX12_notes 83 = .ok (.return_, 1) := by decide +kernel
theorem dX12_counts_0 : decode cX12_counts 0 = .ok (.aload_n 0, 1) := by decide +kernel
theorem dX12_counts_1 : decode cX12_counts 1 = .ok (.getfield 7, 3) := by decide +kernel
theorem dX12_counts_4 : decode cX12_counts 4 = .ok (.iconst 2, 1) := by decide +kernel
theorem dX12_counts_5 : decode cX12_counts 5 = .ok (.aload_n 0, 1) := by decide +kernel
theorem dX12_counts_6 : decode cX12_counts 6 = .ok (.getfield 7, 3) := by decide +kernel
theorem dX12_counts_9 : decode cX12_counts 9 = .ok (.iconst 2, 1) := by decide +kernel
theorem dX12_counts_10 : decode cX12_counts 10 = .ok (.iaload, 1) := by decide +kernel
theorem dX12_counts_11 : decode cX12_counts 11 = .ok (.iload_n 1, 1) := by decide +kernel
theorem dX12_counts_12 : decode cX12_counts 12 = .ok (.iadd, 1) := by decide +kernel
theorem dX12_counts_13 : decode cX12_counts 13 = .ok (.sipush 1000, 3) := by decide +kernel
theorem dX12_counts_16 : decode cX12_counts 16 = .ok (.irem, 1) := by decide +kernel
theorem dX12_counts_17 : decode cX12_counts 17 = .ok (.sipush 1000, 3) := by decide +kernel
theorem dX12_counts_20 : decode cX12_counts 20 = .ok (.iadd, 1) := by decide +kernel
theorem dX12_counts_21 : decode cX12_counts 21 = .ok (.sipush 1000, 3) := by decide +kernel
theorem dX12_counts_24 : decode cX12_counts 24 = .ok (.irem, 1) := by decide +kernel
theorem dX12_counts_25 : decode cX12_counts 25 = .ok (.iastore, 1) := by decide +kernel
theorem dX12_counts_26 : decode cX12_counts 26 = .ok (.return_, 1) := by decide +kernel
theorem dX12_knowsNext_0 : decode cX12_knowsNext 0 = .ok (.iconst 0, 1) := by decide +kernel
theorem dX12_knowsNext_1 : decode cX12_knowsNext 1 = .ok (.istore_n 1, 1) := by decide +kernel
theorem dX12_knowsNext_2 : decode cX12_knowsNext 2 = .ok (.iload_n 1, 1) := by decide +kernel
theorem dX12_knowsNext_3 : decode cX12_knowsNext 3 = .ok (.sipush 201, 3) := by decide +kernel
theorem dX12_knowsNext_6 : decode cX12_knowsNext 6 = .ok (.if_icmp .ge 24, 3) := by decide +kernel
theorem dX12_knowsNext_9 : decode cX12_knowsNext 9 = .ok (.aload_n 0, 1) := by decide +kernel
theorem dX12_knowsNext_10 : decode cX12_knowsNext 10 = .ok (.getfield 7, 3) := by decide +kernel
theorem dX12_knowsNext_13 : decode cX12_knowsNext 13 = .ok (.bipush 7, 2) := by decide +kernel
theorem dX12_knowsNext_15 : decode cX12_knowsNext 15 = .ok (.iload_n 1, 1) := by decide +kernel
theorem dX12_knowsNext_16 : decode cX12_knowsNext 16 = .ok (.iadd, 1) := by decide +kernel
theorem dX12_knowsNext_17 : decode cX12_knowsNext 17 = .ok (.aload_n 0, 1) := by decide +kernel
theorem dX12_knowsNext_18 : decode cX12_knowsNext 18 = .ok (.getfield 19, 3) := by decide +kernel
theorem dX12_knowsNext_21 : decode cX12_knowsNext 21 = .ok (.iload_n 1, 1) := by decide +kernel
theorem dX12_knowsNext_22 : decode cX12_knowsNext 22 = .ok (.iaload, 1) := by decide +kernel
theorem dX12_knowsNext_23 : decode cX12_knowsNext 23 = .ok (.iastore, 1) := by decide +kernel
theorem dX12_knowsNext_24 : decode cX12_knowsNext 24 = .ok (.iinc 1 1, 3) := by decide +kernel
theorem dX12_knowsNext_27 : decode cX12_knowsNext 27 = .ok (.goto (-25), 3) := by decide +kernel
theorem dX12_knowsNext_30 : decode cX12_knowsNext 30 = .ok (.return_, 1) := by decide +kernel
theorem dX12_knowsWound_0 : decode cX12_knowsWound 0 = .ok (.iconst 0, 1) := by decide +kernel
theorem dX12_knowsWound_1 : decode cX12_knowsWound 1 = .ok (.istore_n 3, 1) := by decide +kernel
theorem dX12_knowsWound_2 : decode cX12_knowsWound 2 = .ok (.iload_n 3, 1) := by decide +kernel
theorem dX12_knowsWound_3 : decode cX12_knowsWound 3 = .ok (.sipush 201, 3) := by decide +kernel
theorem dX12_knowsWound_6 : decode cX12_knowsWound 6 = .ok (.if_icmp .ge 16, 3) := by decide +kernel
theorem dX12_knowsWound_9 : decode cX12_knowsWound 9 = .ok (.aload_n 0, 1) := by decide +kernel
theorem dX12_knowsWound_10 : decode cX12_knowsWound 10 = .ok (.getfield 19, 3) := by decide +kernel
theorem dX12_knowsWound_13 : decode cX12_knowsWound 13 = .ok (.iload_n 3, 1) := by decide +kernel
theorem dX12_knowsWound_14 : decode cX12_knowsWound 14 = .ok (.iconst 0, 1) := by decide +kernel
theorem dX12_knowsWound_15 : decode cX12_knowsWound 15 = .ok (.iastore, 1) := by decide +kernel
theorem dX12_knowsWound_16 : decode cX12_knowsWound 16 = .ok (.iinc 3 1, 3) := by decide +kernel
theorem dX12_knowsWound_19 : decode cX12_knowsWound 19 = .ok (.goto (-17), 3) := by decide +kernel
theorem dX12_knowsWound_22 : decode cX12_knowsWound 22 = .ok (.iconst 0, 1) := by decide +kernel
theorem dX12_knowsWound_23 : decode cX12_knowsWound 23 = .ok (.istore_n 3, 1) := by decide +kernel
theorem dX12_knowsWound_24 : decode cX12_knowsWound 24 = .ok (.iload_n 3, 1) := by decide +kernel
theorem dX12_knowsWound_25 : decode cX12_knowsWound 25 = .ok (.aload_n 0, 1) := by decide +kernel
theorem dX12_knowsWound_26 : decode cX12_knowsWound 26 = .ok (.getfield 7, 3) := by decide +kernel
theorem dX12_knowsWound_29 : decode cX12_knowsWound 29 = .ok (.sipush 208, 3) := by decide +kernel
theorem dX12_knowsWound_32 : decode cX12_knowsWound 32 = .ok (.iaload, 1) := by decide +kernel
theorem dX12_knowsWound_33 : decode cX12_knowsWound 33 = .ok (.if_icmp .gt 59, 3) := by decide +kernel
theorem dX12_knowsWound_36 : decode cX12_knowsWound 36 = .ok (.iconst 0, 1) := by decide +kernel
theorem dX12_knowsWound_37 : decode cX12_knowsWound 37 = .ok (.istore 4, 2) := by decide +kernel
theorem dX12_knowsWound_39 : decode cX12_knowsWound 39 = .ok (.iload 4, 2) := by decide +kernel
theorem dX12_knowsWound_41 : decode cX12_knowsWound 41 = .ok (.aload_n 0, 1) := by decide +kernel
theorem dX12_knowsWound_42 : decode cX12_knowsWound 42 = .ok (.invokevirtual 366, 3) := by decide +kernel
theorem dX12_knowsWound_45 : decode cX12_knowsWound 45 = .ok (.if_icmp .ge 41, 3) := by decide +kernel
theorem dX12_knowsWound_48 : decode cX12_knowsWound 48 = .ok (.aload_n 0, 1) := by decide +kernel
theorem dX12_knowsWound_49 : decode cX12_knowsWound 49 = .ok (.getfield 7, 3) := by decide +kernel
theorem dX12_knowsWound_52 : decode cX12_knowsWound 52 = .ok (.bipush 7, 2) := by decide +kernel
theorem dX12_knowsWound_54 : decode cX12_knowsWound 54 = .ok (.iload_n 3, 1) := by decide +kernel
theorem dX12_knowsWound_55 : decode cX12_knowsWound 55 = .ok (.iadd, 1) := by decide +kernel
theorem dX12_knowsWound_56 : decode cX12_knowsWound 56 = .ok (.iaload, 1) := by decide +kernel
theorem dX12_knowsWound_57 : decode cX12_knowsWound 57 = .ok (.iconst 1, 1) := by decide +kernel
theorem dX12_knowsWound_58 : decode cX12_knowsWound 58 = .ok (.if_icmp .ne 28, 3) := by decide +kernel
theorem dX12_knowsWound_61 : decode cX12_knowsWound 61 = .ok (.aload_n 0, 1) := by decide +kernel
theorem dX12_knowsWound_62 : decode cX12_knowsWound 62 = .ok (.getfield 19, 3) := by decide +kernel
theorem dX12_knowsWound_65 : decode cX12_knowsWound 65 = .ok (.aload_n 0, 1) := by decide +kernel
theorem dX12_knowsWound_66 : decode cX12_knowsWound 66 = .ok (.iload_n 3, 1) := by decide +kernel
theorem dX12_knowsWound_67 : decode cX12_knowsWound 67 = .ok (.iload_n 1, 1) := by decide +kernel
theorem dX12_knowsWound_68 : decode cX12_knowsWound 68 = .ok (.aload_n 0, 1) := by decide +kernel
theorem dX12_knowsWound_69 : decode cX12_knowsWound 69 = .ok (.iload_n 2, 1) := by decide +kernel
theorem dX12_knowsWound_70 : decode cX12_knowsWound 70 = .ok (.iload 4, 2) := by decide +kernel
theorem dX12_knowsWound_72 : decode cX12_knowsWound 72 = .ok (.invokevirtual 369, 3) := by decide +kernel
theorem dX12_knowsWound_75 : decode cX12_knowsWound 75 = .ok (.invokevirtual 372, 3) := by decide +kernel
theorem dX12_knowsWound_78 : decode cX12_knowsWound 78 = .ok (.iconst 1, 1) := by decide +kernel
theorem dX12_knowsWound_79 : decode cX12_knowsWound 79 = .ok (.iastore, 1) := by decide +kernel
theorem dX12_knowsWound_80 : decode cX12_knowsWound 80 = .ok (.iinc 4 1, 3) := by decide +kernel
theorem dX12_knowsWound_83 : decode cX12_knowsWound 83 = .ok (.goto (-44), 3) := by decide +kernel
theorem dX12_knowsWound_86 : decode cX12_knowsWound 86 = .ok (.iinc 3 1, 3) := by decide +kernel
theorem dX12_knowsWound_89 : decode cX12_knowsWound 89 = .ok (.goto (-65), 3) := by decide +kernel
theorem dX12_knowsWound_92 : decode cX12_knowsWound 92 = .ok (.aload_n 0, 1) := by decide +kernel
theorem dX12_knowsWound_93 : decode cX12_knowsWound 93 = .ok (.invokevirtual 375, 3) := by decide +kernel
theorem dX12_knowsWound_96 : decode cX12_knowsWound 96 = .ok (.return_, 1) := by decide +kernel
theorem dX12_goesBy_0 : decode cX12_goesBy 0 = .ok (.aload_n 0, 1) := by decide +kernel
theorem dX12_goesBy_1 : decode cX12_goesBy 1 = .ok (.getfield 7, 3) := by decide +kernel
theorem dX12_goesBy_4 : decode cX12_goesBy 4 = .ok (.iconst 1, 1) := by decide +kernel
theorem dX12_goesBy_5 : decode cX12_goesBy 5 = .ok (.iaload, 1) := by decide +kernel
theorem dX12_goesBy_6 : decode cX12_goesBy 6 = .ok (.istore 4, 2) := by decide +kernel
theorem dX12_goesBy_8 : decode cX12_goesBy 8 = .ok (.aload_n 0, 1) := by decide +kernel
theorem dX12_goesBy_9 : decode cX12_goesBy 9 = .ok (.getfield 7, 3) := by decide +kernel
theorem dX12_goesBy_12 : decode cX12_goesBy 12 = .ok (.iconst 1, 1) := by decide +kernel
theorem dX12_goesBy_13 : decode cX12_goesBy 13 = .ok (.aload_n 0, 1) := by decide +kernel
theorem dX12_goesBy_14 : decode cX12_goesBy 14 = .ok (.iload 4, 2) := by decide +kernel
theorem dX12_goesBy_16 : decode cX12_goesBy 16 = .ok (.iload_n 1, 1) := by decide +kernel
theorem dX12_goesBy_17 : decode cX12_goesBy 17 = .ok (.iload_n 2, 1) := by decide +kernel
theorem dX12_goesBy_18 : decode cX12_goesBy 18 = .ok (.invokevirtual 360, 3) := by decide +kernel
theorem dX12_goesBy_21 : decode cX12_goesBy 21 = .ok (.iastore, 1) := by decide +kernel
theorem dX12_goesBy_22 : decode cX12_goesBy 22 = .ok (.iload_n 3, 1) := by decide +kernel
theorem dX12_goesBy_23 : decode cX12_goesBy 23 = .ok (.ifCond .eq 16, 3) := by decide +kernel
theorem dX12_goesBy_26 : decode cX12_goesBy 26 = .ok (.aload_n 0, 1) := by decide +kernel
theorem dX12_goesBy_27 : decode cX12_goesBy 27 = .ok (.aload_n 0, 1) := by decide +kernel
theorem dX12_goesBy_28 : decode cX12_goesBy 28 = .ok (.getfield 7, 3) := by decide +kernel
theorem dX12_goesBy_31 : decode cX12_goesBy 31 = .ok (.iconst 1, 1) := by decide +kernel
theorem dX12_goesBy_32 : decode cX12_goesBy 32 = .ok (.iaload, 1) := by decide +kernel
theorem dX12_goesBy_33 : decode cX12_goesBy 33 = .ok (.iload 4, 2) := by decide +kernel
theorem dX12_goesBy_35 : decode cX12_goesBy 35 = .ok (.isub, 1) := by decide +kernel
theorem dX12_goesBy_36 : decode cX12_goesBy 36 = .ok (.invokevirtual 378, 3) := by decide +kernel
theorem dX12_goesBy_39 : decode cX12_goesBy 39 = .ok (.return_, 1) := by decide +kernel
theorem dX12_winds_0 : decode cX12_winds 0 = .ok (.iload_n 2, 1) := by decide +kernel
theorem dX12_winds_1 : decode cX12_winds 1 = .ok (.istore_n 3, 1) := by decide +kernel
theorem dX12_winds_2 : decode cX12_winds 2 = .ok (.aload_n 0, 1) := by decide +kernel
theorem dX12_winds_3 : decode cX12_winds 3 = .ok (.getfield 7, 3) := by decide +kernel
theorem dX12_winds_6 : decode cX12_winds 6 = .ok (.sipush 209, 3) := by decide +kernel
theorem dX12_winds_9 : decode cX12_winds 9 = .ok (.iaload, 1) := by decide +kernel
theorem dX12_winds_10 : decode cX12_winds 10 = .ok (.ifCond .le 27, 3) := by decide +kernel
theorem dX12_winds_13 : decode cX12_winds 13 = .ok (.iconst 0, 1) := by decide +kernel
theorem dX12_winds_14 : decode cX12_winds 14 = .ok (.iload_n 2, 1) := by decide +kernel
theorem dX12_winds_15 : decode cX12_winds 15 = .ok (.aload_n 0, 1) := by decide +kernel
theorem dX12_winds_16 : decode cX12_winds 16 = .ok (.aload_n 0, 1) := by decide +kernel
theorem dX12_winds_17 : decode cX12_winds 17 = .ok (.invokevirtual 366, 3) := by decide +kernel
theorem dX12_winds_20 : decode cX12_winds 20 = .ok (.invokevirtual 381, 3) := by decide +kernel
theorem dX12_winds_23 : decode cX12_winds 23 = .ok (.iadd, 1) := by decide +kernel
theorem dX12_winds_24 : decode cX12_winds 24 = .ok (.aload_n 0, 1) := by decide +kernel
theorem dX12_winds_25 : decode cX12_winds 25 = .ok (.getfield 7, 3) := by decide +kernel
theorem dX12_winds_28 : decode cX12_winds 28 = .ok (.sipush 209, 3) := by decide +kernel
theorem dX12_winds_31 : decode cX12_winds 31 = .ok (.iaload, 1) := by decide +kernel
theorem dX12_winds_32 : decode cX12_winds 32 = .ok (.isub, 1) := by decide +kernel
theorem dX12_winds_33 : decode cX12_winds 33 = .ok (.invokestatic 297, 3) := by decide +kernel
theorem dX12_winds_36 : decode cX12_winds 36 = .ok (.istore_n 3, 1) := by decide +kernel
theorem dX12_winds_37 : decode cX12_winds 37 = .ok (.aload_n 0, 1) := by decide +kernel
theorem dX12_winds_38 : decode cX12_winds 38 = .ok (.iload_n 1, 1) := by decide +kernel
theorem dX12_winds_39 : decode cX12_winds 39 = .ok (.iload_n 2, 1) := by decide +kernel
theorem dX12_winds_40 : decode cX12_winds 40 = .ok (.invokevirtual 384, 3) := by decide +kernel
theorem dX12_winds_43 : decode cX12_winds 43 = .ok (.iconst 0, 1) := by decide +kernel
theorem dX12_winds_44 : decode cX12_winds 44 = .ok (.istore 4, 2) := by decide +kernel
theorem dX12_winds_46 : decode cX12_winds 46 = .ok (.iload 4, 2) := by decide +kernel
theorem dX12_winds_48 : decode cX12_winds 48 = .ok (.iload_n 3, 1) := by decide +kernel
theorem dX12_winds_49 : decode cX12_winds 49 = .ok (.if_icmp .ge 78, 3) := by decide +kernel
theorem dX12_winds_52 : decode cX12_winds 52 = .ok (.aload_n 0, 1) := by decide +kernel
theorem dX12_winds_53 : decode cX12_winds 53 = .ok (.aload_n 0, 1) := by decide +kernel
theorem dX12_winds_54 : decode cX12_winds 54 = .ok (.getfield 7, 3) := by decide +kernel
theorem dX12_winds_57 : decode cX12_winds 57 = .ok (.iconst 1, 1) := by decide +kernel
theorem dX12_winds_58 : decode cX12_winds 58 = .ok (.iaload, 1) := by decide +kernel
theorem dX12_winds_59 : decode cX12_winds 59 = .ok (.iload_n 1, 1) := by decide +kernel
theorem dX12_winds_60 : decode cX12_winds 60 = .ok (.iload_n 3, 1) := by decide +kernel
theorem dX12_winds_61 : decode cX12_winds 61 = .ok (.invokevirtual 356, 3) := by decide +kernel
theorem dX12_winds_64 : decode cX12_winds 64 = .ok (.istore 5, 2) := by decide +kernel
theorem dX12_winds_66 : decode cX12_winds 66 = .ok (.aload_n 0, 1) := by decide +kernel
theorem dX12_winds_67 : decode cX12_winds 67 = .ok (.aload_n 0, 1) := by decide +kernel
theorem dX12_winds_68 : decode cX12_winds 68 = .ok (.getfield 7, 3) := by decide +kernel
theorem dX12_winds_71 : decode cX12_winds 71 = .ok (.iconst 1, 1) := by decide +kernel
theorem dX12_winds_72 : decode cX12_winds 72 = .ok (.iaload, 1) := by decide +kernel
theorem dX12_winds_73 : decode cX12_winds 73 = .ok (.iload_n 1, 1) := by decide +kernel
theorem dX12_winds_74 : decode cX12_winds 74 = .ok (.iload_n 3, 1) := by decide +kernel
theorem dX12_winds_75 : decode cX12_winds 75 = .ok (.invokevirtual 388, 3) := by decide +kernel
theorem dX12_winds_78 : decode cX12_winds 78 = .ok (.istore 6, 2) := by decide +kernel
theorem dX12_winds_80 : decode cX12_winds 80 = .ok (.iload 6, 2) := by decide +kernel
theorem dX12_winds_82 : decode cX12_winds 82 = .ok (.ifCond .le 19, 3) := by decide +kernel
theorem dX12_winds_85 : decode cX12_winds 85 = .ok (.aload_n 0, 1) := by decide +kernel
theorem dX12_winds_86 : decode cX12_winds 86 = .ok (.sipush 1000, 3) := by decide +kernel
theorem dX12_winds_89 : decode cX12_winds 89 = .ok (.invokevirtual 381, 3) := by decide +kernel
theorem dX12_winds_92 : decode cX12_winds 92 = .ok (.iload 6, 2) := by decide +kernel
theorem dX12_winds_94 : decode cX12_winds 94 = .ok (.if_icmp .ge 7, 3) := by decide +kernel
theorem dX12_winds_97 : decode cX12_winds 97 = .ok (.iconst 1, 1) := by decide +kernel
theorem dX12_winds_98 : decode cX12_winds 98 = .ok (.goto 4, 3) := by decide +kernel
theorem dX12_winds_101 : decode cX12_winds 101 = .ok (.iconst 0, 1) := by decide +kernel
theorem dX12_winds_102 : decode cX12_winds 102 = .ok (.istore 7, 2) := by decide +kernel
theorem dX12_winds_104 : decode cX12_winds 104 = .ok (.aload_n 0, 1) := by decide +kernel
theorem dX12_winds_105 : decode cX12_winds 105 = .ok (.iload_n 1, 1) := by decide +kernel
theorem dX12_winds_106 : decode cX12_winds 106 = .ok (.iload 5, 2) := by decide +kernel
theorem dX12_winds_108 : decode cX12_winds 108 = .ok (.iload 7, 2) := by decide +kernel
theorem dX12_winds_110 : decode cX12_winds 110 = .ok (.ifCond .ne 7, 3) := by decide +kernel
theorem dX12_winds_113 : decode cX12_winds 113 = .ok (.iconst 1, 1) := by decide +kernel
theorem dX12_winds_114 : decode cX12_winds 114 = .ok (.goto 4, 3) := by decide +kernel
theorem dX12_winds_117 : decode cX12_winds 117 = .ok (.iconst 0, 1) := by decide +kernel
theorem dX12_winds_118 : decode cX12_winds 118 = .ok (.invokevirtual 391, 3) := by decide +kernel
theorem dX12_winds_121 : decode cX12_winds 121 = .ok (.iinc 4 1, 3) := by decide +kernel
theorem dX12_winds_124 : decode cX12_winds 124 = .ok (.goto (-78), 3) := by decide +kernel
theorem dX12_winds_127 : decode cX12_winds 127 = .ok (.aload_n 0, 1) := by decide +kernel
theorem dX12_winds_128 : decode cX12_winds 128 = .ok (.iload_n 1, 1) := by decide +kernel
theorem dX12_winds_129 : decode cX12_winds 129 = .ok (.aload_n 0, 1) := by decide +kernel
theorem dX12_winds_130 : decode cX12_winds 130 = .ok (.aload_n 0, 1) := by decide +kernel
theorem dX12_winds_131 : decode cX12_winds 131 = .ok (.getfield 7, 3) := by decide +kernel
theorem dX12_winds_134 : decode cX12_winds 134 = .ok (.iconst 1, 1) := by decide +kernel
theorem dX12_winds_135 : decode cX12_winds 135 = .ok (.iaload, 1) := by decide +kernel
theorem dX12_winds_136 : decode cX12_winds 136 = .ok (.iload_n 1, 1) := by decide +kernel
theorem dX12_winds_137 : decode cX12_winds 137 = .ok (.iload_n 3, 1) := by decide +kernel
theorem dX12_winds_138 : decode cX12_winds 138 = .ok (.invokevirtual 363, 3) := by decide +kernel
theorem dX12_winds_141 : decode cX12_winds 141 = .ok (.iconst 1, 1) := by decide +kernel
theorem dX12_winds_142 : decode cX12_winds 142 = .ok (.invokevirtual 391, 3) := by decide +kernel
theorem dX12_winds_145 : decode cX12_winds 145 = .ok (.aload_n 0, 1) := by decide +kernel
theorem dX12_winds_146 : decode cX12_winds 146 = .ok (.getfield 7, 3) := by decide +kernel
theorem dX12_winds_149 : decode cX12_winds 149 = .ok (.iconst 3, 1) := by decide +kernel
theorem dX12_winds_150 : decode cX12_winds 150 = .ok (.dup2, 1) := by decide +kernel
theorem dX12_winds_151 : decode cX12_winds 151 = .ok (.iaload, 1) := by decide +kernel
theorem dX12_winds_152 : decode cX12_winds 152 = .ok (.iload_n 3, 1) := by decide +kernel
theorem dX12_winds_153 : decode cX12_winds 153 = .ok (.iconst 1, 1) := by decide +kernel
theorem dX12_winds_154 : decode cX12_winds 154 = .ok (.iadd, 1) := by decide +kernel
theorem dX12_winds_155 : decode cX12_winds 155 = .ok (.iadd, 1) := by decide +kernel
theorem dX12_winds_156 : decode cX12_winds 156 = .ok (.iastore, 1) := by decide +kernel
theorem dX12_winds_157 : decode cX12_winds 157 = .ok (.aload_n 0, 1) := by decide +kernel
theorem dX12_winds_158 : decode cX12_winds 158 = .ok (.getfield 7, 3) := by decide +kernel
theorem dX12_winds_161 : decode cX12_winds 161 = .ok (.iconst 4, 1) := by decide +kernel
theorem dX12_winds_162 : decode cX12_winds 162 = .ok (.dup2, 1) := by decide +kernel
theorem dX12_winds_163 : decode cX12_winds 163 = .ok (.iaload, 1) := by decide +kernel
theorem dX12_winds_164 : decode cX12_winds 164 = .ok (.iconst 1, 1) := by decide +kernel
theorem dX12_winds_165 : decode cX12_winds 165 = .ok (.iadd, 1) := by decide +kernel
theorem dX12_winds_166 : decode cX12_winds 166 = .ok (.iastore, 1) := by decide +kernel
theorem dX12_winds_167 : decode cX12_winds 167 = .ok (.aload_n 0, 1) := by decide +kernel
theorem dX12_winds_168 : decode cX12_winds 168 = .ok (.iload_n 1, 1) := by decide +kernel
theorem dX12_winds_169 : decode cX12_winds 169 = .ok (.ifCond .eq 7, 3) := by decide +kernel
theorem dX12_winds_172 : decode cX12_winds 172 = .ok (.iconst 0, 1) := by decide +kernel
theorem dX12_winds_173 : decode cX12_winds 173 = .ok (.goto 4, 3) := by decide +kernel
theorem dX12_winds_176 : decode cX12_winds 176 = .ok (.iconst 1, 1) := by decide +kernel
theorem dX12_winds_177 : decode cX12_winds 177 = .ok (.iload_n 3, 1) := by decide +kernel
theorem dX12_winds_178 : decode cX12_winds 178 = .ok (.invokevirtual 395, 3) := by decide +kernel
theorem dX12_winds_181 : decode cX12_winds 181 = .ok (.return_, 1) := by decide +kernel
theorem dX12_hears_0 : decode cX12_hears 0 = .ok (.iconst (-1), 1) := by decide +kernel
theorem dX12_hears_1 : decode cX12_hears 1 = .ok (.istore_n 2, 1) := by decide +kernel
theorem dX12_hears_2 : decode cX12_hears 2 = .ok (.iconst 0, 1) := by decide +kernel
theorem dX12_hears_3 : decode cX12_hears 3 = .ok (.istore_n 3, 1) := by decide +kernel
theorem dX12_hears_4 : decode cX12_hears 4 = .ok (.iload_n 3, 1) := by decide +kernel
theorem dX12_hears_5 : decode cX12_hears 5 = .ok (.iload_n 1, 1) := by decide +kernel
theorem dX12_hears_6 : decode cX12_hears 6 = .ok (.if_icmp .ge 135, 3) := by decide +kernel
theorem dX12_hears_9 : decode cX12_hears 9 = .ok (.aload_n 0, 1) := by decide +kernel
theorem dX12_hears_10 : decode cX12_hears 10 = .ok (.aload_n 0, 1) := by decide +kernel
theorem dX12_hears_11 : decode cX12_hears 11 = .ok (.getfield 7, 3) := by decide +kernel
theorem dX12_hears_14 : decode cX12_hears 14 = .ok (.iconst 0, 1) := by decide +kernel
theorem dX12_hears_15 : decode cX12_hears 15 = .ok (.iaload, 1) := by decide +kernel
theorem dX12_hears_16 : decode cX12_hears 16 = .ok (.aload_n 0, 1) := by decide +kernel
theorem dX12_hears_17 : decode cX12_hears 17 = .ok (.getfield 7, 3) := by decide +kernel
theorem dX12_hears_20 : decode cX12_hears 20 = .ok (.iconst 1, 1) := by decide +kernel
theorem dX12_hears_21 : decode cX12_hears 21 = .ok (.iaload, 1) := by decide +kernel
theorem dX12_hears_22 : decode cX12_hears 22 = .ok (.invokevirtual 340, 3) := by decide +kernel
theorem dX12_hears_25 : decode cX12_hears 25 = .ok (.istore_n 2, 1) := by decide +kernel
theorem dX12_hears_26 : decode cX12_hears 26 = .ok (.iconst 0, 1) := by decide +kernel
theorem dX12_hears_27 : decode cX12_hears 27 = .ok (.istore 4, 2) := by decide +kernel
theorem dX12_hears_29 : decode cX12_hears 29 = .ok (.iload 4, 2) := by decide +kernel
theorem dX12_hears_31 : decode cX12_hears 31 = .ok (.sipush 201, 3) := by decide +kernel
theorem dX12_hears_34 : decode cX12_hears 34 = .ok (.if_icmp .ge 17, 3) := by decide +kernel
theorem dX12_hears_37 : decode cX12_hears 37 = .ok (.aload_n 0, 1) := by decide +kernel
theorem dX12_hears_38 : decode cX12_hears 38 = .ok (.getfield 19, 3) := by decide +kernel
theorem dX12_hears_41 : decode cX12_hears 41 = .ok (.iload 4, 2) := by decide +kernel
theorem dX12_hears_43 : decode cX12_hears 43 = .ok (.iconst 0, 1) := by decide +kernel
theorem dX12_hears_44 : decode cX12_hears 44 = .ok (.iastore, 1) := by decide +kernel
theorem dX12_hears_45 : decode cX12_hears 45 = .ok (.iinc 4 1, 3) := by decide +kernel
theorem dX12_hears_48 : decode cX12_hears 48 = .ok (.goto (-19), 3) := by decide +kernel
theorem dX12_hears_51 : decode cX12_hears 51 = .ok (.iconst 0, 1) := by decide +kernel
theorem dX12_hears_52 : decode cX12_hears 52 = .ok (.istore 4, 2) := by decide +kernel
theorem dX12_hears_54 : decode cX12_hears 54 = .ok (.iload 4, 2) := by decide +kernel
theorem dX12_hears_56 : decode cX12_hears 56 = .ok (.aload_n 0, 1) := by decide +kernel
theorem dX12_hears_57 : decode cX12_hears 57 = .ok (.getfield 7, 3) := by decide +kernel
theorem dX12_hears_60 : decode cX12_hears 60 = .ok (.sipush 208, 3) := by decide +kernel
theorem dX12_hears_63 : decode cX12_hears 63 = .ok (.iaload, 1) := by decide +kernel
theorem dX12_hears_64 : decode cX12_hears 64 = .ok (.if_icmp .gt 60, 3) := by decide +kernel
theorem dX12_hears_67 : decode cX12_hears 67 = .ok (.aload_n 0, 1) := by decide +kernel
theorem dX12_hears_68 : decode cX12_hears 68 = .ok (.getfield 7, 3) := by decide +kernel
theorem dX12_hears_71 : decode cX12_hears 71 = .ok (.bipush 7, 2) := by decide +kernel
theorem dX12_hears_73 : decode cX12_hears 73 = .ok (.iload 4, 2) := by decide +kernel
theorem dX12_hears_75 : decode cX12_hears 75 = .ok (.iadd, 1) := by decide +kernel
theorem dX12_hears_76 : decode cX12_hears 76 = .ok (.iaload, 1) := by decide +kernel
theorem dX12_hears_77 : decode cX12_hears 77 = .ok (.iconst 1, 1) := by decide +kernel
theorem dX12_hears_78 : decode cX12_hears 78 = .ok (.if_icmp .ne 40, 3) := by decide +kernel
theorem dX12_hears_81 : decode cX12_hears 81 = .ok (.aload_n 0, 1) := by decide +kernel
theorem dX12_hears_82 : decode cX12_hears 82 = .ok (.aload_n 0, 1) := by decide +kernel
theorem dX12_hears_83 : decode cX12_hears 83 = .ok (.getfield 7, 3) := by decide +kernel
theorem dX12_hears_86 : decode cX12_hears 86 = .ok (.iconst 0, 1) := by decide +kernel
theorem dX12_hears_87 : decode cX12_hears 87 = .ok (.iaload, 1) := by decide +kernel
theorem dX12_hears_88 : decode cX12_hears 88 = .ok (.iload 4, 2) := by decide +kernel
theorem dX12_hears_90 : decode cX12_hears 90 = .ok (.invokevirtual 340, 3) := by decide +kernel
theorem dX12_hears_93 : decode cX12_hears 93 = .ok (.iload_n 2, 1) := by decide +kernel
theorem dX12_hears_94 : decode cX12_hears 94 = .ok (.if_icmp .ne 24, 3) := by decide +kernel
theorem dX12_hears_97 : decode cX12_hears 97 = .ok (.aload_n 0, 1) := by decide +kernel
theorem dX12_hears_98 : decode cX12_hears 98 = .ok (.getfield 19, 3) := by decide +kernel
theorem dX12_hears_101 : decode cX12_hears 101 = .ok (.aload_n 0, 1) := by decide +kernel
theorem dX12_hears_102 : decode cX12_hears 102 = .ok (.getfield 7, 3) := by decide +kernel
theorem dX12_hears_105 : decode cX12_hears 105 = .ok (.sipush 208, 3) := by decide +kernel
theorem dX12_hears_108 : decode cX12_hears 108 = .ok (.iaload, 1) := by decide +kernel
theorem dX12_hears_109 : decode cX12_hears 109 = .ok (.iload 4, 2) := by decide +kernel
theorem dX12_hears_111 : decode cX12_hears 111 = .ok (.iconst 1, 1) := by decide +kernel
theorem dX12_hears_112 : decode cX12_hears 112 = .ok (.iadd, 1) := by decide +kernel
theorem dX12_hears_113 : decode cX12_hears 113 = .ok (.invokestatic 349, 3) := by decide +kernel
theorem dX12_hears_116 : decode cX12_hears 116 = .ok (.iconst 1, 1) := by decide +kernel
theorem dX12_hears_117 : decode cX12_hears 117 = .ok (.iastore, 1) := by decide +kernel
theorem dX12_hears_118 : decode cX12_hears 118 = .ok (.iinc 4 1, 3) := by decide +kernel
theorem dX12_hears_121 : decode cX12_hears 121 = .ok (.goto (-67), 3) := by decide +kernel
theorem dX12_hears_124 : decode cX12_hears 124 = .ok (.aload_n 0, 1) := by decide +kernel
theorem dX12_hears_125 : decode cX12_hears 125 = .ok (.invokevirtual 375, 3) := by decide +kernel
theorem dX12_hears_128 : decode cX12_hears 128 = .ok (.aload_n 0, 1) := by decide +kernel
theorem dX12_hears_129 : decode cX12_hears 129 = .ok (.iconst 1, 1) := by decide +kernel
theorem dX12_hears_130 : decode cX12_hears 130 = .ok (.iconst 1, 1) := by decide +kernel
theorem dX12_hears_131 : decode cX12_hears 131 = .ok (.iconst 1, 1) := by decide +kernel
theorem dX12_hears_132 : decode cX12_hears 132 = .ok (.invokevirtual 391, 3) := by decide +kernel
theorem dX12_hears_135 : decode cX12_hears 135 = .ok (.iinc 3 1, 3) := by decide +kernel
theorem dX12_hears_138 : decode cX12_hears 138 = .ok (.goto (-134), 3) := by decide +kernel
theorem dX12_hears_141 : decode cX12_hears 141 = .ok (.aload_n 0, 1) := by decide +kernel
theorem dX12_hears_142 : decode cX12_hears 142 = .ok (.getfield 7, 3) := by decide +kernel
theorem dX12_hears_145 : decode cX12_hears 145 = .ok (.iconst 3, 1) := by decide +kernel
theorem dX12_hears_146 : decode cX12_hears 146 = .ok (.dup2, 1) := by decide +kernel
theorem dX12_hears_147 : decode cX12_hears 147 = .ok (.iaload, 1) := by decide +kernel
theorem dX12_hears_148 : decode cX12_hears 148 = .ok (.iload_n 1, 1) := by decide +kernel
theorem dX12_hears_149 : decode cX12_hears 149 = .ok (.iadd, 1) := by decide +kernel
theorem dX12_hears_150 : decode cX12_hears 150 = .ok (.iastore, 1) := by decide +kernel
theorem dX12_hears_151 : decode cX12_hears 151 = .ok (.aload_n 0, 1) := by decide +kernel
theorem dX12_hears_152 : decode cX12_hears 152 = .ok (.iconst 2, 1) := by decide +kernel
theorem dX12_hears_153 : decode cX12_hears 153 = .ok (.iload_n 1, 1) := by decide +kernel
theorem dX12_hears_154 : decode cX12_hears 154 = .ok (.invokevirtual 395, 3) := by decide +kernel
theorem dX12_hears_157 : decode cX12_hears 157 = .ok (.iload_n 2, 1) := by decide +kernel
theorem dX12_hears_158 : decode cX12_hears 158 = .ok (.ireturn, 1) := by decide +kernel
theorem dX12_turnsOver_0 : decode cX12_turnsOver 0 = .ok (.iconst 0, 1) := by decide +kernel
theorem dX12_turnsOver_1 : decode cX12_turnsOver 1 = .ok (.istore_n 1, 1) := by decide +kernel
theorem dX12_turnsOver_2 : decode cX12_turnsOver 2 = .ok (.iload_n 1, 1) := by decide +kernel
theorem dX12_turnsOver_3 : decode cX12_turnsOver 3 = .ok (.sipush 201, 3) := by decide +kernel
theorem dX12_turnsOver_6 : decode cX12_turnsOver 6 = .ok (.if_icmp .ge 49, 3) := by decide +kernel
theorem dX12_turnsOver_9 : decode cX12_turnsOver 9 = .ok (.aload_n 0, 1) := by decide +kernel
theorem dX12_turnsOver_10 : decode cX12_turnsOver 10 = .ok (.getfield 19, 3) := by decide +kernel
theorem dX12_turnsOver_13 : decode cX12_turnsOver 13 = .ok (.iload_n 1, 1) := by decide +kernel
theorem dX12_turnsOver_14 : decode cX12_turnsOver 14 = .ok (.iload_n 1, 1) := by decide +kernel
theorem dX12_turnsOver_15 : decode cX12_turnsOver 15 = .ok (.aload_n 0, 1) := by decide +kernel
theorem dX12_turnsOver_16 : decode cX12_turnsOver 16 = .ok (.getfield 7, 3) := by decide +kernel
theorem dX12_turnsOver_19 : decode cX12_turnsOver 19 = .ok (.sipush 208, 3) := by decide +kernel
theorem dX12_turnsOver_22 : decode cX12_turnsOver 22 = .ok (.iaload, 1) := by decide +kernel
theorem dX12_turnsOver_23 : decode cX12_turnsOver 23 = .ok (.if_icmp .gt 24, 3) := by decide +kernel
theorem dX12_turnsOver_26 : decode cX12_turnsOver 26 = .ok (.aload_n 0, 1) := by decide +kernel
theorem dX12_turnsOver_27 : decode cX12_turnsOver 27 = .ok (.getfield 7, 3) := by decide +kernel
theorem dX12_turnsOver_30 : decode cX12_turnsOver 30 = .ok (.bipush 7, 2) := by decide +kernel
theorem dX12_turnsOver_32 : decode cX12_turnsOver 32 = .ok (.aload_n 0, 1) := by decide +kernel
theorem dX12_turnsOver_33 : decode cX12_turnsOver 33 = .ok (.getfield 7, 3) := by decide +kernel
theorem dX12_turnsOver_36 : decode cX12_turnsOver 36 = .ok (.sipush 208, 3) := by decide +kernel
theorem dX12_turnsOver_39 : decode cX12_turnsOver 39 = .ok (.iaload, 1) := by decide +kernel
theorem dX12_turnsOver_40 : decode cX12_turnsOver 40 = .ok (.iadd, 1) := by decide +kernel
theorem dX12_turnsOver_41 : decode cX12_turnsOver 41 = .ok (.iload_n 1, 1) := by decide +kernel
theorem dX12_turnsOver_42 : decode cX12_turnsOver 42 = .ok (.isub, 1) := by decide +kernel
theorem dX12_turnsOver_43 : decode cX12_turnsOver 43 = .ok (.iaload, 1) := by decide +kernel
theorem dX12_turnsOver_44 : decode cX12_turnsOver 44 = .ok (.goto 4, 3) := by decide +kernel
theorem dX12_turnsOver_47 : decode cX12_turnsOver 47 = .ok (.iconst 0, 1) := by decide +kernel
theorem dX12_turnsOver_48 : decode cX12_turnsOver 48 = .ok (.iastore, 1) := by decide +kernel
theorem dX12_turnsOver_49 : decode cX12_turnsOver 49 = .ok (.iinc 1 1, 3) := by decide +kernel
theorem dX12_turnsOver_52 : decode cX12_turnsOver 52 = .ok (.goto (-50), 3) := by decide +kernel
theorem dX12_turnsOver_55 : decode cX12_turnsOver 55 = .ok (.aload_n 0, 1) := by decide +kernel
theorem dX12_turnsOver_56 : decode cX12_turnsOver 56 = .ok (.invokevirtual 375, 3) := by decide +kernel
theorem dX12_turnsOver_59 : decode cX12_turnsOver 59 = .ok (.aload_n 0, 1) := by decide +kernel
theorem dX12_turnsOver_60 : decode cX12_turnsOver 60 = .ok (.getfield 7, 3) := by decide +kernel
theorem dX12_turnsOver_63 : decode cX12_turnsOver 63 = .ok (.iconst 0, 1) := by decide +kernel
theorem dX12_turnsOver_64 : decode cX12_turnsOver 64 = .ok (.iconst 1, 1) := by decide +kernel
theorem dX12_turnsOver_65 : decode cX12_turnsOver 65 = .ok (.aload_n 0, 1) := by decide +kernel
theorem dX12_turnsOver_66 : decode cX12_turnsOver 66 = .ok (.getfield 7, 3) := by decide +kernel
theorem dX12_turnsOver_69 : decode cX12_turnsOver 69 = .ok (.iconst 0, 1) := by decide +kernel
theorem dX12_turnsOver_70 : decode cX12_turnsOver 70 = .ok (.iaload, 1) := by decide +kernel
theorem dX12_turnsOver_71 : decode cX12_turnsOver 71 = .ok (.isub, 1) := by decide +kernel
theorem dX12_turnsOver_72 : decode cX12_turnsOver 72 = .ok (.iastore, 1) := by decide +kernel
theorem dX12_turnsOver_73 : decode cX12_turnsOver 73 = .ok (.aload_n 0, 1) := by decide +kernel
theorem dX12_turnsOver_74 : decode cX12_turnsOver 74 = .ok (.getfield 7, 3) := by decide +kernel
theorem dX12_turnsOver_77 : decode cX12_turnsOver 77 = .ok (.iconst 1, 1) := by decide +kernel
theorem dX12_turnsOver_78 : decode cX12_turnsOver 78 = .ok (.aload_n 0, 1) := by decide +kernel
theorem dX12_turnsOver_79 : decode cX12_turnsOver 79 = .ok (.getfield 7, 3) := by decide +kernel
theorem dX12_turnsOver_82 : decode cX12_turnsOver 82 = .ok (.sipush 208, 3) := by decide +kernel
theorem dX12_turnsOver_85 : decode cX12_turnsOver 85 = .ok (.iaload, 1) := by decide +kernel
theorem dX12_turnsOver_86 : decode cX12_turnsOver 86 = .ok (.aload_n 0, 1) := by decide +kernel
theorem dX12_turnsOver_87 : decode cX12_turnsOver 87 = .ok (.getfield 7, 3) := by decide +kernel
theorem dX12_turnsOver_90 : decode cX12_turnsOver 90 = .ok (.iconst 1, 1) := by decide +kernel
theorem dX12_turnsOver_91 : decode cX12_turnsOver 91 = .ok (.iaload, 1) := by decide +kernel
theorem dX12_turnsOver_92 : decode cX12_turnsOver 92 = .ok (.isub, 1) := by decide +kernel
theorem dX12_turnsOver_93 : decode cX12_turnsOver 93 = .ok (.iastore, 1) := by decide +kernel
theorem dX12_turnsOver_94 : decode cX12_turnsOver 94 = .ok (.aload_n 0, 1) := by decide +kernel
theorem dX12_turnsOver_95 : decode cX12_turnsOver 95 = .ok (.getfield 7, 3) := by decide +kernel
theorem dX12_turnsOver_98 : decode cX12_turnsOver 98 = .ok (.iconst 3, 1) := by decide +kernel
theorem dX12_turnsOver_99 : decode cX12_turnsOver 99 = .ok (.dup2, 1) := by decide +kernel
theorem dX12_turnsOver_100 : decode cX12_turnsOver 100 = .ok (.iaload, 1) := by decide +kernel
theorem dX12_turnsOver_101 : decode cX12_turnsOver 101 = .ok (.bipush 8, 2) := by decide +kernel
theorem dX12_turnsOver_103 : decode cX12_turnsOver 103 = .ok (.iadd, 1) := by decide +kernel
theorem dX12_turnsOver_104 : decode cX12_turnsOver 104 = .ok (.iastore, 1) := by decide +kernel
theorem dX12_turnsOver_105 : decode cX12_turnsOver 105 = .ok (.aload_n 0, 1) := by decide +kernel
theorem dX12_turnsOver_106 : decode cX12_turnsOver 106 = .ok (.getfield 7, 3) := by decide +kernel
theorem dX12_turnsOver_109 : decode cX12_turnsOver 109 = .ok (.iconst 2, 1) := by decide +kernel
theorem dX12_turnsOver_110 : decode cX12_turnsOver 110 = .ok (.iconst 0, 1) := by decide +kernel
theorem dX12_turnsOver_111 : decode cX12_turnsOver 111 = .ok (.iastore, 1) := by decide +kernel
theorem dX12_turnsOver_112 : decode cX12_turnsOver 112 = .ok (.aload_n 0, 1) := by decide +kernel
theorem dX12_turnsOver_113 : decode cX12_turnsOver 113 = .ok (.iconst 3, 1) := by decide +kernel
theorem dX12_turnsOver_114 : decode cX12_turnsOver 114 = .ok (.iconst 0, 1) := by decide +kernel
theorem dX12_turnsOver_115 : decode cX12_turnsOver 115 = .ok (.invokevirtual 395, 3) := by decide +kernel
theorem dX12_turnsOver_118 : decode cX12_turnsOver 118 = .ok (.return_, 1) := by decide +kernel
theorem dX12_put_0 : decode cX12_put 0 = .ok (.aload_n 0, 1) := by decide +kernel
theorem dX12_put_1 : decode cX12_put 1 = .ok (.iload_n 1, 1) := by decide +kernel
theorem dX12_put_2 : decode cX12_put 2 = .ok (.invokevirtual 398, 3) := by decide +kernel
theorem dX12_put_5 : decode cX12_put 5 = .ok (.ifCond .ne 5, 3) := by decide +kernel
theorem dX12_put_8 : decode cX12_put 8 = .ok (.iconst 0, 1) := by decide +kernel
theorem dX12_put_9 : decode cX12_put 9 = .ok (.ireturn, 1) := by decide +kernel
theorem dX12_put_10 : decode cX12_put 10 = .ok (.aload_n 0, 1) := by decide +kernel
theorem dX12_put_11 : decode cX12_put 11 = .ok (.invokevirtual 401, 3) := by decide +kernel
theorem dX12_put_14 : decode cX12_put 14 = .ok (.aload_n 0, 1) := by decide +kernel
theorem dX12_put_15 : decode cX12_put 15 = .ok (.getfield 7, 3) := by decide +kernel
theorem dX12_put_18 : decode cX12_put 18 = .ok (.iconst 1, 1) := by decide +kernel
theorem dX12_put_19 : decode cX12_put 19 = .ok (.iload_n 1, 1) := by decide +kernel
theorem dX12_put_20 : decode cX12_put 20 = .ok (.iastore, 1) := by decide +kernel
theorem dX12_put_21 : decode cX12_put 21 = .ok (.aload_n 0, 1) := by decide +kernel
theorem dX12_put_22 : decode cX12_put 22 = .ok (.iload_n 1, 1) := by decide +kernel
theorem dX12_put_23 : decode cX12_put 23 = .ok (.invokevirtual 83, 3) := by decide +kernel
theorem dX12_put_26 : decode cX12_put 26 = .ok (.aload_n 0, 1) := by decide +kernel
theorem dX12_put_27 : decode cX12_put 27 = .ok (.getfield 7, 3) := by decide +kernel
theorem dX12_put_30 : decode cX12_put 30 = .ok (.iconst 2, 1) := by decide +kernel
theorem dX12_put_31 : decode cX12_put 31 = .ok (.iconst 0, 1) := by decide +kernel
theorem dX12_put_32 : decode cX12_put 32 = .ok (.iastore, 1) := by decide +kernel
theorem dX12_put_33 : decode cX12_put 33 = .ok (.aload_n 0, 1) := by decide +kernel
theorem dX12_put_34 : decode cX12_put 34 = .ok (.iconst 4, 1) := by decide +kernel
theorem dX12_put_35 : decode cX12_put 35 = .ok (.iload_n 1, 1) := by decide +kernel
theorem dX12_put_36 : decode cX12_put 36 = .ok (.invokevirtual 395, 3) := by decide +kernel
theorem dX12_put_39 : decode cX12_put 39 = .ok (.iconst 1, 1) := by decide +kernel
theorem dX12_put_40 : decode cX12_put 40 = .ok (.ireturn, 1) := by decide +kernel
theorem dX12_wind_0 : decode cX12_wind 0 = .ok (.iload_n 2, 1) := by decide +kernel
theorem dX12_wind_1 : decode cX12_wind 1 = .ok (.iconst 1, 1) := by decide +kernel
theorem dX12_wind_2 : decode cX12_wind 2 = .ok (.bipush 60, 2) := by decide +kernel
theorem dX12_wind_4 : decode cX12_wind 4 = .ok (.invokestatic 71, 3) := by decide +kernel
theorem dX12_wind_7 : decode cX12_wind 7 = .ok (.ifCond .ne 5, 3) := by decide +kernel
theorem dX12_wind_10 : decode cX12_wind 10 = .ok (.iconst (-1), 1) := by decide +kernel
theorem dX12_wind_11 : decode cX12_wind 11 = .ok (.ireturn, 1) := by decide +kernel
theorem dX12_wind_12 : decode cX12_wind 12 = .ok (.aload_n 0, 1) := by decide +kernel
theorem dX12_wind_13 : decode cX12_wind 13 = .ok (.invokevirtual 401, 3) := by decide +kernel
theorem dX12_wind_16 : decode cX12_wind 16 = .ok (.aload_n 0, 1) := by decide +kernel
theorem dX12_wind_17 : decode cX12_wind 17 = .ok (.iload_n 1, 1) := by decide +kernel
theorem dX12_wind_18 : decode cX12_wind 18 = .ok (.iload_n 2, 1) := by decide +kernel
theorem dX12_wind_19 : decode cX12_wind 19 = .ok (.invokevirtual 404, 3) := by decide +kernel
theorem dX12_wind_22 : decode cX12_wind 22 = .ok (.aload_n 0, 1) := by decide +kernel
theorem dX12_wind_23 : decode cX12_wind 23 = .ok (.getfield 7, 3) := by decide +kernel
theorem dX12_wind_26 : decode cX12_wind 26 = .ok (.iconst 1, 1) := by decide +kernel
theorem dX12_wind_27 : decode cX12_wind 27 = .ok (.iaload, 1) := by decide +kernel
theorem dX12_wind_28 : decode cX12_wind 28 = .ok (.ireturn, 1) := by decide +kernel
theorem dX12_hear_0 : decode cX12_hear 0 = .ok (.iload_n 1, 1) := by decide +kernel
theorem dX12_hear_1 : decode cX12_hear 1 = .ok (.iconst 1, 1) := by decide +kernel
theorem dX12_hear_2 : decode cX12_hear 2 = .ok (.bipush 30, 2) := by decide +kernel
theorem dX12_hear_4 : decode cX12_hear 4 = .ok (.invokestatic 71, 3) := by decide +kernel
theorem dX12_hear_7 : decode cX12_hear 7 = .ok (.ifCond .ne 5, 3) := by decide +kernel
theorem dX12_hear_10 : decode cX12_hear 10 = .ok (.iconst (-1), 1) := by decide +kernel
theorem dX12_hear_11 : decode cX12_hear 11 = .ok (.ireturn, 1) := by decide +kernel
theorem dX12_hear_12 : decode cX12_hear 12 = .ok (.aload_n 0, 1) := by decide +kernel
theorem dX12_hear_13 : decode cX12_hear 13 = .ok (.invokevirtual 401, 3) := by decide +kernel
theorem dX12_hear_16 : decode cX12_hear 16 = .ok (.aload_n 0, 1) := by decide +kernel
theorem dX12_hear_17 : decode cX12_hear 17 = .ok (.iload_n 1, 1) := by decide +kernel
theorem dX12_hear_18 : decode cX12_hear 18 = .ok (.invokevirtual 407, 3) := by decide +kernel
theorem dX12_hear_21 : decode cX12_hear 21 = .ok (.ireturn, 1) := by decide +kernel
theorem dX12_turn_0 : decode cX12_turn 0 = .ok (.aload_n 0, 1) := by decide +kernel
theorem dX12_turn_1 : decode cX12_turn 1 = .ok (.invokevirtual 401, 3) := by decide +kernel
theorem dX12_turn_4 : decode cX12_turn 4 = .ok (.aload_n 0, 1) := by decide +kernel
theorem dX12_turn_5 : decode cX12_turn 5 = .ok (.invokevirtual 410, 3) := by decide +kernel
theorem dX12_turn_8 : decode cX12_turn 8 = .ok (.aload_n 0, 1) := by decide +kernel
theorem dX12_turn_9 : decode cX12_turn 9 = .ok (.getfield 7, 3) := by decide +kernel
theorem dX12_turn_12 : decode cX12_turn 12 = .ok (.iconst 1, 1) := by decide +kernel
theorem dX12_turn_13 : decode cX12_turn 13 = .ok (.iaload, 1) := by decide +kernel
theorem dX12_turn_14 : decode cX12_turn 14 = .ok (.ireturn, 1) := by decide +kernel
theorem dX12_evening_0 : decode cX12_evening 0 = .ok (.aload_n 0, 1) := by decide +kernel
theorem dX12_evening_1 : decode cX12_evening 1 = .ok (.invokevirtual 401, 3) := by decide +kernel
theorem dX12_evening_4 : decode cX12_evening 4 = .ok (.iconst 0, 1) := by decide +kernel
theorem dX12_evening_5 : decode cX12_evening 5 = .ok (.istore_n 1, 1) := by decide +kernel
theorem dX12_evening_6 : decode cX12_evening 6 = .ok (.iload_n 1, 1) := by decide +kernel
theorem dX12_evening_7 : decode cX12_evening 7 = .ok (.aload_n 0, 1) := by decide +kernel
theorem dX12_evening_8 : decode cX12_evening 8 = .ok (.getfield 7, 3) := by decide +kernel
theorem dX12_evening_11 : decode cX12_evening 11 = .ok (.sipush 213, 3) := by decide +kernel
theorem dX12_evening_14 : decode cX12_evening 14 = .ok (.iaload, 1) := by decide +kernel
theorem dX12_evening_15 : decode cX12_evening 15 = .ok (.if_icmp .ge 87, 3) := by decide +kernel
theorem dX12_evening_18 : decode cX12_evening 18 = .ok (.aload_n 0, 1) := by decide +kernel
theorem dX12_evening_19 : decode cX12_evening 19 = .ok (.getfield 7, 3) := by decide +kernel
theorem dX12_evening_22 : decode cX12_evening 22 = .ok (.sipush 674, 3) := by decide +kernel
theorem dX12_evening_25 : decode cX12_evening 25 = .ok (.iload_n 1, 1) := by decide +kernel
theorem dX12_evening_26 : decode cX12_evening 26 = .ok (.iadd, 1) := by decide +kernel
theorem dX12_evening_27 : decode cX12_evening 27 = .ok (.iaload, 1) := by decide +kernel
theorem dX12_evening_28 : decode cX12_evening 28 = .ok (.bipush 100, 2) := by decide +kernel
theorem dX12_evening_30 : decode cX12_evening 30 = .ok (.idiv, 1) := by decide +kernel
theorem dX12_evening_31 : decode cX12_evening 31 = .ok (.istore_n 2, 1) := by decide +kernel
theorem dX12_evening_32 : decode cX12_evening 32 = .ok (.iload_n 2, 1) := by decide +kernel
theorem dX12_evening_33 : decode cX12_evening 33 = .ok (.iconst 3, 1) := by decide +kernel
theorem dX12_evening_34 : decode cX12_evening 34 = .ok (.if_icmp .ne 10, 3) := by decide +kernel
theorem dX12_evening_37 : decode cX12_evening 37 = .ok (.aload_n 0, 1) := by decide +kernel
theorem dX12_evening_38 : decode cX12_evening 38 = .ok (.invokevirtual 410, 3) := by decide +kernel
theorem dX12_evening_41 : decode cX12_evening 41 = .ok (.goto 55, 3) := by decide +kernel
theorem dX12_evening_44 : decode cX12_evening 44 = .ok (.iload_n 2, 1) := by decide +kernel
theorem dX12_evening_45 : decode cX12_evening 45 = .ok (.iconst 2, 1) := by decide +kernel
theorem dX12_evening_46 : decode cX12_evening 46 = .ok (.if_icmp .ne 24, 3) := by decide +kernel
theorem dX12_evening_49 : decode cX12_evening 49 = .ok (.aload_n 0, 1) := by decide +kernel
theorem dX12_evening_50 : decode cX12_evening 50 = .ok (.aload_n 0, 1) := by decide +kernel
theorem dX12_evening_51 : decode cX12_evening 51 = .ok (.getfield 7, 3) := by decide +kernel
theorem dX12_evening_54 : decode cX12_evening 54 = .ok (.sipush 674, 3) := by decide +kernel
theorem dX12_evening_57 : decode cX12_evening 57 = .ok (.iload_n 1, 1) := by decide +kernel
theorem dX12_evening_58 : decode cX12_evening 58 = .ok (.iadd, 1) := by decide +kernel
theorem dX12_evening_59 : decode cX12_evening 59 = .ok (.iaload, 1) := by decide +kernel
theorem dX12_evening_60 : decode cX12_evening 60 = .ok (.bipush 100, 2) := by decide +kernel
theorem dX12_evening_62 : decode cX12_evening 62 = .ok (.irem, 1) := by decide +kernel
theorem dX12_evening_63 : decode cX12_evening 63 = .ok (.invokevirtual 407, 3) := by decide +kernel
theorem dX12_evening_66 : decode cX12_evening 66 = .ok (.pop, 1) := by decide +kernel
theorem dX12_evening_67 : decode cX12_evening 67 = .ok (.goto 29, 3) := by decide +kernel
theorem dX12_evening_70 : decode cX12_evening 70 = .ok (.aload_n 0, 1) := by decide +kernel
theorem dX12_evening_71 : decode cX12_evening 71 = .ok (.iload_n 2, 1) := by decide +kernel
theorem dX12_evening_72 : decode cX12_evening 72 = .ok (.ifCond .ne 7, 3) := by decide +kernel
theorem dX12_evening_75 : decode cX12_evening 75 = .ok (.iconst 1, 1) := by decide +kernel
theorem dX12_evening_76 : decode cX12_evening 76 = .ok (.goto 4, 3) := by decide +kernel
theorem dX12_evening_79 : decode cX12_evening 79 = .ok (.iconst 0, 1) := by decide +kernel
theorem dX12_evening_80 : decode cX12_evening 80 = .ok (.aload_n 0, 1) := by decide +kernel
theorem dX12_evening_81 : decode cX12_evening 81 = .ok (.getfield 7, 3) := by decide +kernel
theorem dX12_evening_84 : decode cX12_evening 84 = .ok (.sipush 674, 3) := by decide +kernel
theorem dX12_evening_87 : decode cX12_evening 87 = .ok (.iload_n 1, 1) := by decide +kernel
theorem dX12_evening_88 : decode cX12_evening 88 = .ok (.iadd, 1) := by decide +kernel
theorem dX12_evening_89 : decode cX12_evening 89 = .ok (.iaload, 1) := by decide +kernel
theorem dX12_evening_90 : decode cX12_evening 90 = .ok (.bipush 100, 2) := by decide +kernel
theorem dX12_evening_92 : decode cX12_evening 92 = .ok (.irem, 1) := by decide +kernel
theorem dX12_evening_93 : decode cX12_evening 93 = .ok (.invokevirtual 404, 3) := by decide +kernel
theorem dX12_evening_96 : decode cX12_evening 96 = .ok (.iinc 1 1, 3) := by decide +kernel
theorem dX12_evening_99 : decode cX12_evening 99 = .ok (.goto (-93), 3) := by decide +kernel
theorem dX12_evening_102 : decode cX12_evening 102 = .ok (.aload_n 0, 1) := by decide +kernel
theorem dX12_evening_103 : decode cX12_evening 103 = .ok (.getfield 7, 3) := by decide +kernel
theorem dX12_evening_106 : decode cX12_evening 106 = .ok (.sipush 213, 3) := by decide +kernel
theorem dX12_evening_109 : decode cX12_evening 109 = .ok (.iaload, 1) := by decide +kernel
theorem dX12_evening_110 : decode cX12_evening 110 = .ok (.ireturn, 1) := by decide +kernel
theorem dX12_song_0 : decode cX12_song 0 = .ok (.aload_n 0, 1) := by decide +kernel
theorem dX12_song_1 : decode cX12_song 1 = .ok (.iload_n 1, 1) := by decide +kernel
theorem dX12_song_2 : decode cX12_song 2 = .ok (.invokevirtual 75, 3) := by decide +kernel
theorem dX12_song_5 : decode cX12_song 5 = .ok (.ifCond .eq 21, 3) := by decide +kernel
theorem dX12_song_8 : decode cX12_song 8 = .ok (.iload_n 2, 1) := by decide +kernel
theorem dX12_song_9 : decode cX12_song 9 = .ok (.iconst 0, 1) := by decide +kernel
theorem dX12_song_10 : decode cX12_song 10 = .ok (.iconst 3, 1) := by decide +kernel
theorem dX12_song_11 : decode cX12_song 11 = .ok (.invokestatic 71, 3) := by decide +kernel
theorem dX12_song_14 : decode cX12_song 14 = .ok (.ifCond .eq 12, 3) := by decide +kernel
theorem dX12_song_17 : decode cX12_song 17 = .ok (.aload_n 0, 1) := by decide +kernel
theorem dX12_song_18 : decode cX12_song 18 = .ok (.iload_n 1, 1) := by decide +kernel
theorem dX12_song_19 : decode cX12_song 19 = .ok (.iload_n 2, 1) := by decide +kernel
theorem dX12_song_20 : decode cX12_song 20 = .ok (.invokevirtual 79, 3) := by decide +kernel
theorem dX12_song_23 : decode cX12_song 23 = .ok (.goto 4, 3) := by decide +kernel
theorem dX12_song_26 : decode cX12_song 26 = .ok (.iconst (-1), 1) := by decide +kernel
theorem dX12_song_27 : decode cX12_song 27 = .ok (.ireturn, 1) := by decide +kernel
theorem dX12_at_0 : decode cX12_at 0 = .ok (.iload_n 1, 1) := by decide +kernel
theorem dX12_at_1 : decode cX12_at 1 = .ok (.iconst 0, 1) := by decide +kernel
theorem dX12_at_2 : decode cX12_at 2 = .ok (.iconst 1, 1) := by decide +kernel
theorem dX12_at_3 : decode cX12_at 3 = .ok (.invokestatic 71, 3) := by decide +kernel
theorem dX12_at_6 : decode cX12_at 6 = .ok (.ifCond .eq 20, 3) := by decide +kernel
theorem dX12_at_9 : decode cX12_at 9 = .ok (.aload_n 0, 1) := by decide +kernel
theorem dX12_at_10 : decode cX12_at 10 = .ok (.iload_n 2, 1) := by decide +kernel
theorem dX12_at_11 : decode cX12_at 11 = .ok (.invokevirtual 398, 3) := by decide +kernel
theorem dX12_at_14 : decode cX12_at 14 = .ok (.ifCond .eq 12, 3) := by decide +kernel
theorem dX12_at_17 : decode cX12_at 17 = .ok (.aload_n 0, 1) := by decide +kernel
theorem dX12_at_18 : decode cX12_at 18 = .ok (.iload_n 1, 1) := by decide +kernel
theorem dX12_at_19 : decode cX12_at 19 = .ok (.iload_n 2, 1) := by decide +kernel
theorem dX12_at_20 : decode cX12_at 20 = .ok (.invokevirtual 340, 3) := by decide +kernel
theorem dX12_at_23 : decode cX12_at 23 = .ok (.goto 4, 3) := by decide +kernel
theorem dX12_at_26 : decode cX12_at 26 = .ok (.iconst (-1), 1) := by decide +kernel
theorem dX12_at_27 : decode cX12_at 27 = .ok (.ireturn, 1) := by decide +kernel
theorem dX12_after_0 : decode cX12_after 0 = .ok (.aload_n 0, 1) := by decide +kernel
theorem dX12_after_1 : decode cX12_after 1 = .ok (.iload_n 1, 1) := by decide +kernel
theorem dX12_after_2 : decode cX12_after 2 = .ok (.invokevirtual 75, 3) := by decide +kernel
theorem dX12_after_5 : decode cX12_after 5 = .ok (.ifCond .eq 34, 3) := by decide +kernel
theorem dX12_after_8 : decode cX12_after 8 = .ok (.aload_n 0, 1) := by decide +kernel
theorem dX12_after_9 : decode cX12_after 9 = .ok (.iload_n 2, 1) := by decide +kernel
theorem dX12_after_10 : decode cX12_after 10 = .ok (.invokevirtual 75, 3) := by decide +kernel
theorem dX12_after_13 : decode cX12_after 13 = .ok (.ifCond .eq 26, 3) := by decide +kernel
theorem dX12_after_16 : decode cX12_after 16 = .ok (.iload_n 1, 1) := by decide +kernel
theorem dX12_after_17 : decode cX12_after 17 = .ok (.iload_n 2, 1) := by decide +kernel
theorem dX12_after_18 : decode cX12_after 18 = .ok (.if_icmp .eq 21, 3) := by decide +kernel
theorem dX12_after_21 : decode cX12_after 21 = .ok (.aload_n 0, 1) := by decide +kernel
theorem dX12_after_22 : decode cX12_after 22 = .ok (.getfield 7, 3) := by decide +kernel
theorem dX12_after_25 : decode cX12_after 25 = .ok (.sipush 734, 3) := by decide +kernel
theorem dX12_after_28 : decode cX12_after 28 = .ok (.bipush 14, 2) := by decide +kernel
theorem dX12_after_30 : decode cX12_after 30 = .ok (.iload_n 1, 1) := by decide +kernel
theorem dX12_after_31 : decode cX12_after 31 = .ok (.imul, 1) := by decide +kernel
theorem dX12_after_32 : decode cX12_after 32 = .ok (.iadd, 1) := by decide +kernel
theorem dX12_after_33 : decode cX12_after 33 = .ok (.iload_n 2, 1) := by decide +kernel
theorem dX12_after_34 : decode cX12_after 34 = .ok (.iadd, 1) := by decide +kernel
theorem dX12_after_35 : decode cX12_after 35 = .ok (.iaload, 1) := by decide +kernel
theorem dX12_after_36 : decode cX12_after 36 = .ok (.goto 4, 3) := by decide +kernel
theorem dX12_after_39 : decode cX12_after 39 = .ok (.iconst (-1), 1) := by decide +kernel
theorem dX12_after_40 : decode cX12_after 40 = .ok (.ireturn, 1) := by decide +kernel
theorem dX12_known_0 : decode cX12_known 0 = .ok (.aload_n 0, 1) := by decide +kernel
theorem dX12_known_1 : decode cX12_known 1 = .ok (.iload_n 1, 1) := by decide +kernel
theorem dX12_known_2 : decode cX12_known 2 = .ok (.invokevirtual 398, 3) := by decide +kernel
theorem dX12_known_5 : decode cX12_known 5 = .ok (.ifCond .eq 15, 3) := by decide +kernel
theorem dX12_known_8 : decode cX12_known 8 = .ok (.aload_n 0, 1) := by decide +kernel
theorem dX12_known_9 : decode cX12_known 9 = .ok (.getfield 7, 3) := by decide +kernel
theorem dX12_known_12 : decode cX12_known 12 = .ok (.bipush 7, 2) := by decide +kernel
theorem dX12_known_14 : decode cX12_known 14 = .ok (.iload_n 1, 1) := by decide +kernel
theorem dX12_known_15 : decode cX12_known 15 = .ok (.iadd, 1) := by decide +kernel
theorem dX12_known_16 : decode cX12_known 16 = .ok (.iaload, 1) := by decide +kernel
theorem dX12_known_17 : decode cX12_known 17 = .ok (.goto 4, 3) := by decide +kernel
theorem dX12_known_20 : decode cX12_known 20 = .ok (.iconst (-1), 1) := by decide +kernel
theorem dX12_known_21 : decode cX12_known 21 = .ok (.ireturn, 1) := by decide +kernel
theorem dX12_lawAt_0 : decode cX12_lawAt 0 = .ok (.aload_n 0, 1) := by decide +kernel
theorem dX12_lawAt_1 : decode cX12_lawAt 1 = .ok (.iload_n 1, 1) := by decide +kernel
theorem dX12_lawAt_2 : decode cX12_lawAt 2 = .ok (.invokevirtual 398, 3) := by decide +kernel
theorem dX12_lawAt_5 : decode cX12_lawAt 5 = .ok (.ifCond .eq 13, 3) := by decide +kernel
theorem dX12_lawAt_8 : decode cX12_lawAt 8 = .ok (.iload_n 3, 1) := by decide +kernel
theorem dX12_lawAt_9 : decode cX12_lawAt 9 = .ok (.iconst 0, 1) := by decide +kernel
theorem dX12_lawAt_10 : decode cX12_lawAt 10 = .ok (.bipush 64, 2) := by decide +kernel
theorem dX12_lawAt_12 : decode cX12_lawAt 12 = .ok (.invokestatic 71, 3) := by decide +kernel
theorem dX12_lawAt_15 : decode cX12_lawAt 15 = .ok (.ifCond .ne 5, 3) := by decide +kernel
theorem dX12_lawAt_18 : decode cX12_lawAt 18 = .ok (.iconst (-1), 1) := by decide +kernel
theorem dX12_lawAt_19 : decode cX12_lawAt 19 = .ok (.ireturn, 1) := by decide +kernel
theorem dX12_lawAt_20 : decode cX12_lawAt 20 = .ok (.iload 4, 2) := by decide +kernel
theorem dX12_lawAt_22 : decode cX12_lawAt 22 = .ok (.tableswitch 50 0 2 #[26, 34, 42], 26) := by decide +kernel
theorem dX12_lawAt_48 : decode cX12_lawAt 48 = .ok (.aload_n 0, 1) := by decide +kernel
theorem dX12_lawAt_49 : decode cX12_lawAt 49 = .ok (.iload_n 1, 1) := by decide +kernel
theorem dX12_lawAt_50 : decode cX12_lawAt 50 = .ok (.iload_n 2, 1) := by decide +kernel
theorem dX12_lawAt_51 : decode cX12_lawAt 51 = .ok (.iload_n 3, 1) := by decide +kernel
theorem dX12_lawAt_52 : decode cX12_lawAt 52 = .ok (.invokevirtual 356, 3) := by decide +kernel
theorem dX12_lawAt_55 : decode cX12_lawAt 55 = .ok (.ireturn, 1) := by decide +kernel
theorem dX12_lawAt_56 : decode cX12_lawAt 56 = .ok (.aload_n 0, 1) := by decide +kernel
theorem dX12_lawAt_57 : decode cX12_lawAt 57 = .ok (.iload_n 1, 1) := by decide +kernel
theorem dX12_lawAt_58 : decode cX12_lawAt 58 = .ok (.iload_n 2, 1) := by decide +kernel
theorem dX12_lawAt_59 : decode cX12_lawAt 59 = .ok (.iload_n 3, 1) := by decide +kernel
theorem dX12_lawAt_60 : decode cX12_lawAt 60 = .ok (.invokevirtual 363, 3) := by decide +kernel
theorem dX12_lawAt_63 : decode cX12_lawAt 63 = .ok (.ireturn, 1) := by decide +kernel
theorem dX12_lawAt_64 : decode cX12_lawAt 64 = .ok (.aload_n 0, 1) := by decide +kernel
theorem dX12_lawAt_65 : decode cX12_lawAt 65 = .ok (.iload_n 1, 1) := by decide +kernel
theorem dX12_lawAt_66 : decode cX12_lawAt 66 = .ok (.iload_n 2, 1) := by decide +kernel
theorem dX12_lawAt_67 : decode cX12_lawAt 67 = .ok (.iload_n 3, 1) := by decide +kernel
theorem dX12_lawAt_68 : decode cX12_lawAt 68 = .ok (.invokevirtual 388, 3) := by decide +kernel
theorem dX12_lawAt_71 : decode cX12_lawAt 71 = .ok (.ireturn, 1) := by decide +kernel
theorem dX12_lawAt_72 : decode cX12_lawAt 72 = .ok (.iconst (-1), 1) := by decide +kernel
theorem dX12_lawAt_73 : decode cX12_lawAt 73 = .ok (.ireturn, 1) := by decide +kernel
theorem dX12_book_0 : decode cX12_book 0 = .ok (.iload_n 1, 1) := by decide +kernel
theorem dX12_book_1 : decode cX12_book 1 = .ok (.iconst 0, 1) := by decide +kernel
theorem dX12_book_2 : decode cX12_book 2 = .ok (.aload_n 0, 1) := by decide +kernel
theorem dX12_book_3 : decode cX12_book 3 = .ok (.getfield 7, 3) := by decide +kernel
theorem dX12_book_6 : decode cX12_book 6 = .ok (.bipush 6, 2) := by decide +kernel
theorem dX12_book_8 : decode cX12_book 8 = .ok (.iaload, 1) := by decide +kernel
theorem dX12_book_9 : decode cX12_book 9 = .ok (.iconst 1, 1) := by decide +kernel
theorem dX12_book_10 : decode cX12_book 10 = .ok (.isub, 1) := by decide +kernel
theorem dX12_book_11 : decode cX12_book 11 = .ok (.invokestatic 71, 3) := by decide +kernel
theorem dX12_book_14 : decode cX12_book 14 = .ok (.ifCond .eq 29, 3) := by decide +kernel
theorem dX12_book_17 : decode cX12_book 17 = .ok (.iload_n 2, 1) := by decide +kernel
theorem dX12_book_18 : decode cX12_book 18 = .ok (.iconst 0, 1) := by decide +kernel
theorem dX12_book_19 : decode cX12_book 19 = .ok (.iconst 3, 1) := by decide +kernel
theorem dX12_book_20 : decode cX12_book 20 = .ok (.invokestatic 71, 3) := by decide +kernel
theorem dX12_book_23 : decode cX12_book 23 = .ok (.ifCond .eq 20, 3) := by decide +kernel
theorem dX12_book_26 : decode cX12_book 26 = .ok (.aload_n 0, 1) := by decide +kernel
theorem dX12_book_27 : decode cX12_book 27 = .ok (.getfield 7, 3) := by decide +kernel
theorem dX12_book_30 : decode cX12_book 30 = .ok (.sipush 954, 3) := by decide +kernel
theorem dX12_book_33 : decode cX12_book 33 = .ok (.iconst 4, 1) := by decide +kernel
theorem dX12_book_34 : decode cX12_book 34 = .ok (.iload_n 1, 1) := by decide +kernel
theorem dX12_book_35 : decode cX12_book 35 = .ok (.imul, 1) := by decide +kernel
theorem dX12_book_36 : decode cX12_book 36 = .ok (.iadd, 1) := by decide +kernel
theorem dX12_book_37 : decode cX12_book 37 = .ok (.iload_n 2, 1) := by decide +kernel
theorem dX12_book_38 : decode cX12_book 38 = .ok (.iadd, 1) := by decide +kernel
theorem dX12_book_39 : decode cX12_book 39 = .ok (.iaload, 1) := by decide +kernel
theorem dX12_book_40 : decode cX12_book 40 = .ok (.goto 4, 3) := by decide +kernel
theorem dX12_book_43 : decode cX12_book 43 = .ok (.iconst (-1), 1) := by decide +kernel
theorem dX12_book_44 : decode cX12_book 44 = .ok (.ireturn, 1) := by decide +kernel
theorem dX12_runs_0 : decode cX12_runs 0 = .ok (.aload_n 0, 1) := by decide +kernel
theorem dX12_runs_1 : decode cX12_runs 1 = .ok (.iload_n 1, 1) := by decide +kernel
theorem dX12_runs_2 : decode cX12_runs 2 = .ok (.invokevirtual 398, 3) := by decide +kernel
theorem dX12_runs_5 : decode cX12_runs 5 = .ok (.ifCond .eq 23, 3) := by decide +kernel
theorem dX12_runs_8 : decode cX12_runs 8 = .ok (.iload_n 3, 1) := by decide +kernel
theorem dX12_runs_9 : decode cX12_runs 9 = .ok (.iconst 0, 1) := by decide +kernel
theorem dX12_runs_10 : decode cX12_runs 10 = .ok (.bipush 64, 2) := by decide +kernel
theorem dX12_runs_12 : decode cX12_runs 12 = .ok (.invokestatic 71, 3) := by decide +kernel
theorem dX12_runs_15 : decode cX12_runs 15 = .ok (.ifCond .eq 13, 3) := by decide +kernel
theorem dX12_runs_18 : decode cX12_runs 18 = .ok (.aload_n 0, 1) := by decide +kernel
theorem dX12_runs_19 : decode cX12_runs 19 = .ok (.iload_n 1, 1) := by decide +kernel
theorem dX12_runs_20 : decode cX12_runs 20 = .ok (.iload_n 2, 1) := by decide +kernel
theorem dX12_runs_21 : decode cX12_runs 21 = .ok (.iload_n 3, 1) := by decide +kernel
theorem dX12_runs_22 : decode cX12_runs 22 = .ok (.invokevirtual 372, 3) := by decide +kernel
theorem dX12_runs_25 : decode cX12_runs 25 = .ok (.goto 4, 3) := by decide +kernel
theorem dX12_runs_28 : decode cX12_runs 28 = .ok (.iconst (-1), 1) := by decide +kernel
theorem dX12_runs_29 : decode cX12_runs 29 = .ok (.ireturn, 1) := by decide +kernel
theorem dX12_costOf_0 : decode cX12_costOf 0 = .ok (.iconst 0, 1) := by decide +kernel
theorem dX12_costOf_1 : decode cX12_costOf 1 = .ok (.istore 5, 2) := by decide +kernel
theorem dX12_costOf_3 : decode cX12_costOf 3 = .ok (.iconst 0, 1) := by decide +kernel
theorem dX12_costOf_4 : decode cX12_costOf 4 = .ok (.istore 6, 2) := by decide +kernel
theorem dX12_costOf_6 : decode cX12_costOf 6 = .ok (.iload 6, 2) := by decide +kernel
theorem dX12_costOf_8 : decode cX12_costOf 8 = .ok (.aload_n 0, 1) := by decide +kernel
theorem dX12_costOf_9 : decode cX12_costOf 9 = .ok (.invokevirtual 366, 3) := by decide +kernel
theorem dX12_costOf_12 : decode cX12_costOf 12 = .ok (.if_icmp .ge 67, 3) := by decide +kernel
theorem dX12_costOf_15 : decode cX12_costOf 15 = .ok (.aload_n 0, 1) := by decide +kernel
theorem dX12_costOf_16 : decode cX12_costOf 16 = .ok (.iload 4, 2) := by decide +kernel
theorem dX12_costOf_18 : decode cX12_costOf 18 = .ok (.iload 6, 2) := by decide +kernel
theorem dX12_costOf_20 : decode cX12_costOf 20 = .ok (.invokevirtual 369, 3) := by decide +kernel
theorem dX12_costOf_23 : decode cX12_costOf 23 = .ok (.istore 7, 2) := by decide +kernel
theorem dX12_costOf_25 : decode cX12_costOf 25 = .ok (.aload_n 0, 1) := by decide +kernel
theorem dX12_costOf_26 : decode cX12_costOf 26 = .ok (.iload_n 1, 1) := by decide +kernel
theorem dX12_costOf_27 : decode cX12_costOf 27 = .ok (.iload_n 3, 1) := by decide +kernel
theorem dX12_costOf_28 : decode cX12_costOf 28 = .ok (.iload 7, 2) := by decide +kernel
theorem dX12_costOf_30 : decode cX12_costOf 30 = .ok (.invokevirtual 372, 3) := by decide +kernel
theorem dX12_costOf_33 : decode cX12_costOf 33 = .ok (.istore 8, 2) := by decide +kernel
theorem dX12_costOf_35 : decode cX12_costOf 35 = .ok (.iload 5, 2) := by decide +kernel
theorem dX12_costOf_37 : decode cX12_costOf 37 = .ok (.iload 7, 2) := by decide +kernel
theorem dX12_costOf_39 : decode cX12_costOf 39 = .ok (.iconst 1, 1) := by decide +kernel
theorem dX12_costOf_40 : decode cX12_costOf 40 = .ok (.iadd, 1) := by decide +kernel
theorem dX12_costOf_41 : decode cX12_costOf 41 = .ok (.iload 8, 2) := by decide +kernel
theorem dX12_costOf_43 : decode cX12_costOf 43 = .ok (.iload_n 2, 1) := by decide +kernel
theorem dX12_costOf_44 : decode cX12_costOf 44 = .ok (.if_icmp .gt 10, 3) := by decide +kernel
theorem dX12_costOf_47 : decode cX12_costOf 47 = .ok (.iload_n 2, 1) := by decide +kernel
theorem dX12_costOf_48 : decode cX12_costOf 48 = .ok (.iload 8, 2) := by decide +kernel
theorem dX12_costOf_50 : decode cX12_costOf 50 = .ok (.isub, 1) := by decide +kernel
theorem dX12_costOf_51 : decode cX12_costOf 51 = .ok (.goto 18, 3) := by decide +kernel
theorem dX12_costOf_54 : decode cX12_costOf 54 = .ok (.aload_n 0, 1) := by decide +kernel
theorem dX12_costOf_55 : decode cX12_costOf 55 = .ok (.getfield 7, 3) := by decide +kernel
theorem dX12_costOf_58 : decode cX12_costOf 58 = .ok (.sipush 210, 3) := by decide +kernel
theorem dX12_costOf_61 : decode cX12_costOf 61 = .ok (.iaload, 1) := by decide +kernel
theorem dX12_costOf_62 : decode cX12_costOf 62 = .ok (.iconst 2, 1) := by decide +kernel
theorem dX12_costOf_63 : decode cX12_costOf 63 = .ok (.iload 8, 2) := by decide +kernel
theorem dX12_costOf_65 : decode cX12_costOf 65 = .ok (.iload_n 2, 1) := by decide +kernel
theorem dX12_costOf_66 : decode cX12_costOf 66 = .ok (.isub, 1) := by decide +kernel
theorem dX12_costOf_67 : decode cX12_costOf 67 = .ok (.imul, 1) := by decide +kernel
theorem dX12_costOf_68 : decode cX12_costOf 68 = .ok (.iadd, 1) := by decide +kernel
theorem dX12_costOf_69 : decode cX12_costOf 69 = .ok (.iadd, 1) := by decide +kernel
theorem dX12_costOf_70 : decode cX12_costOf 70 = .ok (.iadd, 1) := by decide +kernel
theorem dX12_costOf_71 : decode cX12_costOf 71 = .ok (.istore 5, 2) := by decide +kernel
theorem dX12_costOf_73 : decode cX12_costOf 73 = .ok (.iinc 6 1, 3) := by decide +kernel
theorem dX12_costOf_76 : decode cX12_costOf 76 = .ok (.goto (-70), 3) := by decide +kernel
theorem dX12_costOf_79 : decode cX12_costOf 79 = .ok (.iload 5, 2) := by decide +kernel
theorem dX12_costOf_81 : decode cX12_costOf 81 = .ok (.ireturn, 1) := by decide +kernel
theorem dX12_seeksSoonest_0 : decode cX12_seeksSoonest 0 = .ok (.aload_n 0, 1) := by decide +kernel
theorem dX12_seeksSoonest_1 : decode cX12_seeksSoonest 1 = .ok (.iload_n 1, 1) := by decide +kernel
theorem dX12_seeksSoonest_2 : decode cX12_seeksSoonest 2 = .ok (.iload_n 2, 1) := by decide +kernel
theorem dX12_seeksSoonest_3 : decode cX12_seeksSoonest 3 = .ok (.if_icmp .gt 14, 3) := by decide +kernel
theorem dX12_seeksSoonest_6 : decode cX12_seeksSoonest 6 = .ok (.iload_n 2, 1) := by decide +kernel
theorem dX12_seeksSoonest_7 : decode cX12_seeksSoonest 7 = .ok (.iload_n 1, 1) := by decide +kernel
theorem dX12_seeksSoonest_8 : decode cX12_seeksSoonest 8 = .ok (.isub, 1) := by decide +kernel
theorem dX12_seeksSoonest_9 : decode cX12_seeksSoonest 9 = .ok (.aload_n 0, 1) := by decide +kernel
theorem dX12_seeksSoonest_10 : decode cX12_seeksSoonest 10 = .ok (.invokevirtual 366, 3) := by decide +kernel
theorem dX12_seeksSoonest_13 : decode cX12_seeksSoonest 13 = .ok (.imul, 1) := by decide +kernel
theorem dX12_seeksSoonest_14 : decode cX12_seeksSoonest 14 = .ok (.goto 6, 3) := by decide +kernel
theorem dX12_seeksSoonest_17 : decode cX12_seeksSoonest 17 = .ok (.ldc_w 413, 3) := by decide +kernel
theorem dX12_seeksSoonest_20 : decode cX12_seeksSoonest 20 = .ok (.putfield 414, 3) := by decide +kernel
theorem dX12_seeksSoonest_23 : decode cX12_seeksSoonest 23 = .ok (.aload_n 0, 1) := by decide +kernel
theorem dX12_seeksSoonest_24 : decode cX12_seeksSoonest 24 = .ok (.iconst 0, 1) := by decide +kernel
theorem dX12_seeksSoonest_25 : decode cX12_seeksSoonest 25 = .ok (.putfield 417, 3) := by decide +kernel
theorem dX12_seeksSoonest_28 : decode cX12_seeksSoonest 28 = .ok (.aload_n 0, 1) := by decide +kernel
theorem dX12_seeksSoonest_29 : decode cX12_seeksSoonest 29 = .ok (.iconst 1, 1) := by decide +kernel
theorem dX12_seeksSoonest_30 : decode cX12_seeksSoonest 30 = .ok (.putfield 420, 3) := by decide +kernel
theorem dX12_seeksSoonest_33 : decode cX12_seeksSoonest 33 = .ok (.iconst 1, 1) := by decide +kernel
theorem dX12_seeksSoonest_34 : decode cX12_seeksSoonest 34 = .ok (.istore_n 3, 1) := by decide +kernel
theorem dX12_seeksSoonest_35 : decode cX12_seeksSoonest 35 = .ok (.iload_n 3, 1) := by decide +kernel
theorem dX12_seeksSoonest_36 : decode cX12_seeksSoonest 36 = .ok (.bipush 60, 2) := by decide +kernel
theorem dX12_seeksSoonest_38 : decode cX12_seeksSoonest 38 = .ok (.if_icmp .gt 72, 3) := by decide +kernel
theorem dX12_seeksSoonest_41 : decode cX12_seeksSoonest 41 = .ok (.iconst 1, 1) := by decide +kernel
theorem dX12_seeksSoonest_42 : decode cX12_seeksSoonest 42 = .ok (.istore 4, 2) := by decide +kernel
theorem dX12_seeksSoonest_44 : decode cX12_seeksSoonest 44 = .ok (.iload 4, 2) := by decide +kernel
theorem dX12_seeksSoonest_46 : decode cX12_seeksSoonest 46 = .ok (.ifCond .lt 58, 3) := by decide +kernel
theorem dX12_seeksSoonest_49 : decode cX12_seeksSoonest 49 = .ok (.aload_n 0, 1) := by decide +kernel
theorem dX12_seeksSoonest_50 : decode cX12_seeksSoonest 50 = .ok (.iload_n 1, 1) := by decide +kernel
theorem dX12_seeksSoonest_51 : decode cX12_seeksSoonest 51 = .ok (.iload_n 2, 1) := by decide +kernel
theorem dX12_seeksSoonest_52 : decode cX12_seeksSoonest 52 = .ok (.iload 4, 2) := by decide +kernel
theorem dX12_seeksSoonest_54 : decode cX12_seeksSoonest 54 = .ok (.iconst 1, 1) := by decide +kernel
theorem dX12_seeksSoonest_55 : decode cX12_seeksSoonest 55 = .ok (.if_icmp .ne 7, 3) := by decide +kernel
theorem dX12_seeksSoonest_58 : decode cX12_seeksSoonest 58 = .ok (.iconst 1, 1) := by decide +kernel
theorem dX12_seeksSoonest_59 : decode cX12_seeksSoonest 59 = .ok (.goto 4, 3) := by decide +kernel
theorem dX12_seeksSoonest_62 : decode cX12_seeksSoonest 62 = .ok (.iconst 0, 1) := by decide +kernel
theorem dX12_seeksSoonest_63 : decode cX12_seeksSoonest 63 = .ok (.iload_n 3, 1) := by decide +kernel
theorem dX12_seeksSoonest_64 : decode cX12_seeksSoonest 64 = .ok (.invokevirtual 423, 3) := by decide +kernel
theorem dX12_seeksSoonest_67 : decode cX12_seeksSoonest 67 = .ok (.istore 5, 2) := by decide +kernel
theorem dX12_seeksSoonest_69 : decode cX12_seeksSoonest 69 = .ok (.iload 5, 2) := by decide +kernel
theorem dX12_seeksSoonest_71 : decode cX12_seeksSoonest 71 = .ok (.aload_n 0, 1) := by decide +kernel
theorem dX12_seeksSoonest_72 : decode cX12_seeksSoonest 72 = .ok (.getfield 414, 3) := by decide +kernel
theorem dX12_seeksSoonest_75 : decode cX12_seeksSoonest 75 = .ok (.if_icmp .lt 6, 3) := by decide +kernel
theorem dX12_seeksSoonest_78 : decode cX12_seeksSoonest 78 = .ok (.goto 20, 3) := by decide +kernel
theorem dX12_seeksSoonest_81 : decode cX12_seeksSoonest 81 = .ok (.aload_n 0, 1) := by decide +kernel
theorem dX12_seeksSoonest_82 : decode cX12_seeksSoonest 82 = .ok (.iload 5, 2) := by decide +kernel
theorem dX12_seeksSoonest_84 : decode cX12_seeksSoonest 84 = .ok (.putfield 414, 3) := by decide +kernel
theorem dX12_seeksSoonest_87 : decode cX12_seeksSoonest 87 = .ok (.aload_n 0, 1) := by decide +kernel
theorem dX12_seeksSoonest_88 : decode cX12_seeksSoonest 88 = .ok (.iload_n 3, 1) := by decide +kernel
theorem dX12_seeksSoonest_89 : decode cX12_seeksSoonest 89 = .ok (.putfield 417, 3) := by decide +kernel
theorem dX12_seeksSoonest_92 : decode cX12_seeksSoonest 92 = .ok (.aload_n 0, 1) := by decide +kernel
theorem dX12_seeksSoonest_93 : decode cX12_seeksSoonest 93 = .ok (.iload 4, 2) := by decide +kernel
theorem dX12_seeksSoonest_95 : decode cX12_seeksSoonest 95 = .ok (.putfield 420, 3) := by decide +kernel
theorem dX12_seeksSoonest_98 : decode cX12_seeksSoonest 98 = .ok (.iinc 4 (-1), 3) := by decide +kernel
theorem dX12_seeksSoonest_101 : decode cX12_seeksSoonest 101 = .ok (.goto (-57), 3) := by decide +kernel
theorem dX12_seeksSoonest_104 : decode cX12_seeksSoonest 104 = .ok (.iinc 3 1, 3) := by decide +kernel
theorem dX12_seeksSoonest_107 : decode cX12_seeksSoonest 107 = .ok (.goto (-72), 3) := by decide +kernel
theorem dX12_seeksSoonest_110 : decode cX12_seeksSoonest 110 = .ok (.return_, 1) := by decide +kernel
theorem dX12_soonest_0 : decode cX12_soonest 0 = .ok (.aload_n 0, 1) := by decide +kernel
theorem dX12_soonest_1 : decode cX12_soonest 1 = .ok (.iload_n 1, 1) := by decide +kernel
theorem dX12_soonest_2 : decode cX12_soonest 2 = .ok (.invokevirtual 398, 3) := by decide +kernel
theorem dX12_soonest_5 : decode cX12_soonest 5 = .ok (.ifCond .eq 26, 3) := by decide +kernel
theorem dX12_soonest_8 : decode cX12_soonest 8 = .ok (.aload_n 0, 1) := by decide +kernel
theorem dX12_soonest_9 : decode cX12_soonest 9 = .ok (.iload_n 2, 1) := by decide +kernel
theorem dX12_soonest_10 : decode cX12_soonest 10 = .ok (.aload_n 0, 1) := by decide +kernel
theorem dX12_soonest_11 : decode cX12_soonest 11 = .ok (.getfield 7, 3) := by decide +kernel
theorem dX12_soonest_14 : decode cX12_soonest 14 = .ok (.iconst 0, 1) := by decide +kernel
theorem dX12_soonest_15 : decode cX12_soonest 15 = .ok (.iaload, 1) := by decide +kernel
theorem dX12_soonest_16 : decode cX12_soonest 16 = .ok (.invokevirtual 427, 3) := by decide +kernel
theorem dX12_soonest_19 : decode cX12_soonest 19 = .ok (.ifCond .eq 12, 3) := by decide +kernel
theorem dX12_soonest_22 : decode cX12_soonest 22 = .ok (.iload_n 3, 1) := by decide +kernel
theorem dX12_soonest_23 : decode cX12_soonest 23 = .ok (.iconst 0, 1) := by decide +kernel
theorem dX12_soonest_24 : decode cX12_soonest 24 = .ok (.iconst 3, 1) := by decide +kernel
theorem dX12_soonest_25 : decode cX12_soonest 25 = .ok (.invokestatic 71, 3) := by decide +kernel
theorem dX12_soonest_28 : decode cX12_soonest 28 = .ok (.ifCond .ne 7, 3) := by decide +kernel
theorem dX12_soonest_31 : decode cX12_soonest 31 = .ok (.sipush (-1000), 3) := by decide +kernel
theorem dX12_soonest_34 : decode cX12_soonest 34 = .ok (.ireturn, 1) := by decide +kernel
theorem dX12_soonest_35 : decode cX12_soonest 35 = .ok (.aload_n 0, 1) := by decide +kernel
theorem dX12_soonest_36 : decode cX12_soonest 36 = .ok (.iload_n 2, 1) := by decide +kernel
theorem dX12_soonest_37 : decode cX12_soonest 37 = .ok (.iconst 1, 1) := by decide +kernel
theorem dX12_soonest_38 : decode cX12_soonest 38 = .ok (.invokevirtual 79, 3) := by decide +kernel
theorem dX12_soonest_41 : decode cX12_soonest 41 = .ok (.istore 4, 2) := by decide +kernel
theorem dX12_soonest_43 : decode cX12_soonest 43 = .ok (.aload_n 0, 1) := by decide +kernel
theorem dX12_soonest_44 : decode cX12_soonest 44 = .ok (.iload_n 1, 1) := by decide +kernel
theorem dX12_soonest_45 : decode cX12_soonest 45 = .ok (.iload 4, 2) := by decide +kernel
theorem dX12_soonest_47 : decode cX12_soonest 47 = .ok (.invokevirtual 430, 3) := by decide +kernel
theorem dX12_soonest_50 : decode cX12_soonest 50 = .ok (.iload_n 3, 1) := by decide +kernel
theorem dX12_soonest_51 : decode cX12_soonest 51 = .ok (.tableswitch 40 0 2 #[25, 30, 35], 25) := by decide +kernel
theorem dX12_soonest_76 : decode cX12_soonest 76 = .ok (.aload_n 0, 1) := by decide +kernel
theorem dX12_soonest_77 : decode cX12_soonest 77 = .ok (.getfield 414, 3) := by decide +kernel
theorem dX12_soonest_80 : decode cX12_soonest 80 = .ok (.ireturn, 1) := by decide +kernel
theorem dX12_soonest_81 : decode cX12_soonest 81 = .ok (.aload_n 0, 1) := by decide +kernel
theorem dX12_soonest_82 : decode cX12_soonest 82 = .ok (.getfield 417, 3) := by decide +kernel
theorem dX12_soonest_85 : decode cX12_soonest 85 = .ok (.ireturn, 1) := by decide +kernel
theorem dX12_soonest_86 : decode cX12_soonest 86 = .ok (.aload_n 0, 1) := by decide +kernel
theorem dX12_soonest_87 : decode cX12_soonest 87 = .ok (.getfield 420, 3) := by decide +kernel
theorem dX12_soonest_90 : decode cX12_soonest 90 = .ok (.ireturn, 1) := by decide +kernel
theorem dX12_soonest_91 : decode cX12_soonest 91 = .ok (.aload_n 0, 1) := by decide +kernel
theorem dX12_soonest_92 : decode cX12_soonest 92 = .ok (.getfield 417, 3) := by decide +kernel
theorem dX12_soonest_95 : decode cX12_soonest 95 = .ok (.ifCond .ne 7, 3) := by decide +kernel
theorem dX12_soonest_98 : decode cX12_soonest 98 = .ok (.iconst 0, 1) := by decide +kernel
theorem dX12_soonest_99 : decode cX12_soonest 99 = .ok (.goto 28, 3) := by decide +kernel
theorem dX12_soonest_102 : decode cX12_soonest 102 = .ok (.iload 4, 2) := by decide +kernel
theorem dX12_soonest_104 : decode cX12_soonest 104 = .ok (.aload_n 0, 1) := by decide +kernel
theorem dX12_soonest_105 : decode cX12_soonest 105 = .ok (.iload_n 1, 1) := by decide +kernel
theorem dX12_soonest_106 : decode cX12_soonest 106 = .ok (.aload_n 0, 1) := by decide +kernel
theorem dX12_soonest_107 : decode cX12_soonest 107 = .ok (.getfield 420, 3) := by decide +kernel
theorem dX12_soonest_110 : decode cX12_soonest 110 = .ok (.iconst 1, 1) := by decide +kernel
theorem dX12_soonest_111 : decode cX12_soonest 111 = .ok (.if_icmp .ne 7, 3) := by decide +kernel
theorem dX12_soonest_114 : decode cX12_soonest 114 = .ok (.iconst 1, 1) := by decide +kernel
theorem dX12_soonest_115 : decode cX12_soonest 115 = .ok (.goto 4, 3) := by decide +kernel
theorem dX12_soonest_118 : decode cX12_soonest 118 = .ok (.iconst 0, 1) := by decide +kernel
theorem dX12_soonest_119 : decode cX12_soonest 119 = .ok (.aload_n 0, 1) := by decide +kernel
theorem dX12_soonest_120 : decode cX12_soonest 120 = .ok (.getfield 417, 3) := by decide +kernel
theorem dX12_soonest_123 : decode cX12_soonest 123 = .ok (.invokevirtual 372, 3) := by decide +kernel
theorem dX12_soonest_126 : decode cX12_soonest 126 = .ok (.isub, 1) := by decide +kernel
theorem dX12_soonest_127 : decode cX12_soonest 127 = .ok (.ireturn, 1) := by decide +kernel
theorem dX12_turned_0 : decode cX12_turned 0 = .ok (.aload_n 0, 1) := by decide +kernel
theorem dX12_turned_1 : decode cX12_turned 1 = .ok (.iload_n 1, 1) := by decide +kernel
theorem dX12_turned_2 : decode cX12_turned 2 = .ok (.iconst 1, 1) := by decide +kernel
theorem dX12_turned_3 : decode cX12_turned 3 = .ok (.aload_n 0, 1) := by decide +kernel
theorem dX12_turned_4 : decode cX12_turned 4 = .ok (.getfield 7, 3) := by decide +kernel
theorem dX12_turned_7 : decode cX12_turned 7 = .ok (.iconst 0, 1) := by decide +kernel
theorem dX12_turned_8 : decode cX12_turned 8 = .ok (.iaload, 1) := by decide +kernel
theorem dX12_turned_9 : decode cX12_turned 9 = .ok (.isub, 1) := by decide +kernel
theorem dX12_turned_10 : decode cX12_turned 10 = .ok (.invokevirtual 427, 3) := by decide +kernel
theorem dX12_turned_13 : decode cX12_turned 13 = .ok (.ifCond .eq 12, 3) := by decide +kernel
theorem dX12_turned_16 : decode cX12_turned 16 = .ok (.iload_n 2, 1) := by decide +kernel
theorem dX12_turned_17 : decode cX12_turned 17 = .ok (.iconst 0, 1) := by decide +kernel
theorem dX12_turned_18 : decode cX12_turned 18 = .ok (.iconst 2, 1) := by decide +kernel
theorem dX12_turned_19 : decode cX12_turned 19 = .ok (.invokestatic 71, 3) := by decide +kernel
theorem dX12_turned_22 : decode cX12_turned 22 = .ok (.ifCond .ne 5, 3) := by decide +kernel
theorem dX12_turned_25 : decode cX12_turned 25 = .ok (.iconst (-1), 1) := by decide +kernel
theorem dX12_turned_26 : decode cX12_turned 26 = .ok (.ireturn, 1) := by decide +kernel
theorem dX12_turned_27 : decode cX12_turned 27 = .ok (.aload_n 0, 1) := by decide +kernel
theorem dX12_turned_28 : decode cX12_turned 28 = .ok (.getfield 7, 3) := by decide +kernel
theorem dX12_turned_31 : decode cX12_turned 31 = .ok (.iconst 0, 1) := by decide +kernel
theorem dX12_turned_32 : decode cX12_turned 32 = .ok (.iconst 1, 1) := by decide +kernel
theorem dX12_turned_33 : decode cX12_turned 33 = .ok (.aload_n 0, 1) := by decide +kernel
theorem dX12_turned_34 : decode cX12_turned 34 = .ok (.getfield 7, 3) := by decide +kernel
theorem dX12_turned_37 : decode cX12_turned 37 = .ok (.iconst 0, 1) := by decide +kernel
theorem dX12_turned_38 : decode cX12_turned 38 = .ok (.iaload, 1) := by decide +kernel
theorem dX12_turned_39 : decode cX12_turned 39 = .ok (.isub, 1) := by decide +kernel
theorem dX12_turned_40 : decode cX12_turned 40 = .ok (.iastore, 1) := by decide +kernel
theorem dX12_turned_41 : decode cX12_turned 41 = .ok (.aload_n 0, 1) := by decide +kernel
theorem dX12_turned_42 : decode cX12_turned 42 = .ok (.aload_n 0, 1) := by decide +kernel
theorem dX12_turned_43 : decode cX12_turned 43 = .ok (.getfield 7, 3) := by decide +kernel
theorem dX12_turned_46 : decode cX12_turned 46 = .ok (.sipush 208, 3) := by decide +kernel
theorem dX12_turned_49 : decode cX12_turned 49 = .ok (.iaload, 1) := by decide +kernel
theorem dX12_turned_50 : decode cX12_turned 50 = .ok (.aload_n 0, 1) := by decide +kernel
theorem dX12_turned_51 : decode cX12_turned 51 = .ok (.getfield 7, 3) := by decide +kernel
theorem dX12_turned_54 : decode cX12_turned 54 = .ok (.iconst 1, 1) := by decide +kernel
theorem dX12_turned_55 : decode cX12_turned 55 = .ok (.iaload, 1) := by decide +kernel
theorem dX12_turned_56 : decode cX12_turned 56 = .ok (.isub, 1) := by decide +kernel
theorem dX12_turned_57 : decode cX12_turned 57 = .ok (.aload_n 0, 1) := by decide +kernel
theorem dX12_turned_58 : decode cX12_turned 58 = .ok (.iload_n 1, 1) := by decide +kernel
theorem dX12_turned_59 : decode cX12_turned 59 = .ok (.iconst 1, 1) := by decide +kernel
theorem dX12_turned_60 : decode cX12_turned 60 = .ok (.invokevirtual 79, 3) := by decide +kernel
theorem dX12_turned_63 : decode cX12_turned 63 = .ok (.invokevirtual 430, 3) := by decide +kernel
theorem dX12_turned_66 : decode cX12_turned 66 = .ok (.aload_n 0, 1) := by decide +kernel
theorem dX12_turned_67 : decode cX12_turned 67 = .ok (.getfield 7, 3) := by decide +kernel
theorem dX12_turned_70 : decode cX12_turned 70 = .ok (.iconst 0, 1) := by decide +kernel
theorem dX12_turned_71 : decode cX12_turned 71 = .ok (.iconst 1, 1) := by decide +kernel
theorem dX12_turned_72 : decode cX12_turned 72 = .ok (.aload_n 0, 1) := by decide +kernel
theorem dX12_turned_73 : decode cX12_turned 73 = .ok (.getfield 7, 3) := by decide +kernel
theorem dX12_turned_76 : decode cX12_turned 76 = .ok (.iconst 0, 1) := by decide +kernel
theorem dX12_turned_77 : decode cX12_turned 77 = .ok (.iaload, 1) := by decide +kernel
theorem dX12_turned_78 : decode cX12_turned 78 = .ok (.isub, 1) := by decide +kernel
theorem dX12_turned_79 : decode cX12_turned 79 = .ok (.iastore, 1) := by decide +kernel
theorem dX12_turned_80 : decode cX12_turned 80 = .ok (.iload_n 2, 1) := by decide +kernel
theorem dX12_turned_81 : decode cX12_turned 81 = .ok (.ifCond .ne 18, 3) := by decide +kernel
theorem dX12_turned_84 : decode cX12_turned 84 = .ok (.aload_n 0, 1) := by decide +kernel
theorem dX12_turned_85 : decode cX12_turned 85 = .ok (.getfield 414, 3) := by decide +kernel
theorem dX12_turned_88 : decode cX12_turned 88 = .ok (.bipush 8, 2) := by decide +kernel
theorem dX12_turned_90 : decode cX12_turned 90 = .ok (.aload_n 0, 1) := by decide +kernel
theorem dX12_turned_91 : decode cX12_turned 91 = .ok (.invokevirtual 366, 3) := by decide +kernel
theorem dX12_turned_94 : decode cX12_turned 94 = .ok (.imul, 1) := by decide +kernel
theorem dX12_turned_95 : decode cX12_turned 95 = .ok (.iadd, 1) := by decide +kernel
theorem dX12_turned_96 : decode cX12_turned 96 = .ok (.goto 19, 3) := by decide +kernel
theorem dX12_turned_99 : decode cX12_turned 99 = .ok (.iload_n 2, 1) := by decide +kernel
theorem dX12_turned_100 : decode cX12_turned 100 = .ok (.iconst 1, 1) := by decide +kernel
theorem dX12_turned_101 : decode cX12_turned 101 = .ok (.if_icmp .ne 10, 3) := by decide +kernel
theorem dX12_turned_104 : decode cX12_turned 104 = .ok (.aload_n 0, 1) := by decide +kernel
theorem dX12_turned_105 : decode cX12_turned 105 = .ok (.getfield 417, 3) := by decide +kernel
theorem dX12_turned_108 : decode cX12_turned 108 = .ok (.goto 7, 3) := by decide +kernel
theorem dX12_turned_111 : decode cX12_turned 111 = .ok (.aload_n 0, 1) := by decide +kernel
theorem dX12_turned_112 : decode cX12_turned 112 = .ok (.getfield 420, 3) := by decide +kernel
theorem dX12_turned_115 : decode cX12_turned 115 = .ok (.ireturn, 1) := by decide +kernel
theorem dX12_mayHear_0 : decode cX12_mayHear 0 = .ok (.iconst 0, 1) := by decide +kernel
theorem dX12_mayHear_1 : decode cX12_mayHear 1 = .ok (.istore_n 2, 1) := by decide +kernel
theorem dX12_mayHear_2 : decode cX12_mayHear 2 = .ok (.iload_n 2, 1) := by decide +kernel
theorem dX12_mayHear_3 : decode cX12_mayHear 3 = .ok (.aload_n 0, 1) := by decide +kernel
theorem dX12_mayHear_4 : decode cX12_mayHear 4 = .ok (.getfield 7, 3) := by decide +kernel
theorem dX12_mayHear_7 : decode cX12_mayHear 7 = .ok (.sipush 208, 3) := by decide +kernel
theorem dX12_mayHear_10 : decode cX12_mayHear 10 = .ok (.iaload, 1) := by decide +kernel
theorem dX12_mayHear_11 : decode cX12_mayHear 11 = .ok (.if_icmp .gt 39, 3) := by decide +kernel
theorem dX12_mayHear_14 : decode cX12_mayHear 14 = .ok (.aload_n 0, 1) := by decide +kernel
theorem dX12_mayHear_15 : decode cX12_mayHear 15 = .ok (.getfield 7, 3) := by decide +kernel
theorem dX12_mayHear_18 : decode cX12_mayHear 18 = .ok (.bipush 7, 2) := by decide +kernel
theorem dX12_mayHear_20 : decode cX12_mayHear 20 = .ok (.iload_n 2, 1) := by decide +kernel
theorem dX12_mayHear_21 : decode cX12_mayHear 21 = .ok (.iadd, 1) := by decide +kernel
theorem dX12_mayHear_22 : decode cX12_mayHear 22 = .ok (.iaload, 1) := by decide +kernel
theorem dX12_mayHear_23 : decode cX12_mayHear 23 = .ok (.iconst 1, 1) := by decide +kernel
theorem dX12_mayHear_24 : decode cX12_mayHear 24 = .ok (.if_icmp .ne 20, 3) := by decide +kernel
theorem dX12_mayHear_27 : decode cX12_mayHear 27 = .ok (.aload_n 0, 1) := by decide +kernel
theorem dX12_mayHear_28 : decode cX12_mayHear 28 = .ok (.aload_n 0, 1) := by decide +kernel
theorem dX12_mayHear_29 : decode cX12_mayHear 29 = .ok (.getfield 7, 3) := by decide +kernel
theorem dX12_mayHear_32 : decode cX12_mayHear 32 = .ok (.iconst 0, 1) := by decide +kernel
theorem dX12_mayHear_33 : decode cX12_mayHear 33 = .ok (.iaload, 1) := by decide +kernel
theorem dX12_mayHear_34 : decode cX12_mayHear 34 = .ok (.iload_n 2, 1) := by decide +kernel
theorem dX12_mayHear_35 : decode cX12_mayHear 35 = .ok (.invokevirtual 340, 3) := by decide +kernel
theorem dX12_mayHear_38 : decode cX12_mayHear 38 = .ok (.iload_n 1, 1) := by decide +kernel
theorem dX12_mayHear_39 : decode cX12_mayHear 39 = .ok (.if_icmp .ne 5, 3) := by decide +kernel
theorem dX12_mayHear_42 : decode cX12_mayHear 42 = .ok (.iconst 1, 1) := by decide +kernel
theorem dX12_mayHear_43 : decode cX12_mayHear 43 = .ok (.ireturn, 1) := by decide +kernel
theorem dX12_mayHear_44 : decode cX12_mayHear 44 = .ok (.iinc 2 1, 3) := by decide +kernel
theorem dX12_mayHear_47 : decode cX12_mayHear 47 = .ok (.goto (-45), 3) := by decide +kernel
theorem dX12_mayHear_50 : decode cX12_mayHear 50 = .ok (.iconst 0, 1) := by decide +kernel
theorem dX12_mayHear_51 : decode cX12_mayHear 51 = .ok (.ireturn, 1) := by decide +kernel
theorem dX12_unsure_0 : decode cX12_unsure 0 = .ok (.iconst 0, 1) := by decide +kernel
theorem dX12_unsure_1 : decode cX12_unsure 1 = .ok (.istore_n 2, 1) := by decide +kernel
theorem dX12_unsure_2 : decode cX12_unsure 2 = .ok (.iload_n 1, 1) := by decide +kernel
theorem dX12_unsure_3 : decode cX12_unsure 3 = .ok (.tableswitch 133 0 3 #[29, 63, 103, 118], 29) := by decide +kernel
theorem dX12_unsure_32 : decode cX12_unsure 32 = .ok (.iconst 0, 1) := by decide +kernel
theorem dX12_unsure_33 : decode cX12_unsure 33 = .ok (.istore_n 3, 1) := by decide +kernel
theorem dX12_unsure_34 : decode cX12_unsure 34 = .ok (.iload_n 3, 1) := by decide +kernel
theorem dX12_unsure_35 : decode cX12_unsure 35 = .ok (.aload_n 0, 1) := by decide +kernel
theorem dX12_unsure_36 : decode cX12_unsure 36 = .ok (.getfield 7, 3) := by decide +kernel
theorem dX12_unsure_39 : decode cX12_unsure 39 = .ok (.sipush 208, 3) := by decide +kernel
theorem dX12_unsure_42 : decode cX12_unsure 42 = .ok (.iaload, 1) := by decide +kernel
theorem dX12_unsure_43 : decode cX12_unsure 43 = .ok (.if_icmp .gt 21, 3) := by decide +kernel
theorem dX12_unsure_46 : decode cX12_unsure 46 = .ok (.iload_n 2, 1) := by decide +kernel
theorem dX12_unsure_47 : decode cX12_unsure 47 = .ok (.aload_n 0, 1) := by decide +kernel
theorem dX12_unsure_48 : decode cX12_unsure 48 = .ok (.getfield 7, 3) := by decide +kernel
theorem dX12_unsure_51 : decode cX12_unsure 51 = .ok (.bipush 7, 2) := by decide +kernel
theorem dX12_unsure_53 : decode cX12_unsure 53 = .ok (.iload_n 3, 1) := by decide +kernel
theorem dX12_unsure_54 : decode cX12_unsure 54 = .ok (.iadd, 1) := by decide +kernel
theorem dX12_unsure_55 : decode cX12_unsure 55 = .ok (.iaload, 1) := by decide +kernel
theorem dX12_unsure_56 : decode cX12_unsure 56 = .ok (.iadd, 1) := by decide +kernel
theorem dX12_unsure_57 : decode cX12_unsure 57 = .ok (.istore_n 2, 1) := by decide +kernel
theorem dX12_unsure_58 : decode cX12_unsure 58 = .ok (.iinc 3 1, 3) := by decide +kernel
theorem dX12_unsure_61 : decode cX12_unsure 61 = .ok (.goto (-27), 3) := by decide +kernel
theorem dX12_unsure_64 : decode cX12_unsure 64 = .ok (.iload_n 2, 1) := by decide +kernel
theorem dX12_unsure_65 : decode cX12_unsure 65 = .ok (.ireturn, 1) := by decide +kernel
theorem dX12_unsure_66 : decode cX12_unsure 66 = .ok (.iconst 0, 1) := by decide +kernel
theorem dX12_unsure_67 : decode cX12_unsure 67 = .ok (.istore_n 3, 1) := by decide +kernel
theorem dX12_unsure_68 : decode cX12_unsure 68 = .ok (.iload_n 3, 1) := by decide +kernel
theorem dX12_unsure_69 : decode cX12_unsure 69 = .ok (.aload_n 0, 1) := by decide +kernel
theorem dX12_unsure_70 : decode cX12_unsure 70 = .ok (.getfield 7, 3) := by decide +kernel
theorem dX12_unsure_73 : decode cX12_unsure 73 = .ok (.sipush 211, 3) := by decide +kernel
theorem dX12_unsure_76 : decode cX12_unsure 76 = .ok (.iaload, 1) := by decide +kernel
theorem dX12_unsure_77 : decode cX12_unsure 77 = .ok (.if_icmp .ge 27, 3) := by decide +kernel
theorem dX12_unsure_80 : decode cX12_unsure 80 = .ok (.iload_n 2, 1) := by decide +kernel
theorem dX12_unsure_81 : decode cX12_unsure 81 = .ok (.aload_n 0, 1) := by decide +kernel
theorem dX12_unsure_82 : decode cX12_unsure 82 = .ok (.iload_n 3, 1) := by decide +kernel
theorem dX12_unsure_83 : decode cX12_unsure 83 = .ok (.invokevirtual 433, 3) := by decide +kernel
theorem dX12_unsure_86 : decode cX12_unsure 86 = .ok (.ifCond .eq 9, 3) := by decide +kernel
theorem dX12_unsure_89 : decode cX12_unsure 89 = .ok (.iconst 1, 1) := by decide +kernel
theorem dX12_unsure_90 : decode cX12_unsure 90 = .ok (.iload_n 3, 1) := by decide +kernel
theorem dX12_unsure_91 : decode cX12_unsure 91 = .ok (.ishl, 1) := by decide +kernel
theorem dX12_unsure_92 : decode cX12_unsure 92 = .ok (.goto 4, 3) := by decide +kernel
theorem dX12_unsure_95 : decode cX12_unsure 95 = .ok (.iconst 0, 1) := by decide +kernel
theorem dX12_unsure_96 : decode cX12_unsure 96 = .ok (.ior, 1) := by decide +kernel
theorem dX12_unsure_97 : decode cX12_unsure 97 = .ok (.istore_n 2, 1) := by decide +kernel
theorem dX12_unsure_98 : decode cX12_unsure 98 = .ok (.iinc 3 1, 3) := by decide +kernel
theorem dX12_unsure_101 : decode cX12_unsure 101 = .ok (.goto (-33), 3) := by decide +kernel
theorem dX12_unsure_104 : decode cX12_unsure 104 = .ok (.iload_n 2, 1) := by decide +kernel
theorem dX12_unsure_105 : decode cX12_unsure 105 = .ok (.ireturn, 1) := by decide +kernel
theorem dX12_unsure_106 : decode cX12_unsure 106 = .ok (.aload_n 0, 1) := by decide +kernel
theorem dX12_unsure_107 : decode cX12_unsure 107 = .ok (.bipush 98, 2) := by decide +kernel
theorem dX12_unsure_109 : decode cX12_unsure 109 = .ok (.invokevirtual 433, 3) := by decide +kernel
theorem dX12_unsure_112 : decode cX12_unsure 112 = .ok (.ifCond .eq 7, 3) := by decide +kernel
theorem dX12_unsure_115 : decode cX12_unsure 115 = .ok (.iconst 1, 1) := by decide +kernel
theorem dX12_unsure_116 : decode cX12_unsure 116 = .ok (.goto 4, 3) := by decide +kernel
theorem dX12_unsure_119 : decode cX12_unsure 119 = .ok (.iconst 0, 1) := by decide +kernel
theorem dX12_unsure_120 : decode cX12_unsure 120 = .ok (.ireturn, 1) := by decide +kernel
theorem dX12_unsure_121 : decode cX12_unsure 121 = .ok (.aload_n 0, 1) := by decide +kernel
theorem dX12_unsure_122 : decode cX12_unsure 122 = .ok (.bipush 99, 2) := by decide +kernel
theorem dX12_unsure_124 : decode cX12_unsure 124 = .ok (.invokevirtual 433, 3) := by decide +kernel
theorem dX12_unsure_127 : decode cX12_unsure 127 = .ok (.ifCond .eq 7, 3) := by decide +kernel
theorem dX12_unsure_130 : decode cX12_unsure 130 = .ok (.iconst 1, 1) := by decide +kernel
theorem dX12_unsure_131 : decode cX12_unsure 131 = .ok (.goto 4, 3) := by decide +kernel
theorem dX12_unsure_134 : decode cX12_unsure 134 = .ok (.iconst 0, 1) := by decide +kernel
theorem dX12_unsure_135 : decode cX12_unsure 135 = .ok (.ireturn, 1) := by decide +kernel
theorem dX12_unsure_136 : decode cX12_unsure 136 = .ok (.iconst (-1), 1) := by decide +kernel
theorem dX12_unsure_137 : decode cX12_unsure 137 = .ok (.ireturn, 1) := by decide +kernel
theorem dX12_laysRuns_0 : decode cX12_laysRuns 0 = .ok (.iconst 0, 1) := by decide +kernel
theorem dX12_laysRuns_1 : decode cX12_laysRuns 1 = .ok (.istore_n 1, 1) := by decide +kernel
theorem dX12_laysRuns_2 : decode cX12_laysRuns 2 = .ok (.iload_n 1, 1) := by decide +kernel
theorem dX12_laysRuns_3 : decode cX12_laysRuns 3 = .ok (.iconst 2, 1) := by decide +kernel
theorem dX12_laysRuns_4 : decode cX12_laysRuns 4 = .ok (.if_icmp .ge 92, 3) := by decide +kernel
theorem dX12_laysRuns_7 : decode cX12_laysRuns 7 = .ok (.iconst 0, 1) := by decide +kernel
theorem dX12_laysRuns_8 : decode cX12_laysRuns 8 = .ok (.istore_n 2, 1) := by decide +kernel
theorem dX12_laysRuns_9 : decode cX12_laysRuns 9 = .ok (.iload_n 2, 1) := by decide +kernel
theorem dX12_laysRuns_10 : decode cX12_laysRuns 10 = .ok (.bipush 25, 2) := by decide +kernel
theorem dX12_laysRuns_12 : decode cX12_laysRuns 12 = .ok (.if_icmp .ge 78, 3) := by decide +kernel
theorem dX12_laysRuns_15 : decode cX12_laysRuns 15 = .ok (.iconst 0, 1) := by decide +kernel
theorem dX12_laysRuns_16 : decode cX12_laysRuns 16 = .ok (.istore_n 3, 1) := by decide +kernel
theorem dX12_laysRuns_17 : decode cX12_laysRuns 17 = .ok (.iload_n 3, 1) := by decide +kernel
theorem dX12_laysRuns_18 : decode cX12_laysRuns 18 = .ok (.aload_n 0, 1) := by decide +kernel
theorem dX12_laysRuns_19 : decode cX12_laysRuns 19 = .ok (.getfield 7, 3) := by decide +kernel
theorem dX12_laysRuns_22 : decode cX12_laysRuns 22 = .ok (.sipush 208, 3) := by decide +kernel
theorem dX12_laysRuns_25 : decode cX12_laysRuns 25 = .ok (.iaload, 1) := by decide +kernel
theorem dX12_laysRuns_26 : decode cX12_laysRuns 26 = .ok (.if_icmp .gt 58, 3) := by decide +kernel
theorem dX12_laysRuns_29 : decode cX12_laysRuns 29 = .ok (.aload_n 0, 1) := by decide +kernel
theorem dX12_laysRuns_30 : decode cX12_laysRuns 30 = .ok (.getfield 53, 3) := by decide +kernel
theorem dX12_laysRuns_33 : decode cX12_laysRuns 33 = .ok (.sipush 201, 3) := by decide +kernel
theorem dX12_laysRuns_36 : decode cX12_laysRuns 36 = .ok (.bipush 25, 2) := by decide +kernel
theorem dX12_laysRuns_38 : decode cX12_laysRuns 38 = .ok (.iload_n 1, 1) := by decide +kernel
theorem dX12_laysRuns_39 : decode cX12_laysRuns 39 = .ok (.imul, 1) := by decide +kernel
theorem dX12_laysRuns_40 : decode cX12_laysRuns 40 = .ok (.iload_n 2, 1) := by decide +kernel
theorem dX12_laysRuns_41 : decode cX12_laysRuns 41 = .ok (.iadd, 1) := by decide +kernel
theorem dX12_laysRuns_42 : decode cX12_laysRuns 42 = .ok (.imul, 1) := by decide +kernel
theorem dX12_laysRuns_43 : decode cX12_laysRuns 43 = .ok (.iload_n 3, 1) := by decide +kernel
theorem dX12_laysRuns_44 : decode cX12_laysRuns 44 = .ok (.iadd, 1) := by decide +kernel
theorem dX12_laysRuns_45 : decode cX12_laysRuns 45 = .ok (.aload_n 0, 1) := by decide +kernel
theorem dX12_laysRuns_46 : decode cX12_laysRuns 46 = .ok (.getfield 7, 3) := by decide +kernel
theorem dX12_laysRuns_49 : decode cX12_laysRuns 49 = .ok (.bipush 7, 2) := by decide +kernel
theorem dX12_laysRuns_51 : decode cX12_laysRuns 51 = .ok (.iload_n 3, 1) := by decide +kernel
theorem dX12_laysRuns_52 : decode cX12_laysRuns 52 = .ok (.iadd, 1) := by decide +kernel
theorem dX12_laysRuns_53 : decode cX12_laysRuns 53 = .ok (.iaload, 1) := by decide +kernel
theorem dX12_laysRuns_54 : decode cX12_laysRuns 54 = .ok (.ifCond .ne 7, 3) := by decide +kernel
theorem dX12_laysRuns_57 : decode cX12_laysRuns 57 = .ok (.iconst 0, 1) := by decide +kernel
theorem dX12_laysRuns_58 : decode cX12_laysRuns 58 = .ok (.goto 19, 3) := by decide +kernel
theorem dX12_laysRuns_61 : decode cX12_laysRuns 61 = .ok (.aload_n 0, 1) := by decide +kernel
theorem dX12_laysRuns_62 : decode cX12_laysRuns 62 = .ok (.iload_n 3, 1) := by decide +kernel
theorem dX12_laysRuns_63 : decode cX12_laysRuns 63 = .ok (.iload_n 1, 1) := by decide +kernel
theorem dX12_laysRuns_64 : decode cX12_laysRuns 64 = .ok (.iconst 1, 1) := by decide +kernel
theorem dX12_laysRuns_65 : decode cX12_laysRuns 65 = .ok (.if_icmp .ne 7, 3) := by decide +kernel
theorem dX12_laysRuns_68 : decode cX12_laysRuns 68 = .ok (.iconst 1, 1) := by decide +kernel
theorem dX12_laysRuns_69 : decode cX12_laysRuns 69 = .ok (.goto 4, 3) := by decide +kernel
theorem dX12_laysRuns_72 : decode cX12_laysRuns 72 = .ok (.iconst 0, 1) := by decide +kernel
theorem dX12_laysRuns_73 : decode cX12_laysRuns 73 = .ok (.iload_n 2, 1) := by decide +kernel
theorem dX12_laysRuns_74 : decode cX12_laysRuns 74 = .ok (.invokevirtual 372, 3) := by decide +kernel
theorem dX12_laysRuns_77 : decode cX12_laysRuns 77 = .ok (.iastore, 1) := by decide +kernel
theorem dX12_laysRuns_78 : decode cX12_laysRuns 78 = .ok (.iinc 3 1, 3) := by decide +kernel
theorem dX12_laysRuns_81 : decode cX12_laysRuns 81 = .ok (.goto (-64), 3) := by decide +kernel
theorem dX12_laysRuns_84 : decode cX12_laysRuns 84 = .ok (.iinc 2 1, 3) := by decide +kernel
theorem dX12_laysRuns_87 : decode cX12_laysRuns 87 = .ok (.goto (-78), 3) := by decide +kernel
theorem dX12_laysRuns_90 : decode cX12_laysRuns 90 = .ok (.iinc 1 1, 3) := by decide +kernel
theorem dX12_laysRuns_93 : decode cX12_laysRuns 93 = .ok (.goto (-91), 3) := by decide +kernel
theorem dX12_laysRuns_96 : decode cX12_laysRuns 96 = .ok (.return_, 1) := by decide +kernel
theorem dX12_mostAlike_0 : decode cX12_mostAlike 0 = .ok (.iconst 0, 1) := by decide +kernel
theorem dX12_mostAlike_1 : decode cX12_mostAlike 1 = .ok (.istore_n 3, 1) := by decide +kernel
theorem dX12_mostAlike_2 : decode cX12_mostAlike 2 = .ok (.iload_n 3, 1) := by decide +kernel
theorem dX12_mostAlike_3 : decode cX12_mostAlike 3 = .ok (.bipush 100, 2) := by decide +kernel
theorem dX12_mostAlike_5 : decode cX12_mostAlike 5 = .ok (.if_icmp .ge 16, 3) := by decide +kernel
theorem dX12_mostAlike_8 : decode cX12_mostAlike 8 = .ok (.aload_n 0, 1) := by decide +kernel
theorem dX12_mostAlike_9 : decode cX12_mostAlike 9 = .ok (.getfield 56, 3) := by decide +kernel
theorem dX12_mostAlike_12 : decode cX12_mostAlike 12 = .ok (.iload_n 3, 1) := by decide +kernel
theorem dX12_mostAlike_13 : decode cX12_mostAlike 13 = .ok (.iconst 0, 1) := by decide +kernel
theorem dX12_mostAlike_14 : decode cX12_mostAlike 14 = .ok (.iastore, 1) := by decide +kernel
theorem dX12_mostAlike_15 : decode cX12_mostAlike 15 = .ok (.iinc 3 1, 3) := by decide +kernel
theorem dX12_mostAlike_18 : decode cX12_mostAlike 18 = .ok (.goto (-16), 3) := by decide +kernel
theorem dX12_mostAlike_21 : decode cX12_mostAlike 21 = .ok (.iconst 0, 1) := by decide +kernel
theorem dX12_mostAlike_22 : decode cX12_mostAlike 22 = .ok (.istore_n 3, 1) := by decide +kernel
theorem dX12_mostAlike_23 : decode cX12_mostAlike 23 = .ok (.iconst 0, 1) := by decide +kernel
theorem dX12_mostAlike_24 : decode cX12_mostAlike 24 = .ok (.istore 4, 2) := by decide +kernel
theorem dX12_mostAlike_26 : decode cX12_mostAlike 26 = .ok (.iload 4, 2) := by decide +kernel
theorem dX12_mostAlike_28 : decode cX12_mostAlike 28 = .ok (.aload_n 0, 1) := by decide +kernel
theorem dX12_mostAlike_29 : decode cX12_mostAlike 29 = .ok (.getfield 7, 3) := by decide +kernel
theorem dX12_mostAlike_32 : decode cX12_mostAlike 32 = .ok (.sipush 208, 3) := by decide +kernel
theorem dX12_mostAlike_35 : decode cX12_mostAlike 35 = .ok (.iaload, 1) := by decide +kernel
theorem dX12_mostAlike_36 : decode cX12_mostAlike 36 = .ok (.if_icmp .gt 100, 3) := by decide +kernel
theorem dX12_mostAlike_39 : decode cX12_mostAlike 39 = .ok (.iconst 0, 1) := by decide +kernel
theorem dX12_mostAlike_40 : decode cX12_mostAlike 40 = .ok (.istore 5, 2) := by decide +kernel
theorem dX12_mostAlike_42 : decode cX12_mostAlike 42 = .ok (.iload 5, 2) := by decide +kernel
theorem dX12_mostAlike_44 : decode cX12_mostAlike 44 = .ok (.aload_n 0, 1) := by decide +kernel
theorem dX12_mostAlike_45 : decode cX12_mostAlike 45 = .ok (.invokevirtual 366, 3) := by decide +kernel
theorem dX12_mostAlike_48 : decode cX12_mostAlike 48 = .ok (.if_icmp .ge 82, 3) := by decide +kernel
theorem dX12_mostAlike_51 : decode cX12_mostAlike 51 = .ok (.aload_n 0, 1) := by decide +kernel
theorem dX12_mostAlike_52 : decode cX12_mostAlike 52 = .ok (.getfield 7, 3) := by decide +kernel
theorem dX12_mostAlike_55 : decode cX12_mostAlike 55 = .ok (.bipush 7, 2) := by decide +kernel
theorem dX12_mostAlike_57 : decode cX12_mostAlike 57 = .ok (.iload 4, 2) := by decide +kernel
theorem dX12_mostAlike_59 : decode cX12_mostAlike 59 = .ok (.iadd, 1) := by decide +kernel
theorem dX12_mostAlike_60 : decode cX12_mostAlike 60 = .ok (.iaload, 1) := by decide +kernel
theorem dX12_mostAlike_61 : decode cX12_mostAlike 61 = .ok (.iconst 1, 1) := by decide +kernel
theorem dX12_mostAlike_62 : decode cX12_mostAlike 62 = .ok (.if_icmp .ne 68, 3) := by decide +kernel
theorem dX12_mostAlike_65 : decode cX12_mostAlike 65 = .ok (.aload_n 0, 1) := by decide +kernel
theorem dX12_mostAlike_66 : decode cX12_mostAlike 66 = .ok (.aload_n 0, 1) := by decide +kernel
theorem dX12_mostAlike_67 : decode cX12_mostAlike 67 = .ok (.getfield 7, 3) := by decide +kernel
theorem dX12_mostAlike_70 : decode cX12_mostAlike 70 = .ok (.iconst 0, 1) := by decide +kernel
theorem dX12_mostAlike_71 : decode cX12_mostAlike 71 = .ok (.iaload, 1) := by decide +kernel
theorem dX12_mostAlike_72 : decode cX12_mostAlike 72 = .ok (.aload_n 0, 1) := by decide +kernel
theorem dX12_mostAlike_73 : decode cX12_mostAlike 73 = .ok (.getfield 53, 3) := by decide +kernel
theorem dX12_mostAlike_76 : decode cX12_mostAlike 76 = .ok (.sipush 201, 3) := by decide +kernel
theorem dX12_mostAlike_79 : decode cX12_mostAlike 79 = .ok (.bipush 25, 2) := by decide +kernel
theorem dX12_mostAlike_81 : decode cX12_mostAlike 81 = .ok (.iload_n 1, 1) := by decide +kernel
theorem dX12_mostAlike_82 : decode cX12_mostAlike 82 = .ok (.imul, 1) := by decide +kernel
theorem dX12_mostAlike_83 : decode cX12_mostAlike 83 = .ok (.aload_n 0, 1) := by decide +kernel
theorem dX12_mostAlike_84 : decode cX12_mostAlike 84 = .ok (.iload_n 2, 1) := by decide +kernel
theorem dX12_mostAlike_85 : decode cX12_mostAlike 85 = .ok (.iload 5, 2) := by decide +kernel
theorem dX12_mostAlike_87 : decode cX12_mostAlike 87 = .ok (.invokevirtual 369, 3) := by decide +kernel
theorem dX12_mostAlike_90 : decode cX12_mostAlike 90 = .ok (.iadd, 1) := by decide +kernel
theorem dX12_mostAlike_91 : decode cX12_mostAlike 91 = .ok (.imul, 1) := by decide +kernel
theorem dX12_mostAlike_92 : decode cX12_mostAlike 92 = .ok (.iload 4, 2) := by decide +kernel
theorem dX12_mostAlike_94 : decode cX12_mostAlike 94 = .ok (.iadd, 1) := by decide +kernel
theorem dX12_mostAlike_95 : decode cX12_mostAlike 95 = .ok (.iaload, 1) := by decide +kernel
theorem dX12_mostAlike_96 : decode cX12_mostAlike 96 = .ok (.invokevirtual 340, 3) := by decide +kernel
theorem dX12_mostAlike_99 : decode cX12_mostAlike 99 = .ok (.istore 6, 2) := by decide +kernel
theorem dX12_mostAlike_101 : decode cX12_mostAlike 101 = .ok (.aload_n 0, 1) := by decide +kernel
theorem dX12_mostAlike_102 : decode cX12_mostAlike 102 = .ok (.getfield 56, 3) := by decide +kernel
theorem dX12_mostAlike_105 : decode cX12_mostAlike 105 = .ok (.iload 6, 2) := by decide +kernel
theorem dX12_mostAlike_107 : decode cX12_mostAlike 107 = .ok (.dup2, 1) := by decide +kernel
theorem dX12_mostAlike_108 : decode cX12_mostAlike 108 = .ok (.iaload, 1) := by decide +kernel
theorem dX12_mostAlike_109 : decode cX12_mostAlike 109 = .ok (.iconst 1, 1) := by decide +kernel
theorem dX12_mostAlike_110 : decode cX12_mostAlike 110 = .ok (.iadd, 1) := by decide +kernel
theorem dX12_mostAlike_111 : decode cX12_mostAlike 111 = .ok (.iastore, 1) := by decide +kernel
theorem dX12_mostAlike_112 : decode cX12_mostAlike 112 = .ok (.iload_n 3, 1) := by decide +kernel
theorem dX12_mostAlike_113 : decode cX12_mostAlike 113 = .ok (.aload_n 0, 1) := by decide +kernel
theorem dX12_mostAlike_114 : decode cX12_mostAlike 114 = .ok (.getfield 56, 3) := by decide +kernel
theorem dX12_mostAlike_117 : decode cX12_mostAlike 117 = .ok (.iload 6, 2) := by decide +kernel
theorem dX12_mostAlike_119 : decode cX12_mostAlike 119 = .ok (.iaload, 1) := by decide +kernel
theorem dX12_mostAlike_120 : decode cX12_mostAlike 120 = .ok (.invokestatic 297, 3) := by decide +kernel
theorem dX12_mostAlike_123 : decode cX12_mostAlike 123 = .ok (.istore_n 3, 1) := by decide +kernel
theorem dX12_mostAlike_124 : decode cX12_mostAlike 124 = .ok (.iinc 5 1, 3) := by decide +kernel
theorem dX12_mostAlike_127 : decode cX12_mostAlike 127 = .ok (.goto (-85), 3) := by decide +kernel
theorem dX12_mostAlike_130 : decode cX12_mostAlike 130 = .ok (.iinc 4 1, 3) := by decide +kernel
theorem dX12_mostAlike_133 : decode cX12_mostAlike 133 = .ok (.goto (-107), 3) := by decide +kernel
theorem dX12_mostAlike_136 : decode cX12_mostAlike 136 = .ok (.iload_n 3, 1) := by decide +kernel
theorem dX12_mostAlike_137 : decode cX12_mostAlike 137 = .ok (.ireturn, 1) := by decide +kernel
theorem dX12_tells_0 : decode cX12_tells 0 = .ok (.iload_n 1, 1) := by decide +kernel
theorem dX12_tells_1 : decode cX12_tells 1 = .ok (.iconst 0, 1) := by decide +kernel
theorem dX12_tells_2 : decode cX12_tells 2 = .ok (.iconst 2, 1) := by decide +kernel
theorem dX12_tells_3 : decode cX12_tells 3 = .ok (.invokestatic 71, 3) := by decide +kernel
theorem dX12_tells_6 : decode cX12_tells 6 = .ok (.ifCond .ne 5, 3) := by decide +kernel
theorem dX12_tells_9 : decode cX12_tells 9 = .ok (.iconst (-1), 1) := by decide +kernel
theorem dX12_tells_10 : decode cX12_tells 10 = .ok (.ireturn, 1) := by decide +kernel
theorem dX12_tells_11 : decode cX12_tells 11 = .ok (.aload_n 0, 1) := by decide +kernel
theorem dX12_tells_12 : decode cX12_tells 12 = .ok (.invokevirtual 436, 3) := by decide +kernel
theorem dX12_tells_15 : decode cX12_tells 15 = .ok (.ldc_w 413, 3) := by decide +kernel
theorem dX12_tells_18 : decode cX12_tells 18 = .ok (.istore_n 2, 1) := by decide +kernel
theorem dX12_tells_19 : decode cX12_tells 19 = .ok (.iconst 0, 1) := by decide +kernel
theorem dX12_tells_20 : decode cX12_tells 20 = .ok (.istore_n 3, 1) := by decide +kernel
theorem dX12_tells_21 : decode cX12_tells 21 = .ok (.iconst 0, 1) := by decide +kernel
theorem dX12_tells_22 : decode cX12_tells 22 = .ok (.istore 4, 2) := by decide +kernel
theorem dX12_tells_24 : decode cX12_tells 24 = .ok (.iconst 1, 1) := by decide +kernel
theorem dX12_tells_25 : decode cX12_tells 25 = .ok (.istore 5, 2) := by decide +kernel
theorem dX12_tells_27 : decode cX12_tells 27 = .ok (.iload 5, 2) := by decide +kernel
theorem dX12_tells_29 : decode cX12_tells 29 = .ok (.bipush 20, 2) := by decide +kernel
theorem dX12_tells_31 : decode cX12_tells 31 = .ok (.if_icmp .gt 52, 3) := by decide +kernel
theorem dX12_tells_34 : decode cX12_tells 34 = .ok (.iconst 1, 1) := by decide +kernel
theorem dX12_tells_35 : decode cX12_tells 35 = .ok (.istore 6, 2) := by decide +kernel
theorem dX12_tells_37 : decode cX12_tells 37 = .ok (.iload 6, 2) := by decide +kernel
theorem dX12_tells_39 : decode cX12_tells 39 = .ok (.ifCond .lt 38, 3) := by decide +kernel
theorem dX12_tells_42 : decode cX12_tells 42 = .ok (.aload_n 0, 1) := by decide +kernel
theorem dX12_tells_43 : decode cX12_tells 43 = .ok (.iload 6, 2) := by decide +kernel
theorem dX12_tells_45 : decode cX12_tells 45 = .ok (.iload 5, 2) := by decide +kernel
theorem dX12_tells_47 : decode cX12_tells 47 = .ok (.invokevirtual 439, 3) := by decide +kernel
theorem dX12_tells_50 : decode cX12_tells 50 = .ok (.istore 7, 2) := by decide +kernel
theorem dX12_tells_52 : decode cX12_tells 52 = .ok (.iload 7, 2) := by decide +kernel
theorem dX12_tells_54 : decode cX12_tells 54 = .ok (.iload_n 2, 1) := by decide +kernel
theorem dX12_tells_55 : decode cX12_tells 55 = .ok (.if_icmp .lt 6, 3) := by decide +kernel
theorem dX12_tells_58 : decode cX12_tells 58 = .ok (.goto 13, 3) := by decide +kernel
theorem dX12_tells_61 : decode cX12_tells 61 = .ok (.iload 7, 2) := by decide +kernel
theorem dX12_tells_63 : decode cX12_tells 63 = .ok (.istore_n 2, 1) := by decide +kernel
theorem dX12_tells_64 : decode cX12_tells 64 = .ok (.iload 5, 2) := by decide +kernel
theorem dX12_tells_66 : decode cX12_tells 66 = .ok (.istore_n 3, 1) := by decide +kernel
theorem dX12_tells_67 : decode cX12_tells 67 = .ok (.iload 6, 2) := by decide +kernel
theorem dX12_tells_69 : decode cX12_tells 69 = .ok (.istore 4, 2) := by decide +kernel
theorem dX12_tells_71 : decode cX12_tells 71 = .ok (.iinc 6 (-1), 3) := by decide +kernel
theorem dX12_tells_74 : decode cX12_tells 74 = .ok (.goto (-37), 3) := by decide +kernel
theorem dX12_tells_77 : decode cX12_tells 77 = .ok (.iinc 5 1, 3) := by decide +kernel
theorem dX12_tells_80 : decode cX12_tells 80 = .ok (.goto (-53), 3) := by decide +kernel
theorem dX12_tells_83 : decode cX12_tells 83 = .ok (.iload_n 1, 1) := by decide +kernel
theorem dX12_tells_84 : decode cX12_tells 84 = .ok (.ifCond .ne 7, 3) := by decide +kernel
theorem dX12_tells_87 : decode cX12_tells 87 = .ok (.iload_n 3, 1) := by decide +kernel
theorem dX12_tells_88 : decode cX12_tells 88 = .ok (.goto 14, 3) := by decide +kernel
theorem dX12_tells_91 : decode cX12_tells 91 = .ok (.iload_n 1, 1) := by decide +kernel
theorem dX12_tells_92 : decode cX12_tells 92 = .ok (.iconst 1, 1) := by decide +kernel
theorem dX12_tells_93 : decode cX12_tells 93 = .ok (.if_icmp .ne 8, 3) := by decide +kernel
theorem dX12_tells_96 : decode cX12_tells 96 = .ok (.iload 4, 2) := by decide +kernel
theorem dX12_tells_98 : decode cX12_tells 98 = .ok (.goto 4, 3) := by decide +kernel
theorem dX12_tells_101 : decode cX12_tells 101 = .ok (.iload_n 2, 1) := by decide +kernel
theorem dX12_tells_102 : decode cX12_tells 102 = .ok (.ireturn, 1) := by decide +kernel
theorem dX12_cardOf_0 : decode cX12_cardOf 0 = .ok (.iconst 0, 1) := by decide +kernel
theorem dX12_cardOf_1 : decode cX12_cardOf 1 = .ok (.istore_n 2, 1) := by decide +kernel
theorem dX12_cardOf_2 : decode cX12_cardOf 2 = .ok (.iconst 0, 1) := by decide +kernel
theorem dX12_cardOf_3 : decode cX12_cardOf 3 = .ok (.istore_n 3, 1) := by decide +kernel
theorem dX12_cardOf_4 : decode cX12_cardOf 4 = .ok (.iload_n 3, 1) := by decide +kernel
theorem dX12_cardOf_5 : decode cX12_cardOf 5 = .ok (.aload_n 0, 1) := by decide +kernel
theorem dX12_cardOf_6 : decode cX12_cardOf 6 = .ok (.getfield 7, 3) := by decide +kernel
theorem dX12_cardOf_9 : decode cX12_cardOf 9 = .ok (.sipush 211, 3) := by decide +kernel
theorem dX12_cardOf_12 : decode cX12_cardOf 12 = .ok (.iaload, 1) := by decide +kernel
theorem dX12_cardOf_13 : decode cX12_cardOf 13 = .ok (.if_icmp .ge 83, 3) := by decide +kernel
theorem dX12_cardOf_16 : decode cX12_cardOf 16 = .ok (.aload_n 0, 1) := by decide +kernel
theorem dX12_cardOf_17 : decode cX12_cardOf 17 = .ok (.iload_n 3, 1) := by decide +kernel
theorem dX12_cardOf_18 : decode cX12_cardOf 18 = .ok (.iconst 0, 1) := by decide +kernel
theorem dX12_cardOf_19 : decode cX12_cardOf 19 = .ok (.invokevirtual 79, 3) := by decide +kernel
theorem dX12_cardOf_22 : decode cX12_cardOf 22 = .ok (.iconst 1, 1) := by decide +kernel
theorem dX12_cardOf_23 : decode cX12_cardOf 23 = .ok (.if_icmp .ne 6, 3) := by decide +kernel
theorem dX12_cardOf_26 : decode cX12_cardOf 26 = .ok (.goto 64, 3) := by decide +kernel
theorem dX12_cardOf_29 : decode cX12_cardOf 29 = .ok (.iconst 0, 1) := by decide +kernel
theorem dX12_cardOf_30 : decode cX12_cardOf 30 = .ok (.istore 4, 2) := by decide +kernel
theorem dX12_cardOf_32 : decode cX12_cardOf 32 = .ok (.iconst 0, 1) := by decide +kernel
theorem dX12_cardOf_33 : decode cX12_cardOf 33 = .ok (.istore 5, 2) := by decide +kernel
theorem dX12_cardOf_35 : decode cX12_cardOf 35 = .ok (.iload 5, 2) := by decide +kernel
theorem dX12_cardOf_37 : decode cX12_cardOf 37 = .ok (.iload_n 3, 1) := by decide +kernel
theorem dX12_cardOf_38 : decode cX12_cardOf 38 = .ok (.if_icmp .gt 33, 3) := by decide +kernel
theorem dX12_cardOf_41 : decode cX12_cardOf 41 = .ok (.iload_n 1, 1) := by decide +kernel
theorem dX12_cardOf_42 : decode cX12_cardOf 42 = .ok (.iload 5, 2) := by decide +kernel
theorem dX12_cardOf_44 : decode cX12_cardOf 44 = .ok (.ishr, 1) := by decide +kernel
theorem dX12_cardOf_45 : decode cX12_cardOf 45 = .ok (.iconst 1, 1) := by decide +kernel
theorem dX12_cardOf_46 : decode cX12_cardOf 46 = .ok (.iand, 1) := by decide +kernel
theorem dX12_cardOf_47 : decode cX12_cardOf 47 = .ok (.iconst 1, 1) := by decide +kernel
theorem dX12_cardOf_48 : decode cX12_cardOf 48 = .ok (.if_icmp .ne 13, 3) := by decide +kernel
theorem dX12_cardOf_51 : decode cX12_cardOf 51 = .ok (.aload_n 0, 1) := by decide +kernel
theorem dX12_cardOf_52 : decode cX12_cardOf 52 = .ok (.iload 5, 2) := by decide +kernel
theorem dX12_cardOf_54 : decode cX12_cardOf 54 = .ok (.iconst 1, 1) := by decide +kernel
theorem dX12_cardOf_55 : decode cX12_cardOf 55 = .ok (.invokevirtual 79, 3) := by decide +kernel
theorem dX12_cardOf_58 : decode cX12_cardOf 58 = .ok (.goto 5, 3) := by decide +kernel
theorem dX12_cardOf_61 : decode cX12_cardOf 61 = .ok (.iload 4, 2) := by decide +kernel
theorem dX12_cardOf_63 : decode cX12_cardOf 63 = .ok (.istore 4, 2) := by decide +kernel
theorem dX12_cardOf_65 : decode cX12_cardOf 65 = .ok (.iinc 5 1, 3) := by decide +kernel
theorem dX12_cardOf_68 : decode cX12_cardOf 68 = .ok (.goto (-33), 3) := by decide +kernel
theorem dX12_cardOf_71 : decode cX12_cardOf 71 = .ok (.iload_n 2, 1) := by decide +kernel
theorem dX12_cardOf_72 : decode cX12_cardOf 72 = .ok (.aload_n 0, 1) := by decide +kernel
theorem dX12_cardOf_73 : decode cX12_cardOf 73 = .ok (.iload_n 3, 1) := by decide +kernel
theorem dX12_cardOf_74 : decode cX12_cardOf 74 = .ok (.iconst 3, 1) := by decide +kernel
theorem dX12_cardOf_75 : decode cX12_cardOf 75 = .ok (.invokevirtual 79, 3) := by decide +kernel
theorem dX12_cardOf_78 : decode cX12_cardOf 78 = .ok (.aload_n 0, 1) := by decide +kernel
theorem dX12_cardOf_79 : decode cX12_cardOf 79 = .ok (.iload_n 3, 1) := by decide +kernel
theorem dX12_cardOf_80 : decode cX12_cardOf 80 = .ok (.iconst 1, 1) := by decide +kernel
theorem dX12_cardOf_81 : decode cX12_cardOf 81 = .ok (.invokevirtual 79, 3) := by decide +kernel
theorem dX12_cardOf_84 : decode cX12_cardOf 84 = .ok (.iload 4, 2) := by decide +kernel
theorem dX12_cardOf_86 : decode cX12_cardOf 86 = .ok (.isub, 1) := by decide +kernel
theorem dX12_cardOf_87 : decode cX12_cardOf 87 = .ok (.imul, 1) := by decide +kernel
theorem dX12_cardOf_88 : decode cX12_cardOf 88 = .ok (.iadd, 1) := by decide +kernel
theorem dX12_cardOf_89 : decode cX12_cardOf 89 = .ok (.istore_n 2, 1) := by decide +kernel
theorem dX12_cardOf_90 : decode cX12_cardOf 90 = .ok (.iinc 3 1, 3) := by decide +kernel
theorem dX12_cardOf_93 : decode cX12_cardOf 93 = .ok (.goto (-89), 3) := by decide +kernel
theorem dX12_cardOf_96 : decode cX12_cardOf 96 = .ok (.iload_n 2, 1) := by decide +kernel
theorem dX12_cardOf_97 : decode cX12_cardOf 97 = .ok (.ireturn, 1) := by decide +kernel
theorem dX12_count_0 : decode cX12_count 0 = .ok (.iconst 0, 1) := by decide +kernel
theorem dX12_count_1 : decode cX12_count 1 = .ok (.istore_n 1, 1) := by decide +kernel
theorem dX12_count_2 : decode cX12_count 2 = .ok (.iconst 0, 1) := by decide +kernel
theorem dX12_count_3 : decode cX12_count 3 = .ok (.istore_n 2, 1) := by decide +kernel
theorem dX12_count_4 : decode cX12_count 4 = .ok (.iload_n 2, 1) := by decide +kernel
theorem dX12_count_5 : decode cX12_count 5 = .ok (.bipush 14, 2) := by decide +kernel
theorem dX12_count_7 : decode cX12_count 7 = .ok (.if_icmp .ge 17, 3) := by decide +kernel
theorem dX12_count_10 : decode cX12_count 10 = .ok (.iload_n 1, 1) := by decide +kernel
theorem dX12_count_11 : decode cX12_count 11 = .ok (.iload_n 0, 1) := by decide +kernel
theorem dX12_count_12 : decode cX12_count 12 = .ok (.iload_n 2, 1) := by decide +kernel
theorem dX12_count_13 : decode cX12_count 13 = .ok (.ishr, 1) := by decide +kernel
theorem dX12_count_14 : decode cX12_count 14 = .ok (.iconst 1, 1) := by decide +kernel
theorem dX12_count_15 : decode cX12_count 15 = .ok (.iand, 1) := by decide +kernel
theorem dX12_count_16 : decode cX12_count 16 = .ok (.iadd, 1) := by decide +kernel
theorem dX12_count_17 : decode cX12_count 17 = .ok (.istore_n 1, 1) := by decide +kernel
theorem dX12_count_18 : decode cX12_count 18 = .ok (.iinc 2 1, 3) := by decide +kernel
theorem dX12_count_21 : decode cX12_count 21 = .ok (.goto (-17), 3) := by decide +kernel
theorem dX12_count_24 : decode cX12_count 24 = .ok (.iload_n 1, 1) := by decide +kernel
theorem dX12_count_25 : decode cX12_count 25 = .ok (.ireturn, 1) := by decide +kernel
theorem dX12_songsOn_0 : decode cX12_songsOn 0 = .ok (.iconst 0, 1) := by decide +kernel
theorem dX12_songsOn_1 : decode cX12_songsOn 1 = .ok (.istore_n 2, 1) := by decide +kernel
theorem dX12_songsOn_2 : decode cX12_songsOn 2 = .ok (.iconst 0, 1) := by decide +kernel
theorem dX12_songsOn_3 : decode cX12_songsOn 3 = .ok (.istore_n 3, 1) := by decide +kernel
theorem dX12_songsOn_4 : decode cX12_songsOn 4 = .ok (.iload_n 3, 1) := by decide +kernel
theorem dX12_songsOn_5 : decode cX12_songsOn 5 = .ok (.aload_n 0, 1) := by decide +kernel
theorem dX12_songsOn_6 : decode cX12_songsOn 6 = .ok (.getfield 7, 3) := by decide +kernel
theorem dX12_songsOn_9 : decode cX12_songsOn 9 = .ok (.sipush 211, 3) := by decide +kernel
theorem dX12_songsOn_12 : decode cX12_songsOn 12 = .ok (.iaload, 1) := by decide +kernel
theorem dX12_songsOn_13 : decode cX12_songsOn 13 = .ok (.if_icmp .ge 29, 3) := by decide +kernel
theorem dX12_songsOn_16 : decode cX12_songsOn 16 = .ok (.iload_n 2, 1) := by decide +kernel
theorem dX12_songsOn_17 : decode cX12_songsOn 17 = .ok (.aload_n 0, 1) := by decide +kernel
theorem dX12_songsOn_18 : decode cX12_songsOn 18 = .ok (.iload_n 3, 1) := by decide +kernel
theorem dX12_songsOn_19 : decode cX12_songsOn 19 = .ok (.iconst 0, 1) := by decide +kernel
theorem dX12_songsOn_20 : decode cX12_songsOn 20 = .ok (.invokevirtual 79, 3) := by decide +kernel
theorem dX12_songsOn_23 : decode cX12_songsOn 23 = .ok (.iload_n 1, 1) := by decide +kernel
theorem dX12_songsOn_24 : decode cX12_songsOn 24 = .ok (.if_icmp .ne 9, 3) := by decide +kernel
theorem dX12_songsOn_27 : decode cX12_songsOn 27 = .ok (.iconst 1, 1) := by decide +kernel
theorem dX12_songsOn_28 : decode cX12_songsOn 28 = .ok (.iload_n 3, 1) := by decide +kernel
theorem dX12_songsOn_29 : decode cX12_songsOn 29 = .ok (.ishl, 1) := by decide +kernel
theorem dX12_songsOn_30 : decode cX12_songsOn 30 = .ok (.goto 4, 3) := by decide +kernel
theorem dX12_songsOn_33 : decode cX12_songsOn 33 = .ok (.iconst 0, 1) := by decide +kernel
theorem dX12_songsOn_34 : decode cX12_songsOn 34 = .ok (.ior, 1) := by decide +kernel
theorem dX12_songsOn_35 : decode cX12_songsOn 35 = .ok (.istore_n 2, 1) := by decide +kernel
theorem dX12_songsOn_36 : decode cX12_songsOn 36 = .ok (.iinc 3 1, 3) := by decide +kernel
theorem dX12_songsOn_39 : decode cX12_songsOn 39 = .ok (.goto (-35), 3) := by decide +kernel
theorem dX12_songsOn_42 : decode cX12_songsOn 42 = .ok (.iload_n 2, 1) := by decide +kernel
theorem dX12_songsOn_43 : decode cX12_songsOn 43 = .ok (.ireturn, 1) := by decide +kernel
theorem dX12_card_0 : decode cX12_card 0 = .ok (.iload_n 1, 1) := by decide +kernel
theorem dX12_card_1 : decode cX12_card 1 = .ok (.iconst 1, 1) := by decide +kernel
theorem dX12_card_2 : decode cX12_card 2 = .ok (.bipush 6, 2) := by decide +kernel
theorem dX12_card_4 : decode cX12_card 4 = .ok (.invokestatic 71, 3) := by decide +kernel
theorem dX12_card_7 : decode cX12_card 7 = .ok (.ifCond .eq 12, 3) := by decide +kernel
theorem dX12_card_10 : decode cX12_card 10 = .ok (.iload_n 2, 1) := by decide +kernel
theorem dX12_card_11 : decode cX12_card 11 = .ok (.iconst 0, 1) := by decide +kernel
theorem dX12_card_12 : decode cX12_card 12 = .ok (.iconst 1, 1) := by decide +kernel
theorem dX12_card_13 : decode cX12_card 13 = .ok (.invokestatic 71, 3) := by decide +kernel
theorem dX12_card_16 : decode cX12_card 16 = .ok (.ifCond .ne 5, 3) := by decide +kernel
theorem dX12_card_19 : decode cX12_card 19 = .ok (.iconst (-1), 1) := by decide +kernel
theorem dX12_card_20 : decode cX12_card 20 = .ok (.ireturn, 1) := by decide +kernel
theorem dX12_card_21 : decode cX12_card 21 = .ok (.aload_n 0, 1) := by decide +kernel
theorem dX12_card_22 : decode cX12_card 22 = .ok (.iconst 0, 1) := by decide +kernel
theorem dX12_card_23 : decode cX12_card 23 = .ok (.invokevirtual 442, 3) := by decide +kernel
theorem dX12_card_26 : decode cX12_card 26 = .ok (.istore_n 3, 1) := by decide +kernel
theorem dX12_card_27 : decode cX12_card 27 = .ok (.iload_n 1, 1) := by decide +kernel
theorem dX12_card_28 : decode cX12_card 28 = .ok (.iload_n 3, 1) := by decide +kernel
theorem dX12_card_29 : decode cX12_card 29 = .ok (.invokestatic 445, 3) := by decide +kernel
theorem dX12_card_32 : decode cX12_card 32 = .ok (.invokestatic 349, 3) := by decide +kernel
theorem dX12_card_35 : decode cX12_card 35 = .ok (.istore 4, 2) := by decide +kernel
theorem dX12_card_37 : decode cX12_card 37 = .ok (.iconst (-1), 1) := by decide +kernel
theorem dX12_card_38 : decode cX12_card 38 = .ok (.istore 5, 2) := by decide +kernel
theorem dX12_card_40 : decode cX12_card 40 = .ok (.iconst 0, 1) := by decide +kernel
theorem dX12_card_41 : decode cX12_card 41 = .ok (.istore 6, 2) := by decide +kernel
theorem dX12_card_43 : decode cX12_card 43 = .ok (.iload 6, 2) := by decide +kernel
theorem dX12_card_45 : decode cX12_card 45 = .ok (.iload_n 3, 1) := by decide +kernel
theorem dX12_card_46 : decode cX12_card 46 = .ok (.if_icmp .gt 53, 3) := by decide +kernel
theorem dX12_card_49 : decode cX12_card 49 = .ok (.iload 6, 2) := by decide +kernel
theorem dX12_card_51 : decode cX12_card 51 = .ok (.iload_n 3, 1) := by decide +kernel
theorem dX12_card_52 : decode cX12_card 52 = .ok (.iconst (-1), 1) := by decide +kernel
theorem dX12_card_53 : decode cX12_card 53 = .ok (.ixor, 1) := by decide +kernel
theorem dX12_card_54 : decode cX12_card 54 = .ok (.iand, 1) := by decide +kernel
theorem dX12_card_55 : decode cX12_card 55 = .ok (.ifCond .ne 38, 3) := by decide +kernel
theorem dX12_card_58 : decode cX12_card 58 = .ok (.iload 6, 2) := by decide +kernel
theorem dX12_card_60 : decode cX12_card 60 = .ok (.invokestatic 445, 3) := by decide +kernel
theorem dX12_card_63 : decode cX12_card 63 = .ok (.iload 4, 2) := by decide +kernel
theorem dX12_card_65 : decode cX12_card 65 = .ok (.if_icmp .ne 28, 3) := by decide +kernel
theorem dX12_card_68 : decode cX12_card 68 = .ok (.iload 5, 2) := by decide +kernel
theorem dX12_card_70 : decode cX12_card 70 = .ok (.iconst (-1), 1) := by decide +kernel
theorem dX12_card_71 : decode cX12_card 71 = .ok (.if_icmp .eq 18, 3) := by decide +kernel
theorem dX12_card_74 : decode cX12_card 74 = .ok (.aload_n 0, 1) := by decide +kernel
theorem dX12_card_75 : decode cX12_card 75 = .ok (.iload 6, 2) := by decide +kernel
theorem dX12_card_77 : decode cX12_card 77 = .ok (.invokevirtual 448, 3) := by decide +kernel
theorem dX12_card_80 : decode cX12_card 80 = .ok (.aload_n 0, 1) := by decide +kernel
theorem dX12_card_81 : decode cX12_card 81 = .ok (.iload 5, 2) := by decide +kernel
theorem dX12_card_83 : decode cX12_card 83 = .ok (.invokevirtual 448, 3) := by decide +kernel
theorem dX12_card_86 : decode cX12_card 86 = .ok (.if_icmp .ge 7, 3) := by decide +kernel
theorem dX12_card_89 : decode cX12_card 89 = .ok (.iload 6, 2) := by decide +kernel
theorem dX12_card_91 : decode cX12_card 91 = .ok (.istore 5, 2) := by decide +kernel
theorem dX12_card_93 : decode cX12_card 93 = .ok (.iinc 6 1, 3) := by decide +kernel
theorem dX12_card_96 : decode cX12_card 96 = .ok (.goto (-53), 3) := by decide +kernel
theorem dX12_card_99 : decode cX12_card 99 = .ok (.iload_n 2, 1) := by decide +kernel
theorem dX12_card_100 : decode cX12_card 100 = .ok (.ifCond .ne 12, 3) := by decide +kernel
theorem dX12_card_103 : decode cX12_card 103 = .ok (.aload_n 0, 1) := by decide +kernel
theorem dX12_card_104 : decode cX12_card 104 = .ok (.iload 5, 2) := by decide +kernel
theorem dX12_card_106 : decode cX12_card 106 = .ok (.invokevirtual 448, 3) := by decide +kernel
theorem dX12_card_109 : decode cX12_card 109 = .ok (.goto 5, 3) := by decide +kernel
theorem dX12_card_112 : decode cX12_card 112 = .ok (.iload 5, 2) := by decide +kernel
theorem dX12_card_114 : decode cX12_card 114 = .ok (.ireturn, 1) := by decide +kernel
theorem dX12_orderCost_0 : decode cX12_orderCost 0 = .ok (.iconst 0, 1) := by decide +kernel
theorem dX12_orderCost_1 : decode cX12_orderCost 1 = .ok (.istore_n 2, 1) := by decide +kernel
theorem dX12_orderCost_2 : decode cX12_orderCost 2 = .ok (.iconst 0, 1) := by decide +kernel
theorem dX12_orderCost_3 : decode cX12_orderCost 3 = .ok (.istore_n 3, 1) := by decide +kernel
theorem dX12_orderCost_4 : decode cX12_orderCost 4 = .ok (.iload_n 3, 1) := by decide +kernel
theorem dX12_orderCost_5 : decode cX12_orderCost 5 = .ok (.iload_n 1, 1) := by decide +kernel
theorem dX12_orderCost_6 : decode cX12_orderCost 6 = .ok (.if_icmp .ge 35, 3) := by decide +kernel
theorem dX12_orderCost_9 : decode cX12_orderCost 9 = .ok (.aload_n 0, 1) := by decide +kernel
theorem dX12_orderCost_10 : decode cX12_orderCost 10 = .ok (.getfield 65, 3) := by decide +kernel
theorem dX12_orderCost_13 : decode cX12_orderCost 13 = .ok (.aload_n 0, 1) := by decide +kernel
theorem dX12_orderCost_14 : decode cX12_orderCost 14 = .ok (.getfield 59, 3) := by decide +kernel
theorem dX12_orderCost_17 : decode cX12_orderCost 17 = .ok (.iload_n 3, 1) := by decide +kernel
theorem dX12_orderCost_18 : decode cX12_orderCost 18 = .ok (.iaload, 1) := by decide +kernel
theorem dX12_orderCost_19 : decode cX12_orderCost 19 = .ok (.iload_n 2, 1) := by decide +kernel
theorem dX12_orderCost_20 : decode cX12_orderCost 20 = .ok (.iastore, 1) := by decide +kernel
theorem dX12_orderCost_21 : decode cX12_orderCost 21 = .ok (.iload_n 2, 1) := by decide +kernel
theorem dX12_orderCost_22 : decode cX12_orderCost 22 = .ok (.aload_n 0, 1) := by decide +kernel
theorem dX12_orderCost_23 : decode cX12_orderCost 23 = .ok (.aload_n 0, 1) := by decide +kernel
theorem dX12_orderCost_24 : decode cX12_orderCost 24 = .ok (.getfield 59, 3) := by decide +kernel
theorem dX12_orderCost_27 : decode cX12_orderCost 27 = .ok (.iload_n 3, 1) := by decide +kernel
theorem dX12_orderCost_28 : decode cX12_orderCost 28 = .ok (.iaload, 1) := by decide +kernel
theorem dX12_orderCost_29 : decode cX12_orderCost 29 = .ok (.iconst 2, 1) := by decide +kernel
theorem dX12_orderCost_30 : decode cX12_orderCost 30 = .ok (.invokevirtual 79, 3) := by decide +kernel
theorem dX12_orderCost_33 : decode cX12_orderCost 33 = .ok (.iadd, 1) := by decide +kernel
theorem dX12_orderCost_34 : decode cX12_orderCost 34 = .ok (.istore_n 2, 1) := by decide +kernel
theorem dX12_orderCost_35 : decode cX12_orderCost 35 = .ok (.iinc 3 1, 3) := by decide +kernel
theorem dX12_orderCost_38 : decode cX12_orderCost 38 = .ok (.goto (-34), 3) := by decide +kernel
theorem dX12_orderCost_41 : decode cX12_orderCost 41 = .ok (.iconst 0, 1) := by decide +kernel
theorem dX12_orderCost_42 : decode cX12_orderCost 42 = .ok (.istore_n 3, 1) := by decide +kernel
theorem dX12_orderCost_43 : decode cX12_orderCost 43 = .ok (.iconst 0, 1) := by decide +kernel
theorem dX12_orderCost_44 : decode cX12_orderCost 44 = .ok (.istore 4, 2) := by decide +kernel
theorem dX12_orderCost_46 : decode cX12_orderCost 46 = .ok (.iload 4, 2) := by decide +kernel
theorem dX12_orderCost_48 : decode cX12_orderCost 48 = .ok (.iload_n 1, 1) := by decide +kernel
theorem dX12_orderCost_49 : decode cX12_orderCost 49 = .ok (.if_icmp .ge 115, 3) := by decide +kernel
theorem dX12_orderCost_52 : decode cX12_orderCost 52 = .ok (.iconst 0, 1) := by decide +kernel
theorem dX12_orderCost_53 : decode cX12_orderCost 53 = .ok (.istore 5, 2) := by decide +kernel
theorem dX12_orderCost_55 : decode cX12_orderCost 55 = .ok (.iload 5, 2) := by decide +kernel
theorem dX12_orderCost_57 : decode cX12_orderCost 57 = .ok (.iload_n 1, 1) := by decide +kernel
theorem dX12_orderCost_58 : decode cX12_orderCost 58 = .ok (.if_icmp .ge 100, 3) := by decide +kernel
theorem dX12_orderCost_61 : decode cX12_orderCost 61 = .ok (.aload_n 0, 1) := by decide +kernel
theorem dX12_orderCost_62 : decode cX12_orderCost 62 = .ok (.getfield 65, 3) := by decide +kernel
theorem dX12_orderCost_65 : decode cX12_orderCost 65 = .ok (.aload_n 0, 1) := by decide +kernel
theorem dX12_orderCost_66 : decode cX12_orderCost 66 = .ok (.getfield 59, 3) := by decide +kernel
theorem dX12_orderCost_69 : decode cX12_orderCost 69 = .ok (.iload 5, 2) := by decide +kernel
theorem dX12_orderCost_71 : decode cX12_orderCost 71 = .ok (.iaload, 1) := by decide +kernel
theorem dX12_orderCost_72 : decode cX12_orderCost 72 = .ok (.iaload, 1) := by decide +kernel
theorem dX12_orderCost_73 : decode cX12_orderCost 73 = .ok (.aload_n 0, 1) := by decide +kernel
theorem dX12_orderCost_74 : decode cX12_orderCost 74 = .ok (.getfield 65, 3) := by decide +kernel
theorem dX12_orderCost_77 : decode cX12_orderCost 77 = .ok (.aload_n 0, 1) := by decide +kernel
theorem dX12_orderCost_78 : decode cX12_orderCost 78 = .ok (.getfield 59, 3) := by decide +kernel
theorem dX12_orderCost_81 : decode cX12_orderCost 81 = .ok (.iload 4, 2) := by decide +kernel
theorem dX12_orderCost_83 : decode cX12_orderCost 83 = .ok (.iaload, 1) := by decide +kernel
theorem dX12_orderCost_84 : decode cX12_orderCost 84 = .ok (.iaload, 1) := by decide +kernel
theorem dX12_orderCost_85 : decode cX12_orderCost 85 = .ok (.isub, 1) := by decide +kernel
theorem dX12_orderCost_86 : decode cX12_orderCost 86 = .ok (.aload_n 0, 1) := by decide +kernel
theorem dX12_orderCost_87 : decode cX12_orderCost 87 = .ok (.aload_n 0, 1) := by decide +kernel
theorem dX12_orderCost_88 : decode cX12_orderCost 88 = .ok (.getfield 59, 3) := by decide +kernel
theorem dX12_orderCost_91 : decode cX12_orderCost 91 = .ok (.iload 4, 2) := by decide +kernel
theorem dX12_orderCost_93 : decode cX12_orderCost 93 = .ok (.iaload, 1) := by decide +kernel
theorem dX12_orderCost_94 : decode cX12_orderCost 94 = .ok (.iconst 2, 1) := by decide +kernel
theorem dX12_orderCost_95 : decode cX12_orderCost 95 = .ok (.invokevirtual 79, 3) := by decide +kernel
theorem dX12_orderCost_98 : decode cX12_orderCost 98 = .ok (.isub, 1) := by decide +kernel
theorem dX12_orderCost_99 : decode cX12_orderCost 99 = .ok (.istore 6, 2) := by decide +kernel
theorem dX12_orderCost_101 : decode cX12_orderCost 101 = .ok (.iload 4, 2) := by decide +kernel
theorem dX12_orderCost_103 : decode cX12_orderCost 103 = .ok (.iload 5, 2) := by decide +kernel
theorem dX12_orderCost_105 : decode cX12_orderCost 105 = .ok (.if_icmp .eq 47, 3) := by decide +kernel
theorem dX12_orderCost_108 : decode cX12_orderCost 108 = .ok (.iload_n 3, 1) := by decide +kernel
theorem dX12_orderCost_109 : decode cX12_orderCost 109 = .ok (.aload_n 0, 1) := by decide +kernel
theorem dX12_orderCost_110 : decode cX12_orderCost 110 = .ok (.getfield 7, 3) := by decide +kernel
theorem dX12_orderCost_113 : decode cX12_orderCost 113 = .ok (.sipush 734, 3) := by decide +kernel
theorem dX12_orderCost_116 : decode cX12_orderCost 116 = .ok (.bipush 14, 2) := by decide +kernel
theorem dX12_orderCost_118 : decode cX12_orderCost 118 = .ok (.aload_n 0, 1) := by decide +kernel
theorem dX12_orderCost_119 : decode cX12_orderCost 119 = .ok (.getfield 59, 3) := by decide +kernel
theorem dX12_orderCost_122 : decode cX12_orderCost 122 = .ok (.iload 4, 2) := by decide +kernel
theorem dX12_orderCost_124 : decode cX12_orderCost 124 = .ok (.iaload, 1) := by decide +kernel
theorem dX12_orderCost_125 : decode cX12_orderCost 125 = .ok (.imul, 1) := by decide +kernel
theorem dX12_orderCost_126 : decode cX12_orderCost 126 = .ok (.iadd, 1) := by decide +kernel
theorem dX12_orderCost_127 : decode cX12_orderCost 127 = .ok (.aload_n 0, 1) := by decide +kernel
theorem dX12_orderCost_128 : decode cX12_orderCost 128 = .ok (.getfield 59, 3) := by decide +kernel
theorem dX12_orderCost_131 : decode cX12_orderCost 131 = .ok (.iload 5, 2) := by decide +kernel
theorem dX12_orderCost_133 : decode cX12_orderCost 133 = .ok (.iaload, 1) := by decide +kernel
theorem dX12_orderCost_134 : decode cX12_orderCost 134 = .ok (.iadd, 1) := by decide +kernel
theorem dX12_orderCost_135 : decode cX12_orderCost 135 = .ok (.iaload, 1) := by decide +kernel
theorem dX12_orderCost_136 : decode cX12_orderCost 136 = .ok (.iload 6, 2) := by decide +kernel
theorem dX12_orderCost_138 : decode cX12_orderCost 138 = .ok (.ifCond .ge 9, 3) := by decide +kernel
theorem dX12_orderCost_141 : decode cX12_orderCost 141 = .ok (.iload 6, 2) := by decide +kernel
theorem dX12_orderCost_143 : decode cX12_orderCost 143 = .ok (.ineg, 1) := by decide +kernel
theorem dX12_orderCost_144 : decode cX12_orderCost 144 = .ok (.goto 5, 3) := by decide +kernel
theorem dX12_orderCost_147 : decode cX12_orderCost 147 = .ok (.iload 6, 2) := by decide +kernel
theorem dX12_orderCost_149 : decode cX12_orderCost 149 = .ok (.imul, 1) := by decide +kernel
theorem dX12_orderCost_150 : decode cX12_orderCost 150 = .ok (.iadd, 1) := by decide +kernel
theorem dX12_orderCost_151 : decode cX12_orderCost 151 = .ok (.istore_n 3, 1) := by decide +kernel
theorem dX12_orderCost_152 : decode cX12_orderCost 152 = .ok (.iinc 5 1, 3) := by decide +kernel
theorem dX12_orderCost_155 : decode cX12_orderCost 155 = .ok (.goto (-100), 3) := by decide +kernel
theorem dX12_orderCost_158 : decode cX12_orderCost 158 = .ok (.iinc 4 1, 3) := by decide +kernel
theorem dX12_orderCost_161 : decode cX12_orderCost 161 = .ok (.goto (-115), 3) := by decide +kernel
theorem dX12_orderCost_164 : decode cX12_orderCost 164 = .ok (.iload_n 3, 1) := by decide +kernel
theorem dX12_orderCost_165 : decode cX12_orderCost 165 = .ok (.ireturn, 1) := by decide +kernel
theorem dX12_orders_0 : decode cX12_orders 0 = .ok (.iload_n 2, 1) := by decide +kernel
theorem dX12_orders_1 : decode cX12_orders 1 = .ok (.ifCond .ne 53, 3) := by decide +kernel
theorem dX12_orders_4 : decode cX12_orders 4 = .ok (.aload_n 0, 1) := by decide +kernel
theorem dX12_orders_5 : decode cX12_orders 5 = .ok (.iload_n 1, 1) := by decide +kernel
theorem dX12_orders_6 : decode cX12_orders 6 = .ok (.invokevirtual 451, 3) := by decide +kernel
theorem dX12_orders_9 : decode cX12_orders 9 = .ok (.istore_n 3, 1) := by decide +kernel
theorem dX12_orders_10 : decode cX12_orders 10 = .ok (.iload_n 3, 1) := by decide +kernel
theorem dX12_orders_11 : decode cX12_orders 11 = .ok (.aload_n 0, 1) := by decide +kernel
theorem dX12_orders_12 : decode cX12_orders 12 = .ok (.getfield 454, 3) := by decide +kernel
theorem dX12_orders_15 : decode cX12_orders 15 = .ok (.if_icmp .lt 4, 3) := by decide +kernel
theorem dX12_orders_18 : decode cX12_orders 18 = .ok (.return_, 1) := by decide +kernel
theorem dX12_orders_19 : decode cX12_orders 19 = .ok (.aload_n 0, 1) := by decide +kernel
theorem dX12_orders_20 : decode cX12_orders 20 = .ok (.iload_n 3, 1) := by decide +kernel
theorem dX12_orders_21 : decode cX12_orders 21 = .ok (.putfield 454, 3) := by decide +kernel
theorem dX12_orders_24 : decode cX12_orders 24 = .ok (.iconst 0, 1) := by decide +kernel
theorem dX12_orders_25 : decode cX12_orders 25 = .ok (.istore 4, 2) := by decide +kernel
theorem dX12_orders_27 : decode cX12_orders 27 = .ok (.iload 4, 2) := by decide +kernel
theorem dX12_orders_29 : decode cX12_orders 29 = .ok (.iload_n 1, 1) := by decide +kernel
theorem dX12_orders_30 : decode cX12_orders 30 = .ok (.if_icmp .ge 23, 3) := by decide +kernel
theorem dX12_orders_33 : decode cX12_orders 33 = .ok (.aload_n 0, 1) := by decide +kernel
theorem dX12_orders_34 : decode cX12_orders 34 = .ok (.getfield 62, 3) := by decide +kernel
theorem dX12_orders_37 : decode cX12_orders 37 = .ok (.iload 4, 2) := by decide +kernel
theorem dX12_orders_39 : decode cX12_orders 39 = .ok (.aload_n 0, 1) := by decide +kernel
theorem dX12_orders_40 : decode cX12_orders 40 = .ok (.getfield 59, 3) := by decide +kernel
theorem dX12_orders_43 : decode cX12_orders 43 = .ok (.iload 4, 2) := by decide +kernel
theorem dX12_orders_45 : decode cX12_orders 45 = .ok (.iaload, 1) := by decide +kernel
theorem dX12_orders_46 : decode cX12_orders 46 = .ok (.iastore, 1) := by decide +kernel
theorem dX12_orders_47 : decode cX12_orders 47 = .ok (.iinc 4 1, 3) := by decide +kernel
theorem dX12_orders_50 : decode cX12_orders 50 = .ok (.goto (-23), 3) := by decide +kernel
theorem dX12_orders_53 : decode cX12_orders 53 = .ok (.return_, 1) := by decide +kernel
theorem dX12_orders_54 : decode cX12_orders 54 = .ok (.iconst 0, 1) := by decide +kernel
theorem dX12_orders_55 : decode cX12_orders 55 = .ok (.istore_n 3, 1) := by decide +kernel
theorem dX12_orders_56 : decode cX12_orders 56 = .ok (.iload_n 3, 1) := by decide +kernel
theorem dX12_orders_57 : decode cX12_orders 57 = .ok (.aload_n 0, 1) := by decide +kernel
theorem dX12_orders_58 : decode cX12_orders 58 = .ok (.getfield 7, 3) := by decide +kernel
theorem dX12_orders_61 : decode cX12_orders 61 = .ok (.sipush 211, 3) := by decide +kernel
theorem dX12_orders_64 : decode cX12_orders 64 = .ok (.iaload, 1) := by decide +kernel
theorem dX12_orders_65 : decode cX12_orders 65 = .ok (.if_icmp .ge 41, 3) := by decide +kernel
theorem dX12_orders_68 : decode cX12_orders 68 = .ok (.iload_n 2, 1) := by decide +kernel
theorem dX12_orders_69 : decode cX12_orders 69 = .ok (.iload_n 3, 1) := by decide +kernel
theorem dX12_orders_70 : decode cX12_orders 70 = .ok (.ishr, 1) := by decide +kernel
theorem dX12_orders_71 : decode cX12_orders 71 = .ok (.iconst 1, 1) := by decide +kernel
theorem dX12_orders_72 : decode cX12_orders 72 = .ok (.iand, 1) := by decide +kernel
theorem dX12_orders_73 : decode cX12_orders 73 = .ok (.ifCond .ne 6, 3) := by decide +kernel
theorem dX12_orders_76 : decode cX12_orders 76 = .ok (.goto 24, 3) := by decide +kernel
theorem dX12_orders_79 : decode cX12_orders 79 = .ok (.aload_n 0, 1) := by decide +kernel
theorem dX12_orders_80 : decode cX12_orders 80 = .ok (.getfield 59, 3) := by decide +kernel
theorem dX12_orders_83 : decode cX12_orders 83 = .ok (.iload_n 1, 1) := by decide +kernel
theorem dX12_orders_84 : decode cX12_orders 84 = .ok (.iload_n 3, 1) := by decide +kernel
theorem dX12_orders_85 : decode cX12_orders 85 = .ok (.iastore, 1) := by decide +kernel
theorem dX12_orders_86 : decode cX12_orders 86 = .ok (.aload_n 0, 1) := by decide +kernel
theorem dX12_orders_87 : decode cX12_orders 87 = .ok (.iload_n 1, 1) := by decide +kernel
theorem dX12_orders_88 : decode cX12_orders 88 = .ok (.iconst 1, 1) := by decide +kernel
theorem dX12_orders_89 : decode cX12_orders 89 = .ok (.iadd, 1) := by decide +kernel
theorem dX12_orders_90 : decode cX12_orders 90 = .ok (.iload_n 2, 1) := by decide +kernel
theorem dX12_orders_91 : decode cX12_orders 91 = .ok (.iconst 1, 1) := by decide +kernel
theorem dX12_orders_92 : decode cX12_orders 92 = .ok (.iload_n 3, 1) := by decide +kernel
theorem dX12_orders_93 : decode cX12_orders 93 = .ok (.ishl, 1) := by decide +kernel
theorem dX12_orders_94 : decode cX12_orders 94 = .ok (.iconst (-1), 1) := by decide +kernel
theorem dX12_orders_95 : decode cX12_orders 95 = .ok (.ixor, 1) := by decide +kernel
theorem dX12_orders_96 : decode cX12_orders 96 = .ok (.iand, 1) := by decide +kernel
theorem dX12_orders_97 : decode cX12_orders 97 = .ok (.invokevirtual 457, 3) := by decide +kernel
theorem dX12_orders_100 : decode cX12_orders 100 = .ok (.iinc 3 1, 3) := by decide +kernel
theorem dX12_orders_103 : decode cX12_orders 103 = .ok (.goto (-47), 3) := by decide +kernel
theorem dX12_orders_106 : decode cX12_orders 106 = .ok (.return_, 1) := by decide +kernel
theorem dX12_order_0 : decode cX12_order 0 = .ok (.aload_n 0, 1) := by decide +kernel
theorem dX12_order_1 : decode cX12_order 1 = .ok (.aload_n 0, 1) := by decide +kernel
theorem dX12_order_2 : decode cX12_order 2 = .ok (.getfield 7, 3) := by decide +kernel
theorem dX12_order_5 : decode cX12_order 5 = .ok (.iconst 0, 1) := by decide +kernel
theorem dX12_order_6 : decode cX12_order 6 = .ok (.iaload, 1) := by decide +kernel
theorem dX12_order_7 : decode cX12_order 7 = .ok (.invokevirtual 442, 3) := by decide +kernel
theorem dX12_order_10 : decode cX12_order 10 = .ok (.istore_n 2, 1) := by decide +kernel
theorem dX12_order_11 : decode cX12_order 11 = .ok (.iload_n 2, 1) := by decide +kernel
theorem dX12_order_12 : decode cX12_order 12 = .ok (.invokestatic 445, 3) := by decide +kernel
theorem dX12_order_15 : decode cX12_order 15 = .ok (.istore_n 3, 1) := by decide +kernel
theorem dX12_order_16 : decode cX12_order 16 = .ok (.iload_n 3, 1) := by decide +kernel
theorem dX12_order_17 : decode cX12_order 17 = .ok (.bipush 8, 2) := by decide +kernel
theorem dX12_order_19 : decode cX12_order 19 = .ok (.if_icmp .gt 20, 3) := by decide +kernel
theorem dX12_order_22 : decode cX12_order 22 = .ok (.iload_n 1, 1) := by decide +kernel
theorem dX12_order_23 : decode cX12_order 23 = .ok (.ifCond .eq 18, 3) := by decide +kernel
theorem dX12_order_26 : decode cX12_order 26 = .ok (.iload_n 1, 1) := by decide +kernel
theorem dX12_order_27 : decode cX12_order 27 = .ok (.bipush 10, 2) := by decide +kernel
theorem dX12_order_29 : decode cX12_order 29 = .ok (.bipush 9, 2) := by decide +kernel
theorem dX12_order_31 : decode cX12_order 31 = .ok (.iload_n 3, 1) := by decide +kernel
theorem dX12_order_32 : decode cX12_order 32 = .ok (.iadd, 1) := by decide +kernel
theorem dX12_order_33 : decode cX12_order 33 = .ok (.invokestatic 71, 3) := by decide +kernel
theorem dX12_order_36 : decode cX12_order 36 = .ok (.ifCond .ne 5, 3) := by decide +kernel
theorem dX12_order_39 : decode cX12_order 39 = .ok (.iconst (-1), 1) := by decide +kernel
theorem dX12_order_40 : decode cX12_order 40 = .ok (.ireturn, 1) := by decide +kernel
theorem dX12_order_41 : decode cX12_order 41 = .ok (.aload_n 0, 1) := by decide +kernel
theorem dX12_order_42 : decode cX12_order 42 = .ok (.ldc_w 413, 3) := by decide +kernel
theorem dX12_order_45 : decode cX12_order 45 = .ok (.putfield 454, 3) := by decide +kernel
theorem dX12_order_48 : decode cX12_order 48 = .ok (.aload_n 0, 1) := by decide +kernel
theorem dX12_order_49 : decode cX12_order 49 = .ok (.iconst 0, 1) := by decide +kernel
theorem dX12_order_50 : decode cX12_order 50 = .ok (.iload_n 2, 1) := by decide +kernel
theorem dX12_order_51 : decode cX12_order 51 = .ok (.invokevirtual 457, 3) := by decide +kernel
theorem dX12_order_54 : decode cX12_order 54 = .ok (.iload_n 1, 1) := by decide +kernel
theorem dX12_order_55 : decode cX12_order 55 = .ok (.ifCond .ne 10, 3) := by decide +kernel
theorem dX12_order_58 : decode cX12_order 58 = .ok (.aload_n 0, 1) := by decide +kernel
theorem dX12_order_59 : decode cX12_order 59 = .ok (.getfield 454, 3) := by decide +kernel
theorem dX12_order_62 : decode cX12_order 62 = .ok (.goto 12, 3) := by decide +kernel
theorem dX12_order_65 : decode cX12_order 65 = .ok (.aload_n 0, 1) := by decide +kernel
theorem dX12_order_66 : decode cX12_order 66 = .ok (.getfield 62, 3) := by decide +kernel
theorem dX12_order_69 : decode cX12_order 69 = .ok (.iload_n 1, 1) := by decide +kernel
theorem dX12_order_70 : decode cX12_order 70 = .ok (.bipush 10, 2) := by decide +kernel
theorem dX12_order_72 : decode cX12_order 72 = .ok (.isub, 1) := by decide +kernel
theorem dX12_order_73 : decode cX12_order 73 = .ok (.iaload, 1) := by decide +kernel
theorem dX12_order_74 : decode cX12_order 74 = .ok (.ireturn, 1) := by decide +kernel
theorem dX12_longOf_0 : decode cX12_longOf 0 = .ok (.iconst 0, 1) := by decide +kernel
theorem dX12_longOf_1 : decode cX12_longOf 1 = .ok (.istore_n 2, 1) := by decide +kernel
theorem dX12_longOf_2 : decode cX12_longOf 2 = .ok (.iconst 0, 1) := by decide +kernel
theorem dX12_longOf_3 : decode cX12_longOf 3 = .ok (.istore_n 3, 1) := by decide +kernel
theorem dX12_longOf_4 : decode cX12_longOf 4 = .ok (.iload_n 3, 1) := by decide +kernel
theorem dX12_longOf_5 : decode cX12_longOf 5 = .ok (.aload_n 0, 1) := by decide +kernel
theorem dX12_longOf_6 : decode cX12_longOf 6 = .ok (.getfield 7, 3) := by decide +kernel
theorem dX12_longOf_9 : decode cX12_longOf 9 = .ok (.sipush 211, 3) := by decide +kernel
theorem dX12_longOf_12 : decode cX12_longOf 12 = .ok (.iaload, 1) := by decide +kernel
theorem dX12_longOf_13 : decode cX12_longOf 13 = .ok (.if_icmp .ge 31, 3) := by decide +kernel
theorem dX12_longOf_16 : decode cX12_longOf 16 = .ok (.iload_n 2, 1) := by decide +kernel
theorem dX12_longOf_17 : decode cX12_longOf 17 = .ok (.iload_n 1, 1) := by decide +kernel
theorem dX12_longOf_18 : decode cX12_longOf 18 = .ok (.iload_n 3, 1) := by decide +kernel
theorem dX12_longOf_19 : decode cX12_longOf 19 = .ok (.ishr, 1) := by decide +kernel
theorem dX12_longOf_20 : decode cX12_longOf 20 = .ok (.iconst 1, 1) := by decide +kernel
theorem dX12_longOf_21 : decode cX12_longOf 21 = .ok (.iand, 1) := by decide +kernel
theorem dX12_longOf_22 : decode cX12_longOf 22 = .ok (.iconst 1, 1) := by decide +kernel
theorem dX12_longOf_23 : decode cX12_longOf 23 = .ok (.if_icmp .ne 12, 3) := by decide +kernel
theorem dX12_longOf_26 : decode cX12_longOf 26 = .ok (.aload_n 0, 1) := by decide +kernel
theorem dX12_longOf_27 : decode cX12_longOf 27 = .ok (.iload_n 3, 1) := by decide +kernel
theorem dX12_longOf_28 : decode cX12_longOf 28 = .ok (.iconst 2, 1) := by decide +kernel
theorem dX12_longOf_29 : decode cX12_longOf 29 = .ok (.invokevirtual 79, 3) := by decide +kernel
theorem dX12_longOf_32 : decode cX12_longOf 32 = .ok (.goto 4, 3) := by decide +kernel
theorem dX12_longOf_35 : decode cX12_longOf 35 = .ok (.iconst 0, 1) := by decide +kernel
theorem dX12_longOf_36 : decode cX12_longOf 36 = .ok (.iadd, 1) := by decide +kernel
theorem dX12_longOf_37 : decode cX12_longOf 37 = .ok (.istore_n 2, 1) := by decide +kernel
theorem dX12_longOf_38 : decode cX12_longOf 38 = .ok (.iinc 3 1, 3) := by decide +kernel
theorem dX12_longOf_41 : decode cX12_longOf 41 = .ok (.goto (-37), 3) := by decide +kernel
theorem dX12_longOf_44 : decode cX12_longOf 44 = .ok (.iload_n 2, 1) := by decide +kernel
theorem dX12_longOf_45 : decode cX12_longOf 45 = .ok (.ireturn, 1) := by decide +kernel
theorem dX12_halves_0 : decode cX12_halves 0 = .ok (.aload_n 0, 1) := by decide +kernel
theorem dX12_halves_1 : decode cX12_halves 1 = .ok (.getfield 7, 3) := by decide +kernel
theorem dX12_halves_4 : decode cX12_halves 4 = .ok (.sipush 211, 3) := by decide +kernel
theorem dX12_halves_7 : decode cX12_halves 7 = .ok (.iaload, 1) := by decide +kernel
theorem dX12_halves_8 : decode cX12_halves 8 = .ok (.bipush 12, 2) := by decide +kernel
theorem dX12_halves_10 : decode cX12_halves 10 = .ok (.if_icmp .gt 12, 3) := by decide +kernel
theorem dX12_halves_13 : decode cX12_halves 13 = .ok (.iload_n 1, 1) := by decide +kernel
theorem dX12_halves_14 : decode cX12_halves 14 = .ok (.iconst 0, 1) := by decide +kernel
theorem dX12_halves_15 : decode cX12_halves 15 = .ok (.iconst 1, 1) := by decide +kernel
theorem dX12_halves_16 : decode cX12_halves 16 = .ok (.invokestatic 71, 3) := by decide +kernel
theorem dX12_halves_19 : decode cX12_halves 19 = .ok (.ifCond .ne 5, 3) := by decide +kernel
theorem dX12_halves_22 : decode cX12_halves 22 = .ok (.iconst (-1), 1) := by decide +kernel
theorem dX12_halves_23 : decode cX12_halves 23 = .ok (.ireturn, 1) := by decide +kernel
theorem dX12_halves_24 : decode cX12_halves 24 = .ok (.iconst 1, 1) := by decide +kernel
theorem dX12_halves_25 : decode cX12_halves 25 = .ok (.aload_n 0, 1) := by decide +kernel
theorem dX12_halves_26 : decode cX12_halves 26 = .ok (.getfield 7, 3) := by decide +kernel
theorem dX12_halves_29 : decode cX12_halves 29 = .ok (.sipush 211, 3) := by decide +kernel
theorem dX12_halves_32 : decode cX12_halves 32 = .ok (.iaload, 1) := by decide +kernel
theorem dX12_halves_33 : decode cX12_halves 33 = .ok (.ishl, 1) := by decide +kernel
theorem dX12_halves_34 : decode cX12_halves 34 = .ok (.iconst 1, 1) := by decide +kernel
theorem dX12_halves_35 : decode cX12_halves 35 = .ok (.isub, 1) := by decide +kernel
theorem dX12_halves_36 : decode cX12_halves 36 = .ok (.istore_n 2, 1) := by decide +kernel
theorem dX12_halves_37 : decode cX12_halves 37 = .ok (.iconst (-1), 1) := by decide +kernel
theorem dX12_halves_38 : decode cX12_halves 38 = .ok (.istore_n 3, 1) := by decide +kernel
theorem dX12_halves_39 : decode cX12_halves 39 = .ok (.ldc_w 413, 3) := by decide +kernel
theorem dX12_halves_42 : decode cX12_halves 42 = .ok (.istore 4, 2) := by decide +kernel
theorem dX12_halves_44 : decode cX12_halves 44 = .ok (.iconst 0, 1) := by decide +kernel
theorem dX12_halves_45 : decode cX12_halves 45 = .ok (.istore 5, 2) := by decide +kernel
theorem dX12_halves_47 : decode cX12_halves 47 = .ok (.iload 5, 2) := by decide +kernel
theorem dX12_halves_49 : decode cX12_halves 49 = .ok (.iload_n 2, 1) := by decide +kernel
theorem dX12_halves_50 : decode cX12_halves 50 = .ok (.if_icmp .gt 82, 3) := by decide +kernel
theorem dX12_halves_53 : decode cX12_halves 53 = .ok (.aload_n 0, 1) := by decide +kernel
theorem dX12_halves_54 : decode cX12_halves 54 = .ok (.iload 5, 2) := by decide +kernel
theorem dX12_halves_56 : decode cX12_halves 56 = .ok (.invokevirtual 460, 3) := by decide +kernel
theorem dX12_halves_59 : decode cX12_halves 59 = .ok (.istore 6, 2) := by decide +kernel
theorem dX12_halves_61 : decode cX12_halves 61 = .ok (.aload_n 0, 1) := by decide +kernel
theorem dX12_halves_62 : decode cX12_halves 62 = .ok (.iload_n 2, 1) := by decide +kernel
theorem dX12_halves_63 : decode cX12_halves 63 = .ok (.invokevirtual 460, 3) := by decide +kernel
theorem dX12_halves_66 : decode cX12_halves 66 = .ok (.iload 6, 2) := by decide +kernel
theorem dX12_halves_68 : decode cX12_halves 68 = .ok (.isub, 1) := by decide +kernel
theorem dX12_halves_69 : decode cX12_halves 69 = .ok (.istore 7, 2) := by decide +kernel
theorem dX12_halves_71 : decode cX12_halves 71 = .ok (.iload 6, 2) := by decide +kernel
theorem dX12_halves_73 : decode cX12_halves 73 = .ok (.iload 7, 2) := by decide +kernel
theorem dX12_halves_75 : decode cX12_halves 75 = .ok (.if_icmp .ge 11, 3) := by decide +kernel
theorem dX12_halves_78 : decode cX12_halves 78 = .ok (.iload 7, 2) := by decide +kernel
theorem dX12_halves_80 : decode cX12_halves 80 = .ok (.iload 6, 2) := by decide +kernel
theorem dX12_halves_82 : decode cX12_halves 82 = .ok (.isub, 1) := by decide +kernel
theorem dX12_halves_83 : decode cX12_halves 83 = .ok (.goto 8, 3) := by decide +kernel
theorem dX12_halves_86 : decode cX12_halves 86 = .ok (.iload 6, 2) := by decide +kernel
theorem dX12_halves_88 : decode cX12_halves 88 = .ok (.iload 7, 2) := by decide +kernel
theorem dX12_halves_90 : decode cX12_halves 90 = .ok (.isub, 1) := by decide +kernel
theorem dX12_halves_91 : decode cX12_halves 91 = .ok (.istore 8, 2) := by decide +kernel
theorem dX12_halves_93 : decode cX12_halves 93 = .ok (.iload 6, 2) := by decide +kernel
theorem dX12_halves_95 : decode cX12_halves 95 = .ok (.sipush 200, 3) := by decide +kernel
theorem dX12_halves_98 : decode cX12_halves 98 = .ok (.if_icmp .gt 28, 3) := by decide +kernel
theorem dX12_halves_101 : decode cX12_halves 101 = .ok (.iload 7, 2) := by decide +kernel
theorem dX12_halves_103 : decode cX12_halves 103 = .ok (.sipush 200, 3) := by decide +kernel
theorem dX12_halves_106 : decode cX12_halves 106 = .ok (.if_icmp .gt 20, 3) := by decide +kernel
theorem dX12_halves_109 : decode cX12_halves 109 = .ok (.iload 8, 2) := by decide +kernel
theorem dX12_halves_111 : decode cX12_halves 111 = .ok (.iload 4, 2) := by decide +kernel
theorem dX12_halves_113 : decode cX12_halves 113 = .ok (.if_icmp .lt 6, 3) := by decide +kernel
theorem dX12_halves_116 : decode cX12_halves 116 = .ok (.goto 10, 3) := by decide +kernel
theorem dX12_halves_119 : decode cX12_halves 119 = .ok (.iload 8, 2) := by decide +kernel
theorem dX12_halves_121 : decode cX12_halves 121 = .ok (.istore 4, 2) := by decide +kernel
theorem dX12_halves_123 : decode cX12_halves 123 = .ok (.iload 5, 2) := by decide +kernel
theorem dX12_halves_125 : decode cX12_halves 125 = .ok (.istore_n 3, 1) := by decide +kernel
theorem dX12_halves_126 : decode cX12_halves 126 = .ok (.iinc 5 1, 3) := by decide +kernel
theorem dX12_halves_129 : decode cX12_halves 129 = .ok (.goto (-82), 3) := by decide +kernel
theorem dX12_halves_132 : decode cX12_halves 132 = .ok (.iload_n 3, 1) := by decide +kernel
theorem dX12_halves_133 : decode cX12_halves 133 = .ok (.iconst (-1), 1) := by decide +kernel
theorem dX12_halves_134 : decode cX12_halves 134 = .ok (.if_icmp .eq 8, 3) := by decide +kernel
theorem dX12_halves_137 : decode cX12_halves 137 = .ok (.iload_n 1, 1) := by decide +kernel
theorem dX12_halves_138 : decode cX12_halves 138 = .ok (.iconst 1, 1) := by decide +kernel
theorem dX12_halves_139 : decode cX12_halves 139 = .ok (.if_icmp .ne 7, 3) := by decide +kernel
theorem dX12_halves_142 : decode cX12_halves 142 = .ok (.iload_n 3, 1) := by decide +kernel
theorem dX12_halves_143 : decode cX12_halves 143 = .ok (.goto 5, 3) := by decide +kernel
theorem dX12_halves_146 : decode cX12_halves 146 = .ok (.iload 4, 2) := by decide +kernel
theorem dX12_halves_148 : decode cX12_halves 148 = .ok (.ireturn, 1) := by decide +kernel
theorem dX12_worn_0 : decode cX12_worn 0 = .ok (.iload_n 1, 1) := by decide +kernel
theorem dX12_worn_1 : decode cX12_worn 1 = .ok (.iconst (-1), 1) := by decide +kernel
theorem dX12_worn_2 : decode cX12_worn 2 = .ok (.if_icmp .ne 14, 3) := by decide +kernel
theorem dX12_worn_5 : decode cX12_worn 5 = .ok (.aload_n 0, 1) := by decide +kernel
theorem dX12_worn_6 : decode cX12_worn 6 = .ok (.getfield 7, 3) := by decide +kernel
theorem dX12_worn_9 : decode cX12_worn 9 = .ok (.sipush 215, 3) := by decide +kernel
theorem dX12_worn_12 : decode cX12_worn 12 = .ok (.iconst 0, 1) := by decide +kernel
theorem dX12_worn_13 : decode cX12_worn 13 = .ok (.iastore, 1) := by decide +kernel
theorem dX12_worn_14 : decode cX12_worn 14 = .ok (.iconst 0, 1) := by decide +kernel
theorem dX12_worn_15 : decode cX12_worn 15 = .ok (.ireturn, 1) := by decide +kernel
theorem dX12_worn_16 : decode cX12_worn 16 = .ok (.aload_n 0, 1) := by decide +kernel
theorem dX12_worn_17 : decode cX12_worn 17 = .ok (.iload_n 1, 1) := by decide +kernel
theorem dX12_worn_18 : decode cX12_worn 18 = .ok (.invokevirtual 398, 3) := by decide +kernel
theorem dX12_worn_21 : decode cX12_worn 21 = .ok (.ifCond .eq 26, 3) := by decide +kernel
theorem dX12_worn_24 : decode cX12_worn 24 = .ok (.iload_n 2, 1) := by decide +kernel
theorem dX12_worn_25 : decode cX12_worn 25 = .ok (.iconst 1, 1) := by decide +kernel
theorem dX12_worn_26 : decode cX12_worn 26 = .ok (.bipush 99, 2) := by decide +kernel
theorem dX12_worn_28 : decode cX12_worn 28 = .ok (.invokestatic 71, 3) := by decide +kernel
theorem dX12_worn_31 : decode cX12_worn 31 = .ok (.ifCond .eq 16, 3) := by decide +kernel
theorem dX12_worn_34 : decode cX12_worn 34 = .ok (.aload_n 0, 1) := by decide +kernel
theorem dX12_worn_35 : decode cX12_worn 35 = .ok (.getfield 7, 3) := by decide +kernel
theorem dX12_worn_38 : decode cX12_worn 38 = .ok (.sipush 215, 3) := by decide +kernel
theorem dX12_worn_41 : decode cX12_worn 41 = .ok (.iaload, 1) := by decide +kernel
theorem dX12_worn_42 : decode cX12_worn 42 = .ok (.bipush 12, 2) := by decide +kernel
theorem dX12_worn_44 : decode cX12_worn 44 = .ok (.if_icmp .ne 5, 3) := by decide +kernel
theorem dX12_worn_47 : decode cX12_worn 47 = .ok (.iconst (-1), 1) := by decide +kernel
theorem dX12_worn_48 : decode cX12_worn 48 = .ok (.ireturn, 1) := by decide +kernel
theorem dX12_worn_49 : decode cX12_worn 49 = .ok (.aload_n 0, 1) := by decide +kernel
theorem dX12_worn_50 : decode cX12_worn 50 = .ok (.getfield 7, 3) := by decide +kernel
theorem dX12_worn_53 : decode cX12_worn 53 = .ok (.sipush 930, 3) := by decide +kernel
theorem dX12_worn_56 : decode cX12_worn 56 = .ok (.iconst 2, 1) := by decide +kernel
theorem dX12_worn_57 : decode cX12_worn 57 = .ok (.aload_n 0, 1) := by decide +kernel
theorem dX12_worn_58 : decode cX12_worn 58 = .ok (.getfield 7, 3) := by decide +kernel
theorem dX12_worn_61 : decode cX12_worn 61 = .ok (.sipush 215, 3) := by decide +kernel
theorem dX12_worn_64 : decode cX12_worn 64 = .ok (.iaload, 1) := by decide +kernel
theorem dX12_worn_65 : decode cX12_worn 65 = .ok (.imul, 1) := by decide +kernel
theorem dX12_worn_66 : decode cX12_worn 66 = .ok (.iadd, 1) := by decide +kernel
theorem dX12_worn_67 : decode cX12_worn 67 = .ok (.iload_n 1, 1) := by decide +kernel
theorem dX12_worn_68 : decode cX12_worn 68 = .ok (.iastore, 1) := by decide +kernel
theorem dX12_worn_69 : decode cX12_worn 69 = .ok (.aload_n 0, 1) := by decide +kernel
theorem dX12_worn_70 : decode cX12_worn 70 = .ok (.getfield 7, 3) := by decide +kernel
theorem dX12_worn_73 : decode cX12_worn 73 = .ok (.sipush 930, 3) := by decide +kernel
theorem dX12_worn_76 : decode cX12_worn 76 = .ok (.iconst 2, 1) := by decide +kernel
theorem dX12_worn_77 : decode cX12_worn 77 = .ok (.aload_n 0, 1) := by decide +kernel
theorem dX12_worn_78 : decode cX12_worn 78 = .ok (.getfield 7, 3) := by decide +kernel
theorem dX12_worn_81 : decode cX12_worn 81 = .ok (.sipush 215, 3) := by decide +kernel
theorem dX12_worn_84 : decode cX12_worn 84 = .ok (.iaload, 1) := by decide +kernel
theorem dX12_worn_85 : decode cX12_worn 85 = .ok (.imul, 1) := by decide +kernel
theorem dX12_worn_86 : decode cX12_worn 86 = .ok (.iadd, 1) := by decide +kernel
theorem dX12_worn_87 : decode cX12_worn 87 = .ok (.iconst 1, 1) := by decide +kernel
theorem dX12_worn_88 : decode cX12_worn 88 = .ok (.iadd, 1) := by decide +kernel
theorem dX12_worn_89 : decode cX12_worn 89 = .ok (.iload_n 2, 1) := by decide +kernel
theorem dX12_worn_90 : decode cX12_worn 90 = .ok (.iastore, 1) := by decide +kernel
theorem dX12_worn_91 : decode cX12_worn 91 = .ok (.aload_n 0, 1) := by decide +kernel
theorem dX12_worn_92 : decode cX12_worn 92 = .ok (.getfield 7, 3) := by decide +kernel
theorem dX12_worn_95 : decode cX12_worn 95 = .ok (.sipush 215, 3) := by decide +kernel
theorem dX12_worn_98 : decode cX12_worn 98 = .ok (.dup2, 1) := by decide +kernel
theorem dX12_worn_99 : decode cX12_worn 99 = .ok (.iaload, 1) := by decide +kernel
theorem dX12_worn_100 : decode cX12_worn 100 = .ok (.iconst 1, 1) := by decide +kernel
theorem dX12_worn_101 : decode cX12_worn 101 = .ok (.iadd, 1) := by decide +kernel
theorem dX12_worn_102 : decode cX12_worn 102 = .ok (.iastore, 1) := by decide +kernel
theorem dX12_worn_103 : decode cX12_worn 103 = .ok (.aload_n 0, 1) := by decide +kernel
theorem dX12_worn_104 : decode cX12_worn 104 = .ok (.getfield 7, 3) := by decide +kernel
theorem dX12_worn_107 : decode cX12_worn 107 = .ok (.sipush 215, 3) := by decide +kernel
theorem dX12_worn_110 : decode cX12_worn 110 = .ok (.iaload, 1) := by decide +kernel
theorem dX12_worn_111 : decode cX12_worn 111 = .ok (.ireturn, 1) := by decide +kernel
theorem dX12_soughtOf_0 : decode cX12_soughtOf 0 = .ok (.iconst 0, 1) := by decide +kernel
theorem dX12_soughtOf_1 : decode cX12_soughtOf 1 = .ok (.istore_n 2, 1) := by decide +kernel
theorem dX12_soughtOf_2 : decode cX12_soughtOf 2 = .ok (.iconst 0, 1) := by decide +kernel
theorem dX12_soughtOf_3 : decode cX12_soughtOf 3 = .ok (.istore_n 3, 1) := by decide +kernel
theorem dX12_soughtOf_4 : decode cX12_soughtOf 4 = .ok (.iload_n 3, 1) := by decide +kernel
theorem dX12_soughtOf_5 : decode cX12_soughtOf 5 = .ok (.aload_n 0, 1) := by decide +kernel
theorem dX12_soughtOf_6 : decode cX12_soughtOf 6 = .ok (.getfield 7, 3) := by decide +kernel
theorem dX12_soughtOf_9 : decode cX12_soughtOf 9 = .ok (.sipush 215, 3) := by decide +kernel
theorem dX12_soughtOf_12 : decode cX12_soughtOf 12 = .ok (.iaload, 1) := by decide +kernel
theorem dX12_soughtOf_13 : decode cX12_soughtOf 13 = .ok (.if_icmp .ge 58, 3) := by decide +kernel
theorem dX12_soughtOf_16 : decode cX12_soughtOf 16 = .ok (.iload_n 2, 1) := by decide +kernel
theorem dX12_soughtOf_17 : decode cX12_soughtOf 17 = .ok (.aload_n 0, 1) := by decide +kernel
theorem dX12_soughtOf_18 : decode cX12_soughtOf 18 = .ok (.getfield 7, 3) := by decide +kernel
theorem dX12_soughtOf_21 : decode cX12_soughtOf 21 = .ok (.sipush 930, 3) := by decide +kernel
theorem dX12_soughtOf_24 : decode cX12_soughtOf 24 = .ok (.iconst 2, 1) := by decide +kernel
theorem dX12_soughtOf_25 : decode cX12_soughtOf 25 = .ok (.iload_n 3, 1) := by decide +kernel
theorem dX12_soughtOf_26 : decode cX12_soughtOf 26 = .ok (.imul, 1) := by decide +kernel
theorem dX12_soughtOf_27 : decode cX12_soughtOf 27 = .ok (.iadd, 1) := by decide +kernel
theorem dX12_soughtOf_28 : decode cX12_soughtOf 28 = .ok (.iaload, 1) := by decide +kernel
theorem dX12_soughtOf_29 : decode cX12_soughtOf 29 = .ok (.aload_n 0, 1) := by decide +kernel
theorem dX12_soughtOf_30 : decode cX12_soughtOf 30 = .ok (.iload_n 1, 1) := by decide +kernel
theorem dX12_soughtOf_31 : decode cX12_soughtOf 31 = .ok (.iconst 1, 1) := by decide +kernel
theorem dX12_soughtOf_32 : decode cX12_soughtOf 32 = .ok (.invokevirtual 79, 3) := by decide +kernel
theorem dX12_soughtOf_35 : decode cX12_soughtOf 35 = .ok (.isub, 1) := by decide +kernel
theorem dX12_soughtOf_36 : decode cX12_soughtOf 36 = .ok (.bipush (-3), 2) := by decide +kernel
theorem dX12_soughtOf_38 : decode cX12_soughtOf 38 = .ok (.iconst 3, 1) := by decide +kernel
theorem dX12_soughtOf_39 : decode cX12_soughtOf 39 = .ok (.invokestatic 71, 3) := by decide +kernel
theorem dX12_soughtOf_42 : decode cX12_soughtOf 42 = .ok (.ifCond .eq 20, 3) := by decide +kernel
theorem dX12_soughtOf_45 : decode cX12_soughtOf 45 = .ok (.aload_n 0, 1) := by decide +kernel
theorem dX12_soughtOf_46 : decode cX12_soughtOf 46 = .ok (.getfield 7, 3) := by decide +kernel
theorem dX12_soughtOf_49 : decode cX12_soughtOf 49 = .ok (.sipush 930, 3) := by decide +kernel
theorem dX12_soughtOf_52 : decode cX12_soughtOf 52 = .ok (.iconst 2, 1) := by decide +kernel
theorem dX12_soughtOf_53 : decode cX12_soughtOf 53 = .ok (.iload_n 3, 1) := by decide +kernel
theorem dX12_soughtOf_54 : decode cX12_soughtOf 54 = .ok (.imul, 1) := by decide +kernel
theorem dX12_soughtOf_55 : decode cX12_soughtOf 55 = .ok (.iadd, 1) := by decide +kernel
theorem dX12_soughtOf_56 : decode cX12_soughtOf 56 = .ok (.iconst 1, 1) := by decide +kernel
theorem dX12_soughtOf_57 : decode cX12_soughtOf 57 = .ok (.iadd, 1) := by decide +kernel
theorem dX12_soughtOf_58 : decode cX12_soughtOf 58 = .ok (.iaload, 1) := by decide +kernel
theorem dX12_soughtOf_59 : decode cX12_soughtOf 59 = .ok (.goto 4, 3) := by decide +kernel
theorem dX12_soughtOf_62 : decode cX12_soughtOf 62 = .ok (.iconst 0, 1) := by decide +kernel
theorem dX12_soughtOf_63 : decode cX12_soughtOf 63 = .ok (.iadd, 1) := by decide +kernel
theorem dX12_soughtOf_64 : decode cX12_soughtOf 64 = .ok (.istore_n 2, 1) := by decide +kernel
theorem dX12_soughtOf_65 : decode cX12_soughtOf 65 = .ok (.iinc 3 1, 3) := by decide +kernel
theorem dX12_soughtOf_68 : decode cX12_soughtOf 68 = .ok (.goto (-64), 3) := by decide +kernel
theorem dX12_soughtOf_71 : decode cX12_soughtOf 71 = .ok (.iload_n 2, 1) := by decide +kernel
theorem dX12_soughtOf_72 : decode cX12_soughtOf 72 = .ok (.ireturn, 1) := by decide +kernel
theorem dX12_sought_0 : decode cX12_sought 0 = .ok (.aload_n 0, 1) := by decide +kernel
theorem dX12_sought_1 : decode cX12_sought 1 = .ok (.iload_n 1, 1) := by decide +kernel
theorem dX12_sought_2 : decode cX12_sought 2 = .ok (.aload_n 0, 1) := by decide +kernel
theorem dX12_sought_3 : decode cX12_sought 3 = .ok (.getfield 7, 3) := by decide +kernel
theorem dX12_sought_6 : decode cX12_sought 6 = .ok (.iconst 0, 1) := by decide +kernel
theorem dX12_sought_7 : decode cX12_sought 7 = .ok (.iaload, 1) := by decide +kernel
theorem dX12_sought_8 : decode cX12_sought 8 = .ok (.invokevirtual 427, 3) := by decide +kernel
theorem dX12_sought_11 : decode cX12_sought 11 = .ok (.ifCond .eq 11, 3) := by decide +kernel
theorem dX12_sought_14 : decode cX12_sought 14 = .ok (.aload_n 0, 1) := by decide +kernel
theorem dX12_sought_15 : decode cX12_sought 15 = .ok (.iload_n 1, 1) := by decide +kernel
theorem dX12_sought_16 : decode cX12_sought 16 = .ok (.invokevirtual 463, 3) := by decide +kernel
theorem dX12_sought_19 : decode cX12_sought 19 = .ok (.goto 4, 3) := by decide +kernel
theorem dX12_sought_22 : decode cX12_sought 22 = .ok (.iconst (-1), 1) := by decide +kernel
theorem dX12_sought_23 : decode cX12_sought 23 = .ok (.ireturn, 1) := by decide +kernel
theorem dX12_most_0 : decode cX12_most 0 = .ok (.iconst (-1), 1) := by decide +kernel
theorem dX12_most_1 : decode cX12_most 1 = .ok (.istore_n 1, 1) := by decide +kernel
theorem dX12_most_2 : decode cX12_most 2 = .ok (.iconst 0, 1) := by decide +kernel
theorem dX12_most_3 : decode cX12_most 3 = .ok (.istore_n 2, 1) := by decide +kernel
theorem dX12_most_4 : decode cX12_most 4 = .ok (.iload_n 2, 1) := by decide +kernel
theorem dX12_most_5 : decode cX12_most 5 = .ok (.aload_n 0, 1) := by decide +kernel
theorem dX12_most_6 : decode cX12_most 6 = .ok (.getfield 7, 3) := by decide +kernel
theorem dX12_most_9 : decode cX12_most 9 = .ok (.sipush 211, 3) := by decide +kernel
theorem dX12_most_12 : decode cX12_most 12 = .ok (.iaload, 1) := by decide +kernel
theorem dX12_most_13 : decode cX12_most 13 = .ok (.if_icmp .ge 43, 3) := by decide +kernel
theorem dX12_most_16 : decode cX12_most 16 = .ok (.aload_n 0, 1) := by decide +kernel
theorem dX12_most_17 : decode cX12_most 17 = .ok (.iload_n 2, 1) := by decide +kernel
theorem dX12_most_18 : decode cX12_most 18 = .ok (.aload_n 0, 1) := by decide +kernel
theorem dX12_most_19 : decode cX12_most 19 = .ok (.getfield 7, 3) := by decide +kernel
theorem dX12_most_22 : decode cX12_most 22 = .ok (.iconst 0, 1) := by decide +kernel
theorem dX12_most_23 : decode cX12_most 23 = .ok (.iaload, 1) := by decide +kernel
theorem dX12_most_24 : decode cX12_most 24 = .ok (.invokevirtual 427, 3) := by decide +kernel
theorem dX12_most_27 : decode cX12_most 27 = .ok (.ifCond .eq 23, 3) := by decide +kernel
theorem dX12_most_30 : decode cX12_most 30 = .ok (.iload_n 1, 1) := by decide +kernel
theorem dX12_most_31 : decode cX12_most 31 = .ok (.iconst (-1), 1) := by decide +kernel
theorem dX12_most_32 : decode cX12_most 32 = .ok (.if_icmp .eq 16, 3) := by decide +kernel
theorem dX12_most_35 : decode cX12_most 35 = .ok (.aload_n 0, 1) := by decide +kernel
theorem dX12_most_36 : decode cX12_most 36 = .ok (.iload_n 2, 1) := by decide +kernel
theorem dX12_most_37 : decode cX12_most 37 = .ok (.invokevirtual 463, 3) := by decide +kernel
theorem dX12_most_40 : decode cX12_most 40 = .ok (.aload_n 0, 1) := by decide +kernel
theorem dX12_most_41 : decode cX12_most 41 = .ok (.iload_n 1, 1) := by decide +kernel
theorem dX12_most_42 : decode cX12_most 42 = .ok (.invokevirtual 463, 3) := by decide +kernel
theorem dX12_most_45 : decode cX12_most 45 = .ok (.if_icmp .le 5, 3) := by decide +kernel
theorem dX12_most_48 : decode cX12_most 48 = .ok (.iload_n 2, 1) := by decide +kernel
theorem dX12_most_49 : decode cX12_most 49 = .ok (.istore_n 1, 1) := by decide +kernel
theorem dX12_most_50 : decode cX12_most 50 = .ok (.iinc 2 1, 3) := by decide +kernel
theorem dX12_most_53 : decode cX12_most 53 = .ok (.goto (-49), 3) := by decide +kernel
theorem dX12_most_56 : decode cX12_most 56 = .ok (.iload_n 1, 1) := by decide +kernel
theorem dX12_most_57 : decode cX12_most 57 = .ok (.ireturn, 1) := by decide +kernel
theorem dX12_leastHeld_0 : decode cX12_leastHeld 0 = .ok (.iconst 1, 1) := by decide +kernel
theorem dX12_leastHeld_1 : decode cX12_leastHeld 1 = .ok (.istore 4, 2) := by decide +kernel
theorem dX12_leastHeld_3 : decode cX12_leastHeld 3 = .ok (.iload 4, 2) := by decide +kernel
theorem dX12_leastHeld_5 : decode cX12_leastHeld 5 = .ok (.bipush 60, 2) := by decide +kernel
theorem dX12_leastHeld_7 : decode cX12_leastHeld 7 = .ok (.if_icmp .ge 41, 3) := by decide +kernel
theorem dX12_leastHeld_10 : decode cX12_leastHeld 10 = .ok (.aload_n 0, 1) := by decide +kernel
theorem dX12_leastHeld_11 : decode cX12_leastHeld 11 = .ok (.iload_n 1, 1) := by decide +kernel
theorem dX12_leastHeld_12 : decode cX12_leastHeld 12 = .ok (.iload_n 2, 1) := by decide +kernel
theorem dX12_leastHeld_13 : decode cX12_leastHeld 13 = .ok (.iload 4, 2) := by decide +kernel
theorem dX12_leastHeld_15 : decode cX12_leastHeld 15 = .ok (.invokevirtual 372, 3) := by decide +kernel
theorem dX12_leastHeld_18 : decode cX12_leastHeld 18 = .ok (.istore 5, 2) := by decide +kernel
theorem dX12_leastHeld_20 : decode cX12_leastHeld 20 = .ok (.iload_n 2, 1) := by decide +kernel
theorem dX12_leastHeld_21 : decode cX12_leastHeld 21 = .ok (.ifCond .eq 12, 3) := by decide +kernel
theorem dX12_leastHeld_24 : decode cX12_leastHeld 24 = .ok (.iload 5, 2) := by decide +kernel
theorem dX12_leastHeld_26 : decode cX12_leastHeld 26 = .ok (.iload_n 3, 1) := by decide +kernel
theorem dX12_leastHeld_27 : decode cX12_leastHeld 27 = .ok (.if_icmp .lt 15, 3) := by decide +kernel
theorem dX12_leastHeld_30 : decode cX12_leastHeld 30 = .ok (.goto 9, 3) := by decide +kernel
theorem dX12_leastHeld_33 : decode cX12_leastHeld 33 = .ok (.iload 5, 2) := by decide +kernel
theorem dX12_leastHeld_35 : decode cX12_leastHeld 35 = .ok (.iload_n 3, 1) := by decide +kernel
theorem dX12_leastHeld_36 : decode cX12_leastHeld 36 = .ok (.if_icmp .gt 6, 3) := by decide +kernel
theorem dX12_leastHeld_39 : decode cX12_leastHeld 39 = .ok (.iload 4, 2) := by decide +kernel
theorem dX12_leastHeld_41 : decode cX12_leastHeld 41 = .ok (.ireturn, 1) := by decide +kernel
theorem dX12_leastHeld_42 : decode cX12_leastHeld 42 = .ok (.iinc 4 1, 3) := by decide +kernel
theorem dX12_leastHeld_45 : decode cX12_leastHeld 45 = .ok (.goto (-42), 3) := by decide +kernel
theorem dX12_leastHeld_48 : decode cX12_leastHeld 48 = .ok (.bipush 60, 2) := by decide +kernel
theorem dX12_leastHeld_50 : decode cX12_leastHeld 50 = .ok (.ireturn, 1) := by decide +kernel
theorem dX12_ruledCost_0 : decode cX12_ruledCost 0 = .ok (.iconst 0, 1) := by decide +kernel
theorem dX12_ruledCost_1 : decode cX12_ruledCost 1 = .ok (.iload_n 2, 1) := by decide +kernel
theorem dX12_ruledCost_2 : decode cX12_ruledCost 2 = .ok (.iload_n 3, 1) := by decide +kernel
theorem dX12_ruledCost_3 : decode cX12_ruledCost 3 = .ok (.isub, 1) := by decide +kernel
theorem dX12_ruledCost_4 : decode cX12_ruledCost 4 = .ok (.invokestatic 297, 3) := by decide +kernel
theorem dX12_ruledCost_7 : decode cX12_ruledCost 7 = .ok (.istore 4, 2) := by decide +kernel
theorem dX12_ruledCost_9 : decode cX12_ruledCost 9 = .ok (.iload_n 1, 1) := by decide +kernel
theorem dX12_ruledCost_10 : decode cX12_ruledCost 10 = .ok (.iload 4, 2) := by decide +kernel
theorem dX12_ruledCost_12 : decode cX12_ruledCost 12 = .ok (.if_icmp .lt 17, 3) := by decide +kernel
theorem dX12_ruledCost_15 : decode cX12_ruledCost 15 = .ok (.iload_n 1, 1) := by decide +kernel
theorem dX12_ruledCost_16 : decode cX12_ruledCost 16 = .ok (.iload_n 2, 1) := by decide +kernel
theorem dX12_ruledCost_17 : decode cX12_ruledCost 17 = .ok (.if_icmp .gt 12, 3) := by decide +kernel
theorem dX12_ruledCost_20 : decode cX12_ruledCost 20 = .ok (.iload_n 2, 1) := by decide +kernel
theorem dX12_ruledCost_21 : decode cX12_ruledCost 21 = .ok (.iload_n 1, 1) := by decide +kernel
theorem dX12_ruledCost_22 : decode cX12_ruledCost 22 = .ok (.isub, 1) := by decide +kernel
theorem dX12_ruledCost_23 : decode cX12_ruledCost 23 = .ok (.aload_n 0, 1) := by decide +kernel
theorem dX12_ruledCost_24 : decode cX12_ruledCost 24 = .ok (.invokevirtual 366, 3) := by decide +kernel
theorem dX12_ruledCost_27 : decode cX12_ruledCost 27 = .ok (.imul, 1) := by decide +kernel
theorem dX12_ruledCost_28 : decode cX12_ruledCost 28 = .ok (.ireturn, 1) := by decide +kernel
theorem dX12_ruledCost_29 : decode cX12_ruledCost 29 = .ok (.iload_n 1, 1) := by decide +kernel
theorem dX12_ruledCost_30 : decode cX12_ruledCost 30 = .ok (.iload 4, 2) := by decide +kernel
theorem dX12_ruledCost_32 : decode cX12_ruledCost 32 = .ok (.if_icmp .ge 7, 3) := by decide +kernel
theorem dX12_ruledCost_35 : decode cX12_ruledCost 35 = .ok (.iconst 1, 1) := by decide +kernel
theorem dX12_ruledCost_36 : decode cX12_ruledCost 36 = .ok (.goto 4, 3) := by decide +kernel
theorem dX12_ruledCost_39 : decode cX12_ruledCost 39 = .ok (.iconst 0, 1) := by decide +kernel
theorem dX12_ruledCost_40 : decode cX12_ruledCost 40 = .ok (.istore 5, 2) := by decide +kernel
theorem dX12_ruledCost_42 : decode cX12_ruledCost 42 = .ok (.aload_n 0, 1) := by decide +kernel
theorem dX12_ruledCost_43 : decode cX12_ruledCost 43 = .ok (.iload_n 1, 1) := by decide +kernel
theorem dX12_ruledCost_44 : decode cX12_ruledCost 44 = .ok (.iload_n 2, 1) := by decide +kernel
theorem dX12_ruledCost_45 : decode cX12_ruledCost 45 = .ok (.iload 5, 2) := by decide +kernel
theorem dX12_ruledCost_47 : decode cX12_ruledCost 47 = .ok (.aload_n 0, 1) := by decide +kernel
theorem dX12_ruledCost_48 : decode cX12_ruledCost 48 = .ok (.iload_n 1, 1) := by decide +kernel
theorem dX12_ruledCost_49 : decode cX12_ruledCost 49 = .ok (.iload 5, 2) := by decide +kernel
theorem dX12_ruledCost_51 : decode cX12_ruledCost 51 = .ok (.iload 4, 2) := by decide +kernel
theorem dX12_ruledCost_53 : decode cX12_ruledCost 53 = .ok (.invokevirtual 466, 3) := by decide +kernel
theorem dX12_ruledCost_56 : decode cX12_ruledCost 56 = .ok (.invokevirtual 423, 3) := by decide +kernel
theorem dX12_ruledCost_59 : decode cX12_ruledCost 59 = .ok (.ireturn, 1) := by decide +kernel
theorem dX12_ruled_0 : decode cX12_ruled 0 = .ok (.lconst 0, 1) := by decide +kernel
theorem dX12_ruled_1 : decode cX12_ruled 1 = .ok (.lstore_n 2, 1) := by decide +kernel
theorem dX12_ruled_2 : decode cX12_ruled 2 = .ok (.iconst 0, 1) := by decide +kernel
theorem dX12_ruled_3 : decode cX12_ruled 3 = .ok (.istore 4, 2) := by decide +kernel
theorem dX12_ruled_5 : decode cX12_ruled 5 = .ok (.iload 4, 2) := by decide +kernel
theorem dX12_ruled_7 : decode cX12_ruled 7 = .ok (.aload_n 0, 1) := by decide +kernel
theorem dX12_ruled_8 : decode cX12_ruled 8 = .ok (.getfield 7, 3) := by decide +kernel
theorem dX12_ruled_11 : decode cX12_ruled 11 = .ok (.sipush 211, 3) := by decide +kernel
theorem dX12_ruled_14 : decode cX12_ruled 14 = .ok (.iaload, 1) := by decide +kernel
theorem dX12_ruled_15 : decode cX12_ruled 15 = .ok (.if_icmp .ge 55, 3) := by decide +kernel
theorem dX12_ruled_18 : decode cX12_ruled 18 = .ok (.aload_n 0, 1) := by decide +kernel
theorem dX12_ruled_19 : decode cX12_ruled 19 = .ok (.iload 4, 2) := by decide +kernel
theorem dX12_ruled_21 : decode cX12_ruled 21 = .ok (.aload_n 0, 1) := by decide +kernel
theorem dX12_ruled_22 : decode cX12_ruled 22 = .ok (.getfield 7, 3) := by decide +kernel
theorem dX12_ruled_25 : decode cX12_ruled 25 = .ok (.iconst 0, 1) := by decide +kernel
theorem dX12_ruled_26 : decode cX12_ruled 26 = .ok (.iaload, 1) := by decide +kernel
theorem dX12_ruled_27 : decode cX12_ruled 27 = .ok (.invokevirtual 427, 3) := by decide +kernel
theorem dX12_ruled_30 : decode cX12_ruled 30 = .ok (.ifCond .eq 34, 3) := by decide +kernel
theorem dX12_ruled_33 : decode cX12_ruled 33 = .ok (.lload_n 2, 1) := by decide +kernel
theorem dX12_ruled_34 : decode cX12_ruled 34 = .ok (.aload_n 0, 1) := by decide +kernel
theorem dX12_ruled_35 : decode cX12_ruled 35 = .ok (.iload 4, 2) := by decide +kernel
theorem dX12_ruled_37 : decode cX12_ruled 37 = .ok (.iconst 3, 1) := by decide +kernel
theorem dX12_ruled_38 : decode cX12_ruled 38 = .ok (.invokevirtual 79, 3) := by decide +kernel
theorem dX12_ruled_41 : decode cX12_ruled 41 = .ok (.i2l, 1) := by decide +kernel
theorem dX12_ruled_42 : decode cX12_ruled 42 = .ok (.aload_n 0, 1) := by decide +kernel
theorem dX12_ruled_43 : decode cX12_ruled 43 = .ok (.aload_n 0, 1) := by decide +kernel
theorem dX12_ruled_44 : decode cX12_ruled 44 = .ok (.getfield 7, 3) := by decide +kernel
theorem dX12_ruled_47 : decode cX12_ruled 47 = .ok (.iconst 1, 1) := by decide +kernel
theorem dX12_ruled_48 : decode cX12_ruled 48 = .ok (.iaload, 1) := by decide +kernel
theorem dX12_ruled_49 : decode cX12_ruled 49 = .ok (.aload_n 0, 1) := by decide +kernel
theorem dX12_ruled_50 : decode cX12_ruled 50 = .ok (.iload 4, 2) := by decide +kernel
theorem dX12_ruled_52 : decode cX12_ruled 52 = .ok (.iconst 1, 1) := by decide +kernel
theorem dX12_ruled_53 : decode cX12_ruled 53 = .ok (.invokevirtual 79, 3) := by decide +kernel
theorem dX12_ruled_56 : decode cX12_ruled 56 = .ok (.iload_n 1, 1) := by decide +kernel
theorem dX12_ruled_57 : decode cX12_ruled 57 = .ok (.invokevirtual 469, 3) := by decide +kernel
theorem dX12_ruled_60 : decode cX12_ruled 60 = .ok (.i2l, 1) := by decide +kernel
theorem dX12_ruled_61 : decode cX12_ruled 61 = .ok (.lmul, 1) := by decide +kernel
theorem dX12_ruled_62 : decode cX12_ruled 62 = .ok (.ladd, 1) := by decide +kernel
theorem dX12_ruled_63 : decode cX12_ruled 63 = .ok (.lstore_n 2, 1) := by decide +kernel
theorem dX12_ruled_64 : decode cX12_ruled 64 = .ok (.iinc 4 1, 3) := by decide +kernel
theorem dX12_ruled_67 : decode cX12_ruled 67 = .ok (.goto (-62), 3) := by decide +kernel
theorem dX12_ruled_70 : decode cX12_ruled 70 = .ok (.lload_n 2, 1) := by decide +kernel
theorem dX12_ruled_71 : decode cX12_ruled 71 = .ok (.lreturn, 1) := by decide +kernel
theorem dX12_rule_0 : decode cX12_rule 0 = .ok (.iload_n 1, 1) := by decide +kernel
theorem dX12_rule_1 : decode cX12_rule 1 = .ok (.iconst 0, 1) := by decide +kernel
theorem dX12_rule_2 : decode cX12_rule 2 = .ok (.bipush 30, 2) := by decide +kernel
theorem dX12_rule_4 : decode cX12_rule 4 = .ok (.invokestatic 71, 3) := by decide +kernel
theorem dX12_rule_7 : decode cX12_rule 7 = .ok (.ifCond .eq 11, 3) := by decide +kernel
theorem dX12_rule_10 : decode cX12_rule 10 = .ok (.aload_n 0, 1) := by decide +kernel
theorem dX12_rule_11 : decode cX12_rule 11 = .ok (.iload_n 1, 1) := by decide +kernel
theorem dX12_rule_12 : decode cX12_rule 12 = .ok (.invokevirtual 472, 3) := by decide +kernel
theorem dX12_rule_15 : decode cX12_rule 15 = .ok (.goto 6, 3) := by decide +kernel
theorem dX12_rule_18 : decode cX12_rule 18 = .ok (.ldc2_w 476, 3) := by decide +kernel
theorem dX12_rule_21 : decode cX12_rule 21 = .ok (.lreturn, 1) := by decide +kernel
theorem dX12_best_0 : decode cX12_best 0 = .ok (.iconst 0, 1) := by decide +kernel
theorem dX12_best_1 : decode cX12_best 1 = .ok (.istore_n 1, 1) := by decide +kernel
theorem dX12_best_2 : decode cX12_best 2 = .ok (.aload_n 0, 1) := by decide +kernel
theorem dX12_best_3 : decode cX12_best 3 = .ok (.iconst 0, 1) := by decide +kernel
theorem dX12_best_4 : decode cX12_best 4 = .ok (.invokevirtual 472, 3) := by decide +kernel
theorem dX12_best_7 : decode cX12_best 7 = .ok (.lstore_n 2, 1) := by decide +kernel
theorem dX12_best_8 : decode cX12_best 8 = .ok (.iconst 1, 1) := by decide +kernel
theorem dX12_best_9 : decode cX12_best 9 = .ok (.istore 4, 2) := by decide +kernel
theorem dX12_best_11 : decode cX12_best 11 = .ok (.iload 4, 2) := by decide +kernel
theorem dX12_best_13 : decode cX12_best 13 = .ok (.bipush 30, 2) := by decide +kernel
theorem dX12_best_15 : decode cX12_best 15 = .ok (.if_icmp .gt 33, 3) := by decide +kernel
theorem dX12_best_18 : decode cX12_best 18 = .ok (.aload_n 0, 1) := by decide +kernel
theorem dX12_best_19 : decode cX12_best 19 = .ok (.iload 4, 2) := by decide +kernel
theorem dX12_best_21 : decode cX12_best 21 = .ok (.invokevirtual 472, 3) := by decide +kernel
theorem dX12_best_24 : decode cX12_best 24 = .ok (.lstore 5, 2) := by decide +kernel
theorem dX12_best_26 : decode cX12_best 26 = .ok (.lload 5, 2) := by decide +kernel
theorem dX12_best_28 : decode cX12_best 28 = .ok (.lload_n 2, 1) := by decide +kernel
theorem dX12_best_29 : decode cX12_best 29 = .ok (.lcmp, 1) := by decide +kernel
theorem dX12_best_30 : decode cX12_best 30 = .ok (.ifCond .lt 6, 3) := by decide +kernel
theorem dX12_best_33 : decode cX12_best 33 = .ok (.goto 9, 3) := by decide +kernel
theorem dX12_best_36 : decode cX12_best 36 = .ok (.lload 5, 2) := by decide +kernel
theorem dX12_best_38 : decode cX12_best 38 = .ok (.lstore_n 2, 1) := by decide +kernel
theorem dX12_best_39 : decode cX12_best 39 = .ok (.iload 4, 2) := by decide +kernel
theorem dX12_best_41 : decode cX12_best 41 = .ok (.istore_n 1, 1) := by decide +kernel
theorem dX12_best_42 : decode cX12_best 42 = .ok (.iinc 4 1, 3) := by decide +kernel
theorem dX12_best_45 : decode cX12_best 45 = .ok (.goto (-34), 3) := by decide +kernel
theorem dX12_best_48 : decode cX12_best 48 = .ok (.iload_n 1, 1) := by decide +kernel
theorem dX12_best_49 : decode cX12_best 49 = .ok (.ireturn, 1) := by decide +kernel
theorem dX12_goes_0 : decode cX12_goes 0 = .ok (.iload_n 1, 1) := by decide +kernel
theorem dX12_goes_1 : decode cX12_goes 1 = .ok (.iconst 0, 1) := by decide +kernel
theorem dX12_goes_2 : decode cX12_goes 2 = .ok (.iconst 3, 1) := by decide +kernel
theorem dX12_goes_3 : decode cX12_goes 3 = .ok (.invokestatic 71, 3) := by decide +kernel
theorem dX12_goes_6 : decode cX12_goes 6 = .ok (.ifCond .ne 5, 3) := by decide +kernel
theorem dX12_goes_9 : decode cX12_goes 9 = .ok (.iconst (-1), 1) := by decide +kernel
theorem dX12_goes_10 : decode cX12_goes 10 = .ok (.ireturn, 1) := by decide +kernel
theorem dX12_goes_11 : decode cX12_goes 11 = .ok (.aload_n 0, 1) := by decide +kernel
theorem dX12_goes_12 : decode cX12_goes 12 = .ok (.getfield 7, 3) := by decide +kernel
theorem dX12_goes_15 : decode cX12_goes 15 = .ok (.iconst 0, 1) := by decide +kernel
theorem dX12_goes_16 : decode cX12_goes 16 = .ok (.iaload, 1) := by decide +kernel
theorem dX12_goes_17 : decode cX12_goes 17 = .ok (.istore_n 2, 1) := by decide +kernel
theorem dX12_goes_18 : decode cX12_goes 18 = .ok (.aload_n 0, 1) := by decide +kernel
theorem dX12_goes_19 : decode cX12_goes 19 = .ok (.getfield 7, 3) := by decide +kernel
theorem dX12_goes_22 : decode cX12_goes 22 = .ok (.iconst 4, 1) := by decide +kernel
theorem dX12_goes_23 : decode cX12_goes 23 = .ok (.iaload, 1) := by decide +kernel
theorem dX12_goes_24 : decode cX12_goes 24 = .ok (.istore_n 3, 1) := by decide +kernel
theorem dX12_goes_25 : decode cX12_goes 25 = .ok (.aload_n 0, 1) := by decide +kernel
theorem dX12_goes_26 : decode cX12_goes 26 = .ok (.getfield 7, 3) := by decide +kernel
theorem dX12_goes_29 : decode cX12_goes 29 = .ok (.iconst 1, 1) := by decide +kernel
theorem dX12_goes_30 : decode cX12_goes 30 = .ok (.iaload, 1) := by decide +kernel
theorem dX12_goes_31 : decode cX12_goes 31 = .ok (.istore 4, 2) := by decide +kernel
theorem dX12_goes_33 : decode cX12_goes 33 = .ok (.iconst 0, 1) := by decide +kernel
theorem dX12_goes_34 : decode cX12_goes 34 = .ok (.istore 5, 2) := by decide +kernel
theorem dX12_goes_36 : decode cX12_goes 36 = .ok (.iconst 0, 1) := by decide +kernel
theorem dX12_goes_37 : decode cX12_goes 37 = .ok (.istore 6, 2) := by decide +kernel
theorem dX12_goes_39 : decode cX12_goes 39 = .ok (.iconst 0, 1) := by decide +kernel
theorem dX12_goes_40 : decode cX12_goes 40 = .ok (.istore 7, 2) := by decide +kernel
theorem dX12_goes_42 : decode cX12_goes 42 = .ok (.iload 7, 2) := by decide +kernel
theorem dX12_goes_44 : decode cX12_goes 44 = .ok (.aload_n 0, 1) := by decide +kernel
theorem dX12_goes_45 : decode cX12_goes 45 = .ok (.getfield 7, 3) := by decide +kernel
theorem dX12_goes_48 : decode cX12_goes 48 = .ok (.sipush 213, 3) := by decide +kernel
theorem dX12_goes_51 : decode cX12_goes 51 = .ok (.iaload, 1) := by decide +kernel
theorem dX12_goes_52 : decode cX12_goes 52 = .ok (.if_icmp .ge 162, 3) := by decide +kernel
theorem dX12_goes_55 : decode cX12_goes 55 = .ok (.aload_n 0, 1) := by decide +kernel
theorem dX12_goes_56 : decode cX12_goes 56 = .ok (.getfield 7, 3) := by decide +kernel
theorem dX12_goes_59 : decode cX12_goes 59 = .ok (.sipush 674, 3) := by decide +kernel
theorem dX12_goes_62 : decode cX12_goes 62 = .ok (.iload 7, 2) := by decide +kernel
theorem dX12_goes_64 : decode cX12_goes 64 = .ok (.iadd, 1) := by decide +kernel
theorem dX12_goes_65 : decode cX12_goes 65 = .ok (.iaload, 1) := by decide +kernel
theorem dX12_goes_66 : decode cX12_goes 66 = .ok (.bipush 100, 2) := by decide +kernel
theorem dX12_goes_68 : decode cX12_goes 68 = .ok (.idiv, 1) := by decide +kernel
theorem dX12_goes_69 : decode cX12_goes 69 = .ok (.istore 8, 2) := by decide +kernel
theorem dX12_goes_71 : decode cX12_goes 71 = .ok (.aload_n 0, 1) := by decide +kernel
theorem dX12_goes_72 : decode cX12_goes 72 = .ok (.getfield 7, 3) := by decide +kernel
theorem dX12_goes_75 : decode cX12_goes 75 = .ok (.sipush 674, 3) := by decide +kernel
theorem dX12_goes_78 : decode cX12_goes 78 = .ok (.iload 7, 2) := by decide +kernel
theorem dX12_goes_80 : decode cX12_goes 80 = .ok (.iadd, 1) := by decide +kernel
theorem dX12_goes_81 : decode cX12_goes 81 = .ok (.iaload, 1) := by decide +kernel
theorem dX12_goes_82 : decode cX12_goes 82 = .ok (.bipush 100, 2) := by decide +kernel
theorem dX12_goes_84 : decode cX12_goes 84 = .ok (.irem, 1) := by decide +kernel
theorem dX12_goes_85 : decode cX12_goes 85 = .ok (.istore 9, 2) := by decide +kernel
theorem dX12_goes_87 : decode cX12_goes 87 = .ok (.iload 8, 2) := by decide +kernel
theorem dX12_goes_89 : decode cX12_goes 89 = .ok (.iconst 3, 1) := by decide +kernel
theorem dX12_goes_90 : decode cX12_goes 90 = .ok (.if_icmp .ne 36, 3) := by decide +kernel
theorem dX12_goes_93 : decode cX12_goes 93 = .ok (.aload_n 0, 1) := by decide +kernel
theorem dX12_goes_94 : decode cX12_goes 94 = .ok (.getfield 7, 3) := by decide +kernel
theorem dX12_goes_97 : decode cX12_goes 97 = .ok (.iconst 0, 1) := by decide +kernel
theorem dX12_goes_98 : decode cX12_goes 98 = .ok (.iconst 1, 1) := by decide +kernel
theorem dX12_goes_99 : decode cX12_goes 99 = .ok (.aload_n 0, 1) := by decide +kernel
theorem dX12_goes_100 : decode cX12_goes 100 = .ok (.getfield 7, 3) := by decide +kernel
theorem dX12_goes_103 : decode cX12_goes 103 = .ok (.iconst 0, 1) := by decide +kernel
theorem dX12_goes_104 : decode cX12_goes 104 = .ok (.iaload, 1) := by decide +kernel
theorem dX12_goes_105 : decode cX12_goes 105 = .ok (.isub, 1) := by decide +kernel
theorem dX12_goes_106 : decode cX12_goes 106 = .ok (.iastore, 1) := by decide +kernel
theorem dX12_goes_107 : decode cX12_goes 107 = .ok (.aload_n 0, 1) := by decide +kernel
theorem dX12_goes_108 : decode cX12_goes 108 = .ok (.getfield 7, 3) := by decide +kernel
theorem dX12_goes_111 : decode cX12_goes 111 = .ok (.sipush 208, 3) := by decide +kernel
theorem dX12_goes_114 : decode cX12_goes 114 = .ok (.iaload, 1) := by decide +kernel
theorem dX12_goes_115 : decode cX12_goes 115 = .ok (.iload 4, 2) := by decide +kernel
theorem dX12_goes_117 : decode cX12_goes 117 = .ok (.isub, 1) := by decide +kernel
theorem dX12_goes_118 : decode cX12_goes 118 = .ok (.istore 4, 2) := by decide +kernel
theorem dX12_goes_120 : decode cX12_goes 120 = .ok (.iinc 5 8, 3) := by decide +kernel
theorem dX12_goes_123 : decode cX12_goes 123 = .ok (.goto 85, 3) := by decide +kernel
theorem dX12_goes_126 : decode cX12_goes 126 = .ok (.iload 8, 2) := by decide +kernel
theorem dX12_goes_128 : decode cX12_goes 128 = .ok (.iconst 2, 1) := by decide +kernel
theorem dX12_goes_129 : decode cX12_goes 129 = .ok (.if_icmp .ne 31, 3) := by decide +kernel
theorem dX12_goes_132 : decode cX12_goes 132 = .ok (.aload_n 0, 1) := by decide +kernel
theorem dX12_goes_133 : decode cX12_goes 133 = .ok (.getfield 7, 3) := by decide +kernel
theorem dX12_goes_136 : decode cX12_goes 136 = .ok (.sipush 208, 3) := by decide +kernel
theorem dX12_goes_139 : decode cX12_goes 139 = .ok (.iaload, 1) := by decide +kernel
theorem dX12_goes_140 : decode cX12_goes 140 = .ok (.iload 4, 2) := by decide +kernel
theorem dX12_goes_142 : decode cX12_goes 142 = .ok (.iload 9, 2) := by decide +kernel
theorem dX12_goes_144 : decode cX12_goes 144 = .ok (.iadd, 1) := by decide +kernel
theorem dX12_goes_145 : decode cX12_goes 145 = .ok (.invokestatic 349, 3) := by decide +kernel
theorem dX12_goes_148 : decode cX12_goes 148 = .ok (.istore 4, 2) := by decide +kernel
theorem dX12_goes_150 : decode cX12_goes 150 = .ok (.iload 5, 2) := by decide +kernel
theorem dX12_goes_152 : decode cX12_goes 152 = .ok (.iload 9, 2) := by decide +kernel
theorem dX12_goes_154 : decode cX12_goes 154 = .ok (.iadd, 1) := by decide +kernel
theorem dX12_goes_155 : decode cX12_goes 155 = .ok (.istore 5, 2) := by decide +kernel
theorem dX12_goes_157 : decode cX12_goes 157 = .ok (.goto 51, 3) := by decide +kernel
theorem dX12_goes_160 : decode cX12_goes 160 = .ok (.aload_n 0, 1) := by decide +kernel
theorem dX12_goes_161 : decode cX12_goes 161 = .ok (.iload 4, 2) := by decide +kernel
theorem dX12_goes_163 : decode cX12_goes 163 = .ok (.iload 8, 2) := by decide +kernel
theorem dX12_goes_165 : decode cX12_goes 165 = .ok (.ifCond .ne 7, 3) := by decide +kernel
theorem dX12_goes_168 : decode cX12_goes 168 = .ok (.iconst 1, 1) := by decide +kernel
theorem dX12_goes_169 : decode cX12_goes 169 = .ok (.goto 4, 3) := by decide +kernel
theorem dX12_goes_172 : decode cX12_goes 172 = .ok (.iconst 0, 1) := by decide +kernel
theorem dX12_goes_173 : decode cX12_goes 173 = .ok (.iload 9, 2) := by decide +kernel
theorem dX12_goes_175 : decode cX12_goes 175 = .ok (.invokevirtual 372, 3) := by decide +kernel
theorem dX12_goes_178 : decode cX12_goes 178 = .ok (.istore 4, 2) := by decide +kernel
theorem dX12_goes_180 : decode cX12_goes 180 = .ok (.aload_n 0, 1) := by decide +kernel
theorem dX12_goes_181 : decode cX12_goes 181 = .ok (.getfield 7, 3) := by decide +kernel
theorem dX12_goes_184 : decode cX12_goes 184 = .ok (.iconst 4, 1) := by decide +kernel
theorem dX12_goes_185 : decode cX12_goes 185 = .ok (.dup2, 1) := by decide +kernel
theorem dX12_goes_186 : decode cX12_goes 186 = .ok (.iaload, 1) := by decide +kernel
theorem dX12_goes_187 : decode cX12_goes 187 = .ok (.iconst 1, 1) := by decide +kernel
theorem dX12_goes_188 : decode cX12_goes 188 = .ok (.iadd, 1) := by decide +kernel
theorem dX12_goes_189 : decode cX12_goes 189 = .ok (.iastore, 1) := by decide +kernel
theorem dX12_goes_190 : decode cX12_goes 190 = .ok (.iload 5, 2) := by decide +kernel
theorem dX12_goes_192 : decode cX12_goes 192 = .ok (.iload 9, 2) := by decide +kernel
theorem dX12_goes_194 : decode cX12_goes 194 = .ok (.iconst 1, 1) := by decide +kernel
theorem dX12_goes_195 : decode cX12_goes 195 = .ok (.iadd, 1) := by decide +kernel
theorem dX12_goes_196 : decode cX12_goes 196 = .ok (.iadd, 1) := by decide +kernel
theorem dX12_goes_197 : decode cX12_goes 197 = .ok (.istore 5, 2) := by decide +kernel
theorem dX12_goes_199 : decode cX12_goes 199 = .ok (.iload 6, 2) := by decide +kernel
theorem dX12_goes_201 : decode cX12_goes 201 = .ok (.iload 9, 2) := by decide +kernel
theorem dX12_goes_203 : decode cX12_goes 203 = .ok (.iconst 1, 1) := by decide +kernel
theorem dX12_goes_204 : decode cX12_goes 204 = .ok (.iadd, 1) := by decide +kernel
theorem dX12_goes_205 : decode cX12_goes 205 = .ok (.iadd, 1) := by decide +kernel
theorem dX12_goes_206 : decode cX12_goes 206 = .ok (.istore 6, 2) := by decide +kernel
theorem dX12_goes_208 : decode cX12_goes 208 = .ok (.iinc 7 1, 3) := by decide +kernel
theorem dX12_goes_211 : decode cX12_goes 211 = .ok (.goto (-169), 3) := by decide +kernel
theorem dX12_goes_214 : decode cX12_goes 214 = .ok (.iload_n 1, 1) := by decide +kernel
theorem dX12_goes_215 : decode cX12_goes 215 = .ok (.ifCond .ne 12, 3) := by decide +kernel
theorem dX12_goes_218 : decode cX12_goes 218 = .ok (.aload_n 0, 1) := by decide +kernel
theorem dX12_goes_219 : decode cX12_goes 219 = .ok (.getfield 7, 3) := by decide +kernel
theorem dX12_goes_222 : decode cX12_goes 222 = .ok (.iconst 0, 1) := by decide +kernel
theorem dX12_goes_223 : decode cX12_goes 223 = .ok (.iaload, 1) := by decide +kernel
theorem dX12_goes_224 : decode cX12_goes 224 = .ok (.goto 25, 3) := by decide +kernel
theorem dX12_goes_227 : decode cX12_goes 227 = .ok (.iload_n 1, 1) := by decide +kernel
theorem dX12_goes_228 : decode cX12_goes 228 = .ok (.iconst 1, 1) := by decide +kernel
theorem dX12_goes_229 : decode cX12_goes 229 = .ok (.if_icmp .ne 8, 3) := by decide +kernel
theorem dX12_goes_232 : decode cX12_goes 232 = .ok (.iload 4, 2) := by decide +kernel
theorem dX12_goes_234 : decode cX12_goes 234 = .ok (.goto 15, 3) := by decide +kernel
theorem dX12_goes_237 : decode cX12_goes 237 = .ok (.iload_n 1, 1) := by decide +kernel
theorem dX12_goes_238 : decode cX12_goes 238 = .ok (.iconst 2, 1) := by decide +kernel
theorem dX12_goes_239 : decode cX12_goes 239 = .ok (.if_icmp .ne 8, 3) := by decide +kernel
theorem dX12_goes_242 : decode cX12_goes 242 = .ok (.iload 5, 2) := by decide +kernel
theorem dX12_goes_244 : decode cX12_goes 244 = .ok (.goto 5, 3) := by decide +kernel
theorem dX12_goes_247 : decode cX12_goes 247 = .ok (.iload 6, 2) := by decide +kernel
theorem dX12_goes_249 : decode cX12_goes 249 = .ok (.istore 7, 2) := by decide +kernel
theorem dX12_goes_251 : decode cX12_goes 251 = .ok (.aload_n 0, 1) := by decide +kernel
theorem dX12_goes_252 : decode cX12_goes 252 = .ok (.getfield 7, 3) := by decide +kernel
theorem dX12_goes_255 : decode cX12_goes 255 = .ok (.iconst 0, 1) := by decide +kernel
theorem dX12_goes_256 : decode cX12_goes 256 = .ok (.iload_n 2, 1) := by decide +kernel
theorem dX12_goes_257 : decode cX12_goes 257 = .ok (.iastore, 1) := by decide +kernel
theorem dX12_goes_258 : decode cX12_goes 258 = .ok (.aload_n 0, 1) := by decide +kernel
theorem dX12_goes_259 : decode cX12_goes 259 = .ok (.getfield 7, 3) := by decide +kernel
theorem dX12_goes_262 : decode cX12_goes 262 = .ok (.iconst 4, 1) := by decide +kernel
theorem dX12_goes_263 : decode cX12_goes 263 = .ok (.iload_n 3, 1) := by decide +kernel
theorem dX12_goes_264 : decode cX12_goes 264 = .ok (.iastore, 1) := by decide +kernel
theorem dX12_goes_265 : decode cX12_goes 265 = .ok (.iload 7, 2) := by decide +kernel
theorem dX12_goes_267 : decode cX12_goes 267 = .ok (.ireturn, 1) := by decide +kernel
theorem dX12_image_0 : decode cX12_image 0 = .ok (.iload_n 1, 1) := by decide +kernel
theorem dX12_image_1 : decode cX12_image 1 = .ok (.ifCond .ne 12, 3) := by decide +kernel
theorem dX12_image_4 : decode cX12_image 4 = .ok (.aload_n 0, 1) := by decide +kernel
theorem dX12_image_5 : decode cX12_image 5 = .ok (.getfield 478, 3) := by decide +kernel
theorem dX12_image_8 : decode cX12_image 8 = .ok (.ifCond .ne 5, 3) := by decide +kernel
theorem dX12_image_11 : decode cX12_image 11 = .ok (.iconst 0, 1) := by decide +kernel
theorem dX12_image_12 : decode cX12_image 12 = .ok (.ireturn, 1) := by decide +kernel
theorem dX12_image_13 : decode cX12_image 13 = .ok (.iconst 0, 1) := by decide +kernel
theorem dX12_image_14 : decode cX12_image 14 = .ok (.istore_n 2, 1) := by decide +kernel
theorem dX12_image_15 : decode cX12_image 15 = .ok (.iload_n 2, 1) := by decide +kernel
theorem dX12_image_16 : decode cX12_image 16 = .ok (.sipush 2440, 3) := by decide +kernel
theorem dX12_image_19 : decode cX12_image 19 = .ok (.if_icmp .ge 40, 3) := by decide +kernel
theorem dX12_image_22 : decode cX12_image 22 = .ok (.iload_n 1, 1) := by decide +kernel
theorem dX12_image_23 : decode cX12_image 23 = .ok (.ifCond .eq 18, 3) := by decide +kernel
theorem dX12_image_26 : decode cX12_image 26 = .ok (.aload_n 0, 1) := by decide +kernel
theorem dX12_image_27 : decode cX12_image 27 = .ok (.getfield 13, 3) := by decide +kernel
theorem dX12_image_30 : decode cX12_image 30 = .ok (.iload_n 2, 1) := by decide +kernel
theorem dX12_image_31 : decode cX12_image 31 = .ok (.aload_n 0, 1) := by decide +kernel
theorem dX12_image_32 : decode cX12_image 32 = .ok (.getfield 7, 3) := by decide +kernel
theorem dX12_image_35 : decode cX12_image 35 = .ok (.iload_n 2, 1) := by decide +kernel
theorem dX12_image_36 : decode cX12_image 36 = .ok (.iaload, 1) := by decide +kernel
theorem dX12_image_37 : decode cX12_image 37 = .ok (.iastore, 1) := by decide +kernel
theorem dX12_image_38 : decode cX12_image 38 = .ok (.goto 15, 3) := by decide +kernel
theorem dX12_image_41 : decode cX12_image 41 = .ok (.aload_n 0, 1) := by decide +kernel
theorem dX12_image_42 : decode cX12_image 42 = .ok (.getfield 7, 3) := by decide +kernel
theorem dX12_image_45 : decode cX12_image 45 = .ok (.iload_n 2, 1) := by decide +kernel
theorem dX12_image_46 : decode cX12_image 46 = .ok (.aload_n 0, 1) := by decide +kernel
theorem dX12_image_47 : decode cX12_image 47 = .ok (.getfield 13, 3) := by decide +kernel
theorem dX12_image_50 : decode cX12_image 50 = .ok (.iload_n 2, 1) := by decide +kernel
theorem dX12_image_51 : decode cX12_image 51 = .ok (.iaload, 1) := by decide +kernel
theorem dX12_image_52 : decode cX12_image 52 = .ok (.iastore, 1) := by decide +kernel
theorem dX12_image_53 : decode cX12_image 53 = .ok (.iinc 2 1, 3) := by decide +kernel
theorem dX12_image_56 : decode cX12_image 56 = .ok (.goto (-41), 3) := by decide +kernel
theorem dX12_image_59 : decode cX12_image 59 = .ok (.iload_n 1, 1) := by decide +kernel
theorem dX12_image_60 : decode cX12_image 60 = .ok (.ifCond .ne 7, 3) := by decide +kernel
theorem dX12_image_63 : decode cX12_image 63 = .ok (.aload_n 0, 1) := by decide +kernel
theorem dX12_image_64 : decode cX12_image 64 = .ok (.invokevirtual 90, 3) := by decide +kernel
theorem dX12_image_67 : decode cX12_image 67 = .ok (.aload_n 0, 1) := by decide +kernel
theorem dX12_image_68 : decode cX12_image 68 = .ok (.iconst 1, 1) := by decide +kernel
theorem dX12_image_69 : decode cX12_image 69 = .ok (.putfield 478, 3) := by decide +kernel
theorem dX12_image_72 : decode cX12_image 72 = .ok (.iconst 1, 1) := by decide +kernel
theorem dX12_image_73 : decode cX12_image 73 = .ok (.ireturn, 1) := by decide +kernel
theorem dX12_look_0 : decode cX12_look 0 = .ok (.iload_n 1, 1) := by decide +kernel
theorem dX12_look_1 : decode cX12_look 1 = .ok (.tableswitch 206 0 15 #[79, 88, 97, 104, 111, 118, 125, 132, 141, 150, 158, 165, 174, 183, 192, 201], 79) := by decide +kernel
theorem dX12_look_80 : decode cX12_look 80 = .ok (.aload_n 0, 1) := by decide +kernel
theorem dX12_look_81 : decode cX12_look 81 = .ok (.getfield 7, 3) := by decide +kernel
theorem dX12_look_84 : decode cX12_look 84 = .ok (.sipush 208, 3) := by decide +kernel
theorem dX12_look_87 : decode cX12_look 87 = .ok (.iaload, 1) := by decide +kernel
theorem dX12_look_88 : decode cX12_look 88 = .ok (.ireturn, 1) := by decide +kernel
theorem dX12_look_89 : decode cX12_look 89 = .ok (.aload_n 0, 1) := by decide +kernel
theorem dX12_look_90 : decode cX12_look 90 = .ok (.getfield 7, 3) := by decide +kernel
theorem dX12_look_93 : decode cX12_look 93 = .ok (.sipush 211, 3) := by decide +kernel
theorem dX12_look_96 : decode cX12_look 96 = .ok (.iaload, 1) := by decide +kernel
theorem dX12_look_97 : decode cX12_look 97 = .ok (.ireturn, 1) := by decide +kernel
theorem dX12_look_98 : decode cX12_look 98 = .ok (.aload_n 0, 1) := by decide +kernel
theorem dX12_look_99 : decode cX12_look 99 = .ok (.getfield 7, 3) := by decide +kernel
theorem dX12_look_102 : decode cX12_look 102 = .ok (.iconst 0, 1) := by decide +kernel
theorem dX12_look_103 : decode cX12_look 103 = .ok (.iaload, 1) := by decide +kernel
theorem dX12_look_104 : decode cX12_look 104 = .ok (.ireturn, 1) := by decide +kernel
theorem dX12_look_105 : decode cX12_look 105 = .ok (.aload_n 0, 1) := by decide +kernel
theorem dX12_look_106 : decode cX12_look 106 = .ok (.getfield 7, 3) := by decide +kernel
theorem dX12_look_109 : decode cX12_look 109 = .ok (.iconst 1, 1) := by decide +kernel
theorem dX12_look_110 : decode cX12_look 110 = .ok (.iaload, 1) := by decide +kernel
theorem dX12_look_111 : decode cX12_look 111 = .ok (.ireturn, 1) := by decide +kernel
theorem dX12_look_112 : decode cX12_look 112 = .ok (.aload_n 0, 1) := by decide +kernel
theorem dX12_look_113 : decode cX12_look 113 = .ok (.getfield 7, 3) := by decide +kernel
theorem dX12_look_116 : decode cX12_look 116 = .ok (.iconst 2, 1) := by decide +kernel
theorem dX12_look_117 : decode cX12_look 117 = .ok (.iaload, 1) := by decide +kernel
theorem dX12_look_118 : decode cX12_look 118 = .ok (.ireturn, 1) := by decide +kernel
theorem dX12_look_119 : decode cX12_look 119 = .ok (.aload_n 0, 1) := by decide +kernel
theorem dX12_look_120 : decode cX12_look 120 = .ok (.getfield 7, 3) := by decide +kernel
theorem dX12_look_123 : decode cX12_look 123 = .ok (.iconst 3, 1) := by decide +kernel
theorem dX12_look_124 : decode cX12_look 124 = .ok (.iaload, 1) := by decide +kernel
theorem dX12_look_125 : decode cX12_look 125 = .ok (.ireturn, 1) := by decide +kernel
theorem dX12_look_126 : decode cX12_look 126 = .ok (.aload_n 0, 1) := by decide +kernel
theorem dX12_look_127 : decode cX12_look 127 = .ok (.getfield 7, 3) := by decide +kernel
theorem dX12_look_130 : decode cX12_look 130 = .ok (.iconst 4, 1) := by decide +kernel
theorem dX12_look_131 : decode cX12_look 131 = .ok (.iaload, 1) := by decide +kernel
theorem dX12_look_132 : decode cX12_look 132 = .ok (.ireturn, 1) := by decide +kernel
theorem dX12_look_133 : decode cX12_look 133 = .ok (.aload_n 0, 1) := by decide +kernel
theorem dX12_look_134 : decode cX12_look 134 = .ok (.getfield 7, 3) := by decide +kernel
theorem dX12_look_137 : decode cX12_look 137 = .ok (.sipush 209, 3) := by decide +kernel
theorem dX12_look_140 : decode cX12_look 140 = .ok (.iaload, 1) := by decide +kernel
theorem dX12_look_141 : decode cX12_look 141 = .ok (.ireturn, 1) := by decide +kernel
theorem dX12_look_142 : decode cX12_look 142 = .ok (.aload_n 0, 1) := by decide +kernel
theorem dX12_look_143 : decode cX12_look 143 = .ok (.getfield 7, 3) := by decide +kernel
theorem dX12_look_146 : decode cX12_look 146 = .ok (.sipush 210, 3) := by decide +kernel
theorem dX12_look_149 : decode cX12_look 149 = .ok (.iaload, 1) := by decide +kernel
theorem dX12_look_150 : decode cX12_look 150 = .ok (.ireturn, 1) := by decide +kernel
theorem dX12_look_151 : decode cX12_look 151 = .ok (.aload_n 0, 1) := by decide +kernel
theorem dX12_look_152 : decode cX12_look 152 = .ok (.getfield 7, 3) := by decide +kernel
theorem dX12_look_155 : decode cX12_look 155 = .ok (.bipush 6, 2) := by decide +kernel
theorem dX12_look_157 : decode cX12_look 157 = .ok (.iaload, 1) := by decide +kernel
theorem dX12_look_158 : decode cX12_look 158 = .ok (.ireturn, 1) := by decide +kernel
theorem dX12_look_159 : decode cX12_look 159 = .ok (.aload_n 0, 1) := by decide +kernel
theorem dX12_look_160 : decode cX12_look 160 = .ok (.getfield 7, 3) := by decide +kernel
theorem dX12_look_163 : decode cX12_look 163 = .ok (.iconst 5, 1) := by decide +kernel
theorem dX12_look_164 : decode cX12_look 164 = .ok (.iaload, 1) := by decide +kernel
theorem dX12_look_165 : decode cX12_look 165 = .ok (.ireturn, 1) := by decide +kernel
theorem dX12_look_166 : decode cX12_look 166 = .ok (.aload_n 0, 1) := by decide +kernel
theorem dX12_look_167 : decode cX12_look 167 = .ok (.getfield 7, 3) := by decide +kernel
theorem dX12_look_170 : decode cX12_look 170 = .ok (.sipush 212, 3) := by decide +kernel
theorem dX12_look_173 : decode cX12_look 173 = .ok (.iaload, 1) := by decide +kernel
theorem dX12_look_174 : decode cX12_look 174 = .ok (.ireturn, 1) := by decide +kernel
theorem dX12_look_175 : decode cX12_look 175 = .ok (.aload_n 0, 1) := by decide +kernel
theorem dX12_look_176 : decode cX12_look 176 = .ok (.getfield 7, 3) := by decide +kernel
theorem dX12_look_179 : decode cX12_look 179 = .ok (.sipush 213, 3) := by decide +kernel
theorem dX12_look_182 : decode cX12_look 182 = .ok (.iaload, 1) := by decide +kernel
theorem dX12_look_183 : decode cX12_look 183 = .ok (.ireturn, 1) := by decide +kernel
theorem dX12_look_184 : decode cX12_look 184 = .ok (.aload_n 0, 1) := by decide +kernel
theorem dX12_look_185 : decode cX12_look 185 = .ok (.getfield 7, 3) := by decide +kernel
theorem dX12_look_188 : decode cX12_look 188 = .ok (.sipush 214, 3) := by decide +kernel
theorem dX12_look_191 : decode cX12_look 191 = .ok (.iaload, 1) := by decide +kernel
theorem dX12_look_192 : decode cX12_look 192 = .ok (.ireturn, 1) := by decide +kernel
theorem dX12_look_193 : decode cX12_look 193 = .ok (.aload_n 0, 1) := by decide +kernel
theorem dX12_look_194 : decode cX12_look 194 = .ok (.getfield 7, 3) := by decide +kernel
theorem dX12_look_197 : decode cX12_look 197 = .ok (.sipush 215, 3) := by decide +kernel
theorem dX12_look_200 : decode cX12_look 200 = .ok (.iaload, 1) := by decide +kernel
theorem dX12_look_201 : decode cX12_look 201 = .ok (.ireturn, 1) := by decide +kernel
theorem dX12_look_202 : decode cX12_look 202 = .ok (.aload_n 0, 1) := by decide +kernel
theorem dX12_look_203 : decode cX12_look 203 = .ok (.getfield 87, 3) := by decide +kernel
theorem dX12_look_206 : decode cX12_look 206 = .ok (.ireturn, 1) := by decide +kernel
theorem dX12_look_207 : decode cX12_look 207 = .ok (.iconst (-1), 1) := by decide +kernel
theorem dX12_look_208 : decode cX12_look 208 = .ok (.ireturn, 1) := by decide +kernel
theorem dJ6_bitCount_0f7a4_0 : decode cJ6_bitCount_0f7a4 0 = .ok (.iload_n 0, 1) := by decide +kernel
theorem dJ6_bitCount_0f7a4_1 : decode cJ6_bitCount_0f7a4 1 = .ok (.iload_n 0, 1) := by decide +kernel
theorem dJ6_bitCount_0f7a4_2 : decode cJ6_bitCount_0f7a4 2 = .ok (.iconst 1, 1) := by decide +kernel
theorem dJ6_bitCount_0f7a4_3 : decode cJ6_bitCount_0f7a4 3 = .ok (.iushr, 1) := by decide +kernel
theorem dJ6_bitCount_0f7a4_4 : decode cJ6_bitCount_0f7a4 4 = .ok (.ldc_w 265, 3) := by decide +kernel
theorem dJ6_bitCount_0f7a4_7 : decode cJ6_bitCount_0f7a4 7 = .ok (.iand, 1) := by decide +kernel
theorem dJ6_bitCount_0f7a4_8 : decode cJ6_bitCount_0f7a4 8 = .ok (.isub, 1) := by decide +kernel
theorem dJ6_bitCount_0f7a4_9 : decode cJ6_bitCount_0f7a4 9 = .ok (.istore_n 0, 1) := by decide +kernel
theorem dJ6_bitCount_0f7a4_10 : decode cJ6_bitCount_0f7a4 10 = .ok (.iload_n 0, 1) := by decide +kernel
theorem dJ6_bitCount_0f7a4_11 : decode cJ6_bitCount_0f7a4 11 = .ok (.ldc_w 266, 3) := by decide +kernel
theorem dJ6_bitCount_0f7a4_14 : decode cJ6_bitCount_0f7a4 14 = .ok (.iand, 1) := by decide +kernel
theorem dJ6_bitCount_0f7a4_15 : decode cJ6_bitCount_0f7a4 15 = .ok (.iload_n 0, 1) := by decide +kernel
theorem dJ6_bitCount_0f7a4_16 : decode cJ6_bitCount_0f7a4 16 = .ok (.iconst 2, 1) := by decide +kernel
theorem dJ6_bitCount_0f7a4_17 : decode cJ6_bitCount_0f7a4 17 = .ok (.iushr, 1) := by decide +kernel
theorem dJ6_bitCount_0f7a4_18 : decode cJ6_bitCount_0f7a4 18 = .ok (.ldc_w 266, 3) := by decide +kernel
theorem dJ6_bitCount_0f7a4_21 : decode cJ6_bitCount_0f7a4 21 = .ok (.iand, 1) := by decide +kernel
theorem dJ6_bitCount_0f7a4_22 : decode cJ6_bitCount_0f7a4 22 = .ok (.iadd, 1) := by decide +kernel
theorem dJ6_bitCount_0f7a4_23 : decode cJ6_bitCount_0f7a4 23 = .ok (.istore_n 0, 1) := by decide +kernel
theorem dJ6_bitCount_0f7a4_24 : decode cJ6_bitCount_0f7a4 24 = .ok (.iload_n 0, 1) := by decide +kernel
theorem dJ6_bitCount_0f7a4_25 : decode cJ6_bitCount_0f7a4 25 = .ok (.iload_n 0, 1) := by decide +kernel
theorem dJ6_bitCount_0f7a4_26 : decode cJ6_bitCount_0f7a4 26 = .ok (.iconst 4, 1) := by decide +kernel
theorem dJ6_bitCount_0f7a4_27 : decode cJ6_bitCount_0f7a4 27 = .ok (.iushr, 1) := by decide +kernel
theorem dJ6_bitCount_0f7a4_28 : decode cJ6_bitCount_0f7a4 28 = .ok (.iadd, 1) := by decide +kernel
theorem dJ6_bitCount_0f7a4_29 : decode cJ6_bitCount_0f7a4 29 = .ok (.ldc_w 267, 3) := by decide +kernel
theorem dJ6_bitCount_0f7a4_32 : decode cJ6_bitCount_0f7a4 32 = .ok (.iand, 1) := by decide +kernel
theorem dJ6_bitCount_0f7a4_33 : decode cJ6_bitCount_0f7a4 33 = .ok (.istore_n 0, 1) := by decide +kernel
theorem dJ6_bitCount_0f7a4_34 : decode cJ6_bitCount_0f7a4 34 = .ok (.iload_n 0, 1) := by decide +kernel
theorem dJ6_bitCount_0f7a4_35 : decode cJ6_bitCount_0f7a4 35 = .ok (.iload_n 0, 1) := by decide +kernel
theorem dJ6_bitCount_0f7a4_36 : decode cJ6_bitCount_0f7a4 36 = .ok (.bipush 8, 2) := by decide +kernel
theorem dJ6_bitCount_0f7a4_38 : decode cJ6_bitCount_0f7a4 38 = .ok (.iushr, 1) := by decide +kernel
theorem dJ6_bitCount_0f7a4_39 : decode cJ6_bitCount_0f7a4 39 = .ok (.iadd, 1) := by decide +kernel
theorem dJ6_bitCount_0f7a4_40 : decode cJ6_bitCount_0f7a4 40 = .ok (.istore_n 0, 1) := by decide +kernel
theorem dJ6_bitCount_0f7a4_41 : decode cJ6_bitCount_0f7a4 41 = .ok (.iload_n 0, 1) := by decide +kernel
theorem dJ6_bitCount_0f7a4_42 : decode cJ6_bitCount_0f7a4 42 = .ok (.iload_n 0, 1) := by decide +kernel
theorem dJ6_bitCount_0f7a4_43 : decode cJ6_bitCount_0f7a4 43 = .ok (.bipush 16, 2) := by decide +kernel
theorem dJ6_bitCount_0f7a4_45 : decode cJ6_bitCount_0f7a4 45 = .ok (.iushr, 1) := by decide +kernel
theorem dJ6_bitCount_0f7a4_46 : decode cJ6_bitCount_0f7a4 46 = .ok (.iadd, 1) := by decide +kernel
theorem dJ6_bitCount_0f7a4_47 : decode cJ6_bitCount_0f7a4 47 = .ok (.istore_n 0, 1) := by decide +kernel
theorem dJ6_bitCount_0f7a4_48 : decode cJ6_bitCount_0f7a4 48 = .ok (.iload_n 0, 1) := by decide +kernel
theorem dJ6_bitCount_0f7a4_49 : decode cJ6_bitCount_0f7a4 49 = .ok (.bipush 63, 2) := by decide +kernel
theorem dJ6_bitCount_0f7a4_51 : decode cJ6_bitCount_0f7a4 51 = .ok (.iand, 1) := by decide +kernel
theorem dJ6_bitCount_0f7a4_52 : decode cJ6_bitCount_0f7a4 52 = .ok (.ireturn, 1) := by decide +kernel
theorem dJ9_floorMod_7cf53_0 : decode cJ9_floorMod_7cf53 0 = .ok (.iload_n 0, 1) := by decide +kernel
theorem dJ9_floorMod_7cf53_1 : decode cJ9_floorMod_7cf53 1 = .ok (.iload_n 1, 1) := by decide +kernel
theorem dJ9_floorMod_7cf53_2 : decode cJ9_floorMod_7cf53 2 = .ok (.irem, 1) := by decide +kernel
theorem dJ9_floorMod_7cf53_3 : decode cJ9_floorMod_7cf53 3 = .ok (.istore_n 2, 1) := by decide +kernel
theorem dJ9_floorMod_7cf53_4 : decode cJ9_floorMod_7cf53 4 = .ok (.iload_n 0, 1) := by decide +kernel
theorem dJ9_floorMod_7cf53_5 : decode cJ9_floorMod_7cf53 5 = .ok (.iload_n 1, 1) := by decide +kernel
theorem dJ9_floorMod_7cf53_6 : decode cJ9_floorMod_7cf53 6 = .ok (.ixor, 1) := by decide +kernel
theorem dJ9_floorMod_7cf53_7 : decode cJ9_floorMod_7cf53 7 = .ok (.ifCond .ge 11, 3) := by decide +kernel
theorem dJ9_floorMod_7cf53_10 : decode cJ9_floorMod_7cf53 10 = .ok (.iload_n 2, 1) := by decide +kernel
theorem dJ9_floorMod_7cf53_11 : decode cJ9_floorMod_7cf53 11 = .ok (.ifCond .eq 7, 3) := by decide +kernel
theorem dJ9_floorMod_7cf53_14 : decode cJ9_floorMod_7cf53 14 = .ok (.iload_n 2, 1) := by decide +kernel
theorem dJ9_floorMod_7cf53_15 : decode cJ9_floorMod_7cf53 15 = .ok (.iload_n 1, 1) := by decide +kernel
theorem dJ9_floorMod_7cf53_16 : decode cJ9_floorMod_7cf53 16 = .ok (.iadd, 1) := by decide +kernel
theorem dJ9_floorMod_7cf53_17 : decode cJ9_floorMod_7cf53 17 = .ok (.ireturn, 1) := by decide +kernel
theorem dJ9_floorMod_7cf53_18 : decode cJ9_floorMod_7cf53 18 = .ok (.iload_n 2, 1) := by decide +kernel
theorem dJ9_floorMod_7cf53_19 : decode cJ9_floorMod_7cf53 19 = .ok (.ireturn, 1) := by decide +kernel
theorem dJ7_fill_53178_0 : decode cJ7_fill_53178 0 = .ok (.iconst 0, 1) := by decide +kernel
theorem dJ7_fill_53178_1 : decode cJ7_fill_53178 1 = .ok (.istore_n 2, 1) := by decide +kernel
theorem dJ7_fill_53178_2 : decode cJ7_fill_53178 2 = .ok (.aload_n 0, 1) := by decide +kernel
theorem dJ7_fill_53178_3 : decode cJ7_fill_53178 3 = .ok (.arraylength, 1) := by decide +kernel
theorem dJ7_fill_53178_4 : decode cJ7_fill_53178 4 = .ok (.istore_n 3, 1) := by decide +kernel
theorem dJ7_fill_53178_5 : decode cJ7_fill_53178 5 = .ok (.iload_n 2, 1) := by decide +kernel
theorem dJ7_fill_53178_6 : decode cJ7_fill_53178 6 = .ok (.iload_n 3, 1) := by decide +kernel
theorem dJ7_fill_53178_7 : decode cJ7_fill_53178 7 = .ok (.if_icmp .ge 13, 3) := by decide +kernel
theorem dJ7_fill_53178_10 : decode cJ7_fill_53178 10 = .ok (.aload_n 0, 1) := by decide +kernel
theorem dJ7_fill_53178_11 : decode cJ7_fill_53178 11 = .ok (.iload_n 2, 1) := by decide +kernel
theorem dJ7_fill_53178_12 : decode cJ7_fill_53178 12 = .ok (.iload_n 1, 1) := by decide +kernel
theorem dJ7_fill_53178_13 : decode cJ7_fill_53178 13 = .ok (.iastore, 1) := by decide +kernel
theorem dJ7_fill_53178_14 : decode cJ7_fill_53178 14 = .ok (.iinc 2 1, 3) := by decide +kernel
theorem dJ7_fill_53178_17 : decode cJ7_fill_53178 17 = .ok (.goto (-12), 3) := by decide +kernel
theorem dJ7_fill_53178_20 : decode cJ7_fill_53178 20 = .ok (.return_, 1) := by decide +kernel
theorem dL_law_0 : decode cL_law 0 = .ok (.new 7, 3) := by decide +kernel
theorem dL_law_3 : decode cL_law 3 = .ok (.dup, 1) := by decide +kernel
theorem dL_law_4 : decode cL_law 4 = .ok (.invokespecial 9, 3) := by decide +kernel
theorem dL_law_7 : decode cL_law 7 = .ok (.astore_n 1, 1) := by decide +kernel
theorem dL_law_8 : decode cL_law 8 = .ok (.new 10, 3) := by decide +kernel
theorem dL_law_11 : decode cL_law 11 = .ok (.dup, 1) := by decide +kernel
theorem dL_law_12 : decode cL_law 12 = .ok (.invokespecial 12, 3) := by decide +kernel
theorem dL_law_15 : decode cL_law 15 = .ok (.astore_n 2, 1) := by decide +kernel
theorem dL_law_16 : decode cL_law 16 = .ok (.iconst 0, 1) := by decide +kernel
theorem dL_law_17 : decode cL_law 17 = .ok (.istore_n 3, 1) := by decide +kernel
theorem dL_law_18 : decode cL_law 18 = .ok (.iload_n 3, 1) := by decide +kernel
theorem dL_law_19 : decode cL_law 19 = .ok (.aload_n 0, 1) := by decide +kernel
theorem dL_law_20 : decode cL_law 20 = .ok (.arraylength, 1) := by decide +kernel
theorem dL_law_21 : decode cL_law 21 = .ok (.bipush 6, 2) := by decide +kernel
theorem dL_law_23 : decode cL_law 23 = .ok (.isub, 1) := by decide +kernel
theorem dL_law_24 : decode cL_law 24 = .ok (.if_icmp .gt 1163, 3) := by decide +kernel
theorem dL_law_27 : decode cL_law 27 = .ok (.aload_n 0, 1) := by decide +kernel
theorem dL_law_28 : decode cL_law 28 = .ok (.iload_n 3, 1) := by decide +kernel
theorem dL_law_29 : decode cL_law 29 = .ok (.iaload, 1) := by decide +kernel
theorem dL_law_30 : decode cL_law 30 = .ok (.bipush 63, 2) := by decide +kernel
theorem dL_law_32 : decode cL_law 32 = .ok (.iand, 1) := by decide +kernel
theorem dL_law_33 : decode cL_law 33 = .ok (.tableswitch 1148 0 33 #[151, 174, 207, 230, 279, 302, 315, 328, 391, 414, 437, 460, 493, 526, 559, 582, 651, 684, 743, 786, 819, 842, 865, 898, 921, 944, 977, 1000, 1013, 1037, 1050, 1073, 1086, 1125], 151) := by decide +kernel
theorem dL_law_184 : decode cL_law 184 = .ok (.aload_n 1, 1) := by decide +kernel
theorem dL_law_185 : decode cL_law 185 = .ok (.aload_n 0, 1) := by decide +kernel
theorem dL_law_186 : decode cL_law 186 = .ok (.iload_n 3, 1) := by decide +kernel
theorem dL_law_187 : decode cL_law 187 = .ok (.iconst 1, 1) := by decide +kernel
theorem dL_law_188 : decode cL_law 188 = .ok (.iadd, 1) := by decide +kernel
theorem dL_law_189 : decode cL_law 189 = .ok (.iaload, 1) := by decide +kernel
theorem dL_law_190 : decode cL_law 190 = .ok (.invokevirtual 13, 3) := by decide +kernel
theorem dL_law_193 : decode cL_law 193 = .ok (.aload_n 2, 1) := by decide +kernel
theorem dL_law_194 : decode cL_law 194 = .ok (.aload_n 0, 1) := by decide +kernel
theorem dL_law_195 : decode cL_law 195 = .ok (.iload_n 3, 1) := by decide +kernel
theorem dL_law_196 : decode cL_law 196 = .ok (.iconst 1, 1) := by decide +kernel
theorem dL_law_197 : decode cL_law 197 = .ok (.iadd, 1) := by decide +kernel
theorem dL_law_198 : decode cL_law 198 = .ok (.iaload, 1) := by decide +kernel
theorem dL_law_199 : decode cL_law 199 = .ok (.invokevirtual 17, 3) := by decide +kernel
theorem dL_law_202 : decode cL_law 202 = .ok (.if_icmp .eq 979, 3) := by decide +kernel
theorem dL_law_205 : decode cL_law 205 = .ok (.iconst 0, 1) := by decide +kernel
theorem dL_law_206 : decode cL_law 206 = .ok (.ireturn, 1) := by decide +kernel
theorem dL_law_207 : decode cL_law 207 = .ok (.aload_n 1, 1) := by decide +kernel
theorem dL_law_208 : decode cL_law 208 = .ok (.aload_n 0, 1) := by decide +kernel
theorem dL_law_209 : decode cL_law 209 = .ok (.iload_n 3, 1) := by decide +kernel
theorem dL_law_210 : decode cL_law 210 = .ok (.iconst 1, 1) := by decide +kernel
theorem dL_law_211 : decode cL_law 211 = .ok (.iadd, 1) := by decide +kernel
theorem dL_law_212 : decode cL_law 212 = .ok (.iaload, 1) := by decide +kernel
theorem dL_law_213 : decode cL_law 213 = .ok (.aload_n 0, 1) := by decide +kernel
theorem dL_law_214 : decode cL_law 214 = .ok (.iload_n 3, 1) := by decide +kernel
theorem dL_law_215 : decode cL_law 215 = .ok (.iconst 2, 1) := by decide +kernel
theorem dL_law_216 : decode cL_law 216 = .ok (.iadd, 1) := by decide +kernel
theorem dL_law_217 : decode cL_law 217 = .ok (.iaload, 1) := by decide +kernel
theorem dL_law_218 : decode cL_law 218 = .ok (.invokevirtual 18, 3) := by decide +kernel
theorem dL_law_221 : decode cL_law 221 = .ok (.aload_n 2, 1) := by decide +kernel
theorem dL_law_222 : decode cL_law 222 = .ok (.aload_n 0, 1) := by decide +kernel
theorem dL_law_223 : decode cL_law 223 = .ok (.iload_n 3, 1) := by decide +kernel
theorem dL_law_224 : decode cL_law 224 = .ok (.iconst 1, 1) := by decide +kernel
theorem dL_law_225 : decode cL_law 225 = .ok (.iadd, 1) := by decide +kernel
theorem dL_law_226 : decode cL_law 226 = .ok (.iaload, 1) := by decide +kernel
theorem dL_law_227 : decode cL_law 227 = .ok (.aload_n 0, 1) := by decide +kernel
theorem dL_law_228 : decode cL_law 228 = .ok (.iload_n 3, 1) := by decide +kernel
theorem dL_law_229 : decode cL_law 229 = .ok (.iconst 2, 1) := by decide +kernel
theorem dL_law_230 : decode cL_law 230 = .ok (.iadd, 1) := by decide +kernel
theorem dL_law_231 : decode cL_law 231 = .ok (.iaload, 1) := by decide +kernel
theorem dL_law_232 : decode cL_law 232 = .ok (.invokevirtual 22, 3) := by decide +kernel
theorem dL_law_235 : decode cL_law 235 = .ok (.if_icmp .eq 946, 3) := by decide +kernel
theorem dL_law_238 : decode cL_law 238 = .ok (.iconst 0, 1) := by decide +kernel
theorem dL_law_239 : decode cL_law 239 = .ok (.ireturn, 1) := by decide +kernel
theorem dL_law_240 : decode cL_law 240 = .ok (.aload_n 1, 1) := by decide +kernel
theorem dL_law_241 : decode cL_law 241 = .ok (.aload_n 0, 1) := by decide +kernel
theorem dL_law_242 : decode cL_law 242 = .ok (.iload_n 3, 1) := by decide +kernel
theorem dL_law_243 : decode cL_law 243 = .ok (.iconst 1, 1) := by decide +kernel
theorem dL_law_244 : decode cL_law 244 = .ok (.iadd, 1) := by decide +kernel
theorem dL_law_245 : decode cL_law 245 = .ok (.iaload, 1) := by decide +kernel
theorem dL_law_246 : decode cL_law 246 = .ok (.invokevirtual 23, 3) := by decide +kernel
theorem dL_law_249 : decode cL_law 249 = .ok (.aload_n 2, 1) := by decide +kernel
theorem dL_law_250 : decode cL_law 250 = .ok (.aload_n 0, 1) := by decide +kernel
theorem dL_law_251 : decode cL_law 251 = .ok (.iload_n 3, 1) := by decide +kernel
theorem dL_law_252 : decode cL_law 252 = .ok (.iconst 1, 1) := by decide +kernel
theorem dL_law_253 : decode cL_law 253 = .ok (.iadd, 1) := by decide +kernel
theorem dL_law_254 : decode cL_law 254 = .ok (.iaload, 1) := by decide +kernel
theorem dL_law_255 : decode cL_law 255 = .ok (.invokevirtual 27, 3) := by decide +kernel
theorem dL_law_258 : decode cL_law 258 = .ok (.if_icmp .eq 923, 3) := by decide +kernel
theorem dL_law_261 : decode cL_law 261 = .ok (.iconst 0, 1) := by decide +kernel
theorem dL_law_262 : decode cL_law 262 = .ok (.ireturn, 1) := by decide +kernel
theorem dL_law_263 : decode cL_law 263 = .ok (.aload_n 1, 1) := by decide +kernel
theorem dL_law_264 : decode cL_law 264 = .ok (.aload_n 0, 1) := by decide +kernel
theorem dL_law_265 : decode cL_law 265 = .ok (.iload_n 3, 1) := by decide +kernel
theorem dL_law_266 : decode cL_law 266 = .ok (.iconst 1, 1) := by decide +kernel
theorem dL_law_267 : decode cL_law 267 = .ok (.iadd, 1) := by decide +kernel
theorem dL_law_268 : decode cL_law 268 = .ok (.iaload, 1) := by decide +kernel
theorem dL_law_269 : decode cL_law 269 = .ok (.ifCond .eq 7, 3) := by decide +kernel
theorem dL_law_272 : decode cL_law 272 = .ok (.iconst 1, 1) := by decide +kernel
theorem dL_law_273 : decode cL_law 273 = .ok (.goto 4, 3) := by decide +kernel
theorem dL_law_276 : decode cL_law 276 = .ok (.iconst 0, 1) := by decide +kernel
theorem dL_law_277 : decode cL_law 277 = .ok (.aload_n 0, 1) := by decide +kernel
theorem dL_law_278 : decode cL_law 278 = .ok (.iload_n 3, 1) := by decide +kernel
theorem dL_law_279 : decode cL_law 279 = .ok (.iconst 2, 1) := by decide +kernel
theorem dL_law_280 : decode cL_law 280 = .ok (.iadd, 1) := by decide +kernel
theorem dL_law_281 : decode cL_law 281 = .ok (.iaload, 1) := by decide +kernel
theorem dL_law_282 : decode cL_law 282 = .ok (.invokevirtual 28, 3) := by decide +kernel
theorem dL_law_285 : decode cL_law 285 = .ok (.aload_n 2, 1) := by decide +kernel
theorem dL_law_286 : decode cL_law 286 = .ok (.aload_n 0, 1) := by decide +kernel
theorem dL_law_287 : decode cL_law 287 = .ok (.iload_n 3, 1) := by decide +kernel
theorem dL_law_288 : decode cL_law 288 = .ok (.iconst 1, 1) := by decide +kernel
theorem dL_law_289 : decode cL_law 289 = .ok (.iadd, 1) := by decide +kernel
theorem dL_law_290 : decode cL_law 290 = .ok (.iaload, 1) := by decide +kernel
theorem dL_law_291 : decode cL_law 291 = .ok (.ifCond .eq 7, 3) := by decide +kernel
theorem dL_law_294 : decode cL_law 294 = .ok (.iconst 1, 1) := by decide +kernel
theorem dL_law_295 : decode cL_law 295 = .ok (.goto 4, 3) := by decide +kernel
theorem dL_law_298 : decode cL_law 298 = .ok (.iconst 0, 1) := by decide +kernel
theorem dL_law_299 : decode cL_law 299 = .ok (.aload_n 0, 1) := by decide +kernel
theorem dL_law_300 : decode cL_law 300 = .ok (.iload_n 3, 1) := by decide +kernel
theorem dL_law_301 : decode cL_law 301 = .ok (.iconst 2, 1) := by decide +kernel
theorem dL_law_302 : decode cL_law 302 = .ok (.iadd, 1) := by decide +kernel
theorem dL_law_303 : decode cL_law 303 = .ok (.iaload, 1) := by decide +kernel
theorem dL_law_304 : decode cL_law 304 = .ok (.invokevirtual 32, 3) := by decide +kernel
theorem dL_law_307 : decode cL_law 307 = .ok (.if_icmp .eq 874, 3) := by decide +kernel
theorem dL_law_310 : decode cL_law 310 = .ok (.iconst 0, 1) := by decide +kernel
theorem dL_law_311 : decode cL_law 311 = .ok (.ireturn, 1) := by decide +kernel
theorem dL_law_312 : decode cL_law 312 = .ok (.aload_n 1, 1) := by decide +kernel
theorem dL_law_313 : decode cL_law 313 = .ok (.aload_n 0, 1) := by decide +kernel
theorem dL_law_314 : decode cL_law 314 = .ok (.iload_n 3, 1) := by decide +kernel
theorem dL_law_315 : decode cL_law 315 = .ok (.iconst 1, 1) := by decide +kernel
theorem dL_law_316 : decode cL_law 316 = .ok (.iadd, 1) := by decide +kernel
theorem dL_law_317 : decode cL_law 317 = .ok (.iaload, 1) := by decide +kernel
theorem dL_law_318 : decode cL_law 318 = .ok (.invokevirtual 33, 3) := by decide +kernel
theorem dL_law_321 : decode cL_law 321 = .ok (.aload_n 2, 1) := by decide +kernel
theorem dL_law_322 : decode cL_law 322 = .ok (.aload_n 0, 1) := by decide +kernel
theorem dL_law_323 : decode cL_law 323 = .ok (.iload_n 3, 1) := by decide +kernel
theorem dL_law_324 : decode cL_law 324 = .ok (.iconst 1, 1) := by decide +kernel
theorem dL_law_325 : decode cL_law 325 = .ok (.iadd, 1) := by decide +kernel
theorem dL_law_326 : decode cL_law 326 = .ok (.iaload, 1) := by decide +kernel
theorem dL_law_327 : decode cL_law 327 = .ok (.invokevirtual 36, 3) := by decide +kernel
theorem dL_law_330 : decode cL_law 330 = .ok (.if_icmp .eq 851, 3) := by decide +kernel
theorem dL_law_333 : decode cL_law 333 = .ok (.iconst 0, 1) := by decide +kernel
theorem dL_law_334 : decode cL_law 334 = .ok (.ireturn, 1) := by decide +kernel
theorem dL_law_335 : decode cL_law 335 = .ok (.aload_n 1, 1) := by decide +kernel
theorem dL_law_336 : decode cL_law 336 = .ok (.invokevirtual 37, 3) := by decide +kernel
theorem dL_law_339 : decode cL_law 339 = .ok (.aload_n 2, 1) := by decide +kernel
theorem dL_law_340 : decode cL_law 340 = .ok (.invokevirtual 41, 3) := by decide +kernel
theorem dL_law_343 : decode cL_law 343 = .ok (.if_icmp .eq 838, 3) := by decide +kernel
theorem dL_law_346 : decode cL_law 346 = .ok (.iconst 0, 1) := by decide +kernel
theorem dL_law_347 : decode cL_law 347 = .ok (.ireturn, 1) := by decide +kernel
theorem dL_law_348 : decode cL_law 348 = .ok (.aload_n 1, 1) := by decide +kernel
theorem dL_law_349 : decode cL_law 349 = .ok (.invokevirtual 42, 3) := by decide +kernel
theorem dL_law_352 : decode cL_law 352 = .ok (.aload_n 2, 1) := by decide +kernel
theorem dL_law_353 : decode cL_law 353 = .ok (.invokevirtual 45, 3) := by decide +kernel
theorem dL_law_356 : decode cL_law 356 = .ok (.if_icmp .eq 825, 3) := by decide +kernel
theorem dL_law_359 : decode cL_law 359 = .ok (.iconst 0, 1) := by decide +kernel
theorem dL_law_360 : decode cL_law 360 = .ok (.ireturn, 1) := by decide +kernel
theorem dL_law_361 : decode cL_law 361 = .ok (.aload_n 1, 1) := by decide +kernel
theorem dL_law_362 : decode cL_law 362 = .ok (.aload_n 0, 1) := by decide +kernel
theorem dL_law_363 : decode cL_law 363 = .ok (.iload_n 3, 1) := by decide +kernel
theorem dL_law_364 : decode cL_law 364 = .ok (.iconst 1, 1) := by decide +kernel
theorem dL_law_365 : decode cL_law 365 = .ok (.iadd, 1) := by decide +kernel
theorem dL_law_366 : decode cL_law 366 = .ok (.iaload, 1) := by decide +kernel
theorem dL_law_367 : decode cL_law 367 = .ok (.aload_n 0, 1) := by decide +kernel
theorem dL_law_368 : decode cL_law 368 = .ok (.iload_n 3, 1) := by decide +kernel
theorem dL_law_369 : decode cL_law 369 = .ok (.iconst 2, 1) := by decide +kernel
theorem dL_law_370 : decode cL_law 370 = .ok (.iadd, 1) := by decide +kernel
theorem dL_law_371 : decode cL_law 371 = .ok (.iaload, 1) := by decide +kernel
theorem dL_law_372 : decode cL_law 372 = .ok (.aload_n 0, 1) := by decide +kernel
theorem dL_law_373 : decode cL_law 373 = .ok (.iload_n 3, 1) := by decide +kernel
theorem dL_law_374 : decode cL_law 374 = .ok (.iconst 3, 1) := by decide +kernel
theorem dL_law_375 : decode cL_law 375 = .ok (.iadd, 1) := by decide +kernel
theorem dL_law_376 : decode cL_law 376 = .ok (.iaload, 1) := by decide +kernel
theorem dL_law_377 : decode cL_law 377 = .ok (.aload_n 0, 1) := by decide +kernel
theorem dL_law_378 : decode cL_law 378 = .ok (.iload_n 3, 1) := by decide +kernel
theorem dL_law_379 : decode cL_law 379 = .ok (.iconst 4, 1) := by decide +kernel
theorem dL_law_380 : decode cL_law 380 = .ok (.iadd, 1) := by decide +kernel
theorem dL_law_381 : decode cL_law 381 = .ok (.iaload, 1) := by decide +kernel
theorem dL_law_382 : decode cL_law 382 = .ok (.aload_n 0, 1) := by decide +kernel
theorem dL_law_383 : decode cL_law 383 = .ok (.iload_n 3, 1) := by decide +kernel
theorem dL_law_384 : decode cL_law 384 = .ok (.iconst 5, 1) := by decide +kernel
theorem dL_law_385 : decode cL_law 385 = .ok (.iadd, 1) := by decide +kernel
theorem dL_law_386 : decode cL_law 386 = .ok (.iaload, 1) := by decide +kernel
theorem dL_law_387 : decode cL_law 387 = .ok (.invokevirtual 46, 3) := by decide +kernel
theorem dL_law_390 : decode cL_law 390 = .ok (.aload_n 2, 1) := by decide +kernel
theorem dL_law_391 : decode cL_law 391 = .ok (.aload_n 0, 1) := by decide +kernel
theorem dL_law_392 : decode cL_law 392 = .ok (.iload_n 3, 1) := by decide +kernel
theorem dL_law_393 : decode cL_law 393 = .ok (.iconst 1, 1) := by decide +kernel
theorem dL_law_394 : decode cL_law 394 = .ok (.iadd, 1) := by decide +kernel
theorem dL_law_395 : decode cL_law 395 = .ok (.iaload, 1) := by decide +kernel
theorem dL_law_396 : decode cL_law 396 = .ok (.aload_n 0, 1) := by decide +kernel
theorem dL_law_397 : decode cL_law 397 = .ok (.iload_n 3, 1) := by decide +kernel
theorem dL_law_398 : decode cL_law 398 = .ok (.iconst 2, 1) := by decide +kernel
theorem dL_law_399 : decode cL_law 399 = .ok (.iadd, 1) := by decide +kernel
theorem dL_law_400 : decode cL_law 400 = .ok (.iaload, 1) := by decide +kernel
theorem dL_law_401 : decode cL_law 401 = .ok (.aload_n 0, 1) := by decide +kernel
theorem dL_law_402 : decode cL_law 402 = .ok (.iload_n 3, 1) := by decide +kernel
theorem dL_law_403 : decode cL_law 403 = .ok (.iconst 3, 1) := by decide +kernel
theorem dL_law_404 : decode cL_law 404 = .ok (.iadd, 1) := by decide +kernel
theorem dL_law_405 : decode cL_law 405 = .ok (.iaload, 1) := by decide +kernel
theorem dL_law_406 : decode cL_law 406 = .ok (.aload_n 0, 1) := by decide +kernel
theorem dL_law_407 : decode cL_law 407 = .ok (.iload_n 3, 1) := by decide +kernel
theorem dL_law_408 : decode cL_law 408 = .ok (.iconst 4, 1) := by decide +kernel
theorem dL_law_409 : decode cL_law 409 = .ok (.iadd, 1) := by decide +kernel
theorem dL_law_410 : decode cL_law 410 = .ok (.iaload, 1) := by decide +kernel
theorem dL_law_411 : decode cL_law 411 = .ok (.aload_n 0, 1) := by decide +kernel
theorem dL_law_412 : decode cL_law 412 = .ok (.iload_n 3, 1) := by decide +kernel
theorem dL_law_413 : decode cL_law 413 = .ok (.iconst 5, 1) := by decide +kernel
theorem dL_law_414 : decode cL_law 414 = .ok (.iadd, 1) := by decide +kernel
theorem dL_law_415 : decode cL_law 415 = .ok (.iaload, 1) := by decide +kernel
theorem dL_law_416 : decode cL_law 416 = .ok (.invokevirtual 50, 3) := by decide +kernel
theorem dL_law_419 : decode cL_law 419 = .ok (.if_icmp .eq 762, 3) := by decide +kernel
theorem dL_law_422 : decode cL_law 422 = .ok (.iconst 0, 1) := by decide +kernel
theorem dL_law_423 : decode cL_law 423 = .ok (.ireturn, 1) := by decide +kernel
theorem dL_law_424 : decode cL_law 424 = .ok (.aload_n 1, 1) := by decide +kernel
theorem dL_law_425 : decode cL_law 425 = .ok (.aload_n 0, 1) := by decide +kernel
theorem dL_law_426 : decode cL_law 426 = .ok (.iload_n 3, 1) := by decide +kernel
theorem dL_law_427 : decode cL_law 427 = .ok (.iconst 1, 1) := by decide +kernel
theorem dL_law_428 : decode cL_law 428 = .ok (.iadd, 1) := by decide +kernel
theorem dL_law_429 : decode cL_law 429 = .ok (.iaload, 1) := by decide +kernel
theorem dL_law_430 : decode cL_law 430 = .ok (.invokevirtual 51, 3) := by decide +kernel
theorem dL_law_433 : decode cL_law 433 = .ok (.aload_n 2, 1) := by decide +kernel
theorem dL_law_434 : decode cL_law 434 = .ok (.aload_n 0, 1) := by decide +kernel
theorem dL_law_435 : decode cL_law 435 = .ok (.iload_n 3, 1) := by decide +kernel
theorem dL_law_436 : decode cL_law 436 = .ok (.iconst 1, 1) := by decide +kernel
theorem dL_law_437 : decode cL_law 437 = .ok (.iadd, 1) := by decide +kernel
theorem dL_law_438 : decode cL_law 438 = .ok (.iaload, 1) := by decide +kernel
theorem dL_law_439 : decode cL_law 439 = .ok (.invokevirtual 54, 3) := by decide +kernel
theorem dL_law_442 : decode cL_law 442 = .ok (.if_icmp .eq 739, 3) := by decide +kernel
theorem dL_law_445 : decode cL_law 445 = .ok (.iconst 0, 1) := by decide +kernel
theorem dL_law_446 : decode cL_law 446 = .ok (.ireturn, 1) := by decide +kernel
theorem dL_law_447 : decode cL_law 447 = .ok (.aload_n 1, 1) := by decide +kernel
theorem dL_law_448 : decode cL_law 448 = .ok (.aload_n 0, 1) := by decide +kernel
theorem dL_law_449 : decode cL_law 449 = .ok (.iload_n 3, 1) := by decide +kernel
theorem dL_law_450 : decode cL_law 450 = .ok (.iconst 1, 1) := by decide +kernel
theorem dL_law_451 : decode cL_law 451 = .ok (.iadd, 1) := by decide +kernel
theorem dL_law_452 : decode cL_law 452 = .ok (.iaload, 1) := by decide +kernel
theorem dL_law_453 : decode cL_law 453 = .ok (.invokevirtual 55, 3) := by decide +kernel
theorem dL_law_456 : decode cL_law 456 = .ok (.aload_n 2, 1) := by decide +kernel
theorem dL_law_457 : decode cL_law 457 = .ok (.aload_n 0, 1) := by decide +kernel
theorem dL_law_458 : decode cL_law 458 = .ok (.iload_n 3, 1) := by decide +kernel
theorem dL_law_459 : decode cL_law 459 = .ok (.iconst 1, 1) := by decide +kernel
theorem dL_law_460 : decode cL_law 460 = .ok (.iadd, 1) := by decide +kernel
theorem dL_law_461 : decode cL_law 461 = .ok (.iaload, 1) := by decide +kernel
theorem dL_law_462 : decode cL_law 462 = .ok (.invokevirtual 58, 3) := by decide +kernel
theorem dL_law_465 : decode cL_law 465 = .ok (.if_icmp .eq 716, 3) := by decide +kernel
theorem dL_law_468 : decode cL_law 468 = .ok (.iconst 0, 1) := by decide +kernel
theorem dL_law_469 : decode cL_law 469 = .ok (.ireturn, 1) := by decide +kernel
theorem dL_law_470 : decode cL_law 470 = .ok (.aload_n 1, 1) := by decide +kernel
theorem dL_law_471 : decode cL_law 471 = .ok (.aload_n 0, 1) := by decide +kernel
theorem dL_law_472 : decode cL_law 472 = .ok (.iload_n 3, 1) := by decide +kernel
theorem dL_law_473 : decode cL_law 473 = .ok (.iconst 1, 1) := by decide +kernel
theorem dL_law_474 : decode cL_law 474 = .ok (.iadd, 1) := by decide +kernel
theorem dL_law_475 : decode cL_law 475 = .ok (.iaload, 1) := by decide +kernel
theorem dL_law_476 : decode cL_law 476 = .ok (.invokevirtual 59, 3) := by decide +kernel
theorem dL_law_479 : decode cL_law 479 = .ok (.aload_n 2, 1) := by decide +kernel
theorem dL_law_480 : decode cL_law 480 = .ok (.aload_n 0, 1) := by decide +kernel
theorem dL_law_481 : decode cL_law 481 = .ok (.iload_n 3, 1) := by decide +kernel
theorem dL_law_482 : decode cL_law 482 = .ok (.iconst 1, 1) := by decide +kernel
theorem dL_law_483 : decode cL_law 483 = .ok (.iadd, 1) := by decide +kernel
theorem dL_law_484 : decode cL_law 484 = .ok (.iaload, 1) := by decide +kernel
theorem dL_law_485 : decode cL_law 485 = .ok (.invokevirtual 62, 3) := by decide +kernel
theorem dL_law_488 : decode cL_law 488 = .ok (.if_icmp .eq 693, 3) := by decide +kernel
theorem dL_law_491 : decode cL_law 491 = .ok (.iconst 0, 1) := by decide +kernel
theorem dL_law_492 : decode cL_law 492 = .ok (.ireturn, 1) := by decide +kernel
theorem dL_law_493 : decode cL_law 493 = .ok (.aload_n 1, 1) := by decide +kernel
theorem dL_law_494 : decode cL_law 494 = .ok (.aload_n 0, 1) := by decide +kernel
theorem dL_law_495 : decode cL_law 495 = .ok (.iload_n 3, 1) := by decide +kernel
theorem dL_law_496 : decode cL_law 496 = .ok (.iconst 1, 1) := by decide +kernel
theorem dL_law_497 : decode cL_law 497 = .ok (.iadd, 1) := by decide +kernel
theorem dL_law_498 : decode cL_law 498 = .ok (.iaload, 1) := by decide +kernel
theorem dL_law_499 : decode cL_law 499 = .ok (.aload_n 0, 1) := by decide +kernel
theorem dL_law_500 : decode cL_law 500 = .ok (.iload_n 3, 1) := by decide +kernel
theorem dL_law_501 : decode cL_law 501 = .ok (.iconst 2, 1) := by decide +kernel
theorem dL_law_502 : decode cL_law 502 = .ok (.iadd, 1) := by decide +kernel
theorem dL_law_503 : decode cL_law 503 = .ok (.iaload, 1) := by decide +kernel
theorem dL_law_504 : decode cL_law 504 = .ok (.invokevirtual 63, 3) := by decide +kernel
theorem dL_law_507 : decode cL_law 507 = .ok (.aload_n 2, 1) := by decide +kernel
theorem dL_law_508 : decode cL_law 508 = .ok (.aload_n 0, 1) := by decide +kernel
theorem dL_law_509 : decode cL_law 509 = .ok (.iload_n 3, 1) := by decide +kernel
theorem dL_law_510 : decode cL_law 510 = .ok (.iconst 1, 1) := by decide +kernel
theorem dL_law_511 : decode cL_law 511 = .ok (.iadd, 1) := by decide +kernel
theorem dL_law_512 : decode cL_law 512 = .ok (.iaload, 1) := by decide +kernel
theorem dL_law_513 : decode cL_law 513 = .ok (.aload_n 0, 1) := by decide +kernel
theorem dL_law_514 : decode cL_law 514 = .ok (.iload_n 3, 1) := by decide +kernel
theorem dL_law_515 : decode cL_law 515 = .ok (.iconst 2, 1) := by decide +kernel
theorem dL_law_516 : decode cL_law 516 = .ok (.iadd, 1) := by decide +kernel
theorem dL_law_517 : decode cL_law 517 = .ok (.iaload, 1) := by decide +kernel
theorem dL_law_518 : decode cL_law 518 = .ok (.invokevirtual 67, 3) := by decide +kernel
theorem dL_law_521 : decode cL_law 521 = .ok (.if_icmp .eq 660, 3) := by decide +kernel
theorem dL_law_524 : decode cL_law 524 = .ok (.iconst 0, 1) := by decide +kernel
theorem dL_law_525 : decode cL_law 525 = .ok (.ireturn, 1) := by decide +kernel
theorem dL_law_526 : decode cL_law 526 = .ok (.aload_n 1, 1) := by decide +kernel
theorem dL_law_527 : decode cL_law 527 = .ok (.aload_n 0, 1) := by decide +kernel
theorem dL_law_528 : decode cL_law 528 = .ok (.iload_n 3, 1) := by decide +kernel
theorem dL_law_529 : decode cL_law 529 = .ok (.iconst 1, 1) := by decide +kernel
theorem dL_law_530 : decode cL_law 530 = .ok (.iadd, 1) := by decide +kernel
theorem dL_law_531 : decode cL_law 531 = .ok (.iaload, 1) := by decide +kernel
theorem dL_law_532 : decode cL_law 532 = .ok (.aload_n 0, 1) := by decide +kernel
theorem dL_law_533 : decode cL_law 533 = .ok (.iload_n 3, 1) := by decide +kernel
theorem dL_law_534 : decode cL_law 534 = .ok (.iconst 2, 1) := by decide +kernel
theorem dL_law_535 : decode cL_law 535 = .ok (.iadd, 1) := by decide +kernel
theorem dL_law_536 : decode cL_law 536 = .ok (.iaload, 1) := by decide +kernel
theorem dL_law_537 : decode cL_law 537 = .ok (.invokevirtual 68, 3) := by decide +kernel
theorem dL_law_540 : decode cL_law 540 = .ok (.aload_n 2, 1) := by decide +kernel
theorem dL_law_541 : decode cL_law 541 = .ok (.aload_n 0, 1) := by decide +kernel
theorem dL_law_542 : decode cL_law 542 = .ok (.iload_n 3, 1) := by decide +kernel
theorem dL_law_543 : decode cL_law 543 = .ok (.iconst 1, 1) := by decide +kernel
theorem dL_law_544 : decode cL_law 544 = .ok (.iadd, 1) := by decide +kernel
theorem dL_law_545 : decode cL_law 545 = .ok (.iaload, 1) := by decide +kernel
theorem dL_law_546 : decode cL_law 546 = .ok (.aload_n 0, 1) := by decide +kernel
theorem dL_law_547 : decode cL_law 547 = .ok (.iload_n 3, 1) := by decide +kernel
theorem dL_law_548 : decode cL_law 548 = .ok (.iconst 2, 1) := by decide +kernel
theorem dL_law_549 : decode cL_law 549 = .ok (.iadd, 1) := by decide +kernel
theorem dL_law_550 : decode cL_law 550 = .ok (.iaload, 1) := by decide +kernel
theorem dL_law_551 : decode cL_law 551 = .ok (.invokevirtual 71, 3) := by decide +kernel
theorem dL_law_554 : decode cL_law 554 = .ok (.if_icmp .eq 627, 3) := by decide +kernel
theorem dL_law_557 : decode cL_law 557 = .ok (.iconst 0, 1) := by decide +kernel
theorem dL_law_558 : decode cL_law 558 = .ok (.ireturn, 1) := by decide +kernel
theorem dL_law_559 : decode cL_law 559 = .ok (.aload_n 1, 1) := by decide +kernel
theorem dL_law_560 : decode cL_law 560 = .ok (.aload_n 0, 1) := by decide +kernel
theorem dL_law_561 : decode cL_law 561 = .ok (.iload_n 3, 1) := by decide +kernel
theorem dL_law_562 : decode cL_law 562 = .ok (.iconst 1, 1) := by decide +kernel
theorem dL_law_563 : decode cL_law 563 = .ok (.iadd, 1) := by decide +kernel
theorem dL_law_564 : decode cL_law 564 = .ok (.iaload, 1) := by decide +kernel
theorem dL_law_565 : decode cL_law 565 = .ok (.aload_n 0, 1) := by decide +kernel
theorem dL_law_566 : decode cL_law 566 = .ok (.iload_n 3, 1) := by decide +kernel
theorem dL_law_567 : decode cL_law 567 = .ok (.iconst 2, 1) := by decide +kernel
theorem dL_law_568 : decode cL_law 568 = .ok (.iadd, 1) := by decide +kernel
theorem dL_law_569 : decode cL_law 569 = .ok (.iaload, 1) := by decide +kernel
theorem dL_law_570 : decode cL_law 570 = .ok (.invokevirtual 72, 3) := by decide +kernel
theorem dL_law_573 : decode cL_law 573 = .ok (.aload_n 2, 1) := by decide +kernel
theorem dL_law_574 : decode cL_law 574 = .ok (.aload_n 0, 1) := by decide +kernel
theorem dL_law_575 : decode cL_law 575 = .ok (.iload_n 3, 1) := by decide +kernel
theorem dL_law_576 : decode cL_law 576 = .ok (.iconst 1, 1) := by decide +kernel
theorem dL_law_577 : decode cL_law 577 = .ok (.iadd, 1) := by decide +kernel
theorem dL_law_578 : decode cL_law 578 = .ok (.iaload, 1) := by decide +kernel
theorem dL_law_579 : decode cL_law 579 = .ok (.aload_n 0, 1) := by decide +kernel
theorem dL_law_580 : decode cL_law 580 = .ok (.iload_n 3, 1) := by decide +kernel
theorem dL_law_581 : decode cL_law 581 = .ok (.iconst 2, 1) := by decide +kernel
theorem dL_law_582 : decode cL_law 582 = .ok (.iadd, 1) := by decide +kernel
theorem dL_law_583 : decode cL_law 583 = .ok (.iaload, 1) := by decide +kernel
theorem dL_law_584 : decode cL_law 584 = .ok (.invokevirtual 75, 3) := by decide +kernel
theorem dL_law_587 : decode cL_law 587 = .ok (.if_icmp .eq 594, 3) := by decide +kernel
theorem dL_law_590 : decode cL_law 590 = .ok (.iconst 0, 1) := by decide +kernel
theorem dL_law_591 : decode cL_law 591 = .ok (.ireturn, 1) := by decide +kernel
theorem dL_law_592 : decode cL_law 592 = .ok (.aload_n 1, 1) := by decide +kernel
theorem dL_law_593 : decode cL_law 593 = .ok (.aload_n 0, 1) := by decide +kernel
theorem dL_law_594 : decode cL_law 594 = .ok (.iload_n 3, 1) := by decide +kernel
theorem dL_law_595 : decode cL_law 595 = .ok (.iconst 1, 1) := by decide +kernel
theorem dL_law_596 : decode cL_law 596 = .ok (.iadd, 1) := by decide +kernel
theorem dL_law_597 : decode cL_law 597 = .ok (.iaload, 1) := by decide +kernel
theorem dL_law_598 : decode cL_law 598 = .ok (.invokevirtual 76, 3) := by decide +kernel
theorem dL_law_601 : decode cL_law 601 = .ok (.aload_n 2, 1) := by decide +kernel
theorem dL_law_602 : decode cL_law 602 = .ok (.aload_n 0, 1) := by decide +kernel
theorem dL_law_603 : decode cL_law 603 = .ok (.iload_n 3, 1) := by decide +kernel
theorem dL_law_604 : decode cL_law 604 = .ok (.iconst 1, 1) := by decide +kernel
theorem dL_law_605 : decode cL_law 605 = .ok (.iadd, 1) := by decide +kernel
theorem dL_law_606 : decode cL_law 606 = .ok (.iaload, 1) := by decide +kernel
theorem dL_law_607 : decode cL_law 607 = .ok (.invokevirtual 79, 3) := by decide +kernel
theorem dL_law_610 : decode cL_law 610 = .ok (.if_icmp .eq 571, 3) := by decide +kernel
theorem dL_law_613 : decode cL_law 613 = .ok (.iconst 0, 1) := by decide +kernel
theorem dL_law_614 : decode cL_law 614 = .ok (.ireturn, 1) := by decide +kernel
theorem dL_law_615 : decode cL_law 615 = .ok (.aload_n 1, 1) := by decide +kernel
theorem dL_law_616 : decode cL_law 616 = .ok (.aload_n 0, 1) := by decide +kernel
theorem dL_law_617 : decode cL_law 617 = .ok (.iload_n 3, 1) := by decide +kernel
theorem dL_law_618 : decode cL_law 618 = .ok (.iconst 1, 1) := by decide +kernel
theorem dL_law_619 : decode cL_law 619 = .ok (.iadd, 1) := by decide +kernel
theorem dL_law_620 : decode cL_law 620 = .ok (.iaload, 1) := by decide +kernel
theorem dL_law_621 : decode cL_law 621 = .ok (.aload_n 0, 1) := by decide +kernel
theorem dL_law_622 : decode cL_law 622 = .ok (.iload_n 3, 1) := by decide +kernel
theorem dL_law_623 : decode cL_law 623 = .ok (.iconst 2, 1) := by decide +kernel
theorem dL_law_624 : decode cL_law 624 = .ok (.iadd, 1) := by decide +kernel
theorem dL_law_625 : decode cL_law 625 = .ok (.iaload, 1) := by decide +kernel
theorem dL_law_626 : decode cL_law 626 = .ok (.ifCond .eq 7, 3) := by decide +kernel
theorem dL_law_629 : decode cL_law 629 = .ok (.iconst 1, 1) := by decide +kernel
theorem dL_law_630 : decode cL_law 630 = .ok (.goto 4, 3) := by decide +kernel
theorem dL_law_633 : decode cL_law 633 = .ok (.iconst 0, 1) := by decide +kernel
theorem dL_law_634 : decode cL_law 634 = .ok (.aload_n 0, 1) := by decide +kernel
theorem dL_law_635 : decode cL_law 635 = .ok (.iload_n 3, 1) := by decide +kernel
theorem dL_law_636 : decode cL_law 636 = .ok (.iconst 3, 1) := by decide +kernel
theorem dL_law_637 : decode cL_law 637 = .ok (.iadd, 1) := by decide +kernel
theorem dL_law_638 : decode cL_law 638 = .ok (.iaload, 1) := by decide +kernel
theorem dL_law_639 : decode cL_law 639 = .ok (.aload_n 0, 1) := by decide +kernel
theorem dL_law_640 : decode cL_law 640 = .ok (.iload_n 3, 1) := by decide +kernel
theorem dL_law_641 : decode cL_law 641 = .ok (.iconst 4, 1) := by decide +kernel
theorem dL_law_642 : decode cL_law 642 = .ok (.iadd, 1) := by decide +kernel
theorem dL_law_643 : decode cL_law 643 = .ok (.iaload, 1) := by decide +kernel
theorem dL_law_644 : decode cL_law 644 = .ok (.invokevirtual 80, 3) := by decide +kernel
theorem dL_law_647 : decode cL_law 647 = .ok (.aload_n 2, 1) := by decide +kernel
theorem dL_law_648 : decode cL_law 648 = .ok (.aload_n 0, 1) := by decide +kernel
theorem dL_law_649 : decode cL_law 649 = .ok (.iload_n 3, 1) := by decide +kernel
theorem dL_law_650 : decode cL_law 650 = .ok (.iconst 1, 1) := by decide +kernel
theorem dL_law_651 : decode cL_law 651 = .ok (.iadd, 1) := by decide +kernel
theorem dL_law_652 : decode cL_law 652 = .ok (.iaload, 1) := by decide +kernel
theorem dL_law_653 : decode cL_law 653 = .ok (.aload_n 0, 1) := by decide +kernel
theorem dL_law_654 : decode cL_law 654 = .ok (.iload_n 3, 1) := by decide +kernel
theorem dL_law_655 : decode cL_law 655 = .ok (.iconst 2, 1) := by decide +kernel
theorem dL_law_656 : decode cL_law 656 = .ok (.iadd, 1) := by decide +kernel
theorem dL_law_657 : decode cL_law 657 = .ok (.iaload, 1) := by decide +kernel
theorem dL_law_658 : decode cL_law 658 = .ok (.ifCond .eq 7, 3) := by decide +kernel
theorem dL_law_661 : decode cL_law 661 = .ok (.iconst 1, 1) := by decide +kernel
theorem dL_law_662 : decode cL_law 662 = .ok (.goto 4, 3) := by decide +kernel
theorem dL_law_665 : decode cL_law 665 = .ok (.iconst 0, 1) := by decide +kernel
theorem dL_law_666 : decode cL_law 666 = .ok (.aload_n 0, 1) := by decide +kernel
theorem dL_law_667 : decode cL_law 667 = .ok (.iload_n 3, 1) := by decide +kernel
theorem dL_law_668 : decode cL_law 668 = .ok (.iconst 3, 1) := by decide +kernel
theorem dL_law_669 : decode cL_law 669 = .ok (.iadd, 1) := by decide +kernel
theorem dL_law_670 : decode cL_law 670 = .ok (.iaload, 1) := by decide +kernel
theorem dL_law_671 : decode cL_law 671 = .ok (.aload_n 0, 1) := by decide +kernel
theorem dL_law_672 : decode cL_law 672 = .ok (.iload_n 3, 1) := by decide +kernel
theorem dL_law_673 : decode cL_law 673 = .ok (.iconst 4, 1) := by decide +kernel
theorem dL_law_674 : decode cL_law 674 = .ok (.iadd, 1) := by decide +kernel
theorem dL_law_675 : decode cL_law 675 = .ok (.iaload, 1) := by decide +kernel
theorem dL_law_676 : decode cL_law 676 = .ok (.invokevirtual 84, 3) := by decide +kernel
theorem dL_law_679 : decode cL_law 679 = .ok (.if_icmp .eq 502, 3) := by decide +kernel
theorem dL_law_682 : decode cL_law 682 = .ok (.iconst 0, 1) := by decide +kernel
theorem dL_law_683 : decode cL_law 683 = .ok (.ireturn, 1) := by decide +kernel
theorem dL_law_684 : decode cL_law 684 = .ok (.aload_n 1, 1) := by decide +kernel
theorem dL_law_685 : decode cL_law 685 = .ok (.aload_n 0, 1) := by decide +kernel
theorem dL_law_686 : decode cL_law 686 = .ok (.iload_n 3, 1) := by decide +kernel
theorem dL_law_687 : decode cL_law 687 = .ok (.iconst 1, 1) := by decide +kernel
theorem dL_law_688 : decode cL_law 688 = .ok (.iadd, 1) := by decide +kernel
theorem dL_law_689 : decode cL_law 689 = .ok (.iaload, 1) := by decide +kernel
theorem dL_law_690 : decode cL_law 690 = .ok (.aload_n 0, 1) := by decide +kernel
theorem dL_law_691 : decode cL_law 691 = .ok (.iload_n 3, 1) := by decide +kernel
theorem dL_law_692 : decode cL_law 692 = .ok (.iconst 2, 1) := by decide +kernel
theorem dL_law_693 : decode cL_law 693 = .ok (.iadd, 1) := by decide +kernel
theorem dL_law_694 : decode cL_law 694 = .ok (.iaload, 1) := by decide +kernel
theorem dL_law_695 : decode cL_law 695 = .ok (.invokevirtual 85, 3) := by decide +kernel
theorem dL_law_698 : decode cL_law 698 = .ok (.aload_n 2, 1) := by decide +kernel
theorem dL_law_699 : decode cL_law 699 = .ok (.aload_n 0, 1) := by decide +kernel
theorem dL_law_700 : decode cL_law 700 = .ok (.iload_n 3, 1) := by decide +kernel
theorem dL_law_701 : decode cL_law 701 = .ok (.iconst 1, 1) := by decide +kernel
theorem dL_law_702 : decode cL_law 702 = .ok (.iadd, 1) := by decide +kernel
theorem dL_law_703 : decode cL_law 703 = .ok (.iaload, 1) := by decide +kernel
theorem dL_law_704 : decode cL_law 704 = .ok (.aload_n 0, 1) := by decide +kernel
theorem dL_law_705 : decode cL_law 705 = .ok (.iload_n 3, 1) := by decide +kernel
theorem dL_law_706 : decode cL_law 706 = .ok (.iconst 2, 1) := by decide +kernel
theorem dL_law_707 : decode cL_law 707 = .ok (.iadd, 1) := by decide +kernel
theorem dL_law_708 : decode cL_law 708 = .ok (.iaload, 1) := by decide +kernel
theorem dL_law_709 : decode cL_law 709 = .ok (.invokevirtual 88, 3) := by decide +kernel
theorem dL_law_712 : decode cL_law 712 = .ok (.if_icmp .eq 469, 3) := by decide +kernel
theorem dL_law_715 : decode cL_law 715 = .ok (.iconst 0, 1) := by decide +kernel
theorem dL_law_716 : decode cL_law 716 = .ok (.ireturn, 1) := by decide +kernel
theorem dL_law_717 : decode cL_law 717 = .ok (.aload_n 1, 1) := by decide +kernel
theorem dL_law_718 : decode cL_law 718 = .ok (.aload_n 0, 1) := by decide +kernel
theorem dL_law_719 : decode cL_law 719 = .ok (.iload_n 3, 1) := by decide +kernel
theorem dL_law_720 : decode cL_law 720 = .ok (.iconst 1, 1) := by decide +kernel
theorem dL_law_721 : decode cL_law 721 = .ok (.iadd, 1) := by decide +kernel
theorem dL_law_722 : decode cL_law 722 = .ok (.iaload, 1) := by decide +kernel
theorem dL_law_723 : decode cL_law 723 = .ok (.aload_n 0, 1) := by decide +kernel
theorem dL_law_724 : decode cL_law 724 = .ok (.iload_n 3, 1) := by decide +kernel
theorem dL_law_725 : decode cL_law 725 = .ok (.iconst 2, 1) := by decide +kernel
theorem dL_law_726 : decode cL_law 726 = .ok (.iadd, 1) := by decide +kernel
theorem dL_law_727 : decode cL_law 727 = .ok (.iaload, 1) := by decide +kernel
theorem dL_law_728 : decode cL_law 728 = .ok (.ifCond .eq 7, 3) := by decide +kernel
theorem dL_law_731 : decode cL_law 731 = .ok (.iconst 1, 1) := by decide +kernel
theorem dL_law_732 : decode cL_law 732 = .ok (.goto 4, 3) := by decide +kernel
theorem dL_law_735 : decode cL_law 735 = .ok (.iconst 0, 1) := by decide +kernel
theorem dL_law_736 : decode cL_law 736 = .ok (.aload_n 0, 1) := by decide +kernel
theorem dL_law_737 : decode cL_law 737 = .ok (.iload_n 3, 1) := by decide +kernel
theorem dL_law_738 : decode cL_law 738 = .ok (.iconst 3, 1) := by decide +kernel
theorem dL_law_739 : decode cL_law 739 = .ok (.iadd, 1) := by decide +kernel
theorem dL_law_740 : decode cL_law 740 = .ok (.iaload, 1) := by decide +kernel
theorem dL_law_741 : decode cL_law 741 = .ok (.invokevirtual 89, 3) := by decide +kernel
theorem dL_law_744 : decode cL_law 744 = .ok (.aload_n 2, 1) := by decide +kernel
theorem dL_law_745 : decode cL_law 745 = .ok (.aload_n 0, 1) := by decide +kernel
theorem dL_law_746 : decode cL_law 746 = .ok (.iload_n 3, 1) := by decide +kernel
theorem dL_law_747 : decode cL_law 747 = .ok (.iconst 1, 1) := by decide +kernel
theorem dL_law_748 : decode cL_law 748 = .ok (.iadd, 1) := by decide +kernel
theorem dL_law_749 : decode cL_law 749 = .ok (.iaload, 1) := by decide +kernel
theorem dL_law_750 : decode cL_law 750 = .ok (.aload_n 0, 1) := by decide +kernel
theorem dL_law_751 : decode cL_law 751 = .ok (.iload_n 3, 1) := by decide +kernel
theorem dL_law_752 : decode cL_law 752 = .ok (.iconst 2, 1) := by decide +kernel
theorem dL_law_753 : decode cL_law 753 = .ok (.iadd, 1) := by decide +kernel
theorem dL_law_754 : decode cL_law 754 = .ok (.iaload, 1) := by decide +kernel
theorem dL_law_755 : decode cL_law 755 = .ok (.ifCond .eq 7, 3) := by decide +kernel
theorem dL_law_758 : decode cL_law 758 = .ok (.iconst 1, 1) := by decide +kernel
theorem dL_law_759 : decode cL_law 759 = .ok (.goto 4, 3) := by decide +kernel
theorem dL_law_762 : decode cL_law 762 = .ok (.iconst 0, 1) := by decide +kernel
theorem dL_law_763 : decode cL_law 763 = .ok (.aload_n 0, 1) := by decide +kernel
theorem dL_law_764 : decode cL_law 764 = .ok (.iload_n 3, 1) := by decide +kernel
theorem dL_law_765 : decode cL_law 765 = .ok (.iconst 3, 1) := by decide +kernel
theorem dL_law_766 : decode cL_law 766 = .ok (.iadd, 1) := by decide +kernel
theorem dL_law_767 : decode cL_law 767 = .ok (.iaload, 1) := by decide +kernel
theorem dL_law_768 : decode cL_law 768 = .ok (.invokevirtual 93, 3) := by decide +kernel
theorem dL_law_771 : decode cL_law 771 = .ok (.if_icmp .eq 410, 3) := by decide +kernel
theorem dL_law_774 : decode cL_law 774 = .ok (.iconst 0, 1) := by decide +kernel
theorem dL_law_775 : decode cL_law 775 = .ok (.ireturn, 1) := by decide +kernel
theorem dL_law_776 : decode cL_law 776 = .ok (.aload_n 1, 1) := by decide +kernel
theorem dL_law_777 : decode cL_law 777 = .ok (.aload_n 0, 1) := by decide +kernel
theorem dL_law_778 : decode cL_law 778 = .ok (.iload_n 3, 1) := by decide +kernel
theorem dL_law_779 : decode cL_law 779 = .ok (.iconst 1, 1) := by decide +kernel
theorem dL_law_780 : decode cL_law 780 = .ok (.iadd, 1) := by decide +kernel
theorem dL_law_781 : decode cL_law 781 = .ok (.iaload, 1) := by decide +kernel
theorem dL_law_782 : decode cL_law 782 = .ok (.aload_n 0, 1) := by decide +kernel
theorem dL_law_783 : decode cL_law 783 = .ok (.iload_n 3, 1) := by decide +kernel
theorem dL_law_784 : decode cL_law 784 = .ok (.iconst 2, 1) := by decide +kernel
theorem dL_law_785 : decode cL_law 785 = .ok (.iadd, 1) := by decide +kernel
theorem dL_law_786 : decode cL_law 786 = .ok (.iaload, 1) := by decide +kernel
theorem dL_law_787 : decode cL_law 787 = .ok (.aload_n 0, 1) := by decide +kernel
theorem dL_law_788 : decode cL_law 788 = .ok (.iload_n 3, 1) := by decide +kernel
theorem dL_law_789 : decode cL_law 789 = .ok (.iconst 3, 1) := by decide +kernel
theorem dL_law_790 : decode cL_law 790 = .ok (.iadd, 1) := by decide +kernel
theorem dL_law_791 : decode cL_law 791 = .ok (.iaload, 1) := by decide +kernel
theorem dL_law_792 : decode cL_law 792 = .ok (.invokevirtual 94, 3) := by decide +kernel
theorem dL_law_795 : decode cL_law 795 = .ok (.aload_n 2, 1) := by decide +kernel
theorem dL_law_796 : decode cL_law 796 = .ok (.aload_n 0, 1) := by decide +kernel
theorem dL_law_797 : decode cL_law 797 = .ok (.iload_n 3, 1) := by decide +kernel
theorem dL_law_798 : decode cL_law 798 = .ok (.iconst 1, 1) := by decide +kernel
theorem dL_law_799 : decode cL_law 799 = .ok (.iadd, 1) := by decide +kernel
theorem dL_law_800 : decode cL_law 800 = .ok (.iaload, 1) := by decide +kernel
theorem dL_law_801 : decode cL_law 801 = .ok (.aload_n 0, 1) := by decide +kernel
theorem dL_law_802 : decode cL_law 802 = .ok (.iload_n 3, 1) := by decide +kernel
theorem dL_law_803 : decode cL_law 803 = .ok (.iconst 2, 1) := by decide +kernel
theorem dL_law_804 : decode cL_law 804 = .ok (.iadd, 1) := by decide +kernel
theorem dL_law_805 : decode cL_law 805 = .ok (.iaload, 1) := by decide +kernel
theorem dL_law_806 : decode cL_law 806 = .ok (.aload_n 0, 1) := by decide +kernel
theorem dL_law_807 : decode cL_law 807 = .ok (.iload_n 3, 1) := by decide +kernel
theorem dL_law_808 : decode cL_law 808 = .ok (.iconst 3, 1) := by decide +kernel
theorem dL_law_809 : decode cL_law 809 = .ok (.iadd, 1) := by decide +kernel
theorem dL_law_810 : decode cL_law 810 = .ok (.iaload, 1) := by decide +kernel
theorem dL_law_811 : decode cL_law 811 = .ok (.invokevirtual 98, 3) := by decide +kernel
theorem dL_law_814 : decode cL_law 814 = .ok (.if_icmp .eq 367, 3) := by decide +kernel
theorem dL_law_817 : decode cL_law 817 = .ok (.iconst 0, 1) := by decide +kernel
theorem dL_law_818 : decode cL_law 818 = .ok (.ireturn, 1) := by decide +kernel
theorem dL_law_819 : decode cL_law 819 = .ok (.aload_n 1, 1) := by decide +kernel
theorem dL_law_820 : decode cL_law 820 = .ok (.aload_n 0, 1) := by decide +kernel
theorem dL_law_821 : decode cL_law 821 = .ok (.iload_n 3, 1) := by decide +kernel
theorem dL_law_822 : decode cL_law 822 = .ok (.iconst 1, 1) := by decide +kernel
theorem dL_law_823 : decode cL_law 823 = .ok (.iadd, 1) := by decide +kernel
theorem dL_law_824 : decode cL_law 824 = .ok (.iaload, 1) := by decide +kernel
theorem dL_law_825 : decode cL_law 825 = .ok (.aload_n 0, 1) := by decide +kernel
theorem dL_law_826 : decode cL_law 826 = .ok (.iload_n 3, 1) := by decide +kernel
theorem dL_law_827 : decode cL_law 827 = .ok (.iconst 2, 1) := by decide +kernel
theorem dL_law_828 : decode cL_law 828 = .ok (.iadd, 1) := by decide +kernel
theorem dL_law_829 : decode cL_law 829 = .ok (.iaload, 1) := by decide +kernel
theorem dL_law_830 : decode cL_law 830 = .ok (.invokevirtual 99, 3) := by decide +kernel
theorem dL_law_833 : decode cL_law 833 = .ok (.aload_n 2, 1) := by decide +kernel
theorem dL_law_834 : decode cL_law 834 = .ok (.aload_n 0, 1) := by decide +kernel
theorem dL_law_835 : decode cL_law 835 = .ok (.iload_n 3, 1) := by decide +kernel
theorem dL_law_836 : decode cL_law 836 = .ok (.iconst 1, 1) := by decide +kernel
theorem dL_law_837 : decode cL_law 837 = .ok (.iadd, 1) := by decide +kernel
theorem dL_law_838 : decode cL_law 838 = .ok (.iaload, 1) := by decide +kernel
theorem dL_law_839 : decode cL_law 839 = .ok (.aload_n 0, 1) := by decide +kernel
theorem dL_law_840 : decode cL_law 840 = .ok (.iload_n 3, 1) := by decide +kernel
theorem dL_law_841 : decode cL_law 841 = .ok (.iconst 2, 1) := by decide +kernel
theorem dL_law_842 : decode cL_law 842 = .ok (.iadd, 1) := by decide +kernel
theorem dL_law_843 : decode cL_law 843 = .ok (.iaload, 1) := by decide +kernel
theorem dL_law_844 : decode cL_law 844 = .ok (.invokevirtual 102, 3) := by decide +kernel
theorem dL_law_847 : decode cL_law 847 = .ok (.if_icmp .eq 334, 3) := by decide +kernel
theorem dL_law_850 : decode cL_law 850 = .ok (.iconst 0, 1) := by decide +kernel
theorem dL_law_851 : decode cL_law 851 = .ok (.ireturn, 1) := by decide +kernel
theorem dL_law_852 : decode cL_law 852 = .ok (.aload_n 1, 1) := by decide +kernel
theorem dL_law_853 : decode cL_law 853 = .ok (.aload_n 0, 1) := by decide +kernel
theorem dL_law_854 : decode cL_law 854 = .ok (.iload_n 3, 1) := by decide +kernel
theorem dL_law_855 : decode cL_law 855 = .ok (.iconst 1, 1) := by decide +kernel
theorem dL_law_856 : decode cL_law 856 = .ok (.iadd, 1) := by decide +kernel
theorem dL_law_857 : decode cL_law 857 = .ok (.iaload, 1) := by decide +kernel
theorem dL_law_858 : decode cL_law 858 = .ok (.invokevirtual 103, 3) := by decide +kernel
theorem dL_law_861 : decode cL_law 861 = .ok (.aload_n 2, 1) := by decide +kernel
theorem dL_law_862 : decode cL_law 862 = .ok (.aload_n 0, 1) := by decide +kernel
theorem dL_law_863 : decode cL_law 863 = .ok (.iload_n 3, 1) := by decide +kernel
theorem dL_law_864 : decode cL_law 864 = .ok (.iconst 1, 1) := by decide +kernel
theorem dL_law_865 : decode cL_law 865 = .ok (.iadd, 1) := by decide +kernel
theorem dL_law_866 : decode cL_law 866 = .ok (.iaload, 1) := by decide +kernel
theorem dL_law_867 : decode cL_law 867 = .ok (.invokevirtual 106, 3) := by decide +kernel
theorem dL_law_870 : decode cL_law 870 = .ok (.if_icmp .eq 311, 3) := by decide +kernel
theorem dL_law_873 : decode cL_law 873 = .ok (.iconst 0, 1) := by decide +kernel
theorem dL_law_874 : decode cL_law 874 = .ok (.ireturn, 1) := by decide +kernel
theorem dL_law_875 : decode cL_law 875 = .ok (.aload_n 1, 1) := by decide +kernel
theorem dL_law_876 : decode cL_law 876 = .ok (.aload_n 0, 1) := by decide +kernel
theorem dL_law_877 : decode cL_law 877 = .ok (.iload_n 3, 1) := by decide +kernel
theorem dL_law_878 : decode cL_law 878 = .ok (.iconst 1, 1) := by decide +kernel
theorem dL_law_879 : decode cL_law 879 = .ok (.iadd, 1) := by decide +kernel
theorem dL_law_880 : decode cL_law 880 = .ok (.iaload, 1) := by decide +kernel
theorem dL_law_881 : decode cL_law 881 = .ok (.invokevirtual 107, 3) := by decide +kernel
theorem dL_law_884 : decode cL_law 884 = .ok (.aload_n 2, 1) := by decide +kernel
theorem dL_law_885 : decode cL_law 885 = .ok (.aload_n 0, 1) := by decide +kernel
theorem dL_law_886 : decode cL_law 886 = .ok (.iload_n 3, 1) := by decide +kernel
theorem dL_law_887 : decode cL_law 887 = .ok (.iconst 1, 1) := by decide +kernel
theorem dL_law_888 : decode cL_law 888 = .ok (.iadd, 1) := by decide +kernel
theorem dL_law_889 : decode cL_law 889 = .ok (.iaload, 1) := by decide +kernel
theorem dL_law_890 : decode cL_law 890 = .ok (.invokevirtual 110, 3) := by decide +kernel
theorem dL_law_893 : decode cL_law 893 = .ok (.if_icmp .eq 288, 3) := by decide +kernel
theorem dL_law_896 : decode cL_law 896 = .ok (.iconst 0, 1) := by decide +kernel
theorem dL_law_897 : decode cL_law 897 = .ok (.ireturn, 1) := by decide +kernel
theorem dL_law_898 : decode cL_law 898 = .ok (.aload_n 1, 1) := by decide +kernel
theorem dL_law_899 : decode cL_law 899 = .ok (.aload_n 0, 1) := by decide +kernel
theorem dL_law_900 : decode cL_law 900 = .ok (.iload_n 3, 1) := by decide +kernel
theorem dL_law_901 : decode cL_law 901 = .ok (.iconst 1, 1) := by decide +kernel
theorem dL_law_902 : decode cL_law 902 = .ok (.iadd, 1) := by decide +kernel
theorem dL_law_903 : decode cL_law 903 = .ok (.iaload, 1) := by decide +kernel
theorem dL_law_904 : decode cL_law 904 = .ok (.aload_n 0, 1) := by decide +kernel
theorem dL_law_905 : decode cL_law 905 = .ok (.iload_n 3, 1) := by decide +kernel
theorem dL_law_906 : decode cL_law 906 = .ok (.iconst 2, 1) := by decide +kernel
theorem dL_law_907 : decode cL_law 907 = .ok (.iadd, 1) := by decide +kernel
theorem dL_law_908 : decode cL_law 908 = .ok (.iaload, 1) := by decide +kernel
theorem dL_law_909 : decode cL_law 909 = .ok (.invokevirtual 111, 3) := by decide +kernel
theorem dL_law_912 : decode cL_law 912 = .ok (.aload_n 2, 1) := by decide +kernel
theorem dL_law_913 : decode cL_law 913 = .ok (.aload_n 0, 1) := by decide +kernel
theorem dL_law_914 : decode cL_law 914 = .ok (.iload_n 3, 1) := by decide +kernel
theorem dL_law_915 : decode cL_law 915 = .ok (.iconst 1, 1) := by decide +kernel
theorem dL_law_916 : decode cL_law 916 = .ok (.iadd, 1) := by decide +kernel
theorem dL_law_917 : decode cL_law 917 = .ok (.iaload, 1) := by decide +kernel
theorem dL_law_918 : decode cL_law 918 = .ok (.aload_n 0, 1) := by decide +kernel
theorem dL_law_919 : decode cL_law 919 = .ok (.iload_n 3, 1) := by decide +kernel
theorem dL_law_920 : decode cL_law 920 = .ok (.iconst 2, 1) := by decide +kernel
theorem dL_law_921 : decode cL_law 921 = .ok (.iadd, 1) := by decide +kernel
theorem dL_law_922 : decode cL_law 922 = .ok (.iaload, 1) := by decide +kernel
theorem dL_law_923 : decode cL_law 923 = .ok (.invokevirtual 114, 3) := by decide +kernel
theorem dL_law_926 : decode cL_law 926 = .ok (.if_icmp .eq 255, 3) := by decide +kernel
theorem dL_law_929 : decode cL_law 929 = .ok (.iconst 0, 1) := by decide +kernel
theorem dL_law_930 : decode cL_law 930 = .ok (.ireturn, 1) := by decide +kernel
theorem dL_law_931 : decode cL_law 931 = .ok (.aload_n 1, 1) := by decide +kernel
theorem dL_law_932 : decode cL_law 932 = .ok (.aload_n 0, 1) := by decide +kernel
theorem dL_law_933 : decode cL_law 933 = .ok (.iload_n 3, 1) := by decide +kernel
theorem dL_law_934 : decode cL_law 934 = .ok (.iconst 1, 1) := by decide +kernel
theorem dL_law_935 : decode cL_law 935 = .ok (.iadd, 1) := by decide +kernel
theorem dL_law_936 : decode cL_law 936 = .ok (.iaload, 1) := by decide +kernel
theorem dL_law_937 : decode cL_law 937 = .ok (.invokevirtual 115, 3) := by decide +kernel
theorem dL_law_940 : decode cL_law 940 = .ok (.aload_n 2, 1) := by decide +kernel
theorem dL_law_941 : decode cL_law 941 = .ok (.aload_n 0, 1) := by decide +kernel
theorem dL_law_942 : decode cL_law 942 = .ok (.iload_n 3, 1) := by decide +kernel
theorem dL_law_943 : decode cL_law 943 = .ok (.iconst 1, 1) := by decide +kernel
theorem dL_law_944 : decode cL_law 944 = .ok (.iadd, 1) := by decide +kernel
theorem dL_law_945 : decode cL_law 945 = .ok (.iaload, 1) := by decide +kernel
theorem dL_law_946 : decode cL_law 946 = .ok (.invokevirtual 118, 3) := by decide +kernel
theorem dL_law_949 : decode cL_law 949 = .ok (.if_icmp .eq 232, 3) := by decide +kernel
theorem dL_law_952 : decode cL_law 952 = .ok (.iconst 0, 1) := by decide +kernel
theorem dL_law_953 : decode cL_law 953 = .ok (.ireturn, 1) := by decide +kernel
theorem dL_law_954 : decode cL_law 954 = .ok (.aload_n 1, 1) := by decide +kernel
theorem dL_law_955 : decode cL_law 955 = .ok (.aload_n 0, 1) := by decide +kernel
theorem dL_law_956 : decode cL_law 956 = .ok (.iload_n 3, 1) := by decide +kernel
theorem dL_law_957 : decode cL_law 957 = .ok (.iconst 1, 1) := by decide +kernel
theorem dL_law_958 : decode cL_law 958 = .ok (.iadd, 1) := by decide +kernel
theorem dL_law_959 : decode cL_law 959 = .ok (.iaload, 1) := by decide +kernel
theorem dL_law_960 : decode cL_law 960 = .ok (.invokevirtual 119, 3) := by decide +kernel
theorem dL_law_963 : decode cL_law 963 = .ok (.aload_n 2, 1) := by decide +kernel
theorem dL_law_964 : decode cL_law 964 = .ok (.aload_n 0, 1) := by decide +kernel
theorem dL_law_965 : decode cL_law 965 = .ok (.iload_n 3, 1) := by decide +kernel
theorem dL_law_966 : decode cL_law 966 = .ok (.iconst 1, 1) := by decide +kernel
theorem dL_law_967 : decode cL_law 967 = .ok (.iadd, 1) := by decide +kernel
theorem dL_law_968 : decode cL_law 968 = .ok (.iaload, 1) := by decide +kernel
theorem dL_law_969 : decode cL_law 969 = .ok (.invokevirtual 122, 3) := by decide +kernel
theorem dL_law_972 : decode cL_law 972 = .ok (.if_icmp .eq 209, 3) := by decide +kernel
theorem dL_law_975 : decode cL_law 975 = .ok (.iconst 0, 1) := by decide +kernel
theorem dL_law_976 : decode cL_law 976 = .ok (.ireturn, 1) := by decide +kernel
theorem dL_law_977 : decode cL_law 977 = .ok (.aload_n 1, 1) := by decide +kernel
theorem dL_law_978 : decode cL_law 978 = .ok (.aload_n 0, 1) := by decide +kernel
theorem dL_law_979 : decode cL_law 979 = .ok (.iload_n 3, 1) := by decide +kernel
theorem dL_law_980 : decode cL_law 980 = .ok (.iconst 1, 1) := by decide +kernel
theorem dL_law_981 : decode cL_law 981 = .ok (.iadd, 1) := by decide +kernel
theorem dL_law_982 : decode cL_law 982 = .ok (.iaload, 1) := by decide +kernel
theorem dL_law_983 : decode cL_law 983 = .ok (.aload_n 0, 1) := by decide +kernel
theorem dL_law_984 : decode cL_law 984 = .ok (.iload_n 3, 1) := by decide +kernel
theorem dL_law_985 : decode cL_law 985 = .ok (.iconst 2, 1) := by decide +kernel
theorem dL_law_986 : decode cL_law 986 = .ok (.iadd, 1) := by decide +kernel
theorem dL_law_987 : decode cL_law 987 = .ok (.iaload, 1) := by decide +kernel
theorem dL_law_988 : decode cL_law 988 = .ok (.invokevirtual 123, 3) := by decide +kernel
theorem dL_law_991 : decode cL_law 991 = .ok (.aload_n 2, 1) := by decide +kernel
theorem dL_law_992 : decode cL_law 992 = .ok (.aload_n 0, 1) := by decide +kernel
theorem dL_law_993 : decode cL_law 993 = .ok (.iload_n 3, 1) := by decide +kernel
theorem dL_law_994 : decode cL_law 994 = .ok (.iconst 1, 1) := by decide +kernel
theorem dL_law_995 : decode cL_law 995 = .ok (.iadd, 1) := by decide +kernel
theorem dL_law_996 : decode cL_law 996 = .ok (.iaload, 1) := by decide +kernel
theorem dL_law_997 : decode cL_law 997 = .ok (.aload_n 0, 1) := by decide +kernel
theorem dL_law_998 : decode cL_law 998 = .ok (.iload_n 3, 1) := by decide +kernel
theorem dL_law_999 : decode cL_law 999 = .ok (.iconst 2, 1) := by decide +kernel
theorem dL_law_1000 : decode cL_law 1000 = .ok (.iadd, 1) := by decide +kernel
theorem dL_law_1001 : decode cL_law 1001 = .ok (.iaload, 1) := by decide +kernel
theorem dL_law_1002 : decode cL_law 1002 = .ok (.invokevirtual 126, 3) := by decide +kernel
theorem dL_law_1005 : decode cL_law 1005 = .ok (.if_icmp .eq 176, 3) := by decide +kernel
theorem dL_law_1008 : decode cL_law 1008 = .ok (.iconst 0, 1) := by decide +kernel
theorem dL_law_1009 : decode cL_law 1009 = .ok (.ireturn, 1) := by decide +kernel
theorem dL_law_1010 : decode cL_law 1010 = .ok (.aload_n 1, 1) := by decide +kernel
theorem dL_law_1011 : decode cL_law 1011 = .ok (.aload_n 0, 1) := by decide +kernel
theorem dL_law_1012 : decode cL_law 1012 = .ok (.iload_n 3, 1) := by decide +kernel
theorem dL_law_1013 : decode cL_law 1013 = .ok (.iconst 1, 1) := by decide +kernel
theorem dL_law_1014 : decode cL_law 1014 = .ok (.iadd, 1) := by decide +kernel
theorem dL_law_1015 : decode cL_law 1015 = .ok (.iaload, 1) := by decide +kernel
theorem dL_law_1016 : decode cL_law 1016 = .ok (.invokevirtual 127, 3) := by decide +kernel
theorem dL_law_1019 : decode cL_law 1019 = .ok (.aload_n 2, 1) := by decide +kernel
theorem dL_law_1020 : decode cL_law 1020 = .ok (.aload_n 0, 1) := by decide +kernel
theorem dL_law_1021 : decode cL_law 1021 = .ok (.iload_n 3, 1) := by decide +kernel
theorem dL_law_1022 : decode cL_law 1022 = .ok (.iconst 1, 1) := by decide +kernel
theorem dL_law_1023 : decode cL_law 1023 = .ok (.iadd, 1) := by decide +kernel
theorem dL_law_1024 : decode cL_law 1024 = .ok (.iaload, 1) := by decide +kernel
theorem dL_law_1025 : decode cL_law 1025 = .ok (.invokevirtual 130, 3) := by decide +kernel
theorem dL_law_1028 : decode cL_law 1028 = .ok (.if_icmp .eq 153, 3) := by decide +kernel
theorem dL_law_1031 : decode cL_law 1031 = .ok (.iconst 0, 1) := by decide +kernel
theorem dL_law_1032 : decode cL_law 1032 = .ok (.ireturn, 1) := by decide +kernel
theorem dL_law_1033 : decode cL_law 1033 = .ok (.aload_n 1, 1) := by decide +kernel
theorem dL_law_1034 : decode cL_law 1034 = .ok (.invokevirtual 131, 3) := by decide +kernel
theorem dL_law_1037 : decode cL_law 1037 = .ok (.aload_n 2, 1) := by decide +kernel
theorem dL_law_1038 : decode cL_law 1038 = .ok (.invokevirtual 134, 3) := by decide +kernel
theorem dL_law_1041 : decode cL_law 1041 = .ok (.if_icmp .eq 140, 3) := by decide +kernel
theorem dL_law_1044 : decode cL_law 1044 = .ok (.iconst 0, 1) := by decide +kernel
theorem dL_law_1045 : decode cL_law 1045 = .ok (.ireturn, 1) := by decide +kernel
theorem dL_law_1046 : decode cL_law 1046 = .ok (.aload_n 1, 1) := by decide +kernel
theorem dL_law_1047 : decode cL_law 1047 = .ok (.aload_n 0, 1) := by decide +kernel
theorem dL_law_1048 : decode cL_law 1048 = .ok (.iload_n 3, 1) := by decide +kernel
theorem dL_law_1049 : decode cL_law 1049 = .ok (.iconst 1, 1) := by decide +kernel
theorem dL_law_1050 : decode cL_law 1050 = .ok (.iadd, 1) := by decide +kernel
theorem dL_law_1051 : decode cL_law 1051 = .ok (.iaload, 1) := by decide +kernel
theorem dL_law_1052 : decode cL_law 1052 = .ok (.invokevirtual 135, 3) := by decide +kernel
theorem dL_law_1055 : decode cL_law 1055 = .ok (.aload_n 2, 1) := by decide +kernel
theorem dL_law_1056 : decode cL_law 1056 = .ok (.aload_n 0, 1) := by decide +kernel
theorem dL_law_1057 : decode cL_law 1057 = .ok (.iload_n 3, 1) := by decide +kernel
theorem dL_law_1058 : decode cL_law 1058 = .ok (.iconst 1, 1) := by decide +kernel
theorem dL_law_1059 : decode cL_law 1059 = .ok (.iadd, 1) := by decide +kernel
theorem dL_law_1060 : decode cL_law 1060 = .ok (.iaload, 1) := by decide +kernel
theorem dL_law_1061 : decode cL_law 1061 = .ok (.invokevirtual 139, 3) := by decide +kernel
theorem dL_law_1064 : decode cL_law 1064 = .ok (.lcmp, 1) := by decide +kernel
theorem dL_law_1065 : decode cL_law 1065 = .ok (.ifCond .eq 116, 3) := by decide +kernel
theorem dL_law_1068 : decode cL_law 1068 = .ok (.iconst 0, 1) := by decide +kernel
theorem dL_law_1069 : decode cL_law 1069 = .ok (.ireturn, 1) := by decide +kernel
theorem dL_law_1070 : decode cL_law 1070 = .ok (.aload_n 1, 1) := by decide +kernel
theorem dL_law_1071 : decode cL_law 1071 = .ok (.invokevirtual 140, 3) := by decide +kernel
theorem dL_law_1074 : decode cL_law 1074 = .ok (.aload_n 2, 1) := by decide +kernel
theorem dL_law_1075 : decode cL_law 1075 = .ok (.invokevirtual 143, 3) := by decide +kernel
theorem dL_law_1078 : decode cL_law 1078 = .ok (.if_icmp .eq 103, 3) := by decide +kernel
theorem dL_law_1081 : decode cL_law 1081 = .ok (.iconst 0, 1) := by decide +kernel
theorem dL_law_1082 : decode cL_law 1082 = .ok (.ireturn, 1) := by decide +kernel
theorem dL_law_1083 : decode cL_law 1083 = .ok (.aload_n 1, 1) := by decide +kernel
theorem dL_law_1084 : decode cL_law 1084 = .ok (.aload_n 0, 1) := by decide +kernel
theorem dL_law_1085 : decode cL_law 1085 = .ok (.iload_n 3, 1) := by decide +kernel
theorem dL_law_1086 : decode cL_law 1086 = .ok (.iconst 1, 1) := by decide +kernel
theorem dL_law_1087 : decode cL_law 1087 = .ok (.iadd, 1) := by decide +kernel
theorem dL_law_1088 : decode cL_law 1088 = .ok (.iaload, 1) := by decide +kernel
theorem dL_law_1089 : decode cL_law 1089 = .ok (.invokevirtual 144, 3) := by decide +kernel
theorem dL_law_1092 : decode cL_law 1092 = .ok (.aload_n 2, 1) := by decide +kernel
theorem dL_law_1093 : decode cL_law 1093 = .ok (.aload_n 0, 1) := by decide +kernel
theorem dL_law_1094 : decode cL_law 1094 = .ok (.iload_n 3, 1) := by decide +kernel
theorem dL_law_1095 : decode cL_law 1095 = .ok (.iconst 1, 1) := by decide +kernel
theorem dL_law_1096 : decode cL_law 1096 = .ok (.iadd, 1) := by decide +kernel
theorem dL_law_1097 : decode cL_law 1097 = .ok (.iaload, 1) := by decide +kernel
theorem dL_law_1098 : decode cL_law 1098 = .ok (.invokevirtual 147, 3) := by decide +kernel
theorem dL_law_1101 : decode cL_law 1101 = .ok (.if_icmp .eq 80, 3) := by decide +kernel
theorem dL_law_1104 : decode cL_law 1104 = .ok (.iconst 0, 1) := by decide +kernel
theorem dL_law_1105 : decode cL_law 1105 = .ok (.ireturn, 1) := by decide +kernel
theorem dL_law_1106 : decode cL_law 1106 = .ok (.aload_n 1, 1) := by decide +kernel
theorem dL_law_1107 : decode cL_law 1107 = .ok (.invokevirtual 148, 3) := by decide +kernel
theorem dL_law_1110 : decode cL_law 1110 = .ok (.aload_n 2, 1) := by decide +kernel
theorem dL_law_1111 : decode cL_law 1111 = .ok (.invokevirtual 152, 3) := by decide +kernel
theorem dL_law_1114 : decode cL_law 1114 = .ok (.if_icmp .eq 67, 3) := by decide +kernel
theorem dL_law_1117 : decode cL_law 1117 = .ok (.iconst 0, 1) := by decide +kernel
theorem dL_law_1118 : decode cL_law 1118 = .ok (.ireturn, 1) := by decide +kernel
theorem dL_law_1119 : decode cL_law 1119 = .ok (.aload_n 1, 1) := by decide +kernel
theorem dL_law_1120 : decode cL_law 1120 = .ok (.aload_n 0, 1) := by decide +kernel
theorem dL_law_1121 : decode cL_law 1121 = .ok (.iload_n 3, 1) := by decide +kernel
theorem dL_law_1122 : decode cL_law 1122 = .ok (.iconst 1, 1) := by decide +kernel
theorem dL_law_1123 : decode cL_law 1123 = .ok (.iadd, 1) := by decide +kernel
theorem dL_law_1124 : decode cL_law 1124 = .ok (.iaload, 1) := by decide +kernel
theorem dL_law_1125 : decode cL_law 1125 = .ok (.ifCond .eq 7, 3) := by decide +kernel
theorem dL_law_1128 : decode cL_law 1128 = .ok (.iconst 1, 1) := by decide +kernel
theorem dL_law_1129 : decode cL_law 1129 = .ok (.goto 4, 3) := by decide +kernel
theorem dL_law_1132 : decode cL_law 1132 = .ok (.iconst 0, 1) := by decide +kernel
theorem dL_law_1133 : decode cL_law 1133 = .ok (.invokevirtual 153, 3) := by decide +kernel
theorem dL_law_1136 : decode cL_law 1136 = .ok (.aload_n 2, 1) := by decide +kernel
theorem dL_law_1137 : decode cL_law 1137 = .ok (.aload_n 0, 1) := by decide +kernel
theorem dL_law_1138 : decode cL_law 1138 = .ok (.iload_n 3, 1) := by decide +kernel
theorem dL_law_1139 : decode cL_law 1139 = .ok (.iconst 1, 1) := by decide +kernel
theorem dL_law_1140 : decode cL_law 1140 = .ok (.iadd, 1) := by decide +kernel
theorem dL_law_1141 : decode cL_law 1141 = .ok (.iaload, 1) := by decide +kernel
theorem dL_law_1142 : decode cL_law 1142 = .ok (.ifCond .eq 7, 3) := by decide +kernel
theorem dL_law_1145 : decode cL_law 1145 = .ok (.iconst 1, 1) := by decide +kernel
theorem dL_law_1146 : decode cL_law 1146 = .ok (.goto 4, 3) := by decide +kernel
theorem dL_law_1149 : decode cL_law 1149 = .ok (.iconst 0, 1) := by decide +kernel
theorem dL_law_1150 : decode cL_law 1150 = .ok (.invokevirtual 157, 3) := by decide +kernel
theorem dL_law_1153 : decode cL_law 1153 = .ok (.if_icmp .eq 28, 3) := by decide +kernel
theorem dL_law_1156 : decode cL_law 1156 = .ok (.iconst 0, 1) := by decide +kernel
theorem dL_law_1157 : decode cL_law 1157 = .ok (.ireturn, 1) := by decide +kernel
theorem dL_law_1158 : decode cL_law 1158 = .ok (.aload_n 1, 1) := by decide +kernel
theorem dL_law_1159 : decode cL_law 1159 = .ok (.aload_n 0, 1) := by decide +kernel
theorem dL_law_1160 : decode cL_law 1160 = .ok (.iload_n 3, 1) := by decide +kernel
theorem dL_law_1161 : decode cL_law 1161 = .ok (.iconst 1, 1) := by decide +kernel
theorem dL_law_1162 : decode cL_law 1162 = .ok (.iadd, 1) := by decide +kernel
theorem dL_law_1163 : decode cL_law 1163 = .ok (.iaload, 1) := by decide +kernel
theorem dL_law_1164 : decode cL_law 1164 = .ok (.invokevirtual 158, 3) := by decide +kernel
theorem dL_law_1167 : decode cL_law 1167 = .ok (.aload_n 2, 1) := by decide +kernel
theorem dL_law_1168 : decode cL_law 1168 = .ok (.aload_n 0, 1) := by decide +kernel
theorem dL_law_1169 : decode cL_law 1169 = .ok (.iload_n 3, 1) := by decide +kernel
theorem dL_law_1170 : decode cL_law 1170 = .ok (.iconst 1, 1) := by decide +kernel
theorem dL_law_1171 : decode cL_law 1171 = .ok (.iadd, 1) := by decide +kernel
theorem dL_law_1172 : decode cL_law 1172 = .ok (.iaload, 1) := by decide +kernel
theorem dL_law_1173 : decode cL_law 1173 = .ok (.invokevirtual 161, 3) := by decide +kernel
theorem dL_law_1176 : decode cL_law 1176 = .ok (.if_icmp .eq 5, 3) := by decide +kernel
theorem dL_law_1179 : decode cL_law 1179 = .ok (.iconst 0, 1) := by decide +kernel
theorem dL_law_1180 : decode cL_law 1180 = .ok (.ireturn, 1) := by decide +kernel
theorem dL_law_1181 : decode cL_law 1181 = .ok (.iinc 3 6, 3) := by decide +kernel
theorem dL_law_1184 : decode cL_law 1184 = .ok (.goto (-1166), 3) := by decide +kernel
theorem dL_law_1187 : decode cL_law 1187 = .ok (.iconst 1, 1) := by decide +kernel
theorem dL_law_1188 : decode cL_law 1188 = .ok (.ireturn, 1) := by decide +kernel
