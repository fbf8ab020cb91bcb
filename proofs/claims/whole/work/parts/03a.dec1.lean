theorem dX0_init_0 : decode cX0_init 0 = .ok (.aload_n 0, 1) := by decide +kernel
theorem dX0_init_1 : decode cX0_init 1 = .ok (.invokespecial 3, 3) := by decide +kernel
theorem dX0_init_4 : decode cX0_init 4 = .ok (.aload_n 0, 1) := by decide +kernel
theorem dX0_init_5 : decode cX0_init 5 = .ok (.sipush 196, 3) := by decide +kernel
theorem dX0_init_8 : decode cX0_init 8 = .ok (.newarray .int, 2) := by decide +kernel
theorem dX0_init_10 : decode cX0_init 10 = .ok (.putfield 9, 3) := by decide +kernel
theorem dX0_init_13 : decode cX0_init 13 = .ok (.return_, 1) := by decide +kernel
theorem dX0_wish_0 : decode cX0_wish 0 = .ok (.iload_n 1, 1) := by decide +kernel
theorem dX0_wish_1 : decode cX0_wish 1 = .ok (.bipush 14, 2) := by decide +kernel
theorem dX0_wish_3 : decode cX0_wish 3 = .ok (.imul, 1) := by decide +kernel
theorem dX0_wish_4 : decode cX0_wish 4 = .ok (.iload_n 2, 1) := by decide +kernel
theorem dX0_wish_5 : decode cX0_wish 5 = .ok (.iadd, 1) := by decide +kernel
theorem dX0_wish_6 : decode cX0_wish 6 = .ok (.istore_n 3, 1) := by decide +kernel
theorem dX0_wish_7 : decode cX0_wish 7 = .ok (.iload_n 3, 1) := by decide +kernel
theorem dX0_wish_8 : decode cX0_wish 8 = .ok (.ifCond .lt 21, 3) := by decide +kernel
theorem dX0_wish_11 : decode cX0_wish 11 = .ok (.iload_n 3, 1) := by decide +kernel
theorem dX0_wish_12 : decode cX0_wish 12 = .ok (.aload_n 0, 1) := by decide +kernel
theorem dX0_wish_13 : decode cX0_wish 13 = .ok (.getfield 9, 3) := by decide +kernel
theorem dX0_wish_16 : decode cX0_wish 16 = .ok (.arraylength, 1) := by decide +kernel
theorem dX0_wish_17 : decode cX0_wish 17 = .ok (.if_icmp .ge 12, 3) := by decide +kernel
theorem dX0_wish_20 : decode cX0_wish 20 = .ok (.aload_n 0, 1) := by decide +kernel
theorem dX0_wish_21 : decode cX0_wish 21 = .ok (.getfield 9, 3) := by decide +kernel
theorem dX0_wish_24 : decode cX0_wish 24 = .ok (.iload_n 3, 1) := by decide +kernel
theorem dX0_wish_25 : decode cX0_wish 25 = .ok (.iaload, 1) := by decide +kernel
theorem dX0_wish_26 : decode cX0_wish 26 = .ok (.goto 4, 3) := by decide +kernel
theorem dX0_wish_29 : decode cX0_wish 29 = .ok (.iconst 0, 1) := by decide +kernel
theorem dX0_wish_30 : decode cX0_wish 30 = .ok (.ireturn, 1) := by decide +kernel
theorem dX0_forget_0 : decode cX0_forget 0 = .ok (.aload_n 0, 1) := by decide +kernel
theorem dX0_forget_1 : decode cX0_forget 1 = .ok (.iconst 0, 1) := by decide +kernel
theorem dX0_forget_2 : decode cX0_forget 2 = .ok (.putfield 15, 3) := by decide +kernel
theorem dX0_forget_5 : decode cX0_forget 5 = .ok (.aload_n 0, 1) := by decide +kernel
theorem dX0_forget_6 : decode cX0_forget 6 = .ok (.getfield 9, 3) := by decide +kernel
theorem dX0_forget_9 : decode cX0_forget 9 = .ok (.iconst 0, 1) := by decide +kernel
theorem dX0_forget_10 : decode cX0_forget 10 = .ok (.invokestatic 19, 3) := by decide +kernel
theorem dX0_forget_13 : decode cX0_forget 13 = .ok (.return_, 1) := by decide +kernel
theorem dX0_read_0 : decode cX0_read 0 = .ok (.aload_n 0, 1) := by decide +kernel
theorem dX0_read_1 : decode cX0_read 1 = .ok (.invokevirtual 25, 3) := by decide +kernel
theorem dX0_read_4 : decode cX0_read 4 = .ok (.iconst 0, 1) := by decide +kernel
theorem dX0_read_5 : decode cX0_read 5 = .ok (.istore_n 3, 1) := by decide +kernel
theorem dX0_read_6 : decode cX0_read 6 = .ok (.iload_n 3, 1) := by decide +kernel
theorem dX0_read_7 : decode cX0_read 7 = .ok (.sipush 400, 3) := by decide +kernel
theorem dX0_read_10 : decode cX0_read 10 = .ok (.if_icmp .gt 84, 3) := by decide +kernel
theorem dX0_read_13 : decode cX0_read 13 = .ok (.aload_n 1, 1) := by decide +kernel
theorem dX0_read_14 : decode cX0_read 14 = .ok (.invokevirtual 30, 3) := by decide +kernel
theorem dX0_read_17 : decode cX0_read 17 = .ok (.sipush 202, 3) := by decide +kernel
theorem dX0_read_20 : decode cX0_read 20 = .ok (.if_icmp .eq 74, 3) := by decide +kernel
theorem dX0_read_23 : decode cX0_read 23 = .ok (.aload_n 1, 1) := by decide +kernel
theorem dX0_read_24 : decode cX0_read 24 = .ok (.invokevirtual 30, 3) := by decide +kernel
theorem dX0_read_27 : decode cX0_read 27 = .ok (.sipush 320, 3) := by decide +kernel
theorem dX0_read_30 : decode cX0_read 30 = .ok (.if_icmp .ne 18, 3) := by decide +kernel
theorem dX0_read_33 : decode cX0_read 33 = .ok (.aload_n 0, 1) := by decide +kernel
theorem dX0_read_34 : decode cX0_read 34 = .ok (.getfield 15, 3) := by decide +kernel
theorem dX0_read_37 : decode cX0_read 37 = .ok (.bipush 16, 2) := by decide +kernel
theorem dX0_read_39 : decode cX0_read 39 = .ok (.if_icmp .lt 9, 3) := by decide +kernel
theorem dX0_read_42 : decode cX0_read 42 = .ok (.aload_n 1, 1) := by decide +kernel
theorem dX0_read_43 : decode cX0_read 43 = .ok (.iconst 3, 1) := by decide +kernel
theorem dX0_read_44 : decode cX0_read 44 = .ok (.invokevirtual 34, 3) := by decide +kernel
theorem dX0_read_47 : decode cX0_read 47 = .ok (.ireturn, 1) := by decide +kernel
theorem dX0_read_48 : decode cX0_read 48 = .ok (.aload_n 1, 1) := by decide +kernel
theorem dX0_read_49 : decode cX0_read 49 = .ok (.sipush 320, 3) := by decide +kernel
theorem dX0_read_52 : decode cX0_read 52 = .ok (.invokevirtual 38, 3) := by decide +kernel
theorem dX0_read_55 : decode cX0_read 55 = .ok (.ifCond .eq 21, 3) := by decide +kernel
theorem dX0_read_58 : decode cX0_read 58 = .ok (.aload_n 0, 1) := by decide +kernel
theorem dX0_read_59 : decode cX0_read 59 = .ok (.aload_n 1, 1) := by decide +kernel
theorem dX0_read_60 : decode cX0_read 60 = .ok (.iload_n 2, 1) := by decide +kernel
theorem dX0_read_61 : decode cX0_read 61 = .ok (.invokevirtual 41, 3) := by decide +kernel
theorem dX0_read_64 : decode cX0_read 64 = .ok (.ifCond .eq 12, 3) := by decide +kernel
theorem dX0_read_67 : decode cX0_read 67 = .ok (.aload_n 1, 1) := by decide +kernel
theorem dX0_read_68 : decode cX0_read 68 = .ok (.bipush 59, 2) := by decide +kernel
theorem dX0_read_70 : decode cX0_read 70 = .ok (.invokevirtual 38, 3) := by decide +kernel
theorem dX0_read_73 : decode cX0_read 73 = .ok (.ifCond .ne 5, 3) := by decide +kernel
theorem dX0_read_76 : decode cX0_read 76 = .ok (.iconst 0, 1) := by decide +kernel
theorem dX0_read_77 : decode cX0_read 77 = .ok (.ireturn, 1) := by decide +kernel
theorem dX0_read_78 : decode cX0_read 78 = .ok (.aload_n 0, 1) := by decide +kernel
theorem dX0_read_79 : decode cX0_read 79 = .ok (.dup, 1) := by decide +kernel
theorem dX0_read_80 : decode cX0_read 80 = .ok (.getfield 15, 3) := by decide +kernel
theorem dX0_read_83 : decode cX0_read 83 = .ok (.iconst 1, 1) := by decide +kernel
theorem dX0_read_84 : decode cX0_read 84 = .ok (.iadd, 1) := by decide +kernel
theorem dX0_read_85 : decode cX0_read 85 = .ok (.putfield 15, 3) := by decide +kernel
theorem dX0_read_88 : decode cX0_read 88 = .ok (.iinc 3 1, 3) := by decide +kernel
theorem dX0_read_91 : decode cX0_read 91 = .ok (.goto (-85), 3) := by decide +kernel
theorem dX0_read_94 : decode cX0_read 94 = .ok (.iconst 1, 1) := by decide +kernel
theorem dX0_read_95 : decode cX0_read 95 = .ok (.ireturn, 1) := by decide +kernel
theorem dX0_readWish_0 : decode cX0_readWish 0 = .ok (.aload_n 1, 1) := by decide +kernel
theorem dX0_readWish_1 : decode cX0_readWish 1 = .ok (.iconst 0, 1) := by decide +kernel
theorem dX0_readWish_2 : decode cX0_readWish 2 = .ok (.iload_n 2, 1) := by decide +kernel
theorem dX0_readWish_3 : decode cX0_readWish 3 = .ok (.iconst 1, 1) := by decide +kernel
theorem dX0_readWish_4 : decode cX0_readWish 4 = .ok (.isub, 1) := by decide +kernel
theorem dX0_readWish_5 : decode cX0_readWish 5 = .ok (.invokevirtual 45, 3) := by decide +kernel
theorem dX0_readWish_8 : decode cX0_readWish 8 = .ok (.istore_n 3, 1) := by decide +kernel
theorem dX0_readWish_9 : decode cX0_readWish 9 = .ok (.iload_n 3, 1) := by decide +kernel
theorem dX0_readWish_10 : decode cX0_readWish 10 = .ok (.ifCond .ge 5, 3) := by decide +kernel
theorem dX0_readWish_13 : decode cX0_readWish 13 = .ok (.iconst 0, 1) := by decide +kernel
theorem dX0_readWish_14 : decode cX0_readWish 14 = .ok (.ireturn, 1) := by decide +kernel
theorem dX0_readWish_15 : decode cX0_readWish 15 = .ok (.aload_n 1, 1) := by decide +kernel
theorem dX0_readWish_16 : decode cX0_readWish 16 = .ok (.iload_n 3, 1) := by decide +kernel
theorem dX0_readWish_17 : decode cX0_readWish 17 = .ok (.invokevirtual 49, 3) := by decide +kernel
theorem dX0_readWish_20 : decode cX0_readWish 20 = .ok (.ifCond .eq 9, 3) := by decide +kernel
theorem dX0_readWish_23 : decode cX0_readWish 23 = .ok (.aload_n 1, 1) := by decide +kernel
theorem dX0_readWish_24 : decode cX0_readWish 24 = .ok (.iconst 2, 1) := by decide +kernel
theorem dX0_readWish_25 : decode cX0_readWish 25 = .ok (.invokevirtual 34, 3) := by decide +kernel
theorem dX0_readWish_28 : decode cX0_readWish 28 = .ok (.ireturn, 1) := by decide +kernel
theorem dX0_readWish_29 : decode cX0_readWish 29 = .ok (.aload_n 1, 1) := by decide +kernel
theorem dX0_readWish_30 : decode cX0_readWish 30 = .ok (.iconst 0, 1) := by decide +kernel
theorem dX0_readWish_31 : decode cX0_readWish 31 = .ok (.iload_n 2, 1) := by decide +kernel
theorem dX0_readWish_32 : decode cX0_readWish 32 = .ok (.iconst 1, 1) := by decide +kernel
theorem dX0_readWish_33 : decode cX0_readWish 33 = .ok (.isub, 1) := by decide +kernel
theorem dX0_readWish_34 : decode cX0_readWish 34 = .ok (.invokevirtual 45, 3) := by decide +kernel
theorem dX0_readWish_37 : decode cX0_readWish 37 = .ok (.istore 4, 2) := by decide +kernel
theorem dX0_readWish_39 : decode cX0_readWish 39 = .ok (.iload 4, 2) := by decide +kernel
theorem dX0_readWish_41 : decode cX0_readWish 41 = .ok (.ifCond .lt 13, 3) := by decide +kernel
theorem dX0_readWish_44 : decode cX0_readWish 44 = .ok (.aload_n 1, 1) := by decide +kernel
theorem dX0_readWish_45 : decode cX0_readWish 45 = .ok (.sipush 301, 3) := by decide +kernel
theorem dX0_readWish_48 : decode cX0_readWish 48 = .ok (.invokevirtual 38, 3) := by decide +kernel
theorem dX0_readWish_51 : decode cX0_readWish 51 = .ok (.ifCond .ne 5, 3) := by decide +kernel
theorem dX0_readWish_54 : decode cX0_readWish 54 = .ok (.iconst 0, 1) := by decide +kernel
theorem dX0_readWish_55 : decode cX0_readWish 55 = .ok (.ireturn, 1) := by decide +kernel
theorem dX0_readWish_56 : decode cX0_readWish 56 = .ok (.aload_n 1, 1) := by decide +kernel
theorem dX0_readWish_57 : decode cX0_readWish 57 = .ok (.iconst 0, 1) := by decide +kernel
theorem dX0_readWish_58 : decode cX0_readWish 58 = .ok (.bipush 99, 2) := by decide +kernel
theorem dX0_readWish_60 : decode cX0_readWish 60 = .ok (.invokevirtual 45, 3) := by decide +kernel
theorem dX0_readWish_63 : decode cX0_readWish 63 = .ok (.istore 5, 2) := by decide +kernel
theorem dX0_readWish_65 : decode cX0_readWish 65 = .ok (.iload_n 3, 1) := by decide +kernel
theorem dX0_readWish_66 : decode cX0_readWish 66 = .ok (.bipush 14, 2) := by decide +kernel
theorem dX0_readWish_68 : decode cX0_readWish 68 = .ok (.imul, 1) := by decide +kernel
theorem dX0_readWish_69 : decode cX0_readWish 69 = .ok (.iload 4, 2) := by decide +kernel
theorem dX0_readWish_71 : decode cX0_readWish 71 = .ok (.iadd, 1) := by decide +kernel
theorem dX0_readWish_72 : decode cX0_readWish 72 = .ok (.istore 6, 2) := by decide +kernel
theorem dX0_readWish_74 : decode cX0_readWish 74 = .ok (.iload 5, 2) := by decide +kernel
theorem dX0_readWish_76 : decode cX0_readWish 76 = .ok (.ifCond .lt 13, 3) := by decide +kernel
theorem dX0_readWish_79 : decode cX0_readWish 79 = .ok (.iload 6, 2) := by decide +kernel
theorem dX0_readWish_81 : decode cX0_readWish 81 = .ok (.aload_n 0, 1) := by decide +kernel
theorem dX0_readWish_82 : decode cX0_readWish 82 = .ok (.getfield 9, 3) := by decide +kernel
theorem dX0_readWish_85 : decode cX0_readWish 85 = .ok (.arraylength, 1) := by decide +kernel
theorem dX0_readWish_86 : decode cX0_readWish 86 = .ok (.if_icmp .lt 5, 3) := by decide +kernel
theorem dX0_readWish_89 : decode cX0_readWish 89 = .ok (.iconst 0, 1) := by decide +kernel
theorem dX0_readWish_90 : decode cX0_readWish 90 = .ok (.ireturn, 1) := by decide +kernel
theorem dX0_readWish_91 : decode cX0_readWish 91 = .ok (.aload_n 0, 1) := by decide +kernel
theorem dX0_readWish_92 : decode cX0_readWish 92 = .ok (.getfield 9, 3) := by decide +kernel
theorem dX0_readWish_95 : decode cX0_readWish 95 = .ok (.iload 6, 2) := by decide +kernel
theorem dX0_readWish_97 : decode cX0_readWish 97 = .ok (.iload 5, 2) := by decide +kernel
theorem dX0_readWish_99 : decode cX0_readWish 99 = .ok (.iastore, 1) := by decide +kernel
theorem dX0_readWish_100 : decode cX0_readWish 100 = .ok (.iconst 1, 1) := by decide +kernel
theorem dX0_readWish_101 : decode cX0_readWish 101 = .ok (.ireturn, 1) := by decide +kernel
theorem dX0_copyFrom_0 : decode cX0_copyFrom 0 = .ok (.aload_n 0, 1) := by decide +kernel
theorem dX0_copyFrom_1 : decode cX0_copyFrom 1 = .ok (.aload_n 1, 1) := by decide +kernel
theorem dX0_copyFrom_2 : decode cX0_copyFrom 2 = .ok (.getfield 15, 3) := by decide +kernel
theorem dX0_copyFrom_5 : decode cX0_copyFrom 5 = .ok (.putfield 15, 3) := by decide +kernel
theorem dX0_copyFrom_8 : decode cX0_copyFrom 8 = .ok (.aload_n 1, 1) := by decide +kernel
theorem dX0_copyFrom_9 : decode cX0_copyFrom 9 = .ok (.getfield 9, 3) := by decide +kernel
theorem dX0_copyFrom_12 : decode cX0_copyFrom 12 = .ok (.iconst 0, 1) := by decide +kernel
theorem dX0_copyFrom_13 : decode cX0_copyFrom 13 = .ok (.aload_n 0, 1) := by decide +kernel
theorem dX0_copyFrom_14 : decode cX0_copyFrom 14 = .ok (.getfield 9, 3) := by decide +kernel
theorem dX0_copyFrom_17 : decode cX0_copyFrom 17 = .ok (.iconst 0, 1) := by decide +kernel
theorem dX0_copyFrom_18 : decode cX0_copyFrom 18 = .ok (.aload_n 0, 1) := by decide +kernel
theorem dX0_copyFrom_19 : decode cX0_copyFrom 19 = .ok (.getfield 9, 3) := by decide +kernel
theorem dX0_copyFrom_22 : decode cX0_copyFrom 22 = .ok (.arraylength, 1) := by decide +kernel
theorem dX0_copyFrom_23 : decode cX0_copyFrom 23 = .ok (.invokestatic 52, 3) := by decide +kernel
theorem dX0_copyFrom_26 : decode cX0_copyFrom 26 = .ok (.return_, 1) := by decide +kernel
theorem dX1_init_0 : decode cX1_init 0 = .ok (.aload_n 0, 1) := by decide +kernel
theorem dX1_init_1 : decode cX1_init 1 = .ok (.invokespecial 3, 3) := by decide +kernel
theorem dX1_init_4 : decode cX1_init 4 = .ok (.aload_n 0, 1) := by decide +kernel
theorem dX1_init_5 : decode cX1_init 5 = .ok (.sipush 600, 3) := by decide +kernel
theorem dX1_init_8 : decode cX1_init 8 = .ok (.newarray .int, 2) := by decide +kernel
theorem dX1_init_10 : decode cX1_init 10 = .ok (.putfield 11, 3) := by decide +kernel
theorem dX1_init_13 : decode cX1_init 13 = .ok (.return_, 1) := by decide +kernel
theorem dX1_entry_0 : decode cX1_entry 0 = .ok (.iload_n 1, 1) := by decide +kernel
theorem dX1_entry_1 : decode cX1_entry 1 = .ok (.iconst 4, 1) := by decide +kernel
theorem dX1_entry_2 : decode cX1_entry 2 = .ok (.imul, 1) := by decide +kernel
theorem dX1_entry_3 : decode cX1_entry 3 = .ok (.iload_n 2, 1) := by decide +kernel
theorem dX1_entry_4 : decode cX1_entry 4 = .ok (.iadd, 1) := by decide +kernel
theorem dX1_entry_5 : decode cX1_entry 5 = .ok (.istore_n 3, 1) := by decide +kernel
theorem dX1_entry_6 : decode cX1_entry 6 = .ok (.iload_n 3, 1) := by decide +kernel
theorem dX1_entry_7 : decode cX1_entry 7 = .ok (.ifCond .lt 21, 3) := by decide +kernel
theorem dX1_entry_10 : decode cX1_entry 10 = .ok (.iload_n 3, 1) := by decide +kernel
theorem dX1_entry_11 : decode cX1_entry 11 = .ok (.aload_n 0, 1) := by decide +kernel
theorem dX1_entry_12 : decode cX1_entry 12 = .ok (.getfield 11, 3) := by decide +kernel
theorem dX1_entry_15 : decode cX1_entry 15 = .ok (.arraylength, 1) := by decide +kernel
theorem dX1_entry_16 : decode cX1_entry 16 = .ok (.if_icmp .ge 12, 3) := by decide +kernel
theorem dX1_entry_19 : decode cX1_entry 19 = .ok (.aload_n 0, 1) := by decide +kernel
theorem dX1_entry_20 : decode cX1_entry 20 = .ok (.getfield 11, 3) := by decide +kernel
theorem dX1_entry_23 : decode cX1_entry 23 = .ok (.iload_n 3, 1) := by decide +kernel
theorem dX1_entry_24 : decode cX1_entry 24 = .ok (.iaload, 1) := by decide +kernel
theorem dX1_entry_25 : decode cX1_entry 25 = .ok (.goto 4, 3) := by decide +kernel
theorem dX1_entry_28 : decode cX1_entry 28 = .ok (.iconst (-1), 1) := by decide +kernel
theorem dX1_entry_29 : decode cX1_entry 29 = .ok (.ireturn, 1) := by decide +kernel
theorem dX1_note_0 : decode cX1_note 0 = .ok (.aload_n 1, 1) := by decide +kernel
theorem dX1_note_1 : decode cX1_note 1 = .ok (.getfield 15, 3) := by decide +kernel
theorem dX1_note_4 : decode cX1_note 4 = .ok (.iconst 4, 1) := by decide +kernel
theorem dX1_note_5 : decode cX1_note 5 = .ok (.imul, 1) := by decide +kernel
theorem dX1_note_6 : decode cX1_note 6 = .ok (.istore 4, 2) := by decide +kernel
theorem dX1_note_8 : decode cX1_note 8 = .ok (.iload 4, 2) := by decide +kernel
theorem dX1_note_10 : decode cX1_note 10 = .ok (.ifCond .lt 15, 3) := by decide +kernel
theorem dX1_note_13 : decode cX1_note 13 = .ok (.iload 4, 2) := by decide +kernel
theorem dX1_note_15 : decode cX1_note 15 = .ok (.iconst 4, 1) := by decide +kernel
theorem dX1_note_16 : decode cX1_note 16 = .ok (.iadd, 1) := by decide +kernel
theorem dX1_note_17 : decode cX1_note 17 = .ok (.aload_n 0, 1) := by decide +kernel
theorem dX1_note_18 : decode cX1_note 18 = .ok (.getfield 11, 3) := by decide +kernel
theorem dX1_note_21 : decode cX1_note 21 = .ok (.arraylength, 1) := by decide +kernel
theorem dX1_note_22 : decode cX1_note 22 = .ok (.if_icmp .le 4, 3) := by decide +kernel
theorem dX1_note_25 : decode cX1_note 25 = .ok (.return_, 1) := by decide +kernel
theorem dX1_note_26 : decode cX1_note 26 = .ok (.aload_n 0, 1) := by decide +kernel
theorem dX1_note_27 : decode cX1_note 27 = .ok (.getfield 11, 3) := by decide +kernel
theorem dX1_note_30 : decode cX1_note 30 = .ok (.iload 4, 2) := by decide +kernel
theorem dX1_note_32 : decode cX1_note 32 = .ok (.aload_n 1, 1) := by decide +kernel
theorem dX1_note_33 : decode cX1_note 33 = .ok (.getfield 21, 3) := by decide +kernel
theorem dX1_note_36 : decode cX1_note 36 = .ok (.iastore, 1) := by decide +kernel
theorem dX1_note_37 : decode cX1_note 37 = .ok (.aload_n 0, 1) := by decide +kernel
theorem dX1_note_38 : decode cX1_note 38 = .ok (.getfield 11, 3) := by decide +kernel
theorem dX1_note_41 : decode cX1_note 41 = .ok (.iload 4, 2) := by decide +kernel
theorem dX1_note_43 : decode cX1_note 43 = .ok (.iconst 1, 1) := by decide +kernel
theorem dX1_note_44 : decode cX1_note 44 = .ok (.iadd, 1) := by decide +kernel
theorem dX1_note_45 : decode cX1_note 45 = .ok (.iload_n 2, 1) := by decide +kernel
theorem dX1_note_46 : decode cX1_note 46 = .ok (.iastore, 1) := by decide +kernel
theorem dX1_note_47 : decode cX1_note 47 = .ok (.aload_n 0, 1) := by decide +kernel
theorem dX1_note_48 : decode cX1_note 48 = .ok (.getfield 11, 3) := by decide +kernel
theorem dX1_note_51 : decode cX1_note 51 = .ok (.iload 4, 2) := by decide +kernel
theorem dX1_note_53 : decode cX1_note 53 = .ok (.iconst 2, 1) := by decide +kernel
theorem dX1_note_54 : decode cX1_note 54 = .ok (.iadd, 1) := by decide +kernel
theorem dX1_note_55 : decode cX1_note 55 = .ok (.iload_n 3, 1) := by decide +kernel
theorem dX1_note_56 : decode cX1_note 56 = .ok (.iastore, 1) := by decide +kernel
theorem dX1_note_57 : decode cX1_note 57 = .ok (.aload_n 0, 1) := by decide +kernel
theorem dX1_note_58 : decode cX1_note 58 = .ok (.getfield 11, 3) := by decide +kernel
theorem dX1_note_61 : decode cX1_note 61 = .ok (.iload 4, 2) := by decide +kernel
theorem dX1_note_63 : decode cX1_note 63 = .ok (.iconst 3, 1) := by decide +kernel
theorem dX1_note_64 : decode cX1_note 64 = .ok (.iadd, 1) := by decide +kernel
theorem dX1_note_65 : decode cX1_note 65 = .ok (.aload_n 1, 1) := by decide +kernel
theorem dX1_note_66 : decode cX1_note 66 = .ok (.getfield 24, 3) := by decide +kernel
theorem dX1_note_69 : decode cX1_note 69 = .ok (.iastore, 1) := by decide +kernel
theorem dX1_note_70 : decode cX1_note 70 = .ok (.aload_n 1, 1) := by decide +kernel
theorem dX1_note_71 : decode cX1_note 71 = .ok (.dup, 1) := by decide +kernel
theorem dX1_note_72 : decode cX1_note 72 = .ok (.getfield 15, 3) := by decide +kernel
theorem dX1_note_75 : decode cX1_note 75 = .ok (.iconst 1, 1) := by decide +kernel
theorem dX1_note_76 : decode cX1_note 76 = .ok (.iadd, 1) := by decide +kernel
theorem dX1_note_77 : decode cX1_note 77 = .ok (.putfield 15, 3) := by decide +kernel
theorem dX1_note_80 : decode cX1_note 80 = .ok (.return_, 1) := by decide +kernel
theorem dX1_copyFrom_0 : decode cX1_copyFrom 0 = .ok (.aload_n 1, 1) := by decide +kernel
theorem dX1_copyFrom_1 : decode cX1_copyFrom 1 = .ok (.getfield 11, 3) := by decide +kernel
theorem dX1_copyFrom_4 : decode cX1_copyFrom 4 = .ok (.iconst 0, 1) := by decide +kernel
theorem dX1_copyFrom_5 : decode cX1_copyFrom 5 = .ok (.aload_n 0, 1) := by decide +kernel
theorem dX1_copyFrom_6 : decode cX1_copyFrom 6 = .ok (.getfield 11, 3) := by decide +kernel
theorem dX1_copyFrom_9 : decode cX1_copyFrom 9 = .ok (.iconst 0, 1) := by decide +kernel
theorem dX1_copyFrom_10 : decode cX1_copyFrom 10 = .ok (.aload_n 0, 1) := by decide +kernel
theorem dX1_copyFrom_11 : decode cX1_copyFrom 11 = .ok (.getfield 11, 3) := by decide +kernel
theorem dX1_copyFrom_14 : decode cX1_copyFrom 14 = .ok (.arraylength, 1) := by decide +kernel
theorem dX1_copyFrom_15 : decode cX1_copyFrom 15 = .ok (.invokestatic 27, 3) := by decide +kernel
theorem dX1_copyFrom_18 : decode cX1_copyFrom 18 = .ok (.return_, 1) := by decide +kernel
theorem dX2_init_0 : decode cX2_init 0 = .ok (.aload_n 0, 1) := by decide +kernel
theorem dX2_init_1 : decode cX2_init 1 = .ok (.invokespecial 3, 3) := by decide +kernel
theorem dX2_init_4 : decode cX2_init 4 = .ok (.aload_n 0, 1) := by decide +kernel
theorem dX2_init_5 : decode cX2_init 5 = .ok (.new 9, 3) := by decide +kernel
theorem dX2_init_8 : decode cX2_init 8 = .ok (.dup, 1) := by decide +kernel
theorem dX2_init_9 : decode cX2_init 9 = .ok (.invokespecial 11, 3) := by decide +kernel
theorem dX2_init_12 : decode cX2_init 12 = .ok (.putfield 12, 3) := by decide +kernel
theorem dX2_init_15 : decode cX2_init 15 = .ok (.aload_n 0, 1) := by decide +kernel
theorem dX2_init_16 : decode cX2_init 16 = .ok (.new 18, 3) := by decide +kernel
theorem dX2_init_19 : decode cX2_init 19 = .ok (.dup, 1) := by decide +kernel
theorem dX2_init_20 : decode cX2_init 20 = .ok (.invokespecial 20, 3) := by decide +kernel
theorem dX2_init_23 : decode cX2_init 23 = .ok (.putfield 21, 3) := by decide +kernel
theorem dX2_init_26 : decode cX2_init 26 = .ok (.aload_n 0, 1) := by decide +kernel
theorem dX2_init_27 : decode cX2_init 27 = .ok (.new 25, 3) := by decide +kernel
theorem dX2_init_30 : decode cX2_init 30 = .ok (.dup, 1) := by decide +kernel
theorem dX2_init_31 : decode cX2_init 31 = .ok (.invokespecial 27, 3) := by decide +kernel
theorem dX2_init_34 : decode cX2_init 34 = .ok (.putfield 28, 3) := by decide +kernel
theorem dX2_init_37 : decode cX2_init 37 = .ok (.aload_n 0, 1) := by decide +kernel
theorem dX2_init_38 : decode cX2_init 38 = .ok (.new 32, 3) := by decide +kernel
theorem dX2_init_41 : decode cX2_init 41 = .ok (.dup, 1) := by decide +kernel
theorem dX2_init_42 : decode cX2_init 42 = .ok (.invokespecial 34, 3) := by decide +kernel
theorem dX2_init_45 : decode cX2_init 45 = .ok (.putfield 35, 3) := by decide +kernel
theorem dX2_init_48 : decode cX2_init 48 = .ok (.aload_n 0, 1) := by decide +kernel
theorem dX2_init_49 : decode cX2_init 49 = .ok (.new 39, 3) := by decide +kernel
theorem dX2_init_52 : decode cX2_init 52 = .ok (.dup, 1) := by decide +kernel
theorem dX2_init_53 : decode cX2_init 53 = .ok (.invokespecial 41, 3) := by decide +kernel
theorem dX2_init_56 : decode cX2_init 56 = .ok (.putfield 42, 3) := by decide +kernel
theorem dX2_init_59 : decode cX2_init 59 = .ok (.aload_n 0, 1) := by decide +kernel
theorem dX2_init_60 : decode cX2_init 60 = .ok (.new 46, 3) := by decide +kernel
theorem dX2_init_63 : decode cX2_init 63 = .ok (.dup, 1) := by decide +kernel
theorem dX2_init_64 : decode cX2_init 64 = .ok (.invokespecial 48, 3) := by decide +kernel
theorem dX2_init_67 : decode cX2_init 67 = .ok (.putfield 49, 3) := by decide +kernel
theorem dX2_init_70 : decode cX2_init 70 = .ok (.aload_n 0, 1) := by decide +kernel
theorem dX2_init_71 : decode cX2_init 71 = .ok (.iconst 1, 1) := by decide +kernel
theorem dX2_init_72 : decode cX2_init 72 = .ok (.putfield 53, 3) := by decide +kernel
theorem dX2_init_75 : decode cX2_init 75 = .ok (.aload_n 0, 1) := by decide +kernel
theorem dX2_init_76 : decode cX2_init 76 = .ok (.bipush 10, 2) := by decide +kernel
theorem dX2_init_78 : decode cX2_init 78 = .ok (.putfield 57, 3) := by decide +kernel
theorem dX2_init_81 : decode cX2_init 81 = .ok (.aload_n 0, 1) := by decide +kernel
theorem dX2_init_82 : decode cX2_init 82 = .ok (.bipush 12, 2) := by decide +kernel
theorem dX2_init_84 : decode cX2_init 84 = .ok (.newarray .int, 2) := by decide +kernel
theorem dX2_init_86 : decode cX2_init 86 = .ok (.putfield 60, 3) := by decide +kernel
theorem dX2_init_89 : decode cX2_init 89 = .ok (.aload_n 0, 1) := by decide +kernel
theorem dX2_init_90 : decode cX2_init 90 = .ok (.bipush 12, 2) := by decide +kernel
theorem dX2_init_92 : decode cX2_init 92 = .ok (.newarray .int, 2) := by decide +kernel
theorem dX2_init_94 : decode cX2_init 94 = .ok (.putfield 64, 3) := by decide +kernel
theorem dX2_init_97 : decode cX2_init 97 = .ok (.return_, 1) := by decide +kernel
theorem dX2_thumbs_0 : decode cX2_thumbs 0 = .ok (.iconst 2, 1) := by decide +kernel
theorem dX2_thumbs_1 : decode cX2_thumbs 1 = .ok (.aload_n 0, 1) := by decide +kernel
theorem dX2_thumbs_2 : decode cX2_thumbs 2 = .ok (.getfield 53, 3) := by decide +kernel
theorem dX2_thumbs_5 : decode cX2_thumbs 5 = .ok (.imul, 1) := by decide +kernel
theorem dX2_thumbs_6 : decode cX2_thumbs 6 = .ok (.iconst 1, 1) := by decide +kernel
theorem dX2_thumbs_7 : decode cX2_thumbs 7 = .ok (.iadd, 1) := by decide +kernel
theorem dX2_thumbs_8 : decode cX2_thumbs 8 = .ok (.ireturn, 1) := by decide +kernel
theorem dX2_takeTape_0 : decode cX2_takeTape 0 = .ok (.aload_n 0, 1) := by decide +kernel
theorem dX2_takeTape_1 : decode cX2_takeTape 1 = .ok (.getfield 12, 3) := by decide +kernel
theorem dX2_takeTape_4 : decode cX2_takeTape 4 = .ok (.aload_n 1, 1) := by decide +kernel
theorem dX2_takeTape_5 : decode cX2_takeTape 5 = .ok (.invokevirtual 67, 3) := by decide +kernel
theorem dX2_takeTape_8 : decode cX2_takeTape 8 = .ok (.aload_n 0, 1) := by decide +kernel
theorem dX2_takeTape_9 : decode cX2_takeTape 9 = .ok (.getfield 49, 3) := by decide +kernel
theorem dX2_takeTape_12 : decode cX2_takeTape 12 = .ok (.invokevirtual 71, 3) := by decide +kernel
theorem dX2_takeTape_15 : decode cX2_takeTape 15 = .ok (.aload_n 0, 1) := by decide +kernel
theorem dX2_takeTape_16 : decode cX2_takeTape 16 = .ok (.getfield 28, 3) := by decide +kernel
theorem dX2_takeTape_19 : decode cX2_takeTape 19 = .ok (.iconst 0, 1) := by decide +kernel
theorem dX2_takeTape_20 : decode cX2_takeTape 20 = .ok (.putfield 74, 3) := by decide +kernel
theorem dX2_takeTape_23 : decode cX2_takeTape 23 = .ok (.aload_n 0, 1) := by decide +kernel
theorem dX2_takeTape_24 : decode cX2_takeTape 24 = .ok (.getfield 35, 3) := by decide +kernel
theorem dX2_takeTape_27 : decode cX2_takeTape 27 = .ok (.invokevirtual 77, 3) := by decide +kernel
theorem dX2_takeTape_30 : decode cX2_takeTape 30 = .ok (.return_, 1) := by decide +kernel
theorem dX2_layAt_0 : decode cX2_layAt 0 = .ok (.aload_n 0, 1) := by decide +kernel
theorem dX2_layAt_1 : decode cX2_layAt 1 = .ok (.getfield 49, 3) := by decide +kernel
theorem dX2_layAt_4 : decode cX2_layAt 4 = .ok (.iload_n 1, 1) := by decide +kernel
theorem dX2_layAt_5 : decode cX2_layAt 5 = .ok (.putfield 80, 3) := by decide +kernel
theorem dX2_layAt_8 : decode cX2_layAt 8 = .ok (.aload_n 0, 1) := by decide +kernel
theorem dX2_layAt_9 : decode cX2_layAt 9 = .ok (.getfield 49, 3) := by decide +kernel
theorem dX2_layAt_12 : decode cX2_layAt 12 = .ok (.getfield 83, 3) := by decide +kernel
theorem dX2_layAt_15 : decode cX2_layAt 15 = .ok (.iconst 0, 1) := by decide +kernel
theorem dX2_layAt_16 : decode cX2_layAt 16 = .ok (.invokestatic 86, 3) := by decide +kernel
theorem dX2_layAt_19 : decode cX2_layAt 19 = .ok (.aload_n 0, 1) := by decide +kernel
theorem dX2_layAt_20 : decode cX2_layAt 20 = .ok (.getfield 12, 3) := by decide +kernel
theorem dX2_layAt_23 : decode cX2_layAt 23 = .ok (.iload_n 1, 1) := by decide +kernel
theorem dX2_layAt_24 : decode cX2_layAt 24 = .ok (.invokevirtual 92, 3) := by decide +kernel
theorem dX2_layAt_27 : decode cX2_layAt 27 = .ok (.ifCond .eq 13, 3) := by decide +kernel
theorem dX2_layAt_30 : decode cX2_layAt 30 = .ok (.aload_n 0, 1) := by decide +kernel
theorem dX2_layAt_31 : decode cX2_layAt 31 = .ok (.getfield 49, 3) := by decide +kernel
theorem dX2_layAt_34 : decode cX2_layAt 34 = .ok (.getfield 83, 3) := by decide +kernel
theorem dX2_layAt_37 : decode cX2_layAt 37 = .ok (.iload_n 1, 1) := by decide +kernel
theorem dX2_layAt_38 : decode cX2_layAt 38 = .ok (.iconst 1, 1) := by decide +kernel
theorem dX2_layAt_39 : decode cX2_layAt 39 = .ok (.iastore, 1) := by decide +kernel
theorem dX2_layAt_40 : decode cX2_layAt 40 = .ok (.aload_n 0, 1) := by decide +kernel
theorem dX2_layAt_41 : decode cX2_layAt 41 = .ok (.getfield 49, 3) := by decide +kernel
theorem dX2_layAt_44 : decode cX2_layAt 44 = .ok (.iconst 0, 1) := by decide +kernel
theorem dX2_layAt_45 : decode cX2_layAt 45 = .ok (.putfield 96, 3) := by decide +kernel
theorem dX2_layAt_48 : decode cX2_layAt 48 = .ok (.aload_n 0, 1) := by decide +kernel
theorem dX2_layAt_49 : decode cX2_layAt 49 = .ok (.getfield 42, 3) := by decide +kernel
theorem dX2_layAt_52 : decode cX2_layAt 52 = .ok (.aload_n 0, 1) := by decide +kernel
theorem dX2_layAt_53 : decode cX2_layAt 53 = .ok (.getfield 49, 3) := by decide +kernel
theorem dX2_layAt_56 : decode cX2_layAt 56 = .ok (.iconst 4, 1) := by decide +kernel
theorem dX2_layAt_57 : decode cX2_layAt 57 = .ok (.iload_n 1, 1) := by decide +kernel
theorem dX2_layAt_58 : decode cX2_layAt 58 = .ok (.invokevirtual 99, 3) := by decide +kernel
theorem dX2_layAt_61 : decode cX2_layAt 61 = .ok (.return_, 1) := by decide +kernel
theorem dX2_windFor_0 : decode cX2_windFor 0 = .ok (.aload_n 1, 1) := by decide +kernel
theorem dX2_windFor_1 : decode cX2_windFor 1 = .ok (.aload_n 0, 1) := by decide +kernel
theorem dX2_windFor_2 : decode cX2_windFor 2 = .ok (.getfield 49, 3) := by decide +kernel
theorem dX2_windFor_5 : decode cX2_windFor 5 = .ok (.getfield 103, 3) := by decide +kernel
theorem dX2_windFor_8 : decode cX2_windFor 8 = .ok (.aload_n 0, 1) := by decide +kernel
theorem dX2_windFor_9 : decode cX2_windFor 9 = .ok (.getfield 49, 3) := by decide +kernel
theorem dX2_windFor_12 : decode cX2_windFor 12 = .ok (.getfield 106, 3) := by decide +kernel
theorem dX2_windFor_15 : decode cX2_windFor 15 = .ok (.invokevirtual 109, 3) := by decide +kernel
theorem dX2_windFor_18 : decode cX2_windFor 18 = .ok (.aload_n 1, 1) := by decide +kernel
theorem dX2_windFor_19 : decode cX2_windFor 19 = .ok (.aload_n 0, 1) := by decide +kernel
theorem dX2_windFor_20 : decode cX2_windFor 20 = .ok (.iload_n 2, 1) := by decide +kernel
theorem dX2_windFor_21 : decode cX2_windFor 21 = .ok (.iload_n 3, 1) := by decide +kernel
theorem dX2_windFor_22 : decode cX2_windFor 22 = .ok (.invokevirtual 115, 3) := by decide +kernel
theorem dX2_windFor_25 : decode cX2_windFor 25 = .ok (.iload_n 3, 1) := by decide +kernel
theorem dX2_windFor_26 : decode cX2_windFor 26 = .ok (.istore 4, 2) := by decide +kernel
theorem dX2_windFor_28 : decode cX2_windFor 28 = .ok (.aload_n 0, 1) := by decide +kernel
theorem dX2_windFor_29 : decode cX2_windFor 29 = .ok (.getfield 53, 3) := by decide +kernel
theorem dX2_windFor_32 : decode cX2_windFor 32 = .ok (.ifCond .le 27, 3) := by decide +kernel
theorem dX2_windFor_35 : decode cX2_windFor 35 = .ok (.iconst 0, 1) := by decide +kernel
theorem dX2_windFor_36 : decode cX2_windFor 36 = .ok (.iload_n 3, 1) := by decide +kernel
theorem dX2_windFor_37 : decode cX2_windFor 37 = .ok (.aload_n 0, 1) := by decide +kernel
theorem dX2_windFor_38 : decode cX2_windFor 38 = .ok (.getfield 49, 3) := by decide +kernel
theorem dX2_windFor_41 : decode cX2_windFor 41 = .ok (.aload_n 0, 1) := by decide +kernel
theorem dX2_windFor_42 : decode cX2_windFor 42 = .ok (.invokevirtual 119, 3) := by decide +kernel
theorem dX2_windFor_45 : decode cX2_windFor 45 = .ok (.invokevirtual 123, 3) := by decide +kernel
theorem dX2_windFor_48 : decode cX2_windFor 48 = .ok (.iadd, 1) := by decide +kernel
theorem dX2_windFor_49 : decode cX2_windFor 49 = .ok (.aload_n 0, 1) := by decide +kernel
theorem dX2_windFor_50 : decode cX2_windFor 50 = .ok (.getfield 53, 3) := by decide +kernel
theorem dX2_windFor_53 : decode cX2_windFor 53 = .ok (.isub, 1) := by decide +kernel
theorem dX2_windFor_54 : decode cX2_windFor 54 = .ok (.invokestatic 127, 3) := by decide +kernel
theorem dX2_windFor_57 : decode cX2_windFor 57 = .ok (.istore 4, 2) := by decide +kernel
theorem dX2_windFor_59 : decode cX2_windFor 59 = .ok (.aload_n 1, 1) := by decide +kernel
theorem dX2_windFor_60 : decode cX2_windFor 60 = .ok (.iload_n 2, 1) := by decide +kernel
theorem dX2_windFor_61 : decode cX2_windFor 61 = .ok (.iload 4, 2) := by decide +kernel
theorem dX2_windFor_63 : decode cX2_windFor 63 = .ok (.invokevirtual 133, 3) := by decide +kernel
theorem dX2_windFor_66 : decode cX2_windFor 66 = .ok (.iconst 0, 1) := by decide +kernel
theorem dX2_windFor_67 : decode cX2_windFor 67 = .ok (.istore 5, 2) := by decide +kernel
theorem dX2_windFor_69 : decode cX2_windFor 69 = .ok (.iload 5, 2) := by decide +kernel
theorem dX2_windFor_71 : decode cX2_windFor 71 = .ok (.iload 4, 2) := by decide +kernel
theorem dX2_windFor_73 : decode cX2_windFor 73 = .ok (.if_icmp .ge 97, 3) := by decide +kernel
theorem dX2_windFor_76 : decode cX2_windFor 76 = .ok (.aload_n 1, 1) := by decide +kernel
theorem dX2_windFor_77 : decode cX2_windFor 77 = .ok (.aload_n 0, 1) := by decide +kernel
theorem dX2_windFor_78 : decode cX2_windFor 78 = .ok (.aload_n 0, 1) := by decide +kernel
theorem dX2_windFor_79 : decode cX2_windFor 79 = .ok (.getfield 49, 3) := by decide +kernel
theorem dX2_windFor_82 : decode cX2_windFor 82 = .ok (.getfield 80, 3) := by decide +kernel
theorem dX2_windFor_85 : decode cX2_windFor 85 = .ok (.iconst 2, 1) := by decide +kernel
theorem dX2_windFor_86 : decode cX2_windFor 86 = .ok (.invokevirtual 137, 3) := by decide +kernel
theorem dX2_windFor_89 : decode cX2_windFor 89 = .ok (.istore 6, 2) := by decide +kernel
theorem dX2_windFor_91 : decode cX2_windFor 91 = .ok (.aload_n 1, 1) := by decide +kernel
theorem dX2_windFor_92 : decode cX2_windFor 92 = .ok (.aload_n 0, 1) := by decide +kernel
theorem dX2_windFor_93 : decode cX2_windFor 93 = .ok (.aload_n 0, 1) := by decide +kernel
theorem dX2_windFor_94 : decode cX2_windFor 94 = .ok (.getfield 49, 3) := by decide +kernel
theorem dX2_windFor_97 : decode cX2_windFor 97 = .ok (.getfield 80, 3) := by decide +kernel
theorem dX2_windFor_100 : decode cX2_windFor 100 = .ok (.aload_n 1, 1) := by decide +kernel
theorem dX2_windFor_101 : decode cX2_windFor 101 = .ok (.aload_n 0, 1) := by decide +kernel
theorem dX2_windFor_102 : decode cX2_windFor 102 = .ok (.aload_n 0, 1) := by decide +kernel
theorem dX2_windFor_103 : decode cX2_windFor 103 = .ok (.getfield 49, 3) := by decide +kernel
theorem dX2_windFor_106 : decode cX2_windFor 106 = .ok (.getfield 80, 3) := by decide +kernel
theorem dX2_windFor_109 : decode cX2_windFor 109 = .ok (.iconst 0, 1) := by decide +kernel
theorem dX2_windFor_110 : decode cX2_windFor 110 = .ok (.invokevirtual 137, 3) := by decide +kernel
theorem dX2_windFor_113 : decode cX2_windFor 113 = .ok (.invokevirtual 141, 3) := by decide +kernel
theorem dX2_windFor_116 : decode cX2_windFor 116 = .ok (.istore 7, 2) := by decide +kernel
theorem dX2_windFor_118 : decode cX2_windFor 118 = .ok (.iload 6, 2) := by decide +kernel
theorem dX2_windFor_120 : decode cX2_windFor 120 = .ok (.ifCond .le 18, 3) := by decide +kernel
theorem dX2_windFor_123 : decode cX2_windFor 123 = .ok (.aload_n 0, 1) := by decide +kernel
theorem dX2_windFor_124 : decode cX2_windFor 124 = .ok (.getfield 49, 3) := by decide +kernel
theorem dX2_windFor_127 : decode cX2_windFor 127 = .ok (.sipush 1000, 3) := by decide +kernel
theorem dX2_windFor_130 : decode cX2_windFor 130 = .ok (.invokevirtual 123, 3) := by decide +kernel
theorem dX2_windFor_133 : decode cX2_windFor 133 = .ok (.iload 6, 2) := by decide +kernel
theorem dX2_windFor_135 : decode cX2_windFor 135 = .ok (.if_icmp .lt 20, 3) := by decide +kernel
theorem dX2_windFor_138 : decode cX2_windFor 138 = .ok (.aload_n 0, 1) := by decide +kernel
theorem dX2_windFor_139 : decode cX2_windFor 139 = .ok (.getfield 49, 3) := by decide +kernel
theorem dX2_windFor_142 : decode cX2_windFor 142 = .ok (.iload 7, 2) := by decide +kernel
theorem dX2_windFor_144 : decode cX2_windFor 144 = .ok (.aload_n 0, 1) := by decide +kernel
theorem dX2_windFor_145 : decode cX2_windFor 145 = .ok (.getfield 49, 3) := by decide +kernel
theorem dX2_windFor_148 : decode cX2_windFor 148 = .ok (.getfield 80, 3) := by decide +kernel
theorem dX2_windFor_151 : decode cX2_windFor 151 = .ok (.isub, 1) := by decide +kernel
theorem dX2_windFor_152 : decode cX2_windFor 152 = .ok (.invokevirtual 144, 3) := by decide +kernel
theorem dX2_windFor_155 : decode cX2_windFor 155 = .ok (.aload_n 0, 1) := by decide +kernel
theorem dX2_windFor_156 : decode cX2_windFor 156 = .ok (.getfield 49, 3) := by decide +kernel
theorem dX2_windFor_159 : decode cX2_windFor 159 = .ok (.iload 7, 2) := by decide +kernel
theorem dX2_windFor_161 : decode cX2_windFor 161 = .ok (.putfield 80, 3) := by decide +kernel
theorem dX2_windFor_164 : decode cX2_windFor 164 = .ok (.iinc 5 1, 3) := by decide +kernel
theorem dX2_windFor_167 : decode cX2_windFor 167 = .ok (.goto (-98), 3) := by decide +kernel
theorem dX2_windFor_170 : decode cX2_windFor 170 = .ok (.aload_n 1, 1) := by decide +kernel
theorem dX2_windFor_171 : decode cX2_windFor 171 = .ok (.aload_n 0, 1) := by decide +kernel
theorem dX2_windFor_172 : decode cX2_windFor 172 = .ok (.aload_n 0, 1) := by decide +kernel
theorem dX2_windFor_173 : decode cX2_windFor 173 = .ok (.getfield 49, 3) := by decide +kernel
theorem dX2_windFor_176 : decode cX2_windFor 176 = .ok (.getfield 80, 3) := by decide +kernel
theorem dX2_windFor_179 : decode cX2_windFor 179 = .ok (.aload_n 1, 1) := by decide +kernel
theorem dX2_windFor_180 : decode cX2_windFor 180 = .ok (.aload_n 0, 1) := by decide +kernel
theorem dX2_windFor_181 : decode cX2_windFor 181 = .ok (.aload_n 0, 1) := by decide +kernel
theorem dX2_windFor_182 : decode cX2_windFor 182 = .ok (.getfield 49, 3) := by decide +kernel
theorem dX2_windFor_185 : decode cX2_windFor 185 = .ok (.getfield 80, 3) := by decide +kernel
theorem dX2_windFor_188 : decode cX2_windFor 188 = .ok (.iconst 1, 1) := by decide +kernel
theorem dX2_windFor_189 : decode cX2_windFor 189 = .ok (.invokevirtual 137, 3) := by decide +kernel
theorem dX2_windFor_192 : decode cX2_windFor 192 = .ok (.invokevirtual 141, 3) := by decide +kernel
theorem dX2_windFor_195 : decode cX2_windFor 195 = .ok (.istore 5, 2) := by decide +kernel
theorem dX2_windFor_197 : decode cX2_windFor 197 = .ok (.aload_n 0, 1) := by decide +kernel
theorem dX2_windFor_198 : decode cX2_windFor 198 = .ok (.getfield 49, 3) := by decide +kernel
theorem dX2_windFor_201 : decode cX2_windFor 201 = .ok (.iload 5, 2) := by decide +kernel
theorem dX2_windFor_203 : decode cX2_windFor 203 = .ok (.aload_n 0, 1) := by decide +kernel
theorem dX2_windFor_204 : decode cX2_windFor 204 = .ok (.getfield 49, 3) := by decide +kernel
theorem dX2_windFor_207 : decode cX2_windFor 207 = .ok (.getfield 80, 3) := by decide +kernel
theorem dX2_windFor_210 : decode cX2_windFor 210 = .ok (.isub, 1) := by decide +kernel
theorem dX2_windFor_211 : decode cX2_windFor 211 = .ok (.invokevirtual 144, 3) := by decide +kernel
theorem dX2_windFor_214 : decode cX2_windFor 214 = .ok (.aload_n 0, 1) := by decide +kernel
theorem dX2_windFor_215 : decode cX2_windFor 215 = .ok (.getfield 49, 3) := by decide +kernel
theorem dX2_windFor_218 : decode cX2_windFor 218 = .ok (.iload 5, 2) := by decide +kernel
theorem dX2_windFor_220 : decode cX2_windFor 220 = .ok (.putfield 80, 3) := by decide +kernel
theorem dX2_windFor_223 : decode cX2_windFor 223 = .ok (.aload_n 0, 1) := by decide +kernel
theorem dX2_windFor_224 : decode cX2_windFor 224 = .ok (.getfield 49, 3) := by decide +kernel
theorem dX2_windFor_227 : decode cX2_windFor 227 = .ok (.dup, 1) := by decide +kernel
theorem dX2_windFor_228 : decode cX2_windFor 228 = .ok (.getfield 148, 3) := by decide +kernel
theorem dX2_windFor_231 : decode cX2_windFor 231 = .ok (.iload 4, 2) := by decide +kernel
theorem dX2_windFor_233 : decode cX2_windFor 233 = .ok (.iconst 1, 1) := by decide +kernel
theorem dX2_windFor_234 : decode cX2_windFor 234 = .ok (.iadd, 1) := by decide +kernel
theorem dX2_windFor_235 : decode cX2_windFor 235 = .ok (.iadd, 1) := by decide +kernel
theorem dX2_windFor_236 : decode cX2_windFor 236 = .ok (.putfield 148, 3) := by decide +kernel
theorem dX2_windFor_239 : decode cX2_windFor 239 = .ok (.aload_n 0, 1) := by decide +kernel
theorem dX2_windFor_240 : decode cX2_windFor 240 = .ok (.getfield 49, 3) := by decide +kernel
theorem dX2_windFor_243 : decode cX2_windFor 243 = .ok (.dup, 1) := by decide +kernel
theorem dX2_windFor_244 : decode cX2_windFor 244 = .ok (.getfield 106, 3) := by decide +kernel
theorem dX2_windFor_247 : decode cX2_windFor 247 = .ok (.iconst 1, 1) := by decide +kernel
theorem dX2_windFor_248 : decode cX2_windFor 248 = .ok (.iadd, 1) := by decide +kernel
theorem dX2_windFor_249 : decode cX2_windFor 249 = .ok (.putfield 106, 3) := by decide +kernel
theorem dX2_windFor_252 : decode cX2_windFor 252 = .ok (.aload_n 0, 1) := by decide +kernel
theorem dX2_windFor_253 : decode cX2_windFor 253 = .ok (.getfield 42, 3) := by decide +kernel
theorem dX2_windFor_256 : decode cX2_windFor 256 = .ok (.aload_n 0, 1) := by decide +kernel
theorem dX2_windFor_257 : decode cX2_windFor 257 = .ok (.getfield 49, 3) := by decide +kernel
theorem dX2_windFor_260 : decode cX2_windFor 260 = .ok (.iload_n 2, 1) := by decide +kernel
theorem dX2_windFor_261 : decode cX2_windFor 261 = .ok (.ifCond .eq 7, 3) := by decide +kernel
theorem dX2_windFor_264 : decode cX2_windFor 264 = .ok (.iconst 0, 1) := by decide +kernel
theorem dX2_windFor_265 : decode cX2_windFor 265 = .ok (.goto 4, 3) := by decide +kernel
theorem dX2_windFor_268 : decode cX2_windFor 268 = .ok (.iconst 1, 1) := by decide +kernel
theorem dX2_windFor_269 : decode cX2_windFor 269 = .ok (.iload 4, 2) := by decide +kernel
theorem dX2_windFor_271 : decode cX2_windFor 271 = .ok (.invokevirtual 99, 3) := by decide +kernel
theorem dX2_windFor_274 : decode cX2_windFor 274 = .ok (.return_, 1) := by decide +kernel
theorem dX2_listen_0 : decode cX2_listen 0 = .ok (.iconst (-1), 1) := by decide +kernel
theorem dX2_listen_1 : decode cX2_listen 1 = .ok (.istore_n 2, 1) := by decide +kernel
theorem dX2_listen_2 : decode cX2_listen 2 = .ok (.iconst 0, 1) := by decide +kernel
theorem dX2_listen_3 : decode cX2_listen 3 = .ok (.istore_n 3, 1) := by decide +kernel
theorem dX2_listen_4 : decode cX2_listen 4 = .ok (.iload_n 3, 1) := by decide +kernel
theorem dX2_listen_5 : decode cX2_listen 5 = .ok (.iload_n 1, 1) := by decide +kernel
theorem dX2_listen_6 : decode cX2_listen 6 = .ok (.if_icmp .ge 74, 3) := by decide +kernel
theorem dX2_listen_9 : decode cX2_listen 9 = .ok (.aload_n 0, 1) := by decide +kernel
theorem dX2_listen_10 : decode cX2_listen 10 = .ok (.getfield 12, 3) := by decide +kernel
theorem dX2_listen_13 : decode cX2_listen 13 = .ok (.aload_n 0, 1) := by decide +kernel
theorem dX2_listen_14 : decode cX2_listen 14 = .ok (.getfield 49, 3) := by decide +kernel
theorem dX2_listen_17 : decode cX2_listen 17 = .ok (.getfield 103, 3) := by decide +kernel
theorem dX2_listen_20 : decode cX2_listen 20 = .ok (.aload_n 0, 1) := by decide +kernel
theorem dX2_listen_21 : decode cX2_listen 21 = .ok (.getfield 49, 3) := by decide +kernel
theorem dX2_listen_24 : decode cX2_listen 24 = .ok (.getfield 80, 3) := by decide +kernel
theorem dX2_listen_27 : decode cX2_listen 27 = .ok (.invokevirtual 151, 3) := by decide +kernel
theorem dX2_listen_30 : decode cX2_listen 30 = .ok (.istore_n 2, 1) := by decide +kernel
theorem dX2_listen_31 : decode cX2_listen 31 = .ok (.aload_n 0, 1) := by decide +kernel
theorem dX2_listen_32 : decode cX2_listen 32 = .ok (.iload_n 2, 1) := by decide +kernel
theorem dX2_listen_33 : decode cX2_listen 33 = .ok (.invokevirtual 154, 3) := by decide +kernel
theorem dX2_listen_36 : decode cX2_listen 36 = .ok (.aload_n 0, 1) := by decide +kernel
theorem dX2_listen_37 : decode cX2_listen 37 = .ok (.getfield 49, 3) := by decide +kernel
theorem dX2_listen_40 : decode cX2_listen 40 = .ok (.getfield 80, 3) := by decide +kernel
theorem dX2_listen_43 : decode cX2_listen 43 = .ok (.aload_n 0, 1) := by decide +kernel
theorem dX2_listen_44 : decode cX2_listen 44 = .ok (.getfield 12, 3) := by decide +kernel
theorem dX2_listen_47 : decode cX2_listen 47 = .ok (.getfield 157, 3) := by decide +kernel
theorem dX2_listen_50 : decode cX2_listen 50 = .ok (.if_icmp .ge 24, 3) := by decide +kernel
theorem dX2_listen_53 : decode cX2_listen 53 = .ok (.aload_n 0, 1) := by decide +kernel
theorem dX2_listen_54 : decode cX2_listen 54 = .ok (.getfield 49, 3) := by decide +kernel
theorem dX2_listen_57 : decode cX2_listen 57 = .ok (.dup, 1) := by decide +kernel
theorem dX2_listen_58 : decode cX2_listen 58 = .ok (.getfield 80, 3) := by decide +kernel
theorem dX2_listen_61 : decode cX2_listen 61 = .ok (.iconst 1, 1) := by decide +kernel
theorem dX2_listen_62 : decode cX2_listen 62 = .ok (.iadd, 1) := by decide +kernel
theorem dX2_listen_63 : decode cX2_listen 63 = .ok (.putfield 80, 3) := by decide +kernel
theorem dX2_listen_66 : decode cX2_listen 66 = .ok (.aload_n 0, 1) := by decide +kernel
theorem dX2_listen_67 : decode cX2_listen 67 = .ok (.getfield 49, 3) := by decide +kernel
theorem dX2_listen_70 : decode cX2_listen 70 = .ok (.iconst 1, 1) := by decide +kernel
theorem dX2_listen_71 : decode cX2_listen 71 = .ok (.invokevirtual 144, 3) := by decide +kernel
theorem dX2_listen_74 : decode cX2_listen 74 = .ok (.iinc 3 1, 3) := by decide +kernel
theorem dX2_listen_77 : decode cX2_listen 77 = .ok (.goto (-73), 3) := by decide +kernel
theorem dX2_listen_80 : decode cX2_listen 80 = .ok (.aload_n 0, 1) := by decide +kernel
theorem dX2_listen_81 : decode cX2_listen 81 = .ok (.getfield 49, 3) := by decide +kernel
theorem dX2_listen_84 : decode cX2_listen 84 = .ok (.dup, 1) := by decide +kernel
theorem dX2_listen_85 : decode cX2_listen 85 = .ok (.getfield 148, 3) := by decide +kernel
theorem dX2_listen_88 : decode cX2_listen 88 = .ok (.iload_n 1, 1) := by decide +kernel
theorem dX2_listen_89 : decode cX2_listen 89 = .ok (.iadd, 1) := by decide +kernel
theorem dX2_listen_90 : decode cX2_listen 90 = .ok (.putfield 148, 3) := by decide +kernel
theorem dX2_listen_93 : decode cX2_listen 93 = .ok (.aload_n 0, 1) := by decide +kernel
theorem dX2_listen_94 : decode cX2_listen 94 = .ok (.getfield 42, 3) := by decide +kernel
theorem dX2_listen_97 : decode cX2_listen 97 = .ok (.aload_n 0, 1) := by decide +kernel
theorem dX2_listen_98 : decode cX2_listen 98 = .ok (.getfield 49, 3) := by decide +kernel
theorem dX2_listen_101 : decode cX2_listen 101 = .ok (.iconst 2, 1) := by decide +kernel
theorem dX2_listen_102 : decode cX2_listen 102 = .ok (.iload_n 1, 1) := by decide +kernel
theorem dX2_listen_103 : decode cX2_listen 103 = .ok (.invokevirtual 99, 3) := by decide +kernel
theorem dX2_listen_106 : decode cX2_listen 106 = .ok (.iload_n 2, 1) := by decide +kernel
theorem dX2_listen_107 : decode cX2_listen 107 = .ok (.ireturn, 1) := by decide +kernel
theorem dX2_keepHeard_0 : decode cX2_keepHeard 0 = .ok (.aload_n 0, 1) := by decide +kernel
theorem dX2_keepHeard_1 : decode cX2_keepHeard 1 = .ok (.getfield 12, 3) := by decide +kernel
theorem dX2_keepHeard_4 : decode cX2_keepHeard 4 = .ok (.getfield 157, 3) := by decide +kernel
theorem dX2_keepHeard_7 : decode cX2_keepHeard 7 = .ok (.istore_n 2, 1) := by decide +kernel
theorem dX2_keepHeard_8 : decode cX2_keepHeard 8 = .ok (.iload_n 2, 1) := by decide +kernel
theorem dX2_keepHeard_9 : decode cX2_keepHeard 9 = .ok (.ifCond .lt 83, 3) := by decide +kernel
theorem dX2_keepHeard_12 : decode cX2_keepHeard 12 = .ok (.aload_n 0, 1) := by decide +kernel
theorem dX2_keepHeard_13 : decode cX2_keepHeard 13 = .ok (.getfield 49, 3) := by decide +kernel
theorem dX2_keepHeard_16 : decode cX2_keepHeard 16 = .ok (.getfield 83, 3) := by decide +kernel
theorem dX2_keepHeard_19 : decode cX2_keepHeard 19 = .ok (.iload_n 2, 1) := by decide +kernel
theorem dX2_keepHeard_20 : decode cX2_keepHeard 20 = .ok (.iaload, 1) := by decide +kernel
theorem dX2_keepHeard_21 : decode cX2_keepHeard 21 = .ok (.iconst 1, 1) := by decide +kernel
theorem dX2_keepHeard_22 : decode cX2_keepHeard 22 = .ok (.if_icmp .ne 26, 3) := by decide +kernel
theorem dX2_keepHeard_25 : decode cX2_keepHeard 25 = .ok (.aload_n 0, 1) := by decide +kernel
theorem dX2_keepHeard_26 : decode cX2_keepHeard 26 = .ok (.getfield 12, 3) := by decide +kernel
theorem dX2_keepHeard_29 : decode cX2_keepHeard 29 = .ok (.aload_n 0, 1) := by decide +kernel
theorem dX2_keepHeard_30 : decode cX2_keepHeard 30 = .ok (.getfield 49, 3) := by decide +kernel
theorem dX2_keepHeard_33 : decode cX2_keepHeard 33 = .ok (.getfield 103, 3) := by decide +kernel
theorem dX2_keepHeard_36 : decode cX2_keepHeard 36 = .ok (.iload_n 2, 1) := by decide +kernel
theorem dX2_keepHeard_37 : decode cX2_keepHeard 37 = .ok (.invokevirtual 151, 3) := by decide +kernel
theorem dX2_keepHeard_40 : decode cX2_keepHeard 40 = .ok (.iload_n 1, 1) := by decide +kernel
theorem dX2_keepHeard_41 : decode cX2_keepHeard 41 = .ok (.if_icmp .ne 7, 3) := by decide +kernel
theorem dX2_keepHeard_44 : decode cX2_keepHeard 44 = .ok (.iconst 1, 1) := by decide +kernel
theorem dX2_keepHeard_45 : decode cX2_keepHeard 45 = .ok (.goto 4, 3) := by decide +kernel
theorem dX2_keepHeard_48 : decode cX2_keepHeard 48 = .ok (.iconst 0, 1) := by decide +kernel
theorem dX2_keepHeard_49 : decode cX2_keepHeard 49 = .ok (.istore_n 3, 1) := by decide +kernel
theorem dX2_keepHeard_50 : decode cX2_keepHeard 50 = .ok (.aload_n 0, 1) := by decide +kernel
theorem dX2_keepHeard_51 : decode cX2_keepHeard 51 = .ok (.getfield 49, 3) := by decide +kernel
theorem dX2_keepHeard_54 : decode cX2_keepHeard 54 = .ok (.getfield 83, 3) := by decide +kernel
theorem dX2_keepHeard_57 : decode cX2_keepHeard 57 = .ok (.iload_n 2, 1) := by decide +kernel
theorem dX2_keepHeard_58 : decode cX2_keepHeard 58 = .ok (.iconst 0, 1) := by decide +kernel
theorem dX2_keepHeard_59 : decode cX2_keepHeard 59 = .ok (.iastore, 1) := by decide +kernel
theorem dX2_keepHeard_60 : decode cX2_keepHeard 60 = .ok (.iload_n 3, 1) := by decide +kernel
theorem dX2_keepHeard_61 : decode cX2_keepHeard 61 = .ok (.ifCond .eq 25, 3) := by decide +kernel
theorem dX2_keepHeard_64 : decode cX2_keepHeard 64 = .ok (.aload_n 0, 1) := by decide +kernel
theorem dX2_keepHeard_65 : decode cX2_keepHeard 65 = .ok (.getfield 49, 3) := by decide +kernel
theorem dX2_keepHeard_68 : decode cX2_keepHeard 68 = .ok (.getfield 83, 3) := by decide +kernel
theorem dX2_keepHeard_71 : decode cX2_keepHeard 71 = .ok (.iload_n 2, 1) := by decide +kernel
theorem dX2_keepHeard_72 : decode cX2_keepHeard 72 = .ok (.iconst 1, 1) := by decide +kernel
theorem dX2_keepHeard_73 : decode cX2_keepHeard 73 = .ok (.iadd, 1) := by decide +kernel
theorem dX2_keepHeard_74 : decode cX2_keepHeard 74 = .ok (.aload_n 0, 1) := by decide +kernel
theorem dX2_keepHeard_75 : decode cX2_keepHeard 75 = .ok (.getfield 12, 3) := by decide +kernel
theorem dX2_keepHeard_78 : decode cX2_keepHeard 78 = .ok (.getfield 157, 3) := by decide +kernel
theorem dX2_keepHeard_81 : decode cX2_keepHeard 81 = .ok (.invokestatic 160, 3) := by decide +kernel
theorem dX2_keepHeard_84 : decode cX2_keepHeard 84 = .ok (.iconst 1, 1) := by decide +kernel
theorem dX2_keepHeard_85 : decode cX2_keepHeard 85 = .ok (.iastore, 1) := by decide +kernel
theorem dX2_keepHeard_86 : decode cX2_keepHeard 86 = .ok (.iinc 2 (-1), 3) := by decide +kernel
theorem dX2_keepHeard_89 : decode cX2_keepHeard 89 = .ok (.goto (-81), 3) := by decide +kernel
theorem dX2_keepHeard_92 : decode cX2_keepHeard 92 = .ok (.return_, 1) := by decide +kernel
theorem dX2_turnOver_0 : decode cX2_turnOver 0 = .ok (.aload_n 0, 1) := by decide +kernel
theorem dX2_turnOver_1 : decode cX2_turnOver 1 = .ok (.getfield 49, 3) := by decide +kernel
theorem dX2_turnOver_4 : decode cX2_turnOver 4 = .ok (.iconst 1, 1) := by decide +kernel
theorem dX2_turnOver_5 : decode cX2_turnOver 5 = .ok (.aload_n 0, 1) := by decide +kernel
theorem dX2_turnOver_6 : decode cX2_turnOver 6 = .ok (.getfield 49, 3) := by decide +kernel
theorem dX2_turnOver_9 : decode cX2_turnOver 9 = .ok (.getfield 103, 3) := by decide +kernel
theorem dX2_turnOver_12 : decode cX2_turnOver 12 = .ok (.isub, 1) := by decide +kernel
theorem dX2_turnOver_13 : decode cX2_turnOver 13 = .ok (.putfield 103, 3) := by decide +kernel
theorem dX2_turnOver_16 : decode cX2_turnOver 16 = .ok (.aload_n 0, 1) := by decide +kernel
theorem dX2_turnOver_17 : decode cX2_turnOver 17 = .ok (.getfield 49, 3) := by decide +kernel
theorem dX2_turnOver_20 : decode cX2_turnOver 20 = .ok (.aload_n 0, 1) := by decide +kernel
theorem dX2_turnOver_21 : decode cX2_turnOver 21 = .ok (.getfield 12, 3) := by decide +kernel
theorem dX2_turnOver_24 : decode cX2_turnOver 24 = .ok (.getfield 157, 3) := by decide +kernel
theorem dX2_turnOver_27 : decode cX2_turnOver 27 = .ok (.aload_n 0, 1) := by decide +kernel
theorem dX2_turnOver_28 : decode cX2_turnOver 28 = .ok (.getfield 49, 3) := by decide +kernel
theorem dX2_turnOver_31 : decode cX2_turnOver 31 = .ok (.getfield 80, 3) := by decide +kernel
theorem dX2_turnOver_34 : decode cX2_turnOver 34 = .ok (.isub, 1) := by decide +kernel
theorem dX2_turnOver_35 : decode cX2_turnOver 35 = .ok (.putfield 80, 3) := by decide +kernel
theorem dX2_turnOver_38 : decode cX2_turnOver 38 = .ok (.iconst 0, 1) := by decide +kernel
theorem dX2_turnOver_39 : decode cX2_turnOver 39 = .ok (.istore_n 1, 1) := by decide +kernel
theorem dX2_turnOver_40 : decode cX2_turnOver 40 = .ok (.aload_n 0, 1) := by decide +kernel
theorem dX2_turnOver_41 : decode cX2_turnOver 41 = .ok (.getfield 12, 3) := by decide +kernel
theorem dX2_turnOver_44 : decode cX2_turnOver 44 = .ok (.getfield 157, 3) := by decide +kernel
theorem dX2_turnOver_47 : decode cX2_turnOver 47 = .ok (.istore_n 2, 1) := by decide +kernel
theorem dX2_turnOver_48 : decode cX2_turnOver 48 = .ok (.iload_n 1, 1) := by decide +kernel
theorem dX2_turnOver_49 : decode cX2_turnOver 49 = .ok (.iload_n 2, 1) := by decide +kernel
theorem dX2_turnOver_50 : decode cX2_turnOver 50 = .ok (.if_icmp .ge 50, 3) := by decide +kernel
theorem dX2_turnOver_53 : decode cX2_turnOver 53 = .ok (.aload_n 0, 1) := by decide +kernel
theorem dX2_turnOver_54 : decode cX2_turnOver 54 = .ok (.getfield 49, 3) := by decide +kernel
theorem dX2_turnOver_57 : decode cX2_turnOver 57 = .ok (.getfield 83, 3) := by decide +kernel
theorem dX2_turnOver_60 : decode cX2_turnOver 60 = .ok (.iload_n 1, 1) := by decide +kernel
theorem dX2_turnOver_61 : decode cX2_turnOver 61 = .ok (.iaload, 1) := by decide +kernel
theorem dX2_turnOver_62 : decode cX2_turnOver 62 = .ok (.istore_n 3, 1) := by decide +kernel
theorem dX2_turnOver_63 : decode cX2_turnOver 63 = .ok (.aload_n 0, 1) := by decide +kernel
theorem dX2_turnOver_64 : decode cX2_turnOver 64 = .ok (.getfield 49, 3) := by decide +kernel
theorem dX2_turnOver_67 : decode cX2_turnOver 67 = .ok (.getfield 83, 3) := by decide +kernel
theorem dX2_turnOver_70 : decode cX2_turnOver 70 = .ok (.iload_n 1, 1) := by decide +kernel
theorem dX2_turnOver_71 : decode cX2_turnOver 71 = .ok (.aload_n 0, 1) := by decide +kernel
theorem dX2_turnOver_72 : decode cX2_turnOver 72 = .ok (.getfield 49, 3) := by decide +kernel
theorem dX2_turnOver_75 : decode cX2_turnOver 75 = .ok (.getfield 83, 3) := by decide +kernel
theorem dX2_turnOver_78 : decode cX2_turnOver 78 = .ok (.iload_n 2, 1) := by decide +kernel
theorem dX2_turnOver_79 : decode cX2_turnOver 79 = .ok (.iaload, 1) := by decide +kernel
theorem dX2_turnOver_80 : decode cX2_turnOver 80 = .ok (.iastore, 1) := by decide +kernel
theorem dX2_turnOver_81 : decode cX2_turnOver 81 = .ok (.aload_n 0, 1) := by decide +kernel
theorem dX2_turnOver_82 : decode cX2_turnOver 82 = .ok (.getfield 49, 3) := by decide +kernel
theorem dX2_turnOver_85 : decode cX2_turnOver 85 = .ok (.getfield 83, 3) := by decide +kernel
theorem dX2_turnOver_88 : decode cX2_turnOver 88 = .ok (.iload_n 2, 1) := by decide +kernel
theorem dX2_turnOver_89 : decode cX2_turnOver 89 = .ok (.iload_n 3, 1) := by decide +kernel
theorem dX2_turnOver_90 : decode cX2_turnOver 90 = .ok (.iastore, 1) := by decide +kernel
theorem dX2_turnOver_91 : decode cX2_turnOver 91 = .ok (.iinc 1 1, 3) := by decide +kernel
theorem dX2_turnOver_94 : decode cX2_turnOver 94 = .ok (.iinc 2 (-1), 3) := by decide +kernel
theorem dX2_turnOver_97 : decode cX2_turnOver 97 = .ok (.goto (-49), 3) := by decide +kernel
theorem dX2_turnOver_100 : decode cX2_turnOver 100 = .ok (.aload_n 0, 1) := by decide +kernel
theorem dX2_turnOver_101 : decode cX2_turnOver 101 = .ok (.getfield 49, 3) := by decide +kernel
theorem dX2_turnOver_104 : decode cX2_turnOver 104 = .ok (.dup, 1) := by decide +kernel
theorem dX2_turnOver_105 : decode cX2_turnOver 105 = .ok (.getfield 148, 3) := by decide +kernel
theorem dX2_turnOver_108 : decode cX2_turnOver 108 = .ok (.bipush 8, 2) := by decide +kernel
theorem dX2_turnOver_110 : decode cX2_turnOver 110 = .ok (.iadd, 1) := by decide +kernel
theorem dX2_turnOver_111 : decode cX2_turnOver 111 = .ok (.putfield 148, 3) := by decide +kernel
theorem dX2_turnOver_114 : decode cX2_turnOver 114 = .ok (.aload_n 0, 1) := by decide +kernel
theorem dX2_turnOver_115 : decode cX2_turnOver 115 = .ok (.getfield 49, 3) := by decide +kernel
theorem dX2_turnOver_118 : decode cX2_turnOver 118 = .ok (.iconst 0, 1) := by decide +kernel
theorem dX2_turnOver_119 : decode cX2_turnOver 119 = .ok (.putfield 96, 3) := by decide +kernel
theorem dX2_turnOver_122 : decode cX2_turnOver 122 = .ok (.aload_n 0, 1) := by decide +kernel
theorem dX2_turnOver_123 : decode cX2_turnOver 123 = .ok (.getfield 42, 3) := by decide +kernel
theorem dX2_turnOver_126 : decode cX2_turnOver 126 = .ok (.aload_n 0, 1) := by decide +kernel
theorem dX2_turnOver_127 : decode cX2_turnOver 127 = .ok (.getfield 49, 3) := by decide +kernel
theorem dX2_turnOver_130 : decode cX2_turnOver 130 = .ok (.iconst 3, 1) := by decide +kernel
theorem dX2_turnOver_131 : decode cX2_turnOver 131 = .ok (.iconst 0, 1) := by decide +kernel
theorem dX2_turnOver_132 : decode cX2_turnOver 132 = .ok (.invokevirtual 99, 3) := by decide +kernel
theorem dX2_turnOver_135 : decode cX2_turnOver 135 = .ok (.return_, 1) := by decide +kernel
theorem dX2_countKnown_0 : decode cX2_countKnown 0 = .ok (.iconst 0, 1) := by decide +kernel
theorem dX2_countKnown_1 : decode cX2_countKnown 1 = .ok (.istore_n 1, 1) := by decide +kernel
theorem dX2_countKnown_2 : decode cX2_countKnown 2 = .ok (.iconst 0, 1) := by decide +kernel
theorem dX2_countKnown_3 : decode cX2_countKnown 3 = .ok (.istore_n 2, 1) := by decide +kernel
theorem dX2_countKnown_4 : decode cX2_countKnown 4 = .ok (.iload_n 2, 1) := by decide +kernel
theorem dX2_countKnown_5 : decode cX2_countKnown 5 = .ok (.aload_n 0, 1) := by decide +kernel
theorem dX2_countKnown_6 : decode cX2_countKnown 6 = .ok (.getfield 12, 3) := by decide +kernel
theorem dX2_countKnown_9 : decode cX2_countKnown 9 = .ok (.getfield 157, 3) := by decide +kernel
theorem dX2_countKnown_12 : decode cX2_countKnown 12 = .ok (.if_icmp .gt 21, 3) := by decide +kernel
theorem dX2_countKnown_15 : decode cX2_countKnown 15 = .ok (.iload_n 1, 1) := by decide +kernel
theorem dX2_countKnown_16 : decode cX2_countKnown 16 = .ok (.aload_n 0, 1) := by decide +kernel
theorem dX2_countKnown_17 : decode cX2_countKnown 17 = .ok (.getfield 49, 3) := by decide +kernel
theorem dX2_countKnown_20 : decode cX2_countKnown 20 = .ok (.getfield 83, 3) := by decide +kernel
theorem dX2_countKnown_23 : decode cX2_countKnown 23 = .ok (.iload_n 2, 1) := by decide +kernel
theorem dX2_countKnown_24 : decode cX2_countKnown 24 = .ok (.iaload, 1) := by decide +kernel
theorem dX2_countKnown_25 : decode cX2_countKnown 25 = .ok (.iadd, 1) := by decide +kernel
theorem dX2_countKnown_26 : decode cX2_countKnown 26 = .ok (.istore_n 1, 1) := by decide +kernel
theorem dX2_countKnown_27 : decode cX2_countKnown 27 = .ok (.iinc 2 1, 3) := by decide +kernel
theorem dX2_countKnown_30 : decode cX2_countKnown 30 = .ok (.goto (-26), 3) := by decide +kernel
theorem dX2_countKnown_33 : decode cX2_countKnown 33 = .ok (.iload_n 1, 1) := by decide +kernel
theorem dX2_countKnown_34 : decode cX2_countKnown 34 = .ok (.ireturn, 1) := by decide +kernel
theorem dX2_mayHear_0 : decode cX2_mayHear 0 = .ok (.iconst 0, 1) := by decide +kernel
theorem dX2_mayHear_1 : decode cX2_mayHear 1 = .ok (.istore_n 2, 1) := by decide +kernel
theorem dX2_mayHear_2 : decode cX2_mayHear 2 = .ok (.iload_n 2, 1) := by decide +kernel
theorem dX2_mayHear_3 : decode cX2_mayHear 3 = .ok (.aload_n 0, 1) := by decide +kernel
theorem dX2_mayHear_4 : decode cX2_mayHear 4 = .ok (.getfield 12, 3) := by decide +kernel
theorem dX2_mayHear_7 : decode cX2_mayHear 7 = .ok (.getfield 157, 3) := by decide +kernel
theorem dX2_mayHear_10 : decode cX2_mayHear 10 = .ok (.if_icmp .gt 43, 3) := by decide +kernel
theorem dX2_mayHear_13 : decode cX2_mayHear 13 = .ok (.aload_n 0, 1) := by decide +kernel
theorem dX2_mayHear_14 : decode cX2_mayHear 14 = .ok (.getfield 49, 3) := by decide +kernel
theorem dX2_mayHear_17 : decode cX2_mayHear 17 = .ok (.getfield 83, 3) := by decide +kernel
theorem dX2_mayHear_20 : decode cX2_mayHear 20 = .ok (.iload_n 2, 1) := by decide +kernel
theorem dX2_mayHear_21 : decode cX2_mayHear 21 = .ok (.iaload, 1) := by decide +kernel
theorem dX2_mayHear_22 : decode cX2_mayHear 22 = .ok (.iconst 1, 1) := by decide +kernel
theorem dX2_mayHear_23 : decode cX2_mayHear 23 = .ok (.if_icmp .ne 24, 3) := by decide +kernel
theorem dX2_mayHear_26 : decode cX2_mayHear 26 = .ok (.aload_n 0, 1) := by decide +kernel
theorem dX2_mayHear_27 : decode cX2_mayHear 27 = .ok (.getfield 12, 3) := by decide +kernel
theorem dX2_mayHear_30 : decode cX2_mayHear 30 = .ok (.aload_n 0, 1) := by decide +kernel
theorem dX2_mayHear_31 : decode cX2_mayHear 31 = .ok (.getfield 49, 3) := by decide +kernel
theorem dX2_mayHear_34 : decode cX2_mayHear 34 = .ok (.getfield 103, 3) := by decide +kernel
theorem dX2_mayHear_37 : decode cX2_mayHear 37 = .ok (.iload_n 2, 1) := by decide +kernel
theorem dX2_mayHear_38 : decode cX2_mayHear 38 = .ok (.invokevirtual 151, 3) := by decide +kernel
theorem dX2_mayHear_41 : decode cX2_mayHear 41 = .ok (.iload_n 1, 1) := by decide +kernel
theorem dX2_mayHear_42 : decode cX2_mayHear 42 = .ok (.if_icmp .ne 5, 3) := by decide +kernel
theorem dX2_mayHear_45 : decode cX2_mayHear 45 = .ok (.iconst 1, 1) := by decide +kernel
theorem dX2_mayHear_46 : decode cX2_mayHear 46 = .ok (.ireturn, 1) := by decide +kernel
theorem dX2_mayHear_47 : decode cX2_mayHear 47 = .ok (.iinc 2 1, 3) := by decide +kernel
theorem dX2_mayHear_50 : decode cX2_mayHear 50 = .ok (.goto (-48), 3) := by decide +kernel
theorem dX2_mayHear_53 : decode cX2_mayHear 53 = .ok (.iconst 0, 1) := by decide +kernel
theorem dX2_mayHear_54 : decode cX2_mayHear 54 = .ok (.ireturn, 1) := by decide +kernel
theorem dX2_songsNext_0 : decode cX2_songsNext 0 = .ok (.iconst 0, 1) := by decide +kernel
theorem dX2_songsNext_1 : decode cX2_songsNext 1 = .ok (.istore_n 1, 1) := by decide +kernel
theorem dX2_songsNext_2 : decode cX2_songsNext 2 = .ok (.iconst 0, 1) := by decide +kernel
theorem dX2_songsNext_3 : decode cX2_songsNext 3 = .ok (.istore_n 2, 1) := by decide +kernel
theorem dX2_songsNext_4 : decode cX2_songsNext 4 = .ok (.iload_n 2, 1) := by decide +kernel
theorem dX2_songsNext_5 : decode cX2_songsNext 5 = .ok (.aload_n 0, 1) := by decide +kernel
theorem dX2_songsNext_6 : decode cX2_songsNext 6 = .ok (.getfield 12, 3) := by decide +kernel
theorem dX2_songsNext_9 : decode cX2_songsNext 9 = .ok (.getfield 157, 3) := by decide +kernel
theorem dX2_songsNext_12 : decode cX2_songsNext 12 = .ok (.if_icmp .gt 55, 3) := by decide +kernel
theorem dX2_songsNext_15 : decode cX2_songsNext 15 = .ok (.aload_n 0, 1) := by decide +kernel
theorem dX2_songsNext_16 : decode cX2_songsNext 16 = .ok (.getfield 12, 3) := by decide +kernel
theorem dX2_songsNext_19 : decode cX2_songsNext 19 = .ok (.aload_n 0, 1) := by decide +kernel
theorem dX2_songsNext_20 : decode cX2_songsNext 20 = .ok (.getfield 49, 3) := by decide +kernel
theorem dX2_songsNext_23 : decode cX2_songsNext 23 = .ok (.getfield 103, 3) := by decide +kernel
theorem dX2_songsNext_26 : decode cX2_songsNext 26 = .ok (.iload_n 2, 1) := by decide +kernel
theorem dX2_songsNext_27 : decode cX2_songsNext 27 = .ok (.invokevirtual 151, 3) := by decide +kernel
theorem dX2_songsNext_30 : decode cX2_songsNext 30 = .ok (.istore_n 3, 1) := by decide +kernel
theorem dX2_songsNext_31 : decode cX2_songsNext 31 = .ok (.aload_n 0, 1) := by decide +kernel
theorem dX2_songsNext_32 : decode cX2_songsNext 32 = .ok (.getfield 49, 3) := by decide +kernel
theorem dX2_songsNext_35 : decode cX2_songsNext 35 = .ok (.getfield 83, 3) := by decide +kernel
theorem dX2_songsNext_38 : decode cX2_songsNext 38 = .ok (.iload_n 2, 1) := by decide +kernel
theorem dX2_songsNext_39 : decode cX2_songsNext 39 = .ok (.iaload, 1) := by decide +kernel
theorem dX2_songsNext_40 : decode cX2_songsNext 40 = .ok (.iconst 1, 1) := by decide +kernel
theorem dX2_songsNext_41 : decode cX2_songsNext 41 = .ok (.if_icmp .ne 20, 3) := by decide +kernel
theorem dX2_songsNext_44 : decode cX2_songsNext 44 = .ok (.aload_n 0, 1) := by decide +kernel
theorem dX2_songsNext_45 : decode cX2_songsNext 45 = .ok (.getfield 12, 3) := by decide +kernel
theorem dX2_songsNext_48 : decode cX2_songsNext 48 = .ok (.iload_n 3, 1) := by decide +kernel
theorem dX2_songsNext_49 : decode cX2_songsNext 49 = .ok (.invokevirtual 163, 3) := by decide +kernel
theorem dX2_songsNext_52 : decode cX2_songsNext 52 = .ok (.ifCond .eq 9, 3) := by decide +kernel
theorem dX2_songsNext_55 : decode cX2_songsNext 55 = .ok (.iload_n 1, 1) := by decide +kernel
theorem dX2_songsNext_56 : decode cX2_songsNext 56 = .ok (.iconst 1, 1) := by decide +kernel
theorem dX2_songsNext_57 : decode cX2_songsNext 57 = .ok (.iload_n 3, 1) := by decide +kernel
theorem dX2_songsNext_58 : decode cX2_songsNext 58 = .ok (.ishl, 1) := by decide +kernel
theorem dX2_songsNext_59 : decode cX2_songsNext 59 = .ok (.ior, 1) := by decide +kernel
theorem dX2_songsNext_60 : decode cX2_songsNext 60 = .ok (.istore_n 1, 1) := by decide +kernel
theorem dX2_songsNext_61 : decode cX2_songsNext 61 = .ok (.iinc 2 1, 3) := by decide +kernel
theorem dX2_songsNext_64 : decode cX2_songsNext 64 = .ok (.goto (-60), 3) := by decide +kernel
theorem dX2_songsNext_67 : decode cX2_songsNext 67 = .ok (.iload_n 1, 1) := by decide +kernel
theorem dX2_songsNext_68 : decode cX2_songsNext 68 = .ok (.ireturn, 1) := by decide +kernel
theorem dX2_wearAt_0 : decode cX2_wearAt 0 = .ok (.aload_n 0, 1) := by decide +kernel
theorem dX2_wearAt_1 : decode cX2_wearAt 1 = .ok (.getfield 166, 3) := by decide +kernel
theorem dX2_wearAt_4 : decode cX2_wearAt 4 = .ok (.bipush 12, 2) := by decide +kernel
theorem dX2_wearAt_6 : decode cX2_wearAt 6 = .ok (.if_icmp .lt 5, 3) := by decide +kernel
theorem dX2_wearAt_9 : decode cX2_wearAt 9 = .ok (.iconst 0, 1) := by decide +kernel
theorem dX2_wearAt_10 : decode cX2_wearAt 10 = .ok (.ireturn, 1) := by decide +kernel
theorem dX2_wearAt_11 : decode cX2_wearAt 11 = .ok (.aload_n 0, 1) := by decide +kernel
theorem dX2_wearAt_12 : decode cX2_wearAt 12 = .ok (.getfield 60, 3) := by decide +kernel
theorem dX2_wearAt_15 : decode cX2_wearAt 15 = .ok (.aload_n 0, 1) := by decide +kernel
theorem dX2_wearAt_16 : decode cX2_wearAt 16 = .ok (.getfield 166, 3) := by decide +kernel
theorem dX2_wearAt_19 : decode cX2_wearAt 19 = .ok (.iload_n 1, 1) := by decide +kernel
theorem dX2_wearAt_20 : decode cX2_wearAt 20 = .ok (.iastore, 1) := by decide +kernel
theorem dX2_wearAt_21 : decode cX2_wearAt 21 = .ok (.aload_n 0, 1) := by decide +kernel
theorem dX2_wearAt_22 : decode cX2_wearAt 22 = .ok (.getfield 64, 3) := by decide +kernel
theorem dX2_wearAt_25 : decode cX2_wearAt 25 = .ok (.aload_n 0, 1) := by decide +kernel
theorem dX2_wearAt_26 : decode cX2_wearAt 26 = .ok (.getfield 166, 3) := by decide +kernel
theorem dX2_wearAt_29 : decode cX2_wearAt 29 = .ok (.iload_n 2, 1) := by decide +kernel
theorem dX2_wearAt_30 : decode cX2_wearAt 30 = .ok (.iastore, 1) := by decide +kernel
theorem dX2_wearAt_31 : decode cX2_wearAt 31 = .ok (.aload_n 0, 1) := by decide +kernel
theorem dX2_wearAt_32 : decode cX2_wearAt 32 = .ok (.dup, 1) := by decide +kernel
theorem dX2_wearAt_33 : decode cX2_wearAt 33 = .ok (.getfield 166, 3) := by decide +kernel
theorem dX2_wearAt_36 : decode cX2_wearAt 36 = .ok (.iconst 1, 1) := by decide +kernel
theorem dX2_wearAt_37 : decode cX2_wearAt 37 = .ok (.iadd, 1) := by decide +kernel
theorem dX2_wearAt_38 : decode cX2_wearAt 38 = .ok (.putfield 166, 3) := by decide +kernel
theorem dX2_wearAt_41 : decode cX2_wearAt 41 = .ok (.iconst 1, 1) := by decide +kernel
theorem dX2_wearAt_42 : decode cX2_wearAt 42 = .ok (.ireturn, 1) := by decide +kernel
theorem dX2_wearNear_0 : decode cX2_wearNear 0 = .ok (.iconst 0, 1) := by decide +kernel
theorem dX2_wearNear_1 : decode cX2_wearNear 1 = .ok (.istore_n 2, 1) := by decide +kernel
theorem dX2_wearNear_2 : decode cX2_wearNear 2 = .ok (.iconst 0, 1) := by decide +kernel
theorem dX2_wearNear_3 : decode cX2_wearNear 3 = .ok (.istore_n 3, 1) := by decide +kernel
theorem dX2_wearNear_4 : decode cX2_wearNear 4 = .ok (.iload_n 3, 1) := by decide +kernel
theorem dX2_wearNear_5 : decode cX2_wearNear 5 = .ok (.aload_n 0, 1) := by decide +kernel
theorem dX2_wearNear_6 : decode cX2_wearNear 6 = .ok (.getfield 166, 3) := by decide +kernel
theorem dX2_wearNear_9 : decode cX2_wearNear 9 = .ok (.if_icmp .ge 33, 3) := by decide +kernel
theorem dX2_wearNear_12 : decode cX2_wearNear 12 = .ok (.aload_n 0, 1) := by decide +kernel
theorem dX2_wearNear_13 : decode cX2_wearNear 13 = .ok (.getfield 60, 3) := by decide +kernel
theorem dX2_wearNear_16 : decode cX2_wearNear 16 = .ok (.iload_n 3, 1) := by decide +kernel
theorem dX2_wearNear_17 : decode cX2_wearNear 17 = .ok (.iaload, 1) := by decide +kernel
theorem dX2_wearNear_18 : decode cX2_wearNear 18 = .ok (.iload_n 1, 1) := by decide +kernel
theorem dX2_wearNear_19 : decode cX2_wearNear 19 = .ok (.isub, 1) := by decide +kernel
theorem dX2_wearNear_20 : decode cX2_wearNear 20 = .ok (.invokestatic 169, 3) := by decide +kernel
theorem dX2_wearNear_23 : decode cX2_wearNear 23 = .ok (.iconst 3, 1) := by decide +kernel
theorem dX2_wearNear_24 : decode cX2_wearNear 24 = .ok (.if_icmp .gt 12, 3) := by decide +kernel
theorem dX2_wearNear_27 : decode cX2_wearNear 27 = .ok (.iload_n 2, 1) := by decide +kernel
theorem dX2_wearNear_28 : decode cX2_wearNear 28 = .ok (.aload_n 0, 1) := by decide +kernel
theorem dX2_wearNear_29 : decode cX2_wearNear 29 = .ok (.getfield 64, 3) := by decide +kernel
theorem dX2_wearNear_32 : decode cX2_wearNear 32 = .ok (.iload_n 3, 1) := by decide +kernel
theorem dX2_wearNear_33 : decode cX2_wearNear 33 = .ok (.iaload, 1) := by decide +kernel
theorem dX2_wearNear_34 : decode cX2_wearNear 34 = .ok (.iadd, 1) := by decide +kernel
theorem dX2_wearNear_35 : decode cX2_wearNear 35 = .ok (.istore_n 2, 1) := by decide +kernel
theorem dX2_wearNear_36 : decode cX2_wearNear 36 = .ok (.iinc 3 1, 3) := by decide +kernel
theorem dX2_wearNear_39 : decode cX2_wearNear 39 = .ok (.goto (-35), 3) := by decide +kernel
theorem dX2_wearNear_42 : decode cX2_wearNear 42 = .ok (.iload_n 2, 1) := by decide +kernel
theorem dX2_wearNear_43 : decode cX2_wearNear 43 = .ok (.ireturn, 1) := by decide +kernel
theorem dX2_mostSought_0 : decode cX2_mostSought 0 = .ok (.aload_n 0, 1) := by decide +kernel
theorem dX2_mostSought_1 : decode cX2_mostSought 1 = .ok (.getfield 12, 3) := by decide +kernel
theorem dX2_mostSought_4 : decode cX2_mostSought 4 = .ok (.aload_n 0, 1) := by decide +kernel
theorem dX2_mostSought_5 : decode cX2_mostSought 5 = .ok (.getfield 49, 3) := by decide +kernel
theorem dX2_mostSought_8 : decode cX2_mostSought 8 = .ok (.getfield 103, 3) := by decide +kernel
theorem dX2_mostSought_11 : decode cX2_mostSought 11 = .ok (.invokevirtual 172, 3) := by decide +kernel
theorem dX2_mostSought_14 : decode cX2_mostSought 14 = .ok (.istore_n 1, 1) := by decide +kernel
theorem dX2_mostSought_15 : decode cX2_mostSought 15 = .ok (.iconst (-1), 1) := by decide +kernel
theorem dX2_mostSought_16 : decode cX2_mostSought 16 = .ok (.istore_n 2, 1) := by decide +kernel
theorem dX2_mostSought_17 : decode cX2_mostSought 17 = .ok (.iconst (-1), 1) := by decide +kernel
theorem dX2_mostSought_18 : decode cX2_mostSought 18 = .ok (.istore_n 3, 1) := by decide +kernel
theorem dX2_mostSought_19 : decode cX2_mostSought 19 = .ok (.iload_n 1, 1) := by decide +kernel
theorem dX2_mostSought_20 : decode cX2_mostSought 20 = .ok (.istore 4, 2) := by decide +kernel
theorem dX2_mostSought_22 : decode cX2_mostSought 22 = .ok (.iload 4, 2) := by decide +kernel
theorem dX2_mostSought_24 : decode cX2_mostSought 24 = .ok (.iload_n 1, 1) := by decide +kernel
theorem dX2_mostSought_25 : decode cX2_mostSought 25 = .ok (.aload_n 0, 1) := by decide +kernel
theorem dX2_mostSought_26 : decode cX2_mostSought 26 = .ok (.getfield 12, 3) := by decide +kernel
theorem dX2_mostSought_29 : decode cX2_mostSought 29 = .ok (.aload_n 0, 1) := by decide +kernel
theorem dX2_mostSought_30 : decode cX2_mostSought 30 = .ok (.getfield 49, 3) := by decide +kernel
theorem dX2_mostSought_33 : decode cX2_mostSought 33 = .ok (.getfield 103, 3) := by decide +kernel
theorem dX2_mostSought_36 : decode cX2_mostSought 36 = .ok (.invokevirtual 175, 3) := by decide +kernel
theorem dX2_mostSought_39 : decode cX2_mostSought 39 = .ok (.iadd, 1) := by decide +kernel
theorem dX2_mostSought_40 : decode cX2_mostSought 40 = .ok (.if_icmp .ge 37, 3) := by decide +kernel
theorem dX2_mostSought_43 : decode cX2_mostSought 43 = .ok (.aload_n 0, 1) := by decide +kernel
theorem dX2_mostSought_44 : decode cX2_mostSought 44 = .ok (.aload_n 0, 1) := by decide +kernel
theorem dX2_mostSought_45 : decode cX2_mostSought 45 = .ok (.getfield 12, 3) := by decide +kernel
theorem dX2_mostSought_48 : decode cX2_mostSought 48 = .ok (.getfield 178, 3) := by decide +kernel
theorem dX2_mostSought_51 : decode cX2_mostSought 51 = .ok (.iload 4, 2) := by decide +kernel
theorem dX2_mostSought_53 : decode cX2_mostSought 53 = .ok (.iaload, 1) := by decide +kernel
theorem dX2_mostSought_54 : decode cX2_mostSought 54 = .ok (.invokevirtual 181, 3) := by decide +kernel
theorem dX2_mostSought_57 : decode cX2_mostSought 57 = .ok (.istore 5, 2) := by decide +kernel
theorem dX2_mostSought_59 : decode cX2_mostSought 59 = .ok (.iload 5, 2) := by decide +kernel
theorem dX2_mostSought_61 : decode cX2_mostSought 61 = .ok (.iload_n 3, 1) := by decide +kernel
theorem dX2_mostSought_62 : decode cX2_mostSought 62 = .ok (.if_icmp .le 9, 3) := by decide +kernel
theorem dX2_mostSought_65 : decode cX2_mostSought 65 = .ok (.iload 5, 2) := by decide +kernel
theorem dX2_mostSought_67 : decode cX2_mostSought 67 = .ok (.istore_n 3, 1) := by decide +kernel
theorem dX2_mostSought_68 : decode cX2_mostSought 68 = .ok (.iload 4, 2) := by decide +kernel
theorem dX2_mostSought_70 : decode cX2_mostSought 70 = .ok (.istore_n 2, 1) := by decide +kernel
theorem dX2_mostSought_71 : decode cX2_mostSought 71 = .ok (.iinc 4 1, 3) := by decide +kernel
theorem dX2_mostSought_74 : decode cX2_mostSought 74 = .ok (.goto (-52), 3) := by decide +kernel
theorem dX2_mostSought_77 : decode cX2_mostSought 77 = .ok (.iload_n 2, 1) := by decide +kernel
theorem dX2_mostSought_78 : decode cX2_mostSought 78 = .ok (.ireturn, 1) := by decide +kernel
theorem dX2_copyFrom_0 : decode cX2_copyFrom 0 = .ok (.aload_n 0, 1) := by decide +kernel
theorem dX2_copyFrom_1 : decode cX2_copyFrom 1 = .ok (.getfield 12, 3) := by decide +kernel
theorem dX2_copyFrom_4 : decode cX2_copyFrom 4 = .ok (.aload_n 1, 1) := by decide +kernel
theorem dX2_copyFrom_5 : decode cX2_copyFrom 5 = .ok (.getfield 12, 3) := by decide +kernel
theorem dX2_copyFrom_8 : decode cX2_copyFrom 8 = .ok (.invokevirtual 67, 3) := by decide +kernel
theorem dX2_copyFrom_11 : decode cX2_copyFrom 11 = .ok (.aload_n 0, 1) := by decide +kernel
theorem dX2_copyFrom_12 : decode cX2_copyFrom 12 = .ok (.getfield 21, 3) := by decide +kernel
theorem dX2_copyFrom_15 : decode cX2_copyFrom 15 = .ok (.aload_n 1, 1) := by decide +kernel
theorem dX2_copyFrom_16 : decode cX2_copyFrom 16 = .ok (.getfield 21, 3) := by decide +kernel
theorem dX2_copyFrom_19 : decode cX2_copyFrom 19 = .ok (.invokevirtual 184, 3) := by decide +kernel
theorem dX2_copyFrom_22 : decode cX2_copyFrom 22 = .ok (.aload_n 0, 1) := by decide +kernel
theorem dX2_copyFrom_23 : decode cX2_copyFrom 23 = .ok (.getfield 28, 3) := by decide +kernel
theorem dX2_copyFrom_26 : decode cX2_copyFrom 26 = .ok (.aload_n 1, 1) := by decide +kernel
theorem dX2_copyFrom_27 : decode cX2_copyFrom 27 = .ok (.getfield 28, 3) := by decide +kernel
theorem dX2_copyFrom_30 : decode cX2_copyFrom 30 = .ok (.invokevirtual 187, 3) := by decide +kernel
theorem dX2_copyFrom_33 : decode cX2_copyFrom 33 = .ok (.aload_n 0, 1) := by decide +kernel
theorem dX2_copyFrom_34 : decode cX2_copyFrom 34 = .ok (.getfield 35, 3) := by decide +kernel
theorem dX2_copyFrom_37 : decode cX2_copyFrom 37 = .ok (.aload_n 1, 1) := by decide +kernel
theorem dX2_copyFrom_38 : decode cX2_copyFrom 38 = .ok (.getfield 35, 3) := by decide +kernel
theorem dX2_copyFrom_41 : decode cX2_copyFrom 41 = .ok (.invokevirtual 190, 3) := by decide +kernel
theorem dX2_copyFrom_44 : decode cX2_copyFrom 44 = .ok (.aload_n 0, 1) := by decide +kernel
theorem dX2_copyFrom_45 : decode cX2_copyFrom 45 = .ok (.getfield 42, 3) := by decide +kernel
theorem dX2_copyFrom_48 : decode cX2_copyFrom 48 = .ok (.aload_n 1, 1) := by decide +kernel
theorem dX2_copyFrom_49 : decode cX2_copyFrom 49 = .ok (.getfield 42, 3) := by decide +kernel
theorem dX2_copyFrom_52 : decode cX2_copyFrom 52 = .ok (.invokevirtual 193, 3) := by decide +kernel
theorem dX2_copyFrom_55 : decode cX2_copyFrom 55 = .ok (.aload_n 0, 1) := by decide +kernel
theorem dX2_copyFrom_56 : decode cX2_copyFrom 56 = .ok (.getfield 49, 3) := by decide +kernel
theorem dX2_copyFrom_59 : decode cX2_copyFrom 59 = .ok (.aload_n 1, 1) := by decide +kernel
theorem dX2_copyFrom_60 : decode cX2_copyFrom 60 = .ok (.getfield 49, 3) := by decide +kernel
theorem dX2_copyFrom_63 : decode cX2_copyFrom 63 = .ok (.invokevirtual 196, 3) := by decide +kernel
theorem dX2_copyFrom_66 : decode cX2_copyFrom 66 = .ok (.aload_n 0, 1) := by decide +kernel
theorem dX2_copyFrom_67 : decode cX2_copyFrom 67 = .ok (.aload_n 1, 1) := by decide +kernel
theorem dX2_copyFrom_68 : decode cX2_copyFrom 68 = .ok (.getfield 53, 3) := by decide +kernel
theorem dX2_copyFrom_71 : decode cX2_copyFrom 71 = .ok (.putfield 53, 3) := by decide +kernel
theorem dX2_copyFrom_74 : decode cX2_copyFrom 74 = .ok (.aload_n 0, 1) := by decide +kernel
theorem dX2_copyFrom_75 : decode cX2_copyFrom 75 = .ok (.aload_n 1, 1) := by decide +kernel
theorem dX2_copyFrom_76 : decode cX2_copyFrom 76 = .ok (.getfield 57, 3) := by decide +kernel
theorem dX2_copyFrom_79 : decode cX2_copyFrom 79 = .ok (.putfield 57, 3) := by decide +kernel
theorem dX2_copyFrom_82 : decode cX2_copyFrom 82 = .ok (.aload_n 0, 1) := by decide +kernel
theorem dX2_copyFrom_83 : decode cX2_copyFrom 83 = .ok (.aload_n 1, 1) := by decide +kernel
theorem dX2_copyFrom_84 : decode cX2_copyFrom 84 = .ok (.getfield 166, 3) := by decide +kernel
theorem dX2_copyFrom_87 : decode cX2_copyFrom 87 = .ok (.putfield 166, 3) := by decide +kernel
theorem dX2_copyFrom_90 : decode cX2_copyFrom 90 = .ok (.aload_n 1, 1) := by decide +kernel
theorem dX2_copyFrom_91 : decode cX2_copyFrom 91 = .ok (.getfield 60, 3) := by decide +kernel
theorem dX2_copyFrom_94 : decode cX2_copyFrom 94 = .ok (.iconst 0, 1) := by decide +kernel
theorem dX2_copyFrom_95 : decode cX2_copyFrom 95 = .ok (.aload_n 0, 1) := by decide +kernel
theorem dX2_copyFrom_96 : decode cX2_copyFrom 96 = .ok (.getfield 60, 3) := by decide +kernel
theorem dX2_copyFrom_99 : decode cX2_copyFrom 99 = .ok (.iconst 0, 1) := by decide +kernel
theorem dX2_copyFrom_100 : decode cX2_copyFrom 100 = .ok (.bipush 12, 2) := by decide +kernel
theorem dX2_copyFrom_102 : decode cX2_copyFrom 102 = .ok (.invokestatic 199, 3) := by decide +kernel
theorem dX2_copyFrom_105 : decode cX2_copyFrom 105 = .ok (.aload_n 1, 1) := by decide +kernel
theorem dX2_copyFrom_106 : decode cX2_copyFrom 106 = .ok (.getfield 64, 3) := by decide +kernel
theorem dX2_copyFrom_109 : decode cX2_copyFrom 109 = .ok (.iconst 0, 1) := by decide +kernel
theorem dX2_copyFrom_110 : decode cX2_copyFrom 110 = .ok (.aload_n 0, 1) := by decide +kernel
theorem dX2_copyFrom_111 : decode cX2_copyFrom 111 = .ok (.getfield 64, 3) := by decide +kernel
theorem dX2_copyFrom_114 : decode cX2_copyFrom 114 = .ok (.iconst 0, 1) := by decide +kernel
theorem dX2_copyFrom_115 : decode cX2_copyFrom 115 = .ok (.bipush 12, 2) := by decide +kernel
theorem dX2_copyFrom_117 : decode cX2_copyFrom 117 = .ok (.invokestatic 199, 3) := by decide +kernel
theorem dX2_copyFrom_120 : decode cX2_copyFrom 120 = .ok (.return_, 1) := by decide +kernel
theorem dX3_init_0 : decode cX3_init 0 = .ok (.aload_n 0, 1) := by decide +kernel
theorem dX3_init_1 : decode cX3_init 1 = .ok (.invokespecial 3, 3) := by decide +kernel
theorem dX3_init_4 : decode cX3_init 4 = .ok (.aload_n 0, 1) := by decide +kernel
theorem dX3_init_5 : decode cX3_init 5 = .ok (.bipush 60, 2) := by decide +kernel
theorem dX3_init_7 : decode cX3_init 7 = .ok (.newarray .int, 2) := by decide +kernel
theorem dX3_init_9 : decode cX3_init 9 = .ok (.putfield 11, 3) := by decide +kernel
theorem dX3_init_12 : decode cX3_init 12 = .ok (.aload_n 0, 1) := by decide +kernel
theorem dX3_init_13 : decode cX3_init 13 = .ok (.bipush 60, 2) := by decide +kernel
theorem dX3_init_15 : decode cX3_init 15 = .ok (.newarray .int, 2) := by decide +kernel
theorem dX3_init_17 : decode cX3_init 17 = .ok (.putfield 15, 3) := by decide +kernel
theorem dX3_init_20 : decode cX3_init 20 = .ok (.aload_n 0, 1) := by decide +kernel
theorem dX3_init_21 : decode cX3_init 21 = .ok (.iconst 4, 1) := by decide +kernel
theorem dX3_init_22 : decode cX3_init 22 = .ok (.newarray .int, 2) := by decide +kernel
theorem dX3_init_24 : decode cX3_init 24 = .ok (.putfield 18, 3) := by decide +kernel
theorem dX3_init_27 : decode cX3_init 27 = .ok (.aload_n 0, 1) := by decide +kernel
theorem dX3_init_28 : decode cX3_init 28 = .ok (.iconst 4, 1) := by decide +kernel
theorem dX3_init_29 : decode cX3_init 29 = .ok (.newarray .int, 2) := by decide +kernel
theorem dX3_init_31 : decode cX3_init 31 = .ok (.putfield 21, 3) := by decide +kernel
theorem dX3_init_34 : decode cX3_init 34 = .ok (.return_, 1) := by decide +kernel
theorem dX3_read_0 : decode cX3_read 0 = .ok (.aload_n 0, 1) := by decide +kernel
theorem dX3_read_1 : decode cX3_read 1 = .ok (.iconst 0, 1) := by decide +kernel
theorem dX3_read_2 : decode cX3_read 2 = .ok (.putfield 24, 3) := by decide +kernel
theorem dX3_read_5 : decode cX3_read 5 = .ok (.iconst 0, 1) := by decide +kernel
theorem dX3_read_6 : decode cX3_read 6 = .ok (.istore_n 2, 1) := by decide +kernel
theorem dX3_read_7 : decode cX3_read 7 = .ok (.iconst 0, 1) := by decide +kernel
theorem dX3_read_8 : decode cX3_read 8 = .ok (.istore_n 3, 1) := by decide +kernel
theorem dX3_read_9 : decode cX3_read 9 = .ok (.iload_n 3, 1) := by decide +kernel
theorem dX3_read_10 : decode cX3_read 10 = .ok (.sipush 400, 3) := by decide +kernel
theorem dX3_read_13 : decode cX3_read 13 = .ok (.if_icmp .gt 110, 3) := by decide +kernel
theorem dX3_read_16 : decode cX3_read 16 = .ok (.aload_n 1, 1) := by decide +kernel
theorem dX3_read_17 : decode cX3_read 17 = .ok (.invokevirtual 30, 3) := by decide +kernel
theorem dX3_read_20 : decode cX3_read 20 = .ok (.sipush 202, 3) := by decide +kernel
theorem dX3_read_23 : decode cX3_read 23 = .ok (.if_icmp .eq 100, 3) := by decide +kernel
theorem dX3_read_26 : decode cX3_read 26 = .ok (.aload_n 1, 1) := by decide +kernel
theorem dX3_read_27 : decode cX3_read 27 = .ok (.invokevirtual 30, 3) := by decide +kernel
theorem dX3_read_30 : decode cX3_read 30 = .ok (.istore 4, 2) := by decide +kernel
theorem dX3_read_32 : decode cX3_read 32 = .ok (.iload 4, 2) := by decide +kernel
theorem dX3_read_34 : decode cX3_read 34 = .ok (.sipush 319, 3) := by decide +kernel
theorem dX3_read_37 : decode cX3_read 37 = .ok (.if_icmp .ne 31, 3) := by decide +kernel
theorem dX3_read_40 : decode cX3_read 40 = .ok (.iload_n 2, 1) := by decide +kernel
theorem dX3_read_41 : decode cX3_read 41 = .ok (.iconst 4, 1) := by decide +kernel
theorem dX3_read_42 : decode cX3_read 42 = .ok (.if_icmp .lt 9, 3) := by decide +kernel
theorem dX3_read_45 : decode cX3_read 45 = .ok (.aload_n 1, 1) := by decide +kernel
theorem dX3_read_46 : decode cX3_read 46 = .ok (.iconst 3, 1) := by decide +kernel
theorem dX3_read_47 : decode cX3_read 47 = .ok (.invokevirtual 34, 3) := by decide +kernel
theorem dX3_read_50 : decode cX3_read 50 = .ok (.ireturn, 1) := by decide +kernel
theorem dX3_read_51 : decode cX3_read 51 = .ok (.aload_n 0, 1) := by decide +kernel
theorem dX3_read_52 : decode cX3_read 52 = .ok (.aload_n 1, 1) := by decide +kernel
theorem dX3_read_53 : decode cX3_read 53 = .ok (.iload_n 2, 1) := by decide +kernel
theorem dX3_read_54 : decode cX3_read 54 = .ok (.invokevirtual 38, 3) := by decide +kernel
theorem dX3_read_57 : decode cX3_read 57 = .ok (.ifCond .ne 5, 3) := by decide +kernel
theorem dX3_read_60 : decode cX3_read 60 = .ok (.iconst 0, 1) := by decide +kernel
theorem dX3_read_61 : decode cX3_read 61 = .ok (.ireturn, 1) := by decide +kernel
theorem dX3_read_62 : decode cX3_read 62 = .ok (.iinc 2 1, 3) := by decide +kernel
theorem dX3_read_65 : decode cX3_read 65 = .ok (.goto 52, 3) := by decide +kernel
theorem dX3_read_68 : decode cX3_read 68 = .ok (.iload 4, 2) := by decide +kernel
theorem dX3_read_70 : decode cX3_read 70 = .ok (.bipush 41, 2) := by decide +kernel
theorem dX3_read_72 : decode cX3_read 72 = .ok (.if_icmp .ne 33, 3) := by decide +kernel
theorem dX3_read_75 : decode cX3_read 75 = .ok (.iload_n 2, 1) := by decide +kernel
theorem dX3_read_76 : decode cX3_read 76 = .ok (.ifCond .le 29, 3) := by decide +kernel
theorem dX3_read_79 : decode cX3_read 79 = .ok (.aload_n 1, 1) := by decide +kernel
theorem dX3_read_80 : decode cX3_read 80 = .ok (.invokevirtual 42, 3) := by decide +kernel
theorem dX3_read_83 : decode cX3_read 83 = .ok (.iinc 2 (-1), 3) := by decide +kernel
theorem dX3_read_86 : decode cX3_read 86 = .ok (.aload_n 0, 1) := by decide +kernel
theorem dX3_read_87 : decode cX3_read 87 = .ok (.aload_n 0, 1) := by decide +kernel
theorem dX3_read_88 : decode cX3_read 88 = .ok (.getfield 18, 3) := by decide +kernel
theorem dX3_read_91 : decode cX3_read 91 = .ok (.iload_n 2, 1) := by decide +kernel
theorem dX3_read_92 : decode cX3_read 92 = .ok (.iaload, 1) := by decide +kernel
theorem dX3_read_93 : decode cX3_read 93 = .ok (.aload_n 0, 1) := by decide +kernel
theorem dX3_read_94 : decode cX3_read 94 = .ok (.getfield 21, 3) := by decide +kernel
theorem dX3_read_97 : decode cX3_read 97 = .ok (.iload_n 2, 1) := by decide +kernel
theorem dX3_read_98 : decode cX3_read 98 = .ok (.iaload, 1) := by decide +kernel
theorem dX3_read_99 : decode cX3_read 99 = .ok (.invokevirtual 45, 3) := by decide +kernel
theorem dX3_read_102 : decode cX3_read 102 = .ok (.goto 15, 3) := by decide +kernel
theorem dX3_read_105 : decode cX3_read 105 = .ok (.aload_n 0, 1) := by decide +kernel
theorem dX3_read_106 : decode cX3_read 106 = .ok (.aload_n 1, 1) := by decide +kernel
theorem dX3_read_107 : decode cX3_read 107 = .ok (.iload 4, 2) := by decide +kernel
theorem dX3_read_109 : decode cX3_read 109 = .ok (.invokevirtual 49, 3) := by decide +kernel
theorem dX3_read_112 : decode cX3_read 112 = .ok (.ifCond .ne 5, 3) := by decide +kernel
theorem dX3_read_115 : decode cX3_read 115 = .ok (.iconst 0, 1) := by decide +kernel
theorem dX3_read_116 : decode cX3_read 116 = .ok (.ireturn, 1) := by decide +kernel
theorem dX3_read_117 : decode cX3_read 117 = .ok (.iinc 3 1, 3) := by decide +kernel
theorem dX3_read_120 : decode cX3_read 120 = .ok (.goto (-111), 3) := by decide +kernel
theorem dX3_read_123 : decode cX3_read 123 = .ok (.iload_n 2, 1) := by decide +kernel
theorem dX3_read_124 : decode cX3_read 124 = .ok (.ifCond .le 9, 3) := by decide +kernel
theorem dX3_read_127 : decode cX3_read 127 = .ok (.aload_n 1, 1) := by decide +kernel
theorem dX3_read_128 : decode cX3_read 128 = .ok (.iconst 1, 1) := by decide +kernel
theorem dX3_read_129 : decode cX3_read 129 = .ok (.invokevirtual 34, 3) := by decide +kernel
theorem dX3_read_132 : decode cX3_read 132 = .ok (.ireturn, 1) := by decide +kernel
theorem dX3_read_133 : decode cX3_read 133 = .ok (.aload_n 0, 1) := by decide +kernel
theorem dX3_read_134 : decode cX3_read 134 = .ok (.getfield 24, 3) := by decide +kernel
theorem dX3_read_137 : decode cX3_read 137 = .ok (.bipush 60, 2) := by decide +kernel
theorem dX3_read_139 : decode cX3_read 139 = .ok (.if_icmp .le 11, 3) := by decide +kernel
theorem dX3_read_142 : decode cX3_read 142 = .ok (.aload_n 1, 1) := by decide +kernel
theorem dX3_read_143 : decode cX3_read 143 = .ok (.iconst 4, 1) := by decide +kernel
theorem dX3_read_144 : decode cX3_read 144 = .ok (.invokevirtual 34, 3) := by decide +kernel
theorem dX3_read_147 : decode cX3_read 147 = .ok (.ifCond .eq 7, 3) := by decide +kernel
theorem dX3_read_150 : decode cX3_read 150 = .ok (.iconst 1, 1) := by decide +kernel
theorem dX3_read_151 : decode cX3_read 151 = .ok (.goto 4, 3) := by decide +kernel
theorem dX3_read_154 : decode cX3_read 154 = .ok (.iconst 0, 1) := by decide +kernel
theorem dX3_read_155 : decode cX3_read 155 = .ok (.ireturn, 1) := by decide +kernel
theorem dX3_readAgain_0 : decode cX3_readAgain 0 = .ok (.aload_n 1, 1) := by decide +kernel
theorem dX3_readAgain_1 : decode cX3_readAgain 1 = .ok (.invokevirtual 42, 3) := by decide +kernel
theorem dX3_readAgain_4 : decode cX3_readAgain 4 = .ok (.aload_n 1, 1) := by decide +kernel
theorem dX3_readAgain_5 : decode cX3_readAgain 5 = .ok (.iconst 1, 1) := by decide +kernel
theorem dX3_readAgain_6 : decode cX3_readAgain 6 = .ok (.bipush 9, 2) := by decide +kernel
theorem dX3_readAgain_8 : decode cX3_readAgain 8 = .ok (.invokevirtual 52, 3) := by decide +kernel
theorem dX3_readAgain_11 : decode cX3_readAgain 11 = .ok (.istore_n 3, 1) := by decide +kernel
theorem dX3_readAgain_12 : decode cX3_readAgain 12 = .ok (.iload_n 3, 1) := by decide +kernel
theorem dX3_readAgain_13 : decode cX3_readAgain 13 = .ok (.ifCond .ge 5, 3) := by decide +kernel
theorem dX3_readAgain_16 : decode cX3_readAgain 16 = .ok (.iconst 0, 1) := by decide +kernel
theorem dX3_readAgain_17 : decode cX3_readAgain 17 = .ok (.ireturn, 1) := by decide +kernel
theorem dX3_readAgain_18 : decode cX3_readAgain 18 = .ok (.aload_n 0, 1) := by decide +kernel
theorem dX3_readAgain_19 : decode cX3_readAgain 19 = .ok (.getfield 18, 3) := by decide +kernel
theorem dX3_readAgain_22 : decode cX3_readAgain 22 = .ok (.iload_n 2, 1) := by decide +kernel
theorem dX3_readAgain_23 : decode cX3_readAgain 23 = .ok (.aload_n 0, 1) := by decide +kernel
theorem dX3_readAgain_24 : decode cX3_readAgain 24 = .ok (.getfield 24, 3) := by decide +kernel
theorem dX3_readAgain_27 : decode cX3_readAgain 27 = .ok (.iastore, 1) := by decide +kernel
theorem dX3_readAgain_28 : decode cX3_readAgain 28 = .ok (.aload_n 0, 1) := by decide +kernel
theorem dX3_readAgain_29 : decode cX3_readAgain 29 = .ok (.getfield 21, 3) := by decide +kernel
theorem dX3_readAgain_32 : decode cX3_readAgain 32 = .ok (.iload_n 2, 1) := by decide +kernel
theorem dX3_readAgain_33 : decode cX3_readAgain 33 = .ok (.iload_n 3, 1) := by decide +kernel
theorem dX3_readAgain_34 : decode cX3_readAgain 34 = .ok (.iastore, 1) := by decide +kernel
theorem dX3_readAgain_35 : decode cX3_readAgain 35 = .ok (.aload_n 1, 1) := by decide +kernel
theorem dX3_readAgain_36 : decode cX3_readAgain 36 = .ok (.bipush 40, 2) := by decide +kernel
theorem dX3_readAgain_38 : decode cX3_readAgain 38 = .ok (.invokevirtual 56, 3) := by decide +kernel
theorem dX3_readAgain_41 : decode cX3_readAgain 41 = .ok (.ireturn, 1) := by decide +kernel
theorem dX3_readDeed_0 : decode cX3_readDeed 0 = .ok (.iload_n 2, 1) := by decide +kernel
theorem dX3_readDeed_1 : decode cX3_readDeed 1 = .ok (.invokestatic 59, 3) := by decide +kernel
theorem dX3_readDeed_4 : decode cX3_readDeed 4 = .ok (.istore_n 3, 1) := by decide +kernel
theorem dX3_readDeed_5 : decode cX3_readDeed 5 = .ok (.iload_n 3, 1) := by decide +kernel
theorem dX3_readDeed_6 : decode cX3_readDeed 6 = .ok (.iconst (-1), 1) := by decide +kernel
theorem dX3_readDeed_7 : decode cX3_readDeed 7 = .ok (.if_icmp .ne 9, 3) := by decide +kernel
theorem dX3_readDeed_10 : decode cX3_readDeed 10 = .ok (.aload_n 1, 1) := by decide +kernel
theorem dX3_readDeed_11 : decode cX3_readDeed 11 = .ok (.iconst 1, 1) := by decide +kernel
theorem dX3_readDeed_12 : decode cX3_readDeed 12 = .ok (.invokevirtual 34, 3) := by decide +kernel
theorem dX3_readDeed_15 : decode cX3_readDeed 15 = .ok (.ireturn, 1) := by decide +kernel
theorem dX3_readDeed_16 : decode cX3_readDeed 16 = .ok (.aload_n 1, 1) := by decide +kernel
theorem dX3_readDeed_17 : decode cX3_readDeed 17 = .ok (.invokevirtual 42, 3) := by decide +kernel
theorem dX3_readDeed_20 : decode cX3_readDeed 20 = .ok (.iconst 0, 1) := by decide +kernel
theorem dX3_readDeed_21 : decode cX3_readDeed 21 = .ok (.istore 4, 2) := by decide +kernel
theorem dX3_readDeed_23 : decode cX3_readDeed 23 = .ok (.iload_n 3, 1) := by decide +kernel
theorem dX3_readDeed_24 : decode cX3_readDeed 24 = .ok (.iconst 3, 1) := by decide +kernel
theorem dX3_readDeed_25 : decode cX3_readDeed 25 = .ok (.if_icmp .eq 29, 3) := by decide +kernel
theorem dX3_readDeed_28 : decode cX3_readDeed 28 = .ok (.aload_n 1, 1) := by decide +kernel
theorem dX3_readDeed_29 : decode cX3_readDeed 29 = .ok (.iconst 1, 1) := by decide +kernel
theorem dX3_readDeed_30 : decode cX3_readDeed 30 = .ok (.iload_n 3, 1) := by decide +kernel
theorem dX3_readDeed_31 : decode cX3_readDeed 31 = .ok (.iconst 2, 1) := by decide +kernel
theorem dX3_readDeed_32 : decode cX3_readDeed 32 = .ok (.if_icmp .ne 8, 3) := by decide +kernel
theorem dX3_readDeed_35 : decode cX3_readDeed 35 = .ok (.bipush 30, 2) := by decide +kernel
theorem dX3_readDeed_37 : decode cX3_readDeed 37 = .ok (.goto 5, 3) := by decide +kernel
theorem dX3_readDeed_40 : decode cX3_readDeed 40 = .ok (.bipush 60, 2) := by decide +kernel
theorem dX3_readDeed_42 : decode cX3_readDeed 42 = .ok (.invokevirtual 52, 3) := by decide +kernel
theorem dX3_readDeed_45 : decode cX3_readDeed 45 = .ok (.istore 4, 2) := by decide +kernel
theorem dX3_readDeed_47 : decode cX3_readDeed 47 = .ok (.iload 4, 2) := by decide +kernel
theorem dX3_readDeed_49 : decode cX3_readDeed 49 = .ok (.ifCond .ge 5, 3) := by decide +kernel
theorem dX3_readDeed_52 : decode cX3_readDeed 52 = .ok (.iconst 0, 1) := by decide +kernel
theorem dX3_readDeed_53 : decode cX3_readDeed 53 = .ok (.ireturn, 1) := by decide +kernel
theorem dX3_readDeed_54 : decode cX3_readDeed 54 = .ok (.aload_n 0, 1) := by decide +kernel
theorem dX3_readDeed_55 : decode cX3_readDeed 55 = .ok (.iload_n 3, 1) := by decide +kernel
theorem dX3_readDeed_56 : decode cX3_readDeed 56 = .ok (.iload 4, 2) := by decide +kernel
theorem dX3_readDeed_58 : decode cX3_readDeed 58 = .ok (.invokevirtual 63, 3) := by decide +kernel
theorem dX3_readDeed_61 : decode cX3_readDeed 61 = .ok (.iconst 1, 1) := by decide +kernel
theorem dX3_readDeed_62 : decode cX3_readDeed 62 = .ok (.ireturn, 1) := by decide +kernel
theorem dX3_what_0 : decode cX3_what 0 = .ok (.iload_n 0, 1) := by decide +kernel
theorem dX3_what_1 : decode cX3_what 1 = .ok (.lookupswitch 51 #[(303, 49), (313, 43), (317, 45), (318, 47)], 43) := by decide +kernel
theorem dX3_what_44 : decode cX3_what 44 = .ok (.iconst 0, 1) := by decide +kernel
theorem dX3_what_45 : decode cX3_what 45 = .ok (.ireturn, 1) := by decide +kernel
theorem dX3_what_46 : decode cX3_what 46 = .ok (.iconst 1, 1) := by decide +kernel
theorem dX3_what_47 : decode cX3_what 47 = .ok (.ireturn, 1) := by decide +kernel
theorem dX3_what_48 : decode cX3_what 48 = .ok (.iconst 2, 1) := by decide +kernel
theorem dX3_what_49 : decode cX3_what 49 = .ok (.ireturn, 1) := by decide +kernel
theorem dX3_what_50 : decode cX3_what 50 = .ok (.iconst 3, 1) := by decide +kernel
theorem dX3_what_51 : decode cX3_what 51 = .ok (.ireturn, 1) := by decide +kernel
theorem dX3_what_52 : decode cX3_what 52 = .ok (.iconst (-1), 1) := by decide +kernel
theorem dX3_what_53 : decode cX3_what 53 = .ok (.ireturn, 1) := by decide +kernel
theorem dX3_append_0 : decode cX3_append 0 = .ok (.aload_n 0, 1) := by decide +kernel
theorem dX3_append_1 : decode cX3_append 1 = .ok (.getfield 24, 3) := by decide +kernel
theorem dX3_append_4 : decode cX3_append 4 = .ok (.bipush 60, 2) := by decide +kernel
theorem dX3_append_6 : decode cX3_append 6 = .ok (.if_icmp .ge 23, 3) := by decide +kernel
theorem dX3_append_9 : decode cX3_append 9 = .ok (.aload_n 0, 1) := by decide +kernel
theorem dX3_append_10 : decode cX3_append 10 = .ok (.getfield 11, 3) := by decide +kernel
theorem dX3_append_13 : decode cX3_append 13 = .ok (.aload_n 0, 1) := by decide +kernel
theorem dX3_append_14 : decode cX3_append 14 = .ok (.getfield 24, 3) := by decide +kernel
theorem dX3_append_17 : decode cX3_append 17 = .ok (.iload_n 1, 1) := by decide +kernel
theorem dX3_append_18 : decode cX3_append 18 = .ok (.iastore, 1) := by decide +kernel
theorem dX3_append_19 : decode cX3_append 19 = .ok (.aload_n 0, 1) := by decide +kernel
theorem dX3_append_20 : decode cX3_append 20 = .ok (.getfield 15, 3) := by decide +kernel
theorem dX3_append_23 : decode cX3_append 23 = .ok (.aload_n 0, 1) := by decide +kernel
theorem dX3_append_24 : decode cX3_append 24 = .ok (.getfield 24, 3) := by decide +kernel
theorem dX3_append_27 : decode cX3_append 27 = .ok (.iload_n 2, 1) := by decide +kernel
theorem dX3_append_28 : decode cX3_append 28 = .ok (.iastore, 1) := by decide +kernel
theorem dX3_append_29 : decode cX3_append 29 = .ok (.aload_n 0, 1) := by decide +kernel
theorem dX3_append_30 : decode cX3_append 30 = .ok (.aload_n 0, 1) := by decide +kernel
theorem dX3_append_31 : decode cX3_append 31 = .ok (.getfield 24, 3) := by decide +kernel
theorem dX3_append_34 : decode cX3_append 34 = .ok (.iconst 1, 1) := by decide +kernel
theorem dX3_append_35 : decode cX3_append 35 = .ok (.iadd, 1) := by decide +kernel
theorem dX3_append_36 : decode cX3_append 36 = .ok (.bipush 61, 2) := by decide +kernel
theorem dX3_append_38 : decode cX3_append 38 = .ok (.invokestatic 66, 3) := by decide +kernel
theorem dX3_append_41 : decode cX3_append 41 = .ok (.putfield 24, 3) := by decide +kernel
theorem dX3_append_44 : decode cX3_append 44 = .ok (.return_, 1) := by decide +kernel
theorem dX3_repeat_0 : decode cX3_repeat 0 = .ok (.aload_n 0, 1) := by decide +kernel
theorem dX3_repeat_1 : decode cX3_repeat 1 = .ok (.getfield 24, 3) := by decide +kernel
theorem dX3_repeat_4 : decode cX3_repeat 4 = .ok (.istore_n 3, 1) := by decide +kernel
theorem dX3_repeat_5 : decode cX3_repeat 5 = .ok (.iconst 1, 1) := by decide +kernel
theorem dX3_repeat_6 : decode cX3_repeat 6 = .ok (.istore 4, 2) := by decide +kernel
theorem dX3_repeat_8 : decode cX3_repeat 8 = .ok (.iload 4, 2) := by decide +kernel
theorem dX3_repeat_10 : decode cX3_repeat 10 = .ok (.iload_n 2, 1) := by decide +kernel
theorem dX3_repeat_11 : decode cX3_repeat 11 = .ok (.if_icmp .ge 64, 3) := by decide +kernel
theorem dX3_repeat_14 : decode cX3_repeat 14 = .ok (.iload_n 1, 1) := by decide +kernel
theorem dX3_repeat_15 : decode cX3_repeat 15 = .ok (.istore 5, 2) := by decide +kernel
theorem dX3_repeat_17 : decode cX3_repeat 17 = .ok (.iload 5, 2) := by decide +kernel
theorem dX3_repeat_19 : decode cX3_repeat 19 = .ok (.iload_n 3, 1) := by decide +kernel
theorem dX3_repeat_20 : decode cX3_repeat 20 = .ok (.if_icmp .ge 49, 3) := by decide +kernel
theorem dX3_repeat_23 : decode cX3_repeat 23 = .ok (.aload_n 0, 1) := by decide +kernel
theorem dX3_repeat_24 : decode cX3_repeat 24 = .ok (.iload 5, 2) := by decide +kernel
theorem dX3_repeat_26 : decode cX3_repeat 26 = .ok (.bipush 60, 2) := by decide +kernel
theorem dX3_repeat_28 : decode cX3_repeat 28 = .ok (.if_icmp .ge 13, 3) := by decide +kernel
theorem dX3_repeat_31 : decode cX3_repeat 31 = .ok (.aload_n 0, 1) := by decide +kernel
theorem dX3_repeat_32 : decode cX3_repeat 32 = .ok (.getfield 11, 3) := by decide +kernel
theorem dX3_repeat_35 : decode cX3_repeat 35 = .ok (.iload 5, 2) := by decide +kernel
theorem dX3_repeat_37 : decode cX3_repeat 37 = .ok (.iaload, 1) := by decide +kernel
theorem dX3_repeat_38 : decode cX3_repeat 38 = .ok (.goto 4, 3) := by decide +kernel
theorem dX3_repeat_41 : decode cX3_repeat 41 = .ok (.iconst 0, 1) := by decide +kernel
theorem dX3_repeat_42 : decode cX3_repeat 42 = .ok (.iload 5, 2) := by decide +kernel
theorem dX3_repeat_44 : decode cX3_repeat 44 = .ok (.bipush 60, 2) := by decide +kernel
theorem dX3_repeat_46 : decode cX3_repeat 46 = .ok (.if_icmp .ge 13, 3) := by decide +kernel
theorem dX3_repeat_49 : decode cX3_repeat 49 = .ok (.aload_n 0, 1) := by decide +kernel
theorem dX3_repeat_50 : decode cX3_repeat 50 = .ok (.getfield 15, 3) := by decide +kernel
theorem dX3_repeat_53 : decode cX3_repeat 53 = .ok (.iload 5, 2) := by decide +kernel
theorem dX3_repeat_55 : decode cX3_repeat 55 = .ok (.iaload, 1) := by decide +kernel
theorem dX3_repeat_56 : decode cX3_repeat 56 = .ok (.goto 4, 3) := by decide +kernel
theorem dX3_repeat_59 : decode cX3_repeat 59 = .ok (.iconst 0, 1) := by decide +kernel
theorem dX3_repeat_60 : decode cX3_repeat 60 = .ok (.invokevirtual 63, 3) := by decide +kernel
theorem dX3_repeat_63 : decode cX3_repeat 63 = .ok (.iinc 5 1, 3) := by decide +kernel
theorem dX3_repeat_66 : decode cX3_repeat 66 = .ok (.goto (-49), 3) := by decide +kernel
theorem dX3_repeat_69 : decode cX3_repeat 69 = .ok (.iinc 4 1, 3) := by decide +kernel
theorem dX3_repeat_72 : decode cX3_repeat 72 = .ok (.goto (-64), 3) := by decide +kernel
theorem dX3_repeat_75 : decode cX3_repeat 75 = .ok (.return_, 1) := by decide +kernel
theorem dX3_copyFrom_0 : decode cX3_copyFrom 0 = .ok (.aload_n 0, 1) := by decide +kernel
theorem dX3_copyFrom_1 : decode cX3_copyFrom 1 = .ok (.aload_n 1, 1) := by decide +kernel
theorem dX3_copyFrom_2 : decode cX3_copyFrom 2 = .ok (.getfield 24, 3) := by decide +kernel
theorem dX3_copyFrom_5 : decode cX3_copyFrom 5 = .ok (.putfield 24, 3) := by decide +kernel
theorem dX3_copyFrom_8 : decode cX3_copyFrom 8 = .ok (.aload_n 1, 1) := by decide +kernel
theorem dX3_copyFrom_9 : decode cX3_copyFrom 9 = .ok (.getfield 11, 3) := by decide +kernel
theorem dX3_copyFrom_12 : decode cX3_copyFrom 12 = .ok (.iconst 0, 1) := by decide +kernel
theorem dX3_copyFrom_13 : decode cX3_copyFrom 13 = .ok (.aload_n 0, 1) := by decide +kernel
theorem dX3_copyFrom_14 : decode cX3_copyFrom 14 = .ok (.getfield 11, 3) := by decide +kernel
theorem dX3_copyFrom_17 : decode cX3_copyFrom 17 = .ok (.iconst 0, 1) := by decide +kernel
theorem dX3_copyFrom_18 : decode cX3_copyFrom 18 = .ok (.bipush 60, 2) := by decide +kernel
theorem dX3_copyFrom_20 : decode cX3_copyFrom 20 = .ok (.invokestatic 71, 3) := by decide +kernel
theorem dX3_copyFrom_23 : decode cX3_copyFrom 23 = .ok (.aload_n 1, 1) := by decide +kernel
theorem dX3_copyFrom_24 : decode cX3_copyFrom 24 = .ok (.getfield 15, 3) := by decide +kernel
theorem dX3_copyFrom_27 : decode cX3_copyFrom 27 = .ok (.iconst 0, 1) := by decide +kernel
theorem dX3_copyFrom_28 : decode cX3_copyFrom 28 = .ok (.aload_n 0, 1) := by decide +kernel
theorem dX3_copyFrom_29 : decode cX3_copyFrom 29 = .ok (.getfield 15, 3) := by decide +kernel
theorem dX3_copyFrom_32 : decode cX3_copyFrom 32 = .ok (.iconst 0, 1) := by decide +kernel
theorem dX3_copyFrom_33 : decode cX3_copyFrom 33 = .ok (.bipush 60, 2) := by decide +kernel
theorem dX3_copyFrom_35 : decode cX3_copyFrom 35 = .ok (.invokestatic 71, 3) := by decide +kernel
theorem dX3_copyFrom_38 : decode cX3_copyFrom 38 = .ok (.return_, 1) := by decide +kernel
theorem dX4_init_0 : decode cX4_init 0 = .ok (.aload_n 0, 1) := by decide +kernel
theorem dX4_init_1 : decode cX4_init 1 = .ok (.invokespecial 3, 3) := by decide +kernel
theorem dX4_init_4 : decode cX4_init 4 = .ok (.aload_n 0, 1) := by decide +kernel
theorem dX4_init_5 : decode cX4_init 5 = .ok (.bipush 16, 2) := by decide +kernel
theorem dX4_init_7 : decode cX4_init 7 = .ok (.newarray .int, 2) := by decide +kernel
theorem dX4_init_9 : decode cX4_init 9 = .ok (.putfield 11, 3) := by decide +kernel
theorem dX4_init_12 : decode cX4_init 12 = .ok (.aload_n 0, 1) := by decide +kernel
theorem dX4_init_13 : decode cX4_init 13 = .ok (.bipush 16, 2) := by decide +kernel
theorem dX4_init_15 : decode cX4_init 15 = .ok (.newarray .int, 2) := by decide +kernel
theorem dX4_init_17 : decode cX4_init 17 = .ok (.putfield 15, 3) := by decide +kernel
theorem dX4_init_20 : decode cX4_init 20 = .ok (.aload_n 0, 1) := by decide +kernel
theorem dX4_init_21 : decode cX4_init 21 = .ok (.bipush 16, 2) := by decide +kernel
theorem dX4_init_23 : decode cX4_init 23 = .ok (.newarray .int, 2) := by decide +kernel
theorem dX4_init_25 : decode cX4_init 25 = .ok (.putfield 18, 3) := by decide +kernel
theorem dX4_init_28 : decode cX4_init 28 = .ok (.aload_n 0, 1) := by decide +kernel
theorem dX4_init_29 : decode cX4_init 29 = .ok (.bipush 16, 2) := by decide +kernel
theorem dX4_init_31 : decode cX4_init 31 = .ok (.newarray .int, 2) := by decide +kernel
theorem dX4_init_33 : decode cX4_init 33 = .ok (.putfield 21, 3) := by decide +kernel
theorem dX4_init_36 : decode cX4_init 36 = .ok (.aload_n 0, 1) := by decide +kernel
theorem dX4_init_37 : decode cX4_init 37 = .ok (.sipush 400, 3) := by decide +kernel
theorem dX4_init_40 : decode cX4_init 40 = .ok (.newarray .int, 2) := by decide +kernel
theorem dX4_init_42 : decode cX4_init 42 = .ok (.putfield 26, 3) := by decide +kernel
theorem dX4_init_45 : decode cX4_init 45 = .ok (.aload_n 0, 1) := by decide +kernel
theorem dX4_init_46 : decode cX4_init 46 = .ok (.bipush 64, 2) := by decide +kernel
theorem dX4_init_48 : decode cX4_init 48 = .ok (.newarray .int, 2) := by decide +kernel
theorem dX4_init_50 : decode cX4_init 50 = .ok (.putfield 29, 3) := by decide +kernel
theorem dX4_init_53 : decode cX4_init 53 = .ok (.return_, 1) := by decide +kernel
theorem dX4_read_0 : decode cX4_read 0 = .ok (.aload_n 0, 1) := by decide +kernel
theorem dX4_read_1 : decode cX4_read 1 = .ok (.iconst 0, 1) := by decide +kernel
theorem dX4_read_2 : decode cX4_read 2 = .ok (.putfield 32, 3) := by decide +kernel
theorem dX4_read_5 : decode cX4_read 5 = .ok (.aload_n 0, 1) := by decide +kernel
theorem dX4_read_6 : decode cX4_read 6 = .ok (.iconst 0, 1) := by decide +kernel
theorem dX4_read_7 : decode cX4_read 7 = .ok (.putfield 36, 3) := by decide +kernel
theorem dX4_read_10 : decode cX4_read 10 = .ok (.iconst 0, 1) := by decide +kernel
theorem dX4_read_11 : decode cX4_read 11 = .ok (.istore_n 2, 1) := by decide +kernel
theorem dX4_read_12 : decode cX4_read 12 = .ok (.iload_n 2, 1) := by decide +kernel
theorem dX4_read_13 : decode cX4_read 13 = .ok (.sipush 400, 3) := by decide +kernel
theorem dX4_read_16 : decode cX4_read 16 = .ok (.if_icmp .gt 167, 3) := by decide +kernel
theorem dX4_read_19 : decode cX4_read 19 = .ok (.aload_n 1, 1) := by decide +kernel
theorem dX4_read_20 : decode cX4_read 20 = .ok (.invokevirtual 39, 3) := by decide +kernel
theorem dX4_read_23 : decode cX4_read 23 = .ok (.sipush 202, 3) := by decide +kernel
theorem dX4_read_26 : decode cX4_read 26 = .ok (.if_icmp .eq 157, 3) := by decide +kernel
theorem dX4_read_29 : decode cX4_read 29 = .ok (.aload_n 1, 1) := by decide +kernel
theorem dX4_read_30 : decode cX4_read 30 = .ok (.invokevirtual 39, 3) := by decide +kernel
theorem dX4_read_33 : decode cX4_read 33 = .ok (.sipush 304, 3) := by decide +kernel
theorem dX4_read_36 : decode cX4_read 36 = .ok (.isub, 1) := by decide +kernel
theorem dX4_read_37 : decode cX4_read 37 = .ok (.istore_n 3, 1) := by decide +kernel
theorem dX4_read_38 : decode cX4_read 38 = .ok (.iload_n 3, 1) := by decide +kernel
theorem dX4_read_39 : decode cX4_read 39 = .ok (.ifCond .lt 8, 3) := by decide +kernel
theorem dX4_read_42 : decode cX4_read 42 = .ok (.iload_n 3, 1) := by decide +kernel
theorem dX4_read_43 : decode cX4_read 43 = .ok (.iconst 2, 1) := by decide +kernel
theorem dX4_read_44 : decode cX4_read 44 = .ok (.if_icmp .le 9, 3) := by decide +kernel
theorem dX4_read_47 : decode cX4_read 47 = .ok (.aload_n 1, 1) := by decide +kernel
theorem dX4_read_48 : decode cX4_read 48 = .ok (.iconst 1, 1) := by decide +kernel
theorem dX4_read_49 : decode cX4_read 49 = .ok (.invokevirtual 43, 3) := by decide +kernel
theorem dX4_read_52 : decode cX4_read 52 = .ok (.ireturn, 1) := by decide +kernel
theorem dX4_read_53 : decode cX4_read 53 = .ok (.aload_n 0, 1) := by decide +kernel
theorem dX4_read_54 : decode cX4_read 54 = .ok (.getfield 32, 3) := by decide +kernel
theorem dX4_read_57 : decode cX4_read 57 = .ok (.bipush 16, 2) := by decide +kernel
theorem dX4_read_59 : decode cX4_read 59 = .ok (.if_icmp .lt 9, 3) := by decide +kernel
theorem dX4_read_62 : decode cX4_read 62 = .ok (.aload_n 1, 1) := by decide +kernel
theorem dX4_read_63 : decode cX4_read 63 = .ok (.iconst 3, 1) := by decide +kernel
theorem dX4_read_64 : decode cX4_read 64 = .ok (.invokevirtual 43, 3) := by decide +kernel
theorem dX4_read_67 : decode cX4_read 67 = .ok (.ireturn, 1) := by decide +kernel
theorem dX4_read_68 : decode cX4_read 68 = .ok (.aload_n 1, 1) := by decide +kernel
theorem dX4_read_69 : decode cX4_read 69 = .ok (.invokevirtual 47, 3) := by decide +kernel
theorem dX4_read_72 : decode cX4_read 72 = .ok (.aload_n 0, 1) := by decide +kernel
theorem dX4_read_73 : decode cX4_read 73 = .ok (.getfield 11, 3) := by decide +kernel
theorem dX4_read_76 : decode cX4_read 76 = .ok (.aload_n 0, 1) := by decide +kernel
theorem dX4_read_77 : decode cX4_read 77 = .ok (.getfield 32, 3) := by decide +kernel
theorem dX4_read_80 : decode cX4_read 80 = .ok (.iload_n 3, 1) := by decide +kernel
theorem dX4_read_81 : decode cX4_read 81 = .ok (.iastore, 1) := by decide +kernel
theorem dX4_read_82 : decode cX4_read 82 = .ok (.aload_n 0, 1) := by decide +kernel
theorem dX4_read_83 : decode cX4_read 83 = .ok (.getfield 15, 3) := by decide +kernel
theorem dX4_read_86 : decode cX4_read 86 = .ok (.aload_n 0, 1) := by decide +kernel
theorem dX4_read_87 : decode cX4_read 87 = .ok (.getfield 32, 3) := by decide +kernel
theorem dX4_read_90 : decode cX4_read 90 = .ok (.aload_n 0, 1) := by decide +kernel
theorem dX4_read_91 : decode cX4_read 91 = .ok (.getfield 36, 3) := by decide +kernel
theorem dX4_read_94 : decode cX4_read 94 = .ok (.iastore, 1) := by decide +kernel
theorem dX4_read_95 : decode cX4_read 95 = .ok (.aload_n 0, 1) := by decide +kernel
theorem dX4_read_96 : decode cX4_read 96 = .ok (.aload_n 1, 1) := by decide +kernel
theorem dX4_read_97 : decode cX4_read 97 = .ok (.invokevirtual 50, 3) := by decide +kernel
theorem dX4_read_100 : decode cX4_read 100 = .ok (.ifCond .ne 5, 3) := by decide +kernel
theorem dX4_read_103 : decode cX4_read 103 = .ok (.iconst 0, 1) := by decide +kernel
theorem dX4_read_104 : decode cX4_read 104 = .ok (.ireturn, 1) := by decide +kernel
theorem dX4_read_105 : decode cX4_read 105 = .ok (.aload_n 0, 1) := by decide +kernel
theorem dX4_read_106 : decode cX4_read 106 = .ok (.getfield 18, 3) := by decide +kernel
theorem dX4_read_109 : decode cX4_read 109 = .ok (.aload_n 0, 1) := by decide +kernel
theorem dX4_read_110 : decode cX4_read 110 = .ok (.getfield 32, 3) := by decide +kernel
theorem dX4_read_113 : decode cX4_read 113 = .ok (.aload_n 0, 1) := by decide +kernel
theorem dX4_read_114 : decode cX4_read 114 = .ok (.getfield 36, 3) := by decide +kernel
theorem dX4_read_117 : decode cX4_read 117 = .ok (.iastore, 1) := by decide +kernel
theorem dX4_read_118 : decode cX4_read 118 = .ok (.aload_n 1, 1) := by decide +kernel
theorem dX4_read_119 : decode cX4_read 119 = .ok (.invokevirtual 39, 3) := by decide +kernel
theorem dX4_read_122 : decode cX4_read 122 = .ok (.sipush 307, 3) := by decide +kernel
theorem dX4_read_125 : decode cX4_read 125 = .ok (.if_icmp .ne 18, 3) := by decide +kernel
theorem dX4_read_128 : decode cX4_read 128 = .ok (.aload_n 1, 1) := by decide +kernel
theorem dX4_read_129 : decode cX4_read 129 = .ok (.invokevirtual 47, 3) := by decide +kernel
theorem dX4_read_132 : decode cX4_read 132 = .ok (.aload_n 0, 1) := by decide +kernel
theorem dX4_read_133 : decode cX4_read 133 = .ok (.aload_n 1, 1) := by decide +kernel
theorem dX4_read_134 : decode cX4_read 134 = .ok (.iconst 0, 1) := by decide +kernel
theorem dX4_read_135 : decode cX4_read 135 = .ok (.invokevirtual 54, 3) := by decide +kernel
theorem dX4_read_138 : decode cX4_read 138 = .ok (.ifCond .ne 5, 3) := by decide +kernel
theorem dX4_read_141 : decode cX4_read 141 = .ok (.iconst 0, 1) := by decide +kernel
theorem dX4_read_142 : decode cX4_read 142 = .ok (.ireturn, 1) := by decide +kernel
theorem dX4_read_143 : decode cX4_read 143 = .ok (.aload_n 0, 1) := by decide +kernel
theorem dX4_read_144 : decode cX4_read 144 = .ok (.getfield 21, 3) := by decide +kernel
theorem dX4_read_147 : decode cX4_read 147 = .ok (.aload_n 0, 1) := by decide +kernel
theorem dX4_read_148 : decode cX4_read 148 = .ok (.getfield 32, 3) := by decide +kernel
theorem dX4_read_151 : decode cX4_read 151 = .ok (.aload_n 0, 1) := by decide +kernel
theorem dX4_read_152 : decode cX4_read 152 = .ok (.getfield 36, 3) := by decide +kernel
theorem dX4_read_155 : decode cX4_read 155 = .ok (.iastore, 1) := by decide +kernel
theorem dX4_read_156 : decode cX4_read 156 = .ok (.aload_n 0, 1) := by decide +kernel
theorem dX4_read_157 : decode cX4_read 157 = .ok (.dup, 1) := by decide +kernel
theorem dX4_read_158 : decode cX4_read 158 = .ok (.getfield 32, 3) := by decide +kernel
theorem dX4_read_161 : decode cX4_read 161 = .ok (.iconst 1, 1) := by decide +kernel
theorem dX4_read_162 : decode cX4_read 162 = .ok (.iadd, 1) := by decide +kernel
theorem dX4_read_163 : decode cX4_read 163 = .ok (.putfield 32, 3) := by decide +kernel
theorem dX4_read_166 : decode cX4_read 166 = .ok (.aload_n 1, 1) := by decide +kernel
theorem dX4_read_167 : decode cX4_read 167 = .ok (.bipush 59, 2) := by decide +kernel
theorem dX4_read_169 : decode cX4_read 169 = .ok (.invokevirtual 58, 3) := by decide +kernel
theorem dX4_read_172 : decode cX4_read 172 = .ok (.ifCond .ne 5, 3) := by decide +kernel
theorem dX4_read_175 : decode cX4_read 175 = .ok (.iconst 0, 1) := by decide +kernel
theorem dX4_read_176 : decode cX4_read 176 = .ok (.ireturn, 1) := by decide +kernel
theorem dX4_read_177 : decode cX4_read 177 = .ok (.iinc 2 1, 3) := by decide +kernel
theorem dX4_read_180 : decode cX4_read 180 = .ok (.goto (-168), 3) := by decide +kernel
theorem dX4_read_183 : decode cX4_read 183 = .ok (.iconst 1, 1) := by decide +kernel
theorem dX4_read_184 : decode cX4_read 184 = .ok (.ireturn, 1) := by decide +kernel
theorem dX4_readChoice_0 : decode cX4_readChoice 0 = .ok (.iconst 0, 1) := by decide +kernel
theorem dX4_readChoice_1 : decode cX4_readChoice 1 = .ok (.istore_n 3, 1) := by decide +kernel
theorem dX4_readChoice_2 : decode cX4_readChoice 2 = .ok (.iconst 0, 1) := by decide +kernel
theorem dX4_readChoice_3 : decode cX4_readChoice 3 = .ok (.istore 4, 2) := by decide +kernel
theorem dX4_readChoice_5 : decode cX4_readChoice 5 = .ok (.iconst 0, 1) := by decide +kernel
theorem dX4_readChoice_6 : decode cX4_readChoice 6 = .ok (.istore 5, 2) := by decide +kernel
theorem dX4_readChoice_8 : decode cX4_readChoice 8 = .ok (.iload 5, 2) := by decide +kernel
theorem dX4_readChoice_10 : decode cX4_readChoice 10 = .ok (.sipush 400, 3) := by decide +kernel
theorem dX4_readChoice_13 : decode cX4_readChoice 13 = .ok (.if_icmp .gt 91, 3) := by decide +kernel
theorem dX4_readChoice_16 : decode cX4_readChoice 16 = .ok (.aload_n 0, 1) := by decide +kernel
theorem dX4_readChoice_17 : decode cX4_readChoice 17 = .ok (.aload_n 1, 1) := by decide +kernel
theorem dX4_readChoice_18 : decode cX4_readChoice 18 = .ok (.iload_n 2, 1) := by decide +kernel
theorem dX4_readChoice_19 : decode cX4_readChoice 19 = .ok (.invokevirtual 61, 3) := by decide +kernel
theorem dX4_readChoice_22 : decode cX4_readChoice 22 = .ok (.ifCond .ne 5, 3) := by decide +kernel
theorem dX4_readChoice_25 : decode cX4_readChoice 25 = .ok (.iconst 0, 1) := by decide +kernel
theorem dX4_readChoice_26 : decode cX4_readChoice 26 = .ok (.ireturn, 1) := by decide +kernel
theorem dX4_readChoice_27 : decode cX4_readChoice 27 = .ok (.iload_n 3, 1) := by decide +kernel
theorem dX4_readChoice_28 : decode cX4_readChoice 28 = .ok (.ifCond .eq 10, 3) := by decide +kernel
theorem dX4_readChoice_31 : decode cX4_readChoice 31 = .ok (.aload_n 0, 1) := by decide +kernel
theorem dX4_readChoice_32 : decode cX4_readChoice 32 = .ok (.sipush 20038, 3) := by decide +kernel
theorem dX4_readChoice_35 : decode cX4_readChoice 35 = .ok (.invokevirtual 64, 3) := by decide +kernel
theorem dX4_readChoice_38 : decode cX4_readChoice 38 = .ok (.aload_n 1, 1) := by decide +kernel
theorem dX4_readChoice_39 : decode cX4_readChoice 39 = .ok (.invokevirtual 39, 3) := by decide +kernel
theorem dX4_readChoice_42 : decode cX4_readChoice 42 = .ok (.sipush 309, 3) := by decide +kernel
theorem dX4_readChoice_45 : decode cX4_readChoice 45 = .ok (.if_icmp .ne 7, 3) := by decide +kernel
theorem dX4_readChoice_48 : decode cX4_readChoice 48 = .ok (.iconst 1, 1) := by decide +kernel
theorem dX4_readChoice_49 : decode cX4_readChoice 49 = .ok (.goto 4, 3) := by decide +kernel
theorem dX4_readChoice_52 : decode cX4_readChoice 52 = .ok (.iconst 0, 1) := by decide +kernel
theorem dX4_readChoice_53 : decode cX4_readChoice 53 = .ok (.istore_n 3, 1) := by decide +kernel
theorem dX4_readChoice_54 : decode cX4_readChoice 54 = .ok (.iload_n 3, 1) := by decide +kernel
theorem dX4_readChoice_55 : decode cX4_readChoice 55 = .ok (.ifCond .ne 39, 3) := by decide +kernel
theorem dX4_readChoice_58 : decode cX4_readChoice 58 = .ok (.iload 4, 2) := by decide +kernel
theorem dX4_readChoice_60 : decode cX4_readChoice 60 = .ok (.ifCond .eq 10, 3) := by decide +kernel
theorem dX4_readChoice_63 : decode cX4_readChoice 63 = .ok (.aload_n 0, 1) := by decide +kernel
theorem dX4_readChoice_64 : decode cX4_readChoice 64 = .ok (.sipush 20124, 3) := by decide +kernel
theorem dX4_readChoice_67 : decode cX4_readChoice 67 = .ok (.invokevirtual 64, 3) := by decide +kernel
theorem dX4_readChoice_70 : decode cX4_readChoice 70 = .ok (.aload_n 1, 1) := by decide +kernel
theorem dX4_readChoice_71 : decode cX4_readChoice 71 = .ok (.invokevirtual 39, 3) := by decide +kernel
theorem dX4_readChoice_74 : decode cX4_readChoice 74 = .ok (.sipush 308, 3) := by decide +kernel
theorem dX4_readChoice_77 : decode cX4_readChoice 77 = .ok (.if_icmp .ne 7, 3) := by decide +kernel
theorem dX4_readChoice_80 : decode cX4_readChoice 80 = .ok (.iconst 1, 1) := by decide +kernel
theorem dX4_readChoice_81 : decode cX4_readChoice 81 = .ok (.goto 4, 3) := by decide +kernel
theorem dX4_readChoice_84 : decode cX4_readChoice 84 = .ok (.iconst 0, 1) := by decide +kernel
theorem dX4_readChoice_85 : decode cX4_readChoice 85 = .ok (.istore 4, 2) := by decide +kernel
theorem dX4_readChoice_87 : decode cX4_readChoice 87 = .ok (.iload 4, 2) := by decide +kernel
theorem dX4_readChoice_89 : decode cX4_readChoice 89 = .ok (.ifCond .ne 5, 3) := by decide +kernel
theorem dX4_readChoice_92 : decode cX4_readChoice 92 = .ok (.iconst 1, 1) := by decide +kernel
theorem dX4_readChoice_93 : decode cX4_readChoice 93 = .ok (.ireturn, 1) := by decide +kernel
theorem dX4_readChoice_94 : decode cX4_readChoice 94 = .ok (.aload_n 1, 1) := by decide +kernel
theorem dX4_readChoice_95 : decode cX4_readChoice 95 = .ok (.invokevirtual 47, 3) := by decide +kernel
theorem dX4_readChoice_98 : decode cX4_readChoice 98 = .ok (.iinc 5 1, 3) := by decide +kernel
theorem dX4_readChoice_101 : decode cX4_readChoice 101 = .ok (.goto (-93), 3) := by decide +kernel
theorem dX4_readChoice_104 : decode cX4_readChoice 104 = .ok (.iconst 0, 1) := by decide +kernel
theorem dX4_readChoice_105 : decode cX4_readChoice 105 = .ok (.ireturn, 1) := by decide +kernel
theorem dX4_readClaim_0 : decode cX4_readClaim 0 = .ok (.aload_n 1, 1) := by decide +kernel
theorem dX4_readClaim_1 : decode cX4_readClaim 1 = .ok (.invokevirtual 39, 3) := by decide +kernel
theorem dX4_readClaim_4 : decode cX4_readClaim 4 = .ok (.istore_n 3, 1) := by decide +kernel
theorem dX4_readClaim_5 : decode cX4_readClaim 5 = .ok (.iload_n 3, 1) := by decide +kernel
theorem dX4_readClaim_6 : decode cX4_readClaim 6 = .ok (.sipush 310, 3) := by decide +kernel
theorem dX4_readClaim_9 : decode cX4_readClaim 9 = .ok (.if_icmp .eq 9, 3) := by decide +kernel
theorem dX4_readClaim_12 : decode cX4_readClaim 12 = .ok (.iload_n 3, 1) := by decide +kernel
theorem dX4_readClaim_13 : decode cX4_readClaim 13 = .ok (.bipush 40, 2) := by decide +kernel
theorem dX4_readClaim_15 : decode cX4_readClaim 15 = .ok (.if_icmp .ne 71, 3) := by decide +kernel
theorem dX4_readClaim_18 : decode cX4_readClaim 18 = .ok (.iload_n 2, 1) := by decide +kernel
theorem dX4_readClaim_19 : decode cX4_readClaim 19 = .ok (.bipush 8, 2) := by decide +kernel
theorem dX4_readClaim_21 : decode cX4_readClaim 21 = .ok (.if_icmp .lt 9, 3) := by decide +kernel
theorem dX4_readClaim_24 : decode cX4_readClaim 24 = .ok (.aload_n 1, 1) := by decide +kernel
theorem dX4_readClaim_25 : decode cX4_readClaim 25 = .ok (.iconst 3, 1) := by decide +kernel
theorem dX4_readClaim_26 : decode cX4_readClaim 26 = .ok (.invokevirtual 43, 3) := by decide +kernel
theorem dX4_readClaim_29 : decode cX4_readClaim 29 = .ok (.ireturn, 1) := by decide +kernel
theorem dX4_readClaim_30 : decode cX4_readClaim 30 = .ok (.aload_n 1, 1) := by decide +kernel
theorem dX4_readClaim_31 : decode cX4_readClaim 31 = .ok (.invokevirtual 47, 3) := by decide +kernel
theorem dX4_readClaim_34 : decode cX4_readClaim 34 = .ok (.iload_n 3, 1) := by decide +kernel
theorem dX4_readClaim_35 : decode cX4_readClaim 35 = .ok (.bipush 40, 2) := by decide +kernel
theorem dX4_readClaim_37 : decode cX4_readClaim 37 = .ok (.if_icmp .ne 29, 3) := by decide +kernel
theorem dX4_readClaim_40 : decode cX4_readClaim 40 = .ok (.aload_n 0, 1) := by decide +kernel
theorem dX4_readClaim_41 : decode cX4_readClaim 41 = .ok (.aload_n 1, 1) := by decide +kernel
theorem dX4_readClaim_42 : decode cX4_readClaim 42 = .ok (.iload_n 2, 1) := by decide +kernel
theorem dX4_readClaim_43 : decode cX4_readClaim 43 = .ok (.iconst 1, 1) := by decide +kernel
theorem dX4_readClaim_44 : decode cX4_readClaim 44 = .ok (.iadd, 1) := by decide +kernel
theorem dX4_readClaim_45 : decode cX4_readClaim 45 = .ok (.invokevirtual 54, 3) := by decide +kernel
theorem dX4_readClaim_48 : decode cX4_readClaim 48 = .ok (.ifCond .eq 16, 3) := by decide +kernel
theorem dX4_readClaim_51 : decode cX4_readClaim 51 = .ok (.aload_n 1, 1) := by decide +kernel
theorem dX4_readClaim_52 : decode cX4_readClaim 52 = .ok (.bipush 41, 2) := by decide +kernel
theorem dX4_readClaim_54 : decode cX4_readClaim 54 = .ok (.invokevirtual 58, 3) := by decide +kernel
theorem dX4_readClaim_57 : decode cX4_readClaim 57 = .ok (.ifCond .eq 7, 3) := by decide +kernel
theorem dX4_readClaim_60 : decode cX4_readClaim 60 = .ok (.iconst 1, 1) := by decide +kernel
theorem dX4_readClaim_61 : decode cX4_readClaim 61 = .ok (.goto 4, 3) := by decide +kernel
theorem dX4_readClaim_64 : decode cX4_readClaim 64 = .ok (.iconst 0, 1) := by decide +kernel
theorem dX4_readClaim_65 : decode cX4_readClaim 65 = .ok (.ireturn, 1) := by decide +kernel
theorem dX4_readClaim_66 : decode cX4_readClaim 66 = .ok (.aload_n 0, 1) := by decide +kernel
theorem dX4_readClaim_67 : decode cX4_readClaim 67 = .ok (.aload_n 1, 1) := by decide +kernel
theorem dX4_readClaim_68 : decode cX4_readClaim 68 = .ok (.iload_n 2, 1) := by decide +kernel
theorem dX4_readClaim_69 : decode cX4_readClaim 69 = .ok (.iconst 1, 1) := by decide +kernel
theorem dX4_readClaim_70 : decode cX4_readClaim 70 = .ok (.iadd, 1) := by decide +kernel
theorem dX4_readClaim_71 : decode cX4_readClaim 71 = .ok (.invokevirtual 61, 3) := by decide +kernel
theorem dX4_readClaim_74 : decode cX4_readClaim 74 = .ok (.istore 4, 2) := by decide +kernel
theorem dX4_readClaim_76 : decode cX4_readClaim 76 = .ok (.aload_n 0, 1) := by decide +kernel
theorem dX4_readClaim_77 : decode cX4_readClaim 77 = .ok (.sipush 20033, 3) := by decide +kernel
theorem dX4_readClaim_80 : decode cX4_readClaim 80 = .ok (.invokevirtual 64, 3) := by decide +kernel
theorem dX4_readClaim_83 : decode cX4_readClaim 83 = .ok (.iload 4, 2) := by decide +kernel
theorem dX4_readClaim_85 : decode cX4_readClaim 85 = .ok (.ireturn, 1) := by decide +kernel
theorem dX4_readClaim_86 : decode cX4_readClaim 86 = .ok (.aload_n 0, 1) := by decide +kernel
theorem dX4_readClaim_87 : decode cX4_readClaim 87 = .ok (.aload_n 1, 1) := by decide +kernel
theorem dX4_readClaim_88 : decode cX4_readClaim 88 = .ok (.invokevirtual 50, 3) := by decide +kernel
theorem dX4_readClaim_91 : decode cX4_readClaim 91 = .ok (.ifCond .ne 5, 3) := by decide +kernel
theorem dX4_readClaim_94 : decode cX4_readClaim 94 = .ok (.iconst 0, 1) := by decide +kernel
theorem dX4_readClaim_95 : decode cX4_readClaim 95 = .ok (.ireturn, 1) := by decide +kernel
theorem dX4_readClaim_96 : decode cX4_readClaim 96 = .ok (.aload_n 1, 1) := by decide +kernel
theorem dX4_readClaim_97 : decode cX4_readClaim 97 = .ok (.invokevirtual 39, 3) := by decide +kernel
theorem dX4_readClaim_100 : decode cX4_readClaim 100 = .ok (.istore 4, 2) := by decide +kernel
theorem dX4_readClaim_102 : decode cX4_readClaim 102 = .ok (.iload 4, 2) := by decide +kernel
theorem dX4_readClaim_104 : decode cX4_readClaim 104 = .ok (.bipush 60, 2) := by decide +kernel
theorem dX4_readClaim_106 : decode cX4_readClaim 106 = .ok (.if_icmp .eq 23, 3) := by decide +kernel
theorem dX4_readClaim_109 : decode cX4_readClaim 109 = .ok (.iload 4, 2) := by decide +kernel
theorem dX4_readClaim_111 : decode cX4_readClaim 111 = .ok (.bipush 61, 2) := by decide +kernel
theorem dX4_readClaim_113 : decode cX4_readClaim 113 = .ok (.if_icmp .eq 16, 3) := by decide +kernel
theorem dX4_readClaim_116 : decode cX4_readClaim 116 = .ok (.iload 4, 2) := by decide +kernel
theorem dX4_readClaim_118 : decode cX4_readClaim 118 = .ok (.bipush 62, 2) := by decide +kernel
theorem dX4_readClaim_120 : decode cX4_readClaim 120 = .ok (.if_icmp .eq 9, 3) := by decide +kernel
theorem dX4_readClaim_123 : decode cX4_readClaim 123 = .ok (.aload_n 1, 1) := by decide +kernel
theorem dX4_readClaim_124 : decode cX4_readClaim 124 = .ok (.iconst 1, 1) := by decide +kernel
theorem dX4_readClaim_125 : decode cX4_readClaim 125 = .ok (.invokevirtual 43, 3) := by decide +kernel
theorem dX4_readClaim_128 : decode cX4_readClaim 128 = .ok (.ireturn, 1) := by decide +kernel
theorem dX4_readClaim_129 : decode cX4_readClaim 129 = .ok (.aload_n 1, 1) := by decide +kernel
theorem dX4_readClaim_130 : decode cX4_readClaim 130 = .ok (.invokevirtual 47, 3) := by decide +kernel
theorem dX4_readClaim_133 : decode cX4_readClaim 133 = .ok (.aload_n 0, 1) := by decide +kernel
theorem dX4_readClaim_134 : decode cX4_readClaim 134 = .ok (.aload_n 1, 1) := by decide +kernel
theorem dX4_readClaim_135 : decode cX4_readClaim 135 = .ok (.invokevirtual 50, 3) := by decide +kernel
theorem dX4_readClaim_138 : decode cX4_readClaim 138 = .ok (.istore 5, 2) := by decide +kernel
theorem dX4_readClaim_140 : decode cX4_readClaim 140 = .ok (.aload_n 0, 1) := by decide +kernel
theorem dX4_readClaim_141 : decode cX4_readClaim 141 = .ok (.sipush 20000, 3) := by decide +kernel
theorem dX4_readClaim_144 : decode cX4_readClaim 144 = .ok (.iload 4, 2) := by decide +kernel
theorem dX4_readClaim_146 : decode cX4_readClaim 146 = .ok (.iadd, 1) := by decide +kernel
theorem dX4_readClaim_147 : decode cX4_readClaim 147 = .ok (.invokevirtual 64, 3) := by decide +kernel
theorem dX4_readClaim_150 : decode cX4_readClaim 150 = .ok (.iload 5, 2) := by decide +kernel
theorem dX4_readClaim_152 : decode cX4_readClaim 152 = .ok (.ireturn, 1) := by decide +kernel
theorem dX4_readSum_0 : decode cX4_readSum 0 = .ok (.iconst 0, 1) := by decide +kernel
theorem dX4_readSum_1 : decode cX4_readSum 1 = .ok (.istore_n 2, 1) := by decide +kernel
theorem dX4_readSum_2 : decode cX4_readSum 2 = .ok (.iconst 0, 1) := by decide +kernel
theorem dX4_readSum_3 : decode cX4_readSum 3 = .ok (.istore_n 3, 1) := by decide +kernel
theorem dX4_readSum_4 : decode cX4_readSum 4 = .ok (.iconst 0, 1) := by decide +kernel
theorem dX4_readSum_5 : decode cX4_readSum 5 = .ok (.istore 4, 2) := by decide +kernel
theorem dX4_readSum_7 : decode cX4_readSum 7 = .ok (.iload 4, 2) := by decide +kernel
theorem dX4_readSum_9 : decode cX4_readSum 9 = .ok (.sipush 400, 3) := by decide +kernel
theorem dX4_readSum_12 : decode cX4_readSum 12 = .ok (.if_icmp .gt 98, 3) := by decide +kernel
theorem dX4_readSum_15 : decode cX4_readSum 15 = .ok (.aload_n 0, 1) := by decide +kernel
theorem dX4_readSum_16 : decode cX4_readSum 16 = .ok (.aload_n 1, 1) := by decide +kernel
theorem dX4_readSum_17 : decode cX4_readSum 17 = .ok (.iload_n 2, 1) := by decide +kernel
theorem dX4_readSum_18 : decode cX4_readSum 18 = .ok (.bipush 47, 2) := by decide +kernel
theorem dX4_readSum_20 : decode cX4_readSum 20 = .ok (.if_icmp .ne 7, 3) := by decide +kernel
theorem dX4_readSum_23 : decode cX4_readSum 23 = .ok (.iconst 1, 1) := by decide +kernel
theorem dX4_readSum_24 : decode cX4_readSum 24 = .ok (.goto 4, 3) := by decide +kernel
theorem dX4_readSum_27 : decode cX4_readSum 27 = .ok (.iconst 0, 1) := by decide +kernel
theorem dX4_readSum_28 : decode cX4_readSum 28 = .ok (.invokevirtual 68, 3) := by decide +kernel
theorem dX4_readSum_31 : decode cX4_readSum 31 = .ok (.ifCond .ne 5, 3) := by decide +kernel
theorem dX4_readSum_34 : decode cX4_readSum 34 = .ok (.iconst 0, 1) := by decide +kernel
theorem dX4_readSum_35 : decode cX4_readSum 35 = .ok (.ireturn, 1) := by decide +kernel
theorem dX4_readSum_36 : decode cX4_readSum 36 = .ok (.iload_n 2, 1) := by decide +kernel
theorem dX4_readSum_37 : decode cX4_readSum 37 = .ok (.ifCond .eq 12, 3) := by decide +kernel
theorem dX4_readSum_40 : decode cX4_readSum 40 = .ok (.aload_n 0, 1) := by decide +kernel
theorem dX4_readSum_41 : decode cX4_readSum 41 = .ok (.sipush 20000, 3) := by decide +kernel
theorem dX4_readSum_44 : decode cX4_readSum 44 = .ok (.iload_n 2, 1) := by decide +kernel
theorem dX4_readSum_45 : decode cX4_readSum 45 = .ok (.iadd, 1) := by decide +kernel
theorem dX4_readSum_46 : decode cX4_readSum 46 = .ok (.invokevirtual 64, 3) := by decide +kernel
theorem dX4_readSum_49 : decode cX4_readSum 49 = .ok (.aload_n 1, 1) := by decide +kernel
theorem dX4_readSum_50 : decode cX4_readSum 50 = .ok (.invokevirtual 39, 3) := by decide +kernel
theorem dX4_readSum_53 : decode cX4_readSum 53 = .ok (.istore_n 2, 1) := by decide +kernel
theorem dX4_readSum_54 : decode cX4_readSum 54 = .ok (.iload_n 2, 1) := by decide +kernel
theorem dX4_readSum_55 : decode cX4_readSum 55 = .ok (.bipush 42, 2) := by decide +kernel
theorem dX4_readSum_57 : decode cX4_readSum 57 = .ok (.if_icmp .eq 43, 3) := by decide +kernel
theorem dX4_readSum_60 : decode cX4_readSum 60 = .ok (.iload_n 2, 1) := by decide +kernel
theorem dX4_readSum_61 : decode cX4_readSum 61 = .ok (.bipush 47, 2) := by decide +kernel
theorem dX4_readSum_63 : decode cX4_readSum 63 = .ok (.if_icmp .eq 37, 3) := by decide +kernel
theorem dX4_readSum_66 : decode cX4_readSum 66 = .ok (.iconst 0, 1) := by decide +kernel
theorem dX4_readSum_67 : decode cX4_readSum 67 = .ok (.istore_n 2, 1) := by decide +kernel
theorem dX4_readSum_68 : decode cX4_readSum 68 = .ok (.iload_n 3, 1) := by decide +kernel
theorem dX4_readSum_69 : decode cX4_readSum 69 = .ok (.ifCond .eq 12, 3) := by decide +kernel
theorem dX4_readSum_72 : decode cX4_readSum 72 = .ok (.aload_n 0, 1) := by decide +kernel
theorem dX4_readSum_73 : decode cX4_readSum 73 = .ok (.sipush 20000, 3) := by decide +kernel
theorem dX4_readSum_76 : decode cX4_readSum 76 = .ok (.iload_n 3, 1) := by decide +kernel
theorem dX4_readSum_77 : decode cX4_readSum 77 = .ok (.iadd, 1) := by decide +kernel
theorem dX4_readSum_78 : decode cX4_readSum 78 = .ok (.invokevirtual 64, 3) := by decide +kernel
theorem dX4_readSum_81 : decode cX4_readSum 81 = .ok (.aload_n 1, 1) := by decide +kernel
theorem dX4_readSum_82 : decode cX4_readSum 82 = .ok (.invokevirtual 39, 3) := by decide +kernel
theorem dX4_readSum_85 : decode cX4_readSum 85 = .ok (.istore_n 3, 1) := by decide +kernel
theorem dX4_readSum_86 : decode cX4_readSum 86 = .ok (.iload_n 3, 1) := by decide +kernel
theorem dX4_readSum_87 : decode cX4_readSum 87 = .ok (.bipush 43, 2) := by decide +kernel
theorem dX4_readSum_89 : decode cX4_readSum 89 = .ok (.if_icmp .eq 11, 3) := by decide +kernel
theorem dX4_readSum_92 : decode cX4_readSum 92 = .ok (.iload_n 3, 1) := by decide +kernel
theorem dX4_readSum_93 : decode cX4_readSum 93 = .ok (.bipush 45, 2) := by decide +kernel
theorem dX4_readSum_95 : decode cX4_readSum 95 = .ok (.if_icmp .eq 5, 3) := by decide +kernel
theorem dX4_readSum_98 : decode cX4_readSum 98 = .ok (.iconst 1, 1) := by decide +kernel
theorem dX4_readSum_99 : decode cX4_readSum 99 = .ok (.ireturn, 1) := by decide +kernel
theorem dX4_readSum_100 : decode cX4_readSum 100 = .ok (.aload_n 1, 1) := by decide +kernel
theorem dX4_readSum_101 : decode cX4_readSum 101 = .ok (.invokevirtual 47, 3) := by decide +kernel
theorem dX4_readSum_104 : decode cX4_readSum 104 = .ok (.iinc 4 1, 3) := by decide +kernel
theorem dX4_readSum_107 : decode cX4_readSum 107 = .ok (.goto (-100), 3) := by decide +kernel
theorem dX4_readSum_110 : decode cX4_readSum 110 = .ok (.iconst 0, 1) := by decide +kernel
theorem dX4_readSum_111 : decode cX4_readSum 111 = .ok (.ireturn, 1) := by decide +kernel
theorem dX4_readUnit_0 : decode cX4_readUnit 0 = .ok (.iload_n 2, 1) := by decide +kernel
theorem dX4_readUnit_1 : decode cX4_readUnit 1 = .ok (.ifCond .eq 7, 3) := by decide +kernel
theorem dX4_readUnit_4 : decode cX4_readUnit 4 = .ok (.iconst (-1), 1) := by decide +kernel
theorem dX4_readUnit_5 : decode cX4_readUnit 5 = .ok (.goto 10, 3) := by decide +kernel
theorem dX4_readUnit_8 : decode cX4_readUnit 8 = .ok (.aload_n 1, 1) := by decide +kernel
theorem dX4_readUnit_9 : decode cX4_readUnit 9 = .ok (.invokevirtual 39, 3) := by decide +kernel
theorem dX4_readUnit_12 : decode cX4_readUnit 12 = .ok (.invokestatic 72, 3) := by decide +kernel
theorem dX4_readUnit_15 : decode cX4_readUnit 15 = .ok (.istore_n 3, 1) := by decide +kernel
theorem dX4_readUnit_16 : decode cX4_readUnit 16 = .ok (.iload_n 3, 1) := by decide +kernel
theorem dX4_readUnit_17 : decode cX4_readUnit 17 = .ok (.iconst (-1), 1) := by decide +kernel
theorem dX4_readUnit_18 : decode cX4_readUnit 18 = .ok (.if_icmp .eq 18, 3) := by decide +kernel
theorem dX4_readUnit_21 : decode cX4_readUnit 21 = .ok (.aload_n 1, 1) := by decide +kernel
theorem dX4_readUnit_22 : decode cX4_readUnit 22 = .ok (.invokevirtual 47, 3) := by decide +kernel
theorem dX4_readUnit_25 : decode cX4_readUnit 25 = .ok (.aload_n 0, 1) := by decide +kernel
theorem dX4_readUnit_26 : decode cX4_readUnit 26 = .ok (.sipush 10000, 3) := by decide +kernel
theorem dX4_readUnit_29 : decode cX4_readUnit 29 = .ok (.iload_n 3, 1) := by decide +kernel
theorem dX4_readUnit_30 : decode cX4_readUnit 30 = .ok (.iadd, 1) := by decide +kernel
theorem dX4_readUnit_31 : decode cX4_readUnit 31 = .ok (.invokevirtual 64, 3) := by decide +kernel
theorem dX4_readUnit_34 : decode cX4_readUnit 34 = .ok (.iconst 1, 1) := by decide +kernel
theorem dX4_readUnit_35 : decode cX4_readUnit 35 = .ok (.ireturn, 1) := by decide +kernel
theorem dX4_readUnit_36 : decode cX4_readUnit 36 = .ok (.aload_n 1, 1) := by decide +kernel
theorem dX4_readUnit_37 : decode cX4_readUnit 37 = .ok (.iload_n 2, 1) := by decide +kernel
theorem dX4_readUnit_38 : decode cX4_readUnit 38 = .ok (.ifCond .eq 7, 3) := by decide +kernel
theorem dX4_readUnit_41 : decode cX4_readUnit 41 = .ok (.iconst 1, 1) := by decide +kernel
theorem dX4_readUnit_42 : decode cX4_readUnit 42 = .ok (.goto 4, 3) := by decide +kernel
theorem dX4_readUnit_45 : decode cX4_readUnit 45 = .ok (.iconst 0, 1) := by decide +kernel
theorem dX4_readUnit_46 : decode cX4_readUnit 46 = .ok (.sipush 9999, 3) := by decide +kernel
theorem dX4_readUnit_49 : decode cX4_readUnit 49 = .ok (.invokevirtual 76, 3) := by decide +kernel
theorem dX4_readUnit_52 : decode cX4_readUnit 52 = .ok (.istore 4, 2) := by decide +kernel
theorem dX4_readUnit_54 : decode cX4_readUnit 54 = .ok (.aload_n 0, 1) := by decide +kernel
theorem dX4_readUnit_55 : decode cX4_readUnit 55 = .ok (.iload 4, 2) := by decide +kernel
theorem dX4_readUnit_57 : decode cX4_readUnit 57 = .ok (.invokevirtual 64, 3) := by decide +kernel
theorem dX4_readUnit_60 : decode cX4_readUnit 60 = .ok (.iload 4, 2) := by decide +kernel
theorem dX4_readUnit_62 : decode cX4_readUnit 62 = .ok (.ifCond .lt 7, 3) := by decide +kernel
theorem dX4_readUnit_65 : decode cX4_readUnit 65 = .ok (.iconst 1, 1) := by decide +kernel
theorem dX4_readUnit_66 : decode cX4_readUnit 66 = .ok (.goto 4, 3) := by decide +kernel
theorem dX4_readUnit_69 : decode cX4_readUnit 69 = .ok (.iconst 0, 1) := by decide +kernel
theorem dX4_readUnit_70 : decode cX4_readUnit 70 = .ok (.ireturn, 1) := by decide +kernel
theorem dX4_variable_0 : decode cX4_variable 0 = .ok (.iload_n 0, 1) := by decide +kernel
theorem dX4_variable_1 : decode cX4_variable 1 = .ok (.tableswitch 98 300 316 #[93, 98, 98, 98, 98, 98, 98, 98, 98, 98, 98, 83, 85, 87, 89, 91, 95], 83) := by decide +kernel
theorem dX4_variable_84 : decode cX4_variable 84 = .ok (.iconst 0, 1) := by decide +kernel
theorem dX4_variable_85 : decode cX4_variable 85 = .ok (.ireturn, 1) := by decide +kernel
theorem dX4_variable_86 : decode cX4_variable 86 = .ok (.iconst 1, 1) := by decide +kernel
theorem dX4_variable_87 : decode cX4_variable 87 = .ok (.ireturn, 1) := by decide +kernel
theorem dX4_variable_88 : decode cX4_variable 88 = .ok (.iconst 2, 1) := by decide +kernel
theorem dX4_variable_89 : decode cX4_variable 89 = .ok (.ireturn, 1) := by decide +kernel
theorem dX4_variable_90 : decode cX4_variable 90 = .ok (.iconst 3, 1) := by decide +kernel
theorem dX4_variable_91 : decode cX4_variable 91 = .ok (.ireturn, 1) := by decide +kernel
theorem dX4_variable_92 : decode cX4_variable 92 = .ok (.iconst 4, 1) := by decide +kernel
theorem dX4_variable_93 : decode cX4_variable 93 = .ok (.ireturn, 1) := by decide +kernel
theorem dX4_variable_94 : decode cX4_variable 94 = .ok (.iconst 5, 1) := by decide +kernel
theorem dX4_variable_95 : decode cX4_variable 95 = .ok (.ireturn, 1) := by decide +kernel
theorem dX4_variable_96 : decode cX4_variable 96 = .ok (.bipush 6, 2) := by decide +kernel
theorem dX4_variable_98 : decode cX4_variable 98 = .ok (.ireturn, 1) := by decide +kernel
theorem dX4_variable_99 : decode cX4_variable 99 = .ok (.iconst (-1), 1) := by decide +kernel
theorem dX4_variable_100 : decode cX4_variable 100 = .ok (.ireturn, 1) := by decide +kernel
theorem dX4_emit_0 : decode cX4_emit 0 = .ok (.aload_n 0, 1) := by decide +kernel
theorem dX4_emit_1 : decode cX4_emit 1 = .ok (.getfield 36, 3) := by decide +kernel
theorem dX4_emit_4 : decode cX4_emit 4 = .ok (.aload_n 0, 1) := by decide +kernel
theorem dX4_emit_5 : decode cX4_emit 5 = .ok (.getfield 26, 3) := by decide +kernel
theorem dX4_emit_8 : decode cX4_emit 8 = .ok (.arraylength, 1) := by decide +kernel
theorem dX4_emit_9 : decode cX4_emit 9 = .ok (.if_icmp .ge 23, 3) := by decide +kernel
theorem dX4_emit_12 : decode cX4_emit 12 = .ok (.aload_n 0, 1) := by decide +kernel
theorem dX4_emit_13 : decode cX4_emit 13 = .ok (.getfield 26, 3) := by decide +kernel
theorem dX4_emit_16 : decode cX4_emit 16 = .ok (.aload_n 0, 1) := by decide +kernel
theorem dX4_emit_17 : decode cX4_emit 17 = .ok (.getfield 36, 3) := by decide +kernel
theorem dX4_emit_20 : decode cX4_emit 20 = .ok (.iload_n 1, 1) := by decide +kernel
theorem dX4_emit_21 : decode cX4_emit 21 = .ok (.iastore, 1) := by decide +kernel
theorem dX4_emit_22 : decode cX4_emit 22 = .ok (.aload_n 0, 1) := by decide +kernel
theorem dX4_emit_23 : decode cX4_emit 23 = .ok (.dup, 1) := by decide +kernel
theorem dX4_emit_24 : decode cX4_emit 24 = .ok (.getfield 36, 3) := by decide +kernel
theorem dX4_emit_27 : decode cX4_emit 27 = .ok (.iconst 1, 1) := by decide +kernel
theorem dX4_emit_28 : decode cX4_emit 28 = .ok (.iadd, 1) := by decide +kernel
theorem dX4_emit_29 : decode cX4_emit 29 = .ok (.putfield 36, 3) := by decide +kernel
theorem dX4_emit_32 : decode cX4_emit 32 = .ok (.return_, 1) := by decide +kernel
theorem dX4_tell_0 : decode cX4_tell 0 = .ok (.iconst 0, 1) := by decide +kernel
theorem dX4_tell_1 : decode cX4_tell 1 = .ok (.istore_n 3, 1) := by decide +kernel
theorem dX4_tell_2 : decode cX4_tell 2 = .ok (.iload_n 3, 1) := by decide +kernel
theorem dX4_tell_3 : decode cX4_tell 3 = .ok (.aload_n 0, 1) := by decide +kernel
theorem dX4_tell_4 : decode cX4_tell 4 = .ok (.getfield 32, 3) := by decide +kernel
theorem dX4_tell_7 : decode cX4_tell 7 = .ok (.if_icmp .ge 76, 3) := by decide +kernel
theorem dX4_tell_10 : decode cX4_tell 10 = .ok (.aload_n 0, 1) := by decide +kernel
theorem dX4_tell_11 : decode cX4_tell 11 = .ok (.getfield 11, 3) := by decide +kernel
theorem dX4_tell_14 : decode cX4_tell 14 = .ok (.iload_n 3, 1) := by decide +kernel
theorem dX4_tell_15 : decode cX4_tell 15 = .ok (.iaload, 1) := by decide +kernel
theorem dX4_tell_16 : decode cX4_tell 16 = .ok (.iload_n 1, 1) := by decide +kernel
theorem dX4_tell_17 : decode cX4_tell 17 = .ok (.if_icmp .ne 60, 3) := by decide +kernel
theorem dX4_tell_20 : decode cX4_tell 20 = .ok (.aload_n 0, 1) := by decide +kernel
theorem dX4_tell_21 : decode cX4_tell 21 = .ok (.getfield 18, 3) := by decide +kernel
theorem dX4_tell_24 : decode cX4_tell 24 = .ok (.iload_n 3, 1) := by decide +kernel
theorem dX4_tell_25 : decode cX4_tell 25 = .ok (.iaload, 1) := by decide +kernel
theorem dX4_tell_26 : decode cX4_tell 26 = .ok (.aload_n 0, 1) := by decide +kernel
theorem dX4_tell_27 : decode cX4_tell 27 = .ok (.getfield 21, 3) := by decide +kernel
theorem dX4_tell_30 : decode cX4_tell 30 = .ok (.iload_n 3, 1) := by decide +kernel
theorem dX4_tell_31 : decode cX4_tell 31 = .ok (.iaload, 1) := by decide +kernel
theorem dX4_tell_32 : decode cX4_tell 32 = .ok (.if_icmp .eq 23, 3) := by decide +kernel
theorem dX4_tell_35 : decode cX4_tell 35 = .ok (.aload_n 0, 1) := by decide +kernel
theorem dX4_tell_36 : decode cX4_tell 36 = .ok (.aload_n 0, 1) := by decide +kernel
theorem dX4_tell_37 : decode cX4_tell 37 = .ok (.getfield 18, 3) := by decide +kernel
theorem dX4_tell_40 : decode cX4_tell 40 = .ok (.iload_n 3, 1) := by decide +kernel
theorem dX4_tell_41 : decode cX4_tell 41 = .ok (.iaload, 1) := by decide +kernel
theorem dX4_tell_42 : decode cX4_tell 42 = .ok (.aload_n 0, 1) := by decide +kernel
theorem dX4_tell_43 : decode cX4_tell 43 = .ok (.getfield 21, 3) := by decide +kernel
theorem dX4_tell_46 : decode cX4_tell 46 = .ok (.iload_n 3, 1) := by decide +kernel
theorem dX4_tell_47 : decode cX4_tell 47 = .ok (.iaload, 1) := by decide +kernel
theorem dX4_tell_48 : decode cX4_tell 48 = .ok (.aload_n 2, 1) := by decide +kernel
theorem dX4_tell_49 : decode cX4_tell 49 = .ok (.invokevirtual 80, 3) := by decide +kernel
theorem dX4_tell_52 : decode cX4_tell 52 = .ok (.ifCond .eq 25, 3) := by decide +kernel
theorem dX4_tell_55 : decode cX4_tell 55 = .ok (.iload_n 1, 1) := by decide +kernel
theorem dX4_tell_56 : decode cX4_tell 56 = .ok (.aload_n 0, 1) := by decide +kernel
theorem dX4_tell_57 : decode cX4_tell 57 = .ok (.aload_n 0, 1) := by decide +kernel
theorem dX4_tell_58 : decode cX4_tell 58 = .ok (.getfield 15, 3) := by decide +kernel
theorem dX4_tell_61 : decode cX4_tell 61 = .ok (.iload_n 3, 1) := by decide +kernel
theorem dX4_tell_62 : decode cX4_tell 62 = .ok (.iaload, 1) := by decide +kernel
theorem dX4_tell_63 : decode cX4_tell 63 = .ok (.aload_n 0, 1) := by decide +kernel
theorem dX4_tell_64 : decode cX4_tell 64 = .ok (.getfield 18, 3) := by decide +kernel
theorem dX4_tell_67 : decode cX4_tell 67 = .ok (.iload_n 3, 1) := by decide +kernel
theorem dX4_tell_68 : decode cX4_tell 68 = .ok (.iaload, 1) := by decide +kernel
theorem dX4_tell_69 : decode cX4_tell 69 = .ok (.aload_n 2, 1) := by decide +kernel
theorem dX4_tell_70 : decode cX4_tell 70 = .ok (.invokevirtual 80, 3) := by decide +kernel
theorem dX4_tell_73 : decode cX4_tell 73 = .ok (.invokestatic 84, 3) := by decide +kernel
theorem dX4_tell_76 : decode cX4_tell 76 = .ok (.ireturn, 1) := by decide +kernel
theorem dX4_tell_77 : decode cX4_tell 77 = .ok (.iinc 3 1, 3) := by decide +kernel
theorem dX4_tell_80 : decode cX4_tell 80 = .ok (.goto (-78), 3) := by decide +kernel
theorem dX4_tell_83 : decode cX4_tell 83 = .ok (.iload_n 1, 1) := by decide +kernel
theorem dX4_tell_84 : decode cX4_tell 84 = .ok (.ifCond .ne 12, 3) := by decide +kernel
theorem dX4_tell_87 : decode cX4_tell 87 = .ok (.iconst 2, 1) := by decide +kernel
theorem dX4_tell_88 : decode cX4_tell 88 = .ok (.aload_n 2, 1) := by decide +kernel
theorem dX4_tell_89 : decode cX4_tell 89 = .ok (.iconst 1, 1) := by decide +kernel
theorem dX4_tell_90 : decode cX4_tell 90 = .ok (.iaload, 1) := by decide +kernel
theorem dX4_tell_91 : decode cX4_tell 91 = .ok (.bipush 20, 2) := by decide +kernel
theorem dX4_tell_93 : decode cX4_tell 93 = .ok (.idiv, 1) := by decide +kernel
theorem dX4_tell_94 : decode cX4_tell 94 = .ok (.iadd, 1) := by decide +kernel
theorem dX4_tell_95 : decode cX4_tell 95 = .ok (.ireturn, 1) := by decide +kernel
theorem dX4_tell_96 : decode cX4_tell 96 = .ok (.iload_n 1, 1) := by decide +kernel
theorem dX4_tell_97 : decode cX4_tell 97 = .ok (.iconst 1, 1) := by decide +kernel
theorem dX4_tell_98 : decode cX4_tell 98 = .ok (.if_icmp .ne 7, 3) := by decide +kernel
theorem dX4_tell_101 : decode cX4_tell 101 = .ok (.iconst 1, 1) := by decide +kernel
theorem dX4_tell_102 : decode cX4_tell 102 = .ok (.goto 4, 3) := by decide +kernel
theorem dX4_tell_105 : decode cX4_tell 105 = .ok (.iconst 0, 1) := by decide +kernel
theorem dX4_tell_106 : decode cX4_tell 106 = .ok (.ireturn, 1) := by decide +kernel
theorem dX4_held_0 : decode cX4_held 0 = .ok (.iload_n 0, 1) := by decide +kernel
theorem dX4_held_1 : decode cX4_held 1 = .ok (.ifCond .ne 14, 3) := by decide +kernel
theorem dX4_held_4 : decode cX4_held 4 = .ok (.iconst 1, 1) := by decide +kernel
theorem dX4_held_5 : decode cX4_held 5 = .ok (.bipush 30, 2) := by decide +kernel
theorem dX4_held_7 : decode cX4_held 7 = .ok (.iload_n 1, 1) := by decide +kernel
theorem dX4_held_8 : decode cX4_held 8 = .ok (.invokestatic 87, 3) := by decide +kernel
theorem dX4_held_11 : decode cX4_held 11 = .ok (.invokestatic 92, 3) := by decide +kernel
theorem dX4_held_14 : decode cX4_held 14 = .ok (.ireturn, 1) := by decide +kernel
theorem dX4_held_15 : decode cX4_held 15 = .ok (.iconst 0, 1) := by decide +kernel
theorem dX4_held_16 : decode cX4_held 16 = .ok (.iload_n 0, 1) := by decide +kernel
theorem dX4_held_17 : decode cX4_held 17 = .ok (.iconst 1, 1) := by decide +kernel
theorem dX4_held_18 : decode cX4_held 18 = .ok (.if_icmp .ne 8, 3) := by decide +kernel
theorem dX4_held_21 : decode cX4_held 21 = .ok (.bipush 9, 2) := by decide +kernel
theorem dX4_held_23 : decode cX4_held 23 = .ok (.goto 6, 3) := by decide +kernel
theorem dX4_held_26 : decode cX4_held 26 = .ok (.sipush 1000, 3) := by decide +kernel
theorem dX4_held_29 : decode cX4_held 29 = .ok (.iload_n 1, 1) := by decide +kernel
theorem dX4_held_30 : decode cX4_held 30 = .ok (.invokestatic 87, 3) := by decide +kernel
theorem dX4_held_33 : decode cX4_held 33 = .ok (.invokestatic 92, 3) := by decide +kernel
theorem dX4_held_36 : decode cX4_held 36 = .ok (.ireturn, 1) := by decide +kernel
theorem dX4_reckon_0 : decode cX4_reckon 0 = .ok (.iconst 0, 1) := by decide +kernel
theorem dX4_reckon_1 : decode cX4_reckon 1 = .ok (.istore 4, 2) := by decide +kernel
theorem dX4_reckon_3 : decode cX4_reckon 3 = .ok (.aload_n 0, 1) := by decide +kernel
theorem dX4_reckon_4 : decode cX4_reckon 4 = .ok (.getfield 29, 3) := by decide +kernel
theorem dX4_reckon_7 : decode cX4_reckon 7 = .ok (.iconst 0, 1) := by decide +kernel
theorem dX4_reckon_8 : decode cX4_reckon 8 = .ok (.iconst 0, 1) := by decide +kernel
theorem dX4_reckon_9 : decode cX4_reckon 9 = .ok (.iastore, 1) := by decide +kernel
theorem dX4_reckon_10 : decode cX4_reckon 10 = .ok (.iload_n 1, 1) := by decide +kernel
theorem dX4_reckon_11 : decode cX4_reckon 11 = .ok (.istore 5, 2) := by decide +kernel
theorem dX4_reckon_13 : decode cX4_reckon 13 = .ok (.iload 5, 2) := by decide +kernel
theorem dX4_reckon_15 : decode cX4_reckon 15 = .ok (.iload_n 2, 1) := by decide +kernel
theorem dX4_reckon_16 : decode cX4_reckon 16 = .ok (.if_icmp .ge 165, 3) := by decide +kernel
theorem dX4_reckon_19 : decode cX4_reckon 19 = .ok (.iload 5, 2) := by decide +kernel
theorem dX4_reckon_21 : decode cX4_reckon 21 = .ok (.aload_n 0, 1) := by decide +kernel
theorem dX4_reckon_22 : decode cX4_reckon 22 = .ok (.getfield 36, 3) := by decide +kernel
theorem dX4_reckon_25 : decode cX4_reckon 25 = .ok (.if_icmp .ge 156, 3) := by decide +kernel
theorem dX4_reckon_28 : decode cX4_reckon 28 = .ok (.aload_n 0, 1) := by decide +kernel
theorem dX4_reckon_29 : decode cX4_reckon 29 = .ok (.getfield 26, 3) := by decide +kernel
theorem dX4_reckon_32 : decode cX4_reckon 32 = .ok (.iload 5, 2) := by decide +kernel
theorem dX4_reckon_34 : decode cX4_reckon 34 = .ok (.iaload, 1) := by decide +kernel
theorem dX4_reckon_35 : decode cX4_reckon 35 = .ok (.istore 6, 2) := by decide +kernel
theorem dX4_reckon_37 : decode cX4_reckon 37 = .ok (.iload 6, 2) := by decide +kernel
theorem dX4_reckon_39 : decode cX4_reckon 39 = .ok (.sipush 20000, 3) := by decide +kernel
theorem dX4_reckon_42 : decode cX4_reckon 42 = .ok (.if_icmp .ge 49, 3) := by decide +kernel
theorem dX4_reckon_45 : decode cX4_reckon 45 = .ok (.iload 4, 2) := by decide +kernel
theorem dX4_reckon_47 : decode cX4_reckon 47 = .ok (.aload_n 0, 1) := by decide +kernel
theorem dX4_reckon_48 : decode cX4_reckon 48 = .ok (.getfield 29, 3) := by decide +kernel
theorem dX4_reckon_51 : decode cX4_reckon 51 = .ok (.arraylength, 1) := by decide +kernel
theorem dX4_reckon_52 : decode cX4_reckon 52 = .ok (.if_icmp .lt 5, 3) := by decide +kernel
theorem dX4_reckon_55 : decode cX4_reckon 55 = .ok (.iconst 0, 1) := by decide +kernel
theorem dX4_reckon_56 : decode cX4_reckon 56 = .ok (.ireturn, 1) := by decide +kernel
theorem dX4_reckon_57 : decode cX4_reckon 57 = .ok (.aload_n 0, 1) := by decide +kernel
theorem dX4_reckon_58 : decode cX4_reckon 58 = .ok (.getfield 29, 3) := by decide +kernel
theorem dX4_reckon_61 : decode cX4_reckon 61 = .ok (.iload 4, 2) := by decide +kernel
theorem dX4_reckon_63 : decode cX4_reckon 63 = .ok (.iload 6, 2) := by decide +kernel
theorem dX4_reckon_65 : decode cX4_reckon 65 = .ok (.sipush 10000, 3) := by decide +kernel
theorem dX4_reckon_68 : decode cX4_reckon 68 = .ok (.if_icmp .ge 8, 3) := by decide +kernel
theorem dX4_reckon_71 : decode cX4_reckon 71 = .ok (.iload 6, 2) := by decide +kernel
theorem dX4_reckon_73 : decode cX4_reckon 73 = .ok (.goto 11, 3) := by decide +kernel
theorem dX4_reckon_76 : decode cX4_reckon 76 = .ok (.aload_n 3, 1) := by decide +kernel
theorem dX4_reckon_77 : decode cX4_reckon 77 = .ok (.iload 6, 2) := by decide +kernel
theorem dX4_reckon_79 : decode cX4_reckon 79 = .ok (.sipush 10000, 3) := by decide +kernel
theorem dX4_reckon_82 : decode cX4_reckon 82 = .ok (.isub, 1) := by decide +kernel
theorem dX4_reckon_83 : decode cX4_reckon 83 = .ok (.iaload, 1) := by decide +kernel
theorem dX4_reckon_84 : decode cX4_reckon 84 = .ok (.iastore, 1) := by decide +kernel
theorem dX4_reckon_85 : decode cX4_reckon 85 = .ok (.iinc 4 1, 3) := by decide +kernel
theorem dX4_reckon_88 : decode cX4_reckon 88 = .ok (.goto 87, 3) := by decide +kernel
theorem dX4_reckon_91 : decode cX4_reckon 91 = .ok (.iload 6, 2) := by decide +kernel
theorem dX4_reckon_93 : decode cX4_reckon 93 = .ok (.sipush 20033, 3) := by decide +kernel
theorem dX4_reckon_96 : decode cX4_reckon 96 = .ok (.if_icmp .ne 34, 3) := by decide +kernel
theorem dX4_reckon_99 : decode cX4_reckon 99 = .ok (.iload 4, 2) := by decide +kernel
theorem dX4_reckon_101 : decode cX4_reckon 101 = .ok (.iconst 1, 1) := by decide +kernel
theorem dX4_reckon_102 : decode cX4_reckon 102 = .ok (.if_icmp .ge 5, 3) := by decide +kernel
theorem dX4_reckon_105 : decode cX4_reckon 105 = .ok (.iconst 0, 1) := by decide +kernel
theorem dX4_reckon_106 : decode cX4_reckon 106 = .ok (.ireturn, 1) := by decide +kernel
theorem dX4_reckon_107 : decode cX4_reckon 107 = .ok (.aload_n 0, 1) := by decide +kernel
theorem dX4_reckon_108 : decode cX4_reckon 108 = .ok (.getfield 29, 3) := by decide +kernel
theorem dX4_reckon_111 : decode cX4_reckon 111 = .ok (.iload 4, 2) := by decide +kernel
theorem dX4_reckon_113 : decode cX4_reckon 113 = .ok (.iconst 1, 1) := by decide +kernel
theorem dX4_reckon_114 : decode cX4_reckon 114 = .ok (.isub, 1) := by decide +kernel
theorem dX4_reckon_115 : decode cX4_reckon 115 = .ok (.iconst 1, 1) := by decide +kernel
theorem dX4_reckon_116 : decode cX4_reckon 116 = .ok (.aload_n 0, 1) := by decide +kernel
theorem dX4_reckon_117 : decode cX4_reckon 117 = .ok (.getfield 29, 3) := by decide +kernel
theorem dX4_reckon_120 : decode cX4_reckon 120 = .ok (.iload 4, 2) := by decide +kernel
theorem dX4_reckon_122 : decode cX4_reckon 122 = .ok (.iconst 1, 1) := by decide +kernel
theorem dX4_reckon_123 : decode cX4_reckon 123 = .ok (.isub, 1) := by decide +kernel
theorem dX4_reckon_124 : decode cX4_reckon 124 = .ok (.iaload, 1) := by decide +kernel
theorem dX4_reckon_125 : decode cX4_reckon 125 = .ok (.isub, 1) := by decide +kernel
theorem dX4_reckon_126 : decode cX4_reckon 126 = .ok (.iastore, 1) := by decide +kernel
theorem dX4_reckon_127 : decode cX4_reckon 127 = .ok (.goto 48, 3) := by decide +kernel
theorem dX4_reckon_130 : decode cX4_reckon 130 = .ok (.iload 4, 2) := by decide +kernel
theorem dX4_reckon_132 : decode cX4_reckon 132 = .ok (.iconst 2, 1) := by decide +kernel
theorem dX4_reckon_133 : decode cX4_reckon 133 = .ok (.if_icmp .ge 5, 3) := by decide +kernel
theorem dX4_reckon_136 : decode cX4_reckon 136 = .ok (.iconst 0, 1) := by decide +kernel
theorem dX4_reckon_137 : decode cX4_reckon 137 = .ok (.ireturn, 1) := by decide +kernel
theorem dX4_reckon_138 : decode cX4_reckon 138 = .ok (.iinc 4 (-1), 3) := by decide +kernel
theorem dX4_reckon_141 : decode cX4_reckon 141 = .ok (.aload_n 0, 1) := by decide +kernel
theorem dX4_reckon_142 : decode cX4_reckon 142 = .ok (.getfield 29, 3) := by decide +kernel
theorem dX4_reckon_145 : decode cX4_reckon 145 = .ok (.iload 4, 2) := by decide +kernel
theorem dX4_reckon_147 : decode cX4_reckon 147 = .ok (.iconst 1, 1) := by decide +kernel
theorem dX4_reckon_148 : decode cX4_reckon 148 = .ok (.isub, 1) := by decide +kernel
theorem dX4_reckon_149 : decode cX4_reckon 149 = .ok (.iload 6, 2) := by decide +kernel
theorem dX4_reckon_151 : decode cX4_reckon 151 = .ok (.sipush 20000, 3) := by decide +kernel
theorem dX4_reckon_154 : decode cX4_reckon 154 = .ok (.isub, 1) := by decide +kernel
theorem dX4_reckon_155 : decode cX4_reckon 155 = .ok (.aload_n 0, 1) := by decide +kernel
theorem dX4_reckon_156 : decode cX4_reckon 156 = .ok (.getfield 29, 3) := by decide +kernel
theorem dX4_reckon_159 : decode cX4_reckon 159 = .ok (.iload 4, 2) := by decide +kernel
theorem dX4_reckon_161 : decode cX4_reckon 161 = .ok (.iconst 1, 1) := by decide +kernel
theorem dX4_reckon_162 : decode cX4_reckon 162 = .ok (.isub, 1) := by decide +kernel
theorem dX4_reckon_163 : decode cX4_reckon 163 = .ok (.iaload, 1) := by decide +kernel
theorem dX4_reckon_164 : decode cX4_reckon 164 = .ok (.aload_n 0, 1) := by decide +kernel
theorem dX4_reckon_165 : decode cX4_reckon 165 = .ok (.getfield 29, 3) := by decide +kernel
theorem dX4_reckon_168 : decode cX4_reckon 168 = .ok (.iload 4, 2) := by decide +kernel
theorem dX4_reckon_170 : decode cX4_reckon 170 = .ok (.iaload, 1) := by decide +kernel
theorem dX4_reckon_171 : decode cX4_reckon 171 = .ok (.invokestatic 95, 3) := by decide +kernel
theorem dX4_reckon_174 : decode cX4_reckon 174 = .ok (.iastore, 1) := by decide +kernel
theorem dX4_reckon_175 : decode cX4_reckon 175 = .ok (.iinc 5 1, 3) := by decide +kernel
theorem dX4_reckon_178 : decode cX4_reckon 178 = .ok (.goto (-165), 3) := by decide +kernel
theorem dX4_reckon_181 : decode cX4_reckon 181 = .ok (.aload_n 0, 1) := by decide +kernel
theorem dX4_reckon_182 : decode cX4_reckon 182 = .ok (.getfield 29, 3) := by decide +kernel
theorem dX4_reckon_185 : decode cX4_reckon 185 = .ok (.iconst 0, 1) := by decide +kernel
theorem dX4_reckon_186 : decode cX4_reckon 186 = .ok (.iaload, 1) := by decide +kernel
theorem dX4_reckon_187 : decode cX4_reckon 187 = .ok (.ireturn, 1) := by decide +kernel
theorem dX4_joined_0 : decode cX4_joined 0 = .ok (.iload_n 0, 1) := by decide +kernel
theorem dX4_joined_1 : decode cX4_joined 1 = .ok (.tableswitch 176 38 62 #[172, 176, 176, 176, 123, 115, 176, 119, 176, 127, 176, 176, 176, 176, 176, 176, 176, 176, 176, 176, 176, 176, 139, 150, 161], 115) := by decide +kernel
theorem dX4_joined_116 : decode cX4_joined 116 = .ok (.iload_n 1, 1) := by decide +kernel
theorem dX4_joined_117 : decode cX4_joined 117 = .ok (.iload_n 2, 1) := by decide +kernel
theorem dX4_joined_118 : decode cX4_joined 118 = .ok (.iadd, 1) := by decide +kernel
theorem dX4_joined_119 : decode cX4_joined 119 = .ok (.ireturn, 1) := by decide +kernel
theorem dX4_joined_120 : decode cX4_joined 120 = .ok (.iload_n 1, 1) := by decide +kernel
theorem dX4_joined_121 : decode cX4_joined 121 = .ok (.iload_n 2, 1) := by decide +kernel
theorem dX4_joined_122 : decode cX4_joined 122 = .ok (.isub, 1) := by decide +kernel
theorem dX4_joined_123 : decode cX4_joined 123 = .ok (.ireturn, 1) := by decide +kernel
theorem dX4_joined_124 : decode cX4_joined 124 = .ok (.iload_n 1, 1) := by decide +kernel
theorem dX4_joined_125 : decode cX4_joined 125 = .ok (.iload_n 2, 1) := by decide +kernel
theorem dX4_joined_126 : decode cX4_joined 126 = .ok (.imul, 1) := by decide +kernel
theorem dX4_joined_127 : decode cX4_joined 127 = .ok (.ireturn, 1) := by decide +kernel
theorem dX4_joined_128 : decode cX4_joined 128 = .ok (.iload_n 2, 1) := by decide +kernel
theorem dX4_joined_129 : decode cX4_joined 129 = .ok (.ifCond .ne 7, 3) := by decide +kernel
theorem dX4_joined_132 : decode cX4_joined 132 = .ok (.iconst 0, 1) := by decide +kernel
theorem dX4_joined_133 : decode cX4_joined 133 = .ok (.goto 6, 3) := by decide +kernel
theorem dX4_joined_136 : decode cX4_joined 136 = .ok (.iload_n 1, 1) := by decide +kernel
theorem dX4_joined_137 : decode cX4_joined 137 = .ok (.iload_n 2, 1) := by decide +kernel
theorem dX4_joined_138 : decode cX4_joined 138 = .ok (.idiv, 1) := by decide +kernel
theorem dX4_joined_139 : decode cX4_joined 139 = .ok (.ireturn, 1) := by decide +kernel
theorem dX4_joined_140 : decode cX4_joined 140 = .ok (.iload_n 1, 1) := by decide +kernel
theorem dX4_joined_141 : decode cX4_joined 141 = .ok (.iload_n 2, 1) := by decide +kernel
theorem dX4_joined_142 : decode cX4_joined 142 = .ok (.if_icmp .ge 7, 3) := by decide +kernel
theorem dX4_joined_145 : decode cX4_joined 145 = .ok (.iconst 1, 1) := by decide +kernel
theorem dX4_joined_146 : decode cX4_joined 146 = .ok (.goto 4, 3) := by decide +kernel
theorem dX4_joined_149 : decode cX4_joined 149 = .ok (.iconst 0, 1) := by decide +kernel
theorem dX4_joined_150 : decode cX4_joined 150 = .ok (.ireturn, 1) := by decide +kernel
theorem dX4_joined_151 : decode cX4_joined 151 = .ok (.iload_n 1, 1) := by decide +kernel
theorem dX4_joined_152 : decode cX4_joined 152 = .ok (.iload_n 2, 1) := by decide +kernel
theorem dX4_joined_153 : decode cX4_joined 153 = .ok (.if_icmp .ne 7, 3) := by decide +kernel
theorem dX4_joined_156 : decode cX4_joined 156 = .ok (.iconst 1, 1) := by decide +kernel
theorem dX4_joined_157 : decode cX4_joined 157 = .ok (.goto 4, 3) := by decide +kernel
theorem dX4_joined_160 : decode cX4_joined 160 = .ok (.iconst 0, 1) := by decide +kernel
theorem dX4_joined_161 : decode cX4_joined 161 = .ok (.ireturn, 1) := by decide +kernel
theorem dX4_joined_162 : decode cX4_joined 162 = .ok (.iload_n 1, 1) := by decide +kernel
theorem dX4_joined_163 : decode cX4_joined 163 = .ok (.iload_n 2, 1) := by decide +kernel
theorem dX4_joined_164 : decode cX4_joined 164 = .ok (.if_icmp .le 7, 3) := by decide +kernel
theorem dX4_joined_167 : decode cX4_joined 167 = .ok (.iconst 1, 1) := by decide +kernel
theorem dX4_joined_168 : decode cX4_joined 168 = .ok (.goto 4, 3) := by decide +kernel
theorem dX4_joined_171 : decode cX4_joined 171 = .ok (.iconst 0, 1) := by decide +kernel
theorem dX4_joined_172 : decode cX4_joined 172 = .ok (.ireturn, 1) := by decide +kernel
theorem dX4_joined_173 : decode cX4_joined 173 = .ok (.iload_n 1, 1) := by decide +kernel
theorem dX4_joined_174 : decode cX4_joined 174 = .ok (.iload_n 2, 1) := by decide +kernel
theorem dX4_joined_175 : decode cX4_joined 175 = .ok (.iand, 1) := by decide +kernel
theorem dX4_joined_176 : decode cX4_joined 176 = .ok (.ireturn, 1) := by decide +kernel
theorem dX4_joined_177 : decode cX4_joined 177 = .ok (.iload_n 1, 1) := by decide +kernel
theorem dX4_joined_178 : decode cX4_joined 178 = .ok (.iload_n 2, 1) := by decide +kernel
theorem dX4_joined_179 : decode cX4_joined 179 = .ok (.ior, 1) := by decide +kernel
theorem dX4_joined_180 : decode cX4_joined 180 = .ok (.ireturn, 1) := by decide +kernel
theorem dX4_copyFrom_0 : decode cX4_copyFrom 0 = .ok (.aload_n 0, 1) := by decide +kernel
theorem dX4_copyFrom_1 : decode cX4_copyFrom 1 = .ok (.aload_n 1, 1) := by decide +kernel
theorem dX4_copyFrom_2 : decode cX4_copyFrom 2 = .ok (.getfield 32, 3) := by decide +kernel
theorem dX4_copyFrom_5 : decode cX4_copyFrom 5 = .ok (.putfield 32, 3) := by decide +kernel
theorem dX4_copyFrom_8 : decode cX4_copyFrom 8 = .ok (.aload_n 0, 1) := by decide +kernel
theorem dX4_copyFrom_9 : decode cX4_copyFrom 9 = .ok (.aload_n 1, 1) := by decide +kernel
theorem dX4_copyFrom_10 : decode cX4_copyFrom 10 = .ok (.getfield 36, 3) := by decide +kernel
theorem dX4_copyFrom_13 : decode cX4_copyFrom 13 = .ok (.putfield 36, 3) := by decide +kernel
theorem dX4_copyFrom_16 : decode cX4_copyFrom 16 = .ok (.aload_n 1, 1) := by decide +kernel
theorem dX4_copyFrom_17 : decode cX4_copyFrom 17 = .ok (.getfield 11, 3) := by decide +kernel
theorem dX4_copyFrom_20 : decode cX4_copyFrom 20 = .ok (.iconst 0, 1) := by decide +kernel
theorem dX4_copyFrom_21 : decode cX4_copyFrom 21 = .ok (.aload_n 0, 1) := by decide +kernel
theorem dX4_copyFrom_22 : decode cX4_copyFrom 22 = .ok (.getfield 11, 3) := by decide +kernel
theorem dX4_copyFrom_25 : decode cX4_copyFrom 25 = .ok (.iconst 0, 1) := by decide +kernel
theorem dX4_copyFrom_26 : decode cX4_copyFrom 26 = .ok (.bipush 16, 2) := by decide +kernel
theorem dX4_copyFrom_28 : decode cX4_copyFrom 28 = .ok (.invokestatic 99, 3) := by decide +kernel
theorem dX4_copyFrom_31 : decode cX4_copyFrom 31 = .ok (.aload_n 1, 1) := by decide +kernel
theorem dX4_copyFrom_32 : decode cX4_copyFrom 32 = .ok (.getfield 15, 3) := by decide +kernel
theorem dX4_copyFrom_35 : decode cX4_copyFrom 35 = .ok (.iconst 0, 1) := by decide +kernel
theorem dX4_copyFrom_36 : decode cX4_copyFrom 36 = .ok (.aload_n 0, 1) := by decide +kernel
theorem dX4_copyFrom_37 : decode cX4_copyFrom 37 = .ok (.getfield 15, 3) := by decide +kernel
theorem dX4_copyFrom_40 : decode cX4_copyFrom 40 = .ok (.iconst 0, 1) := by decide +kernel
theorem dX4_copyFrom_41 : decode cX4_copyFrom 41 = .ok (.bipush 16, 2) := by decide +kernel
theorem dX4_copyFrom_43 : decode cX4_copyFrom 43 = .ok (.invokestatic 99, 3) := by decide +kernel
theorem dX4_copyFrom_46 : decode cX4_copyFrom 46 = .ok (.aload_n 1, 1) := by decide +kernel
theorem dX4_copyFrom_47 : decode cX4_copyFrom 47 = .ok (.getfield 18, 3) := by decide +kernel
theorem dX4_copyFrom_50 : decode cX4_copyFrom 50 = .ok (.iconst 0, 1) := by decide +kernel
theorem dX4_copyFrom_51 : decode cX4_copyFrom 51 = .ok (.aload_n 0, 1) := by decide +kernel
theorem dX4_copyFrom_52 : decode cX4_copyFrom 52 = .ok (.getfield 18, 3) := by decide +kernel
theorem dX4_copyFrom_55 : decode cX4_copyFrom 55 = .ok (.iconst 0, 1) := by decide +kernel
theorem dX4_copyFrom_56 : decode cX4_copyFrom 56 = .ok (.bipush 16, 2) := by decide +kernel
theorem dX4_copyFrom_58 : decode cX4_copyFrom 58 = .ok (.invokestatic 99, 3) := by decide +kernel
theorem dX4_copyFrom_61 : decode cX4_copyFrom 61 = .ok (.aload_n 1, 1) := by decide +kernel
theorem dX4_copyFrom_62 : decode cX4_copyFrom 62 = .ok (.getfield 21, 3) := by decide +kernel
theorem dX4_copyFrom_65 : decode cX4_copyFrom 65 = .ok (.iconst 0, 1) := by decide +kernel
theorem dX4_copyFrom_66 : decode cX4_copyFrom 66 = .ok (.aload_n 0, 1) := by decide +kernel
theorem dX4_copyFrom_67 : decode cX4_copyFrom 67 = .ok (.getfield 21, 3) := by decide +kernel
theorem dX4_copyFrom_70 : decode cX4_copyFrom 70 = .ok (.iconst 0, 1) := by decide +kernel
theorem dX4_copyFrom_71 : decode cX4_copyFrom 71 = .ok (.bipush 16, 2) := by decide +kernel
theorem dX4_copyFrom_73 : decode cX4_copyFrom 73 = .ok (.invokestatic 99, 3) := by decide +kernel
theorem dX4_copyFrom_76 : decode cX4_copyFrom 76 = .ok (.aload_n 1, 1) := by decide +kernel
theorem dX4_copyFrom_77 : decode cX4_copyFrom 77 = .ok (.getfield 26, 3) := by decide +kernel
theorem dX4_copyFrom_80 : decode cX4_copyFrom 80 = .ok (.iconst 0, 1) := by decide +kernel
theorem dX4_copyFrom_81 : decode cX4_copyFrom 81 = .ok (.aload_n 0, 1) := by decide +kernel
theorem dX4_copyFrom_82 : decode cX4_copyFrom 82 = .ok (.getfield 26, 3) := by decide +kernel
theorem dX4_copyFrom_85 : decode cX4_copyFrom 85 = .ok (.iconst 0, 1) := by decide +kernel
theorem dX4_copyFrom_86 : decode cX4_copyFrom 86 = .ok (.sipush 400, 3) := by decide +kernel
theorem dX4_copyFrom_89 : decode cX4_copyFrom 89 = .ok (.invokestatic 99, 3) := by decide +kernel
theorem dX4_copyFrom_92 : decode cX4_copyFrom 92 = .ok (.return_, 1) := by decide +kernel
theorem dX5_init_0 : decode cX5_init 0 = .ok (.aload_n 0, 1) := by decide +kernel
theorem dX5_init_1 : decode cX5_init 1 = .ok (.invokespecial 3, 3) := by decide +kernel
theorem dX5_init_4 : decode cX5_init 4 = .ok (.aload_n 0, 1) := by decide +kernel
theorem dX5_init_5 : decode cX5_init 5 = .ok (.sipush 256, 3) := by decide +kernel
theorem dX5_init_8 : decode cX5_init 8 = .ok (.newarray .int, 2) := by decide +kernel
theorem dX5_init_10 : decode cX5_init 10 = .ok (.putfield 11, 3) := by decide +kernel
theorem dX5_init_13 : decode cX5_init 13 = .ok (.aload_n 0, 1) := by decide +kernel
theorem dX5_init_14 : decode cX5_init 14 = .ok (.sipush 256, 3) := by decide +kernel
theorem dX5_init_17 : decode cX5_init 17 = .ok (.newarray .int, 2) := by decide +kernel
theorem dX5_init_19 : decode cX5_init 19 = .ok (.putfield 15, 3) := by decide +kernel
theorem dX5_init_22 : decode cX5_init 22 = .ok (.aload_n 0, 1) := by decide +kernel
theorem dX5_init_23 : decode cX5_init 23 = .ok (.bipush 8, 2) := by decide +kernel
theorem dX5_init_25 : decode cX5_init 25 = .ok (.newarray .int, 2) := by decide +kernel
theorem dX5_init_27 : decode cX5_init 27 = .ok (.putfield 18, 3) := by decide +kernel
theorem dX5_init_30 : decode cX5_init 30 = .ok (.return_, 1) := by decide +kernel
theorem dX5_mark_0 : decode cX5_mark 0 = .ok (.aload_n 1, 1) := by decide +kernel
theorem dX5_mark_1 : decode cX5_mark 1 = .ok (.iconst 0, 1) := by decide +kernel
theorem dX5_mark_2 : decode cX5_mark 2 = .ok (.invokevirtual 21, 3) := by decide +kernel
theorem dX5_mark_5 : decode cX5_mark 5 = .ok (.istore_n 3, 1) := by decide +kernel
theorem dX5_mark_6 : decode cX5_mark 6 = .ok (.iload_n 2, 1) := by decide +kernel
theorem dX5_mark_7 : decode cX5_mark 7 = .ok (.iload_n 3, 1) := by decide +kernel
theorem dX5_mark_8 : decode cX5_mark 8 = .ok (.invokestatic 27, 3) := by decide +kernel
theorem dX5_mark_11 : decode cX5_mark 11 = .ok (.istore 4, 2) := by decide +kernel
theorem dX5_mark_13 : decode cX5_mark 13 = .ok (.aload_n 0, 1) := by decide +kernel
theorem dX5_mark_14 : decode cX5_mark 14 = .ok (.ldc 33, 2) := by decide +kernel
theorem dX5_mark_16 : decode cX5_mark 16 = .ok (.putfield 34, 3) := by decide +kernel
theorem dX5_mark_19 : decode cX5_mark 19 = .ok (.aload_n 0, 1) := by decide +kernel
theorem dX5_mark_20 : decode cX5_mark 20 = .ok (.iconst 0, 1) := by decide +kernel
theorem dX5_mark_21 : decode cX5_mark 21 = .ok (.putfield 38, 3) := by decide +kernel
theorem dX5_mark_24 : decode cX5_mark 24 = .ok (.iconst 0, 1) := by decide +kernel
theorem dX5_mark_25 : decode cX5_mark 25 = .ok (.istore 5, 2) := by decide +kernel
theorem dX5_mark_27 : decode cX5_mark 27 = .ok (.iload 5, 2) := by decide +kernel
theorem dX5_mark_29 : decode cX5_mark 29 = .ok (.iconst 1, 1) := by decide +kernel
theorem dX5_mark_30 : decode cX5_mark 30 = .ok (.iload_n 3, 1) := by decide +kernel
theorem dX5_mark_31 : decode cX5_mark 31 = .ok (.ishl, 1) := by decide +kernel
theorem dX5_mark_32 : decode cX5_mark 32 = .ok (.if_icmp .ge 48, 3) := by decide +kernel
theorem dX5_mark_35 : decode cX5_mark 35 = .ok (.iload 5, 2) := by decide +kernel
theorem dX5_mark_37 : decode cX5_mark 37 = .ok (.invokestatic 41, 3) := by decide +kernel
theorem dX5_mark_40 : decode cX5_mark 40 = .ok (.iload 4, 2) := by decide +kernel
theorem dX5_mark_42 : decode cX5_mark 42 = .ok (.if_icmp .ne 32, 3) := by decide +kernel
theorem dX5_mark_45 : decode cX5_mark 45 = .ok (.aload_n 1, 1) := by decide +kernel
theorem dX5_mark_46 : decode cX5_mark 46 = .ok (.iload 5, 2) := by decide +kernel
theorem dX5_mark_48 : decode cX5_mark 48 = .ok (.invokestatic 46, 3) := by decide +kernel
theorem dX5_mark_51 : decode cX5_mark 51 = .ok (.istore 6, 2) := by decide +kernel
theorem dX5_mark_53 : decode cX5_mark 53 = .ok (.iload 6, 2) := by decide +kernel
theorem dX5_mark_55 : decode cX5_mark 55 = .ok (.aload_n 0, 1) := by decide +kernel
theorem dX5_mark_56 : decode cX5_mark 56 = .ok (.getfield 34, 3) := by decide +kernel
theorem dX5_mark_59 : decode cX5_mark 59 = .ok (.if_icmp .ge 15, 3) := by decide +kernel
theorem dX5_mark_62 : decode cX5_mark 62 = .ok (.aload_n 0, 1) := by decide +kernel
theorem dX5_mark_63 : decode cX5_mark 63 = .ok (.iload 6, 2) := by decide +kernel
theorem dX5_mark_65 : decode cX5_mark 65 = .ok (.putfield 34, 3) := by decide +kernel
theorem dX5_mark_68 : decode cX5_mark 68 = .ok (.aload_n 0, 1) := by decide +kernel
theorem dX5_mark_69 : decode cX5_mark 69 = .ok (.iload 5, 2) := by decide +kernel
theorem dX5_mark_71 : decode cX5_mark 71 = .ok (.putfield 38, 3) := by decide +kernel
theorem dX5_mark_74 : decode cX5_mark 74 = .ok (.iinc 5 1, 3) := by decide +kernel
theorem dX5_mark_77 : decode cX5_mark 77 = .ok (.goto (-50), 3) := by decide +kernel
theorem dX5_mark_80 : decode cX5_mark 80 = .ok (.return_, 1) := by decide +kernel
theorem dX5_playedFromMarks_0 : decode cX5_playedFromMarks 0 = .ok (.iconst 0, 1) := by decide +kernel
theorem dX5_playedFromMarks_1 : decode cX5_playedFromMarks 1 = .ok (.istore_n 2, 1) := by decide +kernel
theorem dX5_playedFromMarks_2 : decode cX5_playedFromMarks 2 = .ok (.iconst 0, 1) := by decide +kernel
theorem dX5_playedFromMarks_3 : decode cX5_playedFromMarks 3 = .ok (.istore_n 3, 1) := by decide +kernel
theorem dX5_playedFromMarks_4 : decode cX5_playedFromMarks 4 = .ok (.iconst 0, 1) := by decide +kernel
theorem dX5_playedFromMarks_5 : decode cX5_playedFromMarks 5 = .ok (.istore 4, 2) := by decide +kernel
theorem dX5_playedFromMarks_7 : decode cX5_playedFromMarks 7 = .ok (.iload 4, 2) := by decide +kernel
theorem dX5_playedFromMarks_9 : decode cX5_playedFromMarks 9 = .ok (.aload_n 0, 1) := by decide +kernel
theorem dX5_playedFromMarks_10 : decode cX5_playedFromMarks 10 = .ok (.iconst 0, 1) := by decide +kernel
theorem dX5_playedFromMarks_11 : decode cX5_playedFromMarks 11 = .ok (.invokevirtual 21, 3) := by decide +kernel
theorem dX5_playedFromMarks_14 : decode cX5_playedFromMarks 14 = .ok (.if_icmp .ge 47, 3) := by decide +kernel
theorem dX5_playedFromMarks_17 : decode cX5_playedFromMarks 17 = .ok (.iload_n 1, 1) := by decide +kernel
theorem dX5_playedFromMarks_18 : decode cX5_playedFromMarks 18 = .ok (.iload 4, 2) := by decide +kernel
theorem dX5_playedFromMarks_20 : decode cX5_playedFromMarks 20 = .ok (.ishr, 1) := by decide +kernel
theorem dX5_playedFromMarks_21 : decode cX5_playedFromMarks 21 = .ok (.iconst 1, 1) := by decide +kernel
theorem dX5_playedFromMarks_22 : decode cX5_playedFromMarks 22 = .ok (.iand, 1) := by decide +kernel
theorem dX5_playedFromMarks_23 : decode cX5_playedFromMarks 23 = .ok (.iconst 1, 1) := by decide +kernel
theorem dX5_playedFromMarks_24 : decode cX5_playedFromMarks 24 = .ok (.if_icmp .ne 11, 3) := by decide +kernel
theorem dX5_playedFromMarks_27 : decode cX5_playedFromMarks 27 = .ok (.aload_n 0, 1) := by decide +kernel
theorem dX5_playedFromMarks_28 : decode cX5_playedFromMarks 28 = .ok (.getfield 50, 3) := by decide +kernel
theorem dX5_playedFromMarks_31 : decode cX5_playedFromMarks 31 = .ok (.iload 4, 2) := by decide +kernel
theorem dX5_playedFromMarks_33 : decode cX5_playedFromMarks 33 = .ok (.iaload, 1) := by decide +kernel
theorem dX5_playedFromMarks_34 : decode cX5_playedFromMarks 34 = .ok (.istore_n 3, 1) := by decide +kernel
theorem dX5_playedFromMarks_35 : decode cX5_playedFromMarks 35 = .ok (.iload_n 2, 1) := by decide +kernel
theorem dX5_playedFromMarks_36 : decode cX5_playedFromMarks 36 = .ok (.aload_n 0, 1) := by decide +kernel
theorem dX5_playedFromMarks_37 : decode cX5_playedFromMarks 37 = .ok (.getfield 53, 3) := by decide +kernel
theorem dX5_playedFromMarks_40 : decode cX5_playedFromMarks 40 = .ok (.iload 4, 2) := by decide +kernel
theorem dX5_playedFromMarks_42 : decode cX5_playedFromMarks 42 = .ok (.iaload, 1) := by decide +kernel
theorem dX5_playedFromMarks_43 : decode cX5_playedFromMarks 43 = .ok (.aload_n 0, 1) := by decide +kernel
theorem dX5_playedFromMarks_44 : decode cX5_playedFromMarks 44 = .ok (.getfield 50, 3) := by decide +kernel
theorem dX5_playedFromMarks_47 : decode cX5_playedFromMarks 47 = .ok (.iload 4, 2) := by decide +kernel
theorem dX5_playedFromMarks_49 : decode cX5_playedFromMarks 49 = .ok (.iaload, 1) := by decide +kernel
theorem dX5_playedFromMarks_50 : decode cX5_playedFromMarks 50 = .ok (.iload_n 3, 1) := by decide +kernel
theorem dX5_playedFromMarks_51 : decode cX5_playedFromMarks 51 = .ok (.isub, 1) := by decide +kernel
theorem dX5_playedFromMarks_52 : decode cX5_playedFromMarks 52 = .ok (.imul, 1) := by decide +kernel
theorem dX5_playedFromMarks_53 : decode cX5_playedFromMarks 53 = .ok (.iadd, 1) := by decide +kernel
theorem dX5_playedFromMarks_54 : decode cX5_playedFromMarks 54 = .ok (.istore_n 2, 1) := by decide +kernel
theorem dX5_playedFromMarks_55 : decode cX5_playedFromMarks 55 = .ok (.iinc 4 1, 3) := by decide +kernel
theorem dX5_playedFromMarks_58 : decode cX5_playedFromMarks 58 = .ok (.goto (-51), 3) := by decide +kernel
theorem dX5_playedFromMarks_61 : decode cX5_playedFromMarks 61 = .ok (.iload_n 2, 1) := by decide +kernel
theorem dX5_playedFromMarks_62 : decode cX5_playedFromMarks 62 = .ok (.ireturn, 1) := by decide +kernel
theorem dX5_arrange_0 : decode cX5_arrange 0 = .ok (.aload_n 1, 1) := by decide +kernel
theorem dX5_arrange_1 : decode cX5_arrange 1 = .ok (.getfield 56, 3) := by decide +kernel
theorem dX5_arrange_4 : decode cX5_arrange 4 = .ok (.aload_n 1, 1) := by decide +kernel
theorem dX5_arrange_5 : decode cX5_arrange 5 = .ok (.getfield 62, 3) := by decide +kernel
theorem dX5_arrange_8 : decode cX5_arrange 8 = .ok (.getfield 66, 3) := by decide +kernel
theorem dX5_arrange_11 : decode cX5_arrange 11 = .ok (.invokevirtual 21, 3) := by decide +kernel
theorem dX5_arrange_14 : decode cX5_arrange 14 = .ok (.bipush 8, 2) := by decide +kernel
theorem dX5_arrange_16 : decode cX5_arrange 16 = .ok (.invokestatic 27, 3) := by decide +kernel
theorem dX5_arrange_19 : decode cX5_arrange 19 = .ok (.istore_n 2, 1) := by decide +kernel
theorem dX5_arrange_20 : decode cX5_arrange 20 = .ok (.aload_n 1, 1) := by decide +kernel
theorem dX5_arrange_21 : decode cX5_arrange 21 = .ok (.getfield 56, 3) := by decide +kernel
theorem dX5_arrange_24 : decode cX5_arrange 24 = .ok (.aload_n 1, 1) := by decide +kernel
theorem dX5_arrange_25 : decode cX5_arrange 25 = .ok (.getfield 62, 3) := by decide +kernel
theorem dX5_arrange_28 : decode cX5_arrange 28 = .ok (.getfield 66, 3) := by decide +kernel
theorem dX5_arrange_31 : decode cX5_arrange 31 = .ok (.invokevirtual 71, 3) := by decide +kernel
theorem dX5_arrange_34 : decode cX5_arrange 34 = .ok (.istore_n 3, 1) := by decide +kernel
theorem dX5_arrange_35 : decode cX5_arrange 35 = .ok (.iconst 1, 1) := by decide +kernel
theorem dX5_arrange_36 : decode cX5_arrange 36 = .ok (.iload_n 2, 1) := by decide +kernel
theorem dX5_arrange_37 : decode cX5_arrange 37 = .ok (.ishl, 1) := by decide +kernel
theorem dX5_arrange_38 : decode cX5_arrange 38 = .ok (.iconst 1, 1) := by decide +kernel
theorem dX5_arrange_39 : decode cX5_arrange 39 = .ok (.isub, 1) := by decide +kernel
theorem dX5_arrange_40 : decode cX5_arrange 40 = .ok (.istore 4, 2) := by decide +kernel
theorem dX5_arrange_42 : decode cX5_arrange 42 = .ok (.aload_n 0, 1) := by decide +kernel
theorem dX5_arrange_43 : decode cX5_arrange 43 = .ok (.getfield 11, 3) := by decide +kernel
theorem dX5_arrange_46 : decode cX5_arrange 46 = .ok (.iload 4, 2) := by decide +kernel
theorem dX5_arrange_48 : decode cX5_arrange 48 = .ok (.iconst 0, 1) := by decide +kernel
theorem dX5_arrange_49 : decode cX5_arrange 49 = .ok (.iastore, 1) := by decide +kernel
theorem dX5_arrange_50 : decode cX5_arrange 50 = .ok (.iload 4, 2) := by decide +kernel
theorem dX5_arrange_52 : decode cX5_arrange 52 = .ok (.iconst 1, 1) := by decide +kernel
theorem dX5_arrange_53 : decode cX5_arrange 53 = .ok (.isub, 1) := by decide +kernel
theorem dX5_arrange_54 : decode cX5_arrange 54 = .ok (.istore 5, 2) := by decide +kernel
theorem dX5_arrange_56 : decode cX5_arrange 56 = .ok (.iload 5, 2) := by decide +kernel
theorem dX5_arrange_58 : decode cX5_arrange 58 = .ok (.ifCond .lt 98, 3) := by decide +kernel
theorem dX5_arrange_61 : decode cX5_arrange 61 = .ok (.aload_n 0, 1) := by decide +kernel
theorem dX5_arrange_62 : decode cX5_arrange 62 = .ok (.getfield 11, 3) := by decide +kernel
theorem dX5_arrange_65 : decode cX5_arrange 65 = .ok (.iload 5, 2) := by decide +kernel
theorem dX5_arrange_67 : decode cX5_arrange 67 = .ok (.ldc 33, 2) := by decide +kernel
theorem dX5_arrange_69 : decode cX5_arrange 69 = .ok (.iastore, 1) := by decide +kernel
theorem dX5_arrange_70 : decode cX5_arrange 70 = .ok (.iconst 0, 1) := by decide +kernel
theorem dX5_arrange_71 : decode cX5_arrange 71 = .ok (.istore 6, 2) := by decide +kernel
theorem dX5_arrange_73 : decode cX5_arrange 73 = .ok (.iload 6, 2) := by decide +kernel
theorem dX5_arrange_75 : decode cX5_arrange 75 = .ok (.iload_n 2, 1) := by decide +kernel
theorem dX5_arrange_76 : decode cX5_arrange 76 = .ok (.if_icmp .ge 74, 3) := by decide +kernel
theorem dX5_arrange_79 : decode cX5_arrange 79 = .ok (.iload 5, 2) := by decide +kernel
theorem dX5_arrange_81 : decode cX5_arrange 81 = .ok (.iload 6, 2) := by decide +kernel
theorem dX5_arrange_83 : decode cX5_arrange 83 = .ok (.ishr, 1) := by decide +kernel
theorem dX5_arrange_84 : decode cX5_arrange 84 = .ok (.iconst 1, 1) := by decide +kernel
theorem dX5_arrange_85 : decode cX5_arrange 85 = .ok (.iand, 1) := by decide +kernel
theorem dX5_arrange_86 : decode cX5_arrange 86 = .ok (.ifCond .ne 58, 3) := by decide +kernel
theorem dX5_arrange_89 : decode cX5_arrange 89 = .ok (.aload_n 0, 1) := by decide +kernel
theorem dX5_arrange_90 : decode cX5_arrange 90 = .ok (.getfield 11, 3) := by decide +kernel
theorem dX5_arrange_93 : decode cX5_arrange 93 = .ok (.iload 5, 2) := by decide +kernel
theorem dX5_arrange_95 : decode cX5_arrange 95 = .ok (.iconst 1, 1) := by decide +kernel
theorem dX5_arrange_96 : decode cX5_arrange 96 = .ok (.iload 6, 2) := by decide +kernel
theorem dX5_arrange_98 : decode cX5_arrange 98 = .ok (.ishl, 1) := by decide +kernel
theorem dX5_arrange_99 : decode cX5_arrange 99 = .ok (.ior, 1) := by decide +kernel
theorem dX5_arrange_100 : decode cX5_arrange 100 = .ok (.iaload, 1) := by decide +kernel
theorem dX5_arrange_101 : decode cX5_arrange 101 = .ok (.aload_n 1, 1) := by decide +kernel
theorem dX5_arrange_102 : decode cX5_arrange 102 = .ok (.iload_n 3, 1) := by decide +kernel
theorem dX5_arrange_103 : decode cX5_arrange 103 = .ok (.iload_n 2, 1) := by decide +kernel
theorem dX5_arrange_104 : decode cX5_arrange 104 = .ok (.iload 5, 2) := by decide +kernel
theorem dX5_arrange_106 : decode cX5_arrange 106 = .ok (.iload 6, 2) := by decide +kernel
theorem dX5_arrange_108 : decode cX5_arrange 108 = .ok (.invokestatic 74, 3) := by decide +kernel
theorem dX5_arrange_111 : decode cX5_arrange 111 = .ok (.iadd, 1) := by decide +kernel
theorem dX5_arrange_112 : decode cX5_arrange 112 = .ok (.istore 7, 2) := by decide +kernel
theorem dX5_arrange_114 : decode cX5_arrange 114 = .ok (.iload 7, 2) := by decide +kernel
theorem dX5_arrange_116 : decode cX5_arrange 116 = .ok (.aload_n 0, 1) := by decide +kernel
theorem dX5_arrange_117 : decode cX5_arrange 117 = .ok (.getfield 11, 3) := by decide +kernel
theorem dX5_arrange_120 : decode cX5_arrange 120 = .ok (.iload 5, 2) := by decide +kernel
theorem dX5_arrange_122 : decode cX5_arrange 122 = .ok (.iaload, 1) := by decide +kernel
theorem dX5_arrange_123 : decode cX5_arrange 123 = .ok (.if_icmp .ge 21, 3) := by decide +kernel
theorem dX5_arrange_126 : decode cX5_arrange 126 = .ok (.aload_n 0, 1) := by decide +kernel
theorem dX5_arrange_127 : decode cX5_arrange 127 = .ok (.getfield 11, 3) := by decide +kernel
theorem dX5_arrange_130 : decode cX5_arrange 130 = .ok (.iload 5, 2) := by decide +kernel
theorem dX5_arrange_132 : decode cX5_arrange 132 = .ok (.iload 7, 2) := by decide +kernel
theorem dX5_arrange_134 : decode cX5_arrange 134 = .ok (.iastore, 1) := by decide +kernel
theorem dX5_arrange_135 : decode cX5_arrange 135 = .ok (.aload_n 0, 1) := by decide +kernel
theorem dX5_arrange_136 : decode cX5_arrange 136 = .ok (.getfield 15, 3) := by decide +kernel
theorem dX5_arrange_139 : decode cX5_arrange 139 = .ok (.iload 5, 2) := by decide +kernel
theorem dX5_arrange_141 : decode cX5_arrange 141 = .ok (.iload 6, 2) := by decide +kernel
theorem dX5_arrange_143 : decode cX5_arrange 143 = .ok (.iastore, 1) := by decide +kernel
theorem dX5_arrange_144 : decode cX5_arrange 144 = .ok (.iinc 6 1, 3) := by decide +kernel
theorem dX5_arrange_147 : decode cX5_arrange 147 = .ok (.goto (-74), 3) := by decide +kernel
theorem dX5_arrange_150 : decode cX5_arrange 150 = .ok (.iinc 5 (-1), 3) := by decide +kernel
theorem dX5_arrange_153 : decode cX5_arrange 153 = .ok (.goto (-97), 3) := by decide +kernel
theorem dX5_arrange_156 : decode cX5_arrange 156 = .ok (.aload_n 0, 1) := by decide +kernel
theorem dX5_arrange_157 : decode cX5_arrange 157 = .ok (.aload_n 0, 1) := by decide +kernel
theorem dX5_arrange_158 : decode cX5_arrange 158 = .ok (.getfield 11, 3) := by decide +kernel
theorem dX5_arrange_161 : decode cX5_arrange 161 = .ok (.iconst 0, 1) := by decide +kernel
theorem dX5_arrange_162 : decode cX5_arrange 162 = .ok (.iaload, 1) := by decide +kernel
theorem dX5_arrange_163 : decode cX5_arrange 163 = .ok (.putfield 34, 3) := by decide +kernel
theorem dX5_arrange_166 : decode cX5_arrange 166 = .ok (.iconst 0, 1) := by decide +kernel
theorem dX5_arrange_167 : decode cX5_arrange 167 = .ok (.istore 5, 2) := by decide +kernel
theorem dX5_arrange_169 : decode cX5_arrange 169 = .ok (.iconst 0, 1) := by decide +kernel
theorem dX5_arrange_170 : decode cX5_arrange 170 = .ok (.istore 6, 2) := by decide +kernel
theorem dX5_arrange_172 : decode cX5_arrange 172 = .ok (.iload 6, 2) := by decide +kernel
theorem dX5_arrange_174 : decode cX5_arrange 174 = .ok (.iload_n 2, 1) := by decide +kernel
theorem dX5_arrange_175 : decode cX5_arrange 175 = .ok (.if_icmp .ge 39, 3) := by decide +kernel
theorem dX5_arrange_178 : decode cX5_arrange 178 = .ok (.aload_n 0, 1) := by decide +kernel
theorem dX5_arrange_179 : decode cX5_arrange 179 = .ok (.getfield 18, 3) := by decide +kernel
theorem dX5_arrange_182 : decode cX5_arrange 182 = .ok (.iload 6, 2) := by decide +kernel
theorem dX5_arrange_184 : decode cX5_arrange 184 = .ok (.iload_n 3, 1) := by decide +kernel
theorem dX5_arrange_185 : decode cX5_arrange 185 = .ok (.aload_n 0, 1) := by decide +kernel
theorem dX5_arrange_186 : decode cX5_arrange 186 = .ok (.getfield 15, 3) := by decide +kernel
theorem dX5_arrange_189 : decode cX5_arrange 189 = .ok (.iload 5, 2) := by decide +kernel
theorem dX5_arrange_191 : decode cX5_arrange 191 = .ok (.iaload, 1) := by decide +kernel
theorem dX5_arrange_192 : decode cX5_arrange 192 = .ok (.iadd, 1) := by decide +kernel
theorem dX5_arrange_193 : decode cX5_arrange 193 = .ok (.iastore, 1) := by decide +kernel
theorem dX5_arrange_194 : decode cX5_arrange 194 = .ok (.iload 5, 2) := by decide +kernel
theorem dX5_arrange_196 : decode cX5_arrange 196 = .ok (.iconst 1, 1) := by decide +kernel
theorem dX5_arrange_197 : decode cX5_arrange 197 = .ok (.aload_n 0, 1) := by decide +kernel
theorem dX5_arrange_198 : decode cX5_arrange 198 = .ok (.getfield 15, 3) := by decide +kernel
theorem dX5_arrange_201 : decode cX5_arrange 201 = .ok (.iload 5, 2) := by decide +kernel
theorem dX5_arrange_203 : decode cX5_arrange 203 = .ok (.iaload, 1) := by decide +kernel
theorem dX5_arrange_204 : decode cX5_arrange 204 = .ok (.ishl, 1) := by decide +kernel
theorem dX5_arrange_205 : decode cX5_arrange 205 = .ok (.ior, 1) := by decide +kernel
theorem dX5_arrange_206 : decode cX5_arrange 206 = .ok (.istore 5, 2) := by decide +kernel
theorem dX5_arrange_208 : decode cX5_arrange 208 = .ok (.iinc 6 1, 3) := by decide +kernel
theorem dX5_arrange_211 : decode cX5_arrange 211 = .ok (.goto (-39), 3) := by decide +kernel
theorem dX5_arrange_214 : decode cX5_arrange 214 = .ok (.return_, 1) := by decide +kernel
theorem dX5_crossed_0 : decode cX5_crossed 0 = .ok (.iconst 0, 1) := by decide +kernel
theorem dX5_crossed_1 : decode cX5_crossed 1 = .ok (.istore 5, 2) := by decide +kernel
theorem dX5_crossed_3 : decode cX5_crossed 3 = .ok (.iconst 0, 1) := by decide +kernel
theorem dX5_crossed_4 : decode cX5_crossed 4 = .ok (.istore 6, 2) := by decide +kernel
theorem dX5_crossed_6 : decode cX5_crossed 6 = .ok (.iload 6, 2) := by decide +kernel
theorem dX5_crossed_8 : decode cX5_crossed 8 = .ok (.iload_n 2, 1) := by decide +kernel
theorem dX5_crossed_9 : decode cX5_crossed 9 = .ok (.if_icmp .ge 141, 3) := by decide +kernel
theorem dX5_crossed_12 : decode cX5_crossed 12 = .ok (.iconst 0, 1) := by decide +kernel
theorem dX5_crossed_13 : decode cX5_crossed 13 = .ok (.istore 7, 2) := by decide +kernel
theorem dX5_crossed_15 : decode cX5_crossed 15 = .ok (.iload 7, 2) := by decide +kernel
theorem dX5_crossed_17 : decode cX5_crossed 17 = .ok (.iload_n 2, 1) := by decide +kernel
theorem dX5_crossed_18 : decode cX5_crossed 18 = .ok (.if_icmp .ge 126, 3) := by decide +kernel
theorem dX5_crossed_21 : decode cX5_crossed 21 = .ok (.iload_n 3, 1) := by decide +kernel
theorem dX5_crossed_22 : decode cX5_crossed 22 = .ok (.iload 6, 2) := by decide +kernel
theorem dX5_crossed_24 : decode cX5_crossed 24 = .ok (.ishr, 1) := by decide +kernel
theorem dX5_crossed_25 : decode cX5_crossed 25 = .ok (.iconst 1, 1) := by decide +kernel
theorem dX5_crossed_26 : decode cX5_crossed 26 = .ok (.iand, 1) := by decide +kernel
theorem dX5_crossed_27 : decode cX5_crossed 27 = .ok (.ifCond .ne 7, 3) := by decide +kernel
theorem dX5_crossed_30 : decode cX5_crossed 30 = .ok (.iconst 1, 1) := by decide +kernel
theorem dX5_crossed_31 : decode cX5_crossed 31 = .ok (.goto 4, 3) := by decide +kernel
theorem dX5_crossed_34 : decode cX5_crossed 34 = .ok (.iconst 0, 1) := by decide +kernel
theorem dX5_crossed_35 : decode cX5_crossed 35 = .ok (.istore 8, 2) := by decide +kernel
theorem dX5_crossed_37 : decode cX5_crossed 37 = .ok (.iload_n 3, 1) := by decide +kernel
theorem dX5_crossed_38 : decode cX5_crossed 38 = .ok (.iload 7, 2) := by decide +kernel
theorem dX5_crossed_40 : decode cX5_crossed 40 = .ok (.ishr, 1) := by decide +kernel
theorem dX5_crossed_41 : decode cX5_crossed 41 = .ok (.iconst 1, 1) := by decide +kernel
theorem dX5_crossed_42 : decode cX5_crossed 42 = .ok (.iand, 1) := by decide +kernel
theorem dX5_crossed_43 : decode cX5_crossed 43 = .ok (.ifCond .ne 7, 3) := by decide +kernel
theorem dX5_crossed_46 : decode cX5_crossed 46 = .ok (.iconst 1, 1) := by decide +kernel
theorem dX5_crossed_47 : decode cX5_crossed 47 = .ok (.goto 4, 3) := by decide +kernel
theorem dX5_crossed_50 : decode cX5_crossed 50 = .ok (.iconst 0, 1) := by decide +kernel
theorem dX5_crossed_51 : decode cX5_crossed 51 = .ok (.istore 9, 2) := by decide +kernel
theorem dX5_crossed_53 : decode cX5_crossed 53 = .ok (.iload 8, 2) := by decide +kernel
theorem dX5_crossed_55 : decode cX5_crossed 55 = .ok (.ifCond .ne 19, 3) := by decide +kernel
theorem dX5_crossed_58 : decode cX5_crossed 58 = .ok (.iload 9, 2) := by decide +kernel
theorem dX5_crossed_60 : decode cX5_crossed 60 = .ok (.ifCond .eq 14, 3) := by decide +kernel
theorem dX5_crossed_63 : decode cX5_crossed 63 = .ok (.iload 7, 2) := by decide +kernel
theorem dX5_crossed_65 : decode cX5_crossed 65 = .ok (.iload 4, 2) := by decide +kernel
theorem dX5_crossed_67 : decode cX5_crossed 67 = .ok (.if_icmp .eq 7, 3) := by decide +kernel
theorem dX5_crossed_70 : decode cX5_crossed 70 = .ok (.iconst 1, 1) := by decide +kernel
theorem dX5_crossed_71 : decode cX5_crossed 71 = .ok (.goto 4, 3) := by decide +kernel
theorem dX5_crossed_74 : decode cX5_crossed 74 = .ok (.iconst 0, 1) := by decide +kernel
theorem dX5_crossed_75 : decode cX5_crossed 75 = .ok (.istore 10, 2) := by decide +kernel
theorem dX5_crossed_77 : decode cX5_crossed 77 = .ok (.iload 8, 2) := by decide +kernel
theorem dX5_crossed_79 : decode cX5_crossed 79 = .ok (.ifCond .eq 26, 3) := by decide +kernel
theorem dX5_crossed_82 : decode cX5_crossed 82 = .ok (.iload 9, 2) := by decide +kernel
theorem dX5_crossed_84 : decode cX5_crossed 84 = .ok (.ifCond .eq 10, 3) := by decide +kernel
theorem dX5_crossed_87 : decode cX5_crossed 87 = .ok (.iload 7, 2) := by decide +kernel
theorem dX5_crossed_89 : decode cX5_crossed 89 = .ok (.iload 4, 2) := by decide +kernel
theorem dX5_crossed_91 : decode cX5_crossed 91 = .ok (.if_icmp .ne 14, 3) := by decide +kernel
theorem dX5_crossed_94 : decode cX5_crossed 94 = .ok (.iload 6, 2) := by decide +kernel
theorem dX5_crossed_96 : decode cX5_crossed 96 = .ok (.iload 7, 2) := by decide +kernel
theorem dX5_crossed_98 : decode cX5_crossed 98 = .ok (.if_icmp .eq 7, 3) := by decide +kernel
theorem dX5_crossed_101 : decode cX5_crossed 101 = .ok (.iconst 1, 1) := by decide +kernel
theorem dX5_crossed_102 : decode cX5_crossed 102 = .ok (.goto 4, 3) := by decide +kernel
theorem dX5_crossed_105 : decode cX5_crossed 105 = .ok (.iconst 0, 1) := by decide +kernel
theorem dX5_crossed_106 : decode cX5_crossed 106 = .ok (.istore 11, 2) := by decide +kernel
theorem dX5_crossed_108 : decode cX5_crossed 108 = .ok (.iload 10, 2) := by decide +kernel
theorem dX5_crossed_110 : decode cX5_crossed 110 = .ok (.ifCond .ne 8, 3) := by decide +kernel
theorem dX5_crossed_113 : decode cX5_crossed 113 = .ok (.iload 11, 2) := by decide +kernel
theorem dX5_crossed_115 : decode cX5_crossed 115 = .ok (.ifCond .eq 23, 3) := by decide +kernel
theorem dX5_crossed_118 : decode cX5_crossed 118 = .ok (.iload 5, 2) := by decide +kernel
theorem dX5_crossed_120 : decode cX5_crossed 120 = .ok (.aload_n 0, 1) := by decide +kernel
theorem dX5_crossed_121 : decode cX5_crossed 121 = .ok (.getfield 78, 3) := by decide +kernel
theorem dX5_crossed_124 : decode cX5_crossed 124 = .ok (.iload_n 1, 1) := by decide +kernel
theorem dX5_crossed_125 : decode cX5_crossed 125 = .ok (.iload 6, 2) := by decide +kernel
theorem dX5_crossed_127 : decode cX5_crossed 127 = .ok (.iadd, 1) := by decide +kernel
theorem dX5_crossed_128 : decode cX5_crossed 128 = .ok (.iload_n 1, 1) := by decide +kernel
theorem dX5_crossed_129 : decode cX5_crossed 129 = .ok (.iload 7, 2) := by decide +kernel
theorem dX5_crossed_131 : decode cX5_crossed 131 = .ok (.iadd, 1) := by decide +kernel
theorem dX5_crossed_132 : decode cX5_crossed 132 = .ok (.invokevirtual 82, 3) := by decide +kernel
theorem dX5_crossed_135 : decode cX5_crossed 135 = .ok (.iadd, 1) := by decide +kernel
theorem dX5_crossed_136 : decode cX5_crossed 136 = .ok (.istore 5, 2) := by decide +kernel
theorem dX5_crossed_138 : decode cX5_crossed 138 = .ok (.iinc 7 1, 3) := by decide +kernel
theorem dX5_crossed_141 : decode cX5_crossed 141 = .ok (.goto (-126), 3) := by decide +kernel
theorem dX5_crossed_144 : decode cX5_crossed 144 = .ok (.iinc 6 1, 3) := by decide +kernel
theorem dX5_crossed_147 : decode cX5_crossed 147 = .ok (.goto (-141), 3) := by decide +kernel
theorem dX5_crossed_150 : decode cX5_crossed 150 = .ok (.iload 5, 2) := by decide +kernel
theorem dX5_crossed_152 : decode cX5_crossed 152 = .ok (.aload_n 0, 1) := by decide +kernel
theorem dX5_crossed_153 : decode cX5_crossed 153 = .ok (.getfield 56, 3) := by decide +kernel
theorem dX5_crossed_156 : decode cX5_crossed 156 = .ok (.getfield 87, 3) := by decide +kernel
theorem dX5_crossed_159 : decode cX5_crossed 159 = .ok (.iload_n 1, 1) := by decide +kernel
theorem dX5_crossed_160 : decode cX5_crossed 160 = .ok (.iload 4, 2) := by decide +kernel
theorem dX5_crossed_162 : decode cX5_crossed 162 = .ok (.iadd, 1) := by decide +kernel
theorem dX5_crossed_163 : decode cX5_crossed 163 = .ok (.iaload, 1) := by decide +kernel
theorem dX5_crossed_164 : decode cX5_crossed 164 = .ok (.imul, 1) := by decide +kernel
theorem dX5_crossed_165 : decode cX5_crossed 165 = .ok (.ireturn, 1) := by decide +kernel
theorem dX5_orderedSong_0 : decode cX5_orderedSong 0 = .ok (.iload_n 1, 1) := by decide +kernel
theorem dX5_orderedSong_1 : decode cX5_orderedSong 1 = .ok (.ifCond .lt 21, 3) := by decide +kernel
theorem dX5_orderedSong_4 : decode cX5_orderedSong 4 = .ok (.iload_n 1, 1) := by decide +kernel
theorem dX5_orderedSong_5 : decode cX5_orderedSong 5 = .ok (.aload_n 0, 1) := by decide +kernel
theorem dX5_orderedSong_6 : decode cX5_orderedSong 6 = .ok (.getfield 18, 3) := by decide +kernel
theorem dX5_orderedSong_9 : decode cX5_orderedSong 9 = .ok (.arraylength, 1) := by decide +kernel
theorem dX5_orderedSong_10 : decode cX5_orderedSong 10 = .ok (.if_icmp .ge 12, 3) := by decide +kernel
theorem dX5_orderedSong_13 : decode cX5_orderedSong 13 = .ok (.aload_n 0, 1) := by decide +kernel
theorem dX5_orderedSong_14 : decode cX5_orderedSong 14 = .ok (.getfield 18, 3) := by decide +kernel
theorem dX5_orderedSong_17 : decode cX5_orderedSong 17 = .ok (.iload_n 1, 1) := by decide +kernel
theorem dX5_orderedSong_18 : decode cX5_orderedSong 18 = .ok (.iaload, 1) := by decide +kernel
theorem dX5_orderedSong_19 : decode cX5_orderedSong 19 = .ok (.goto 4, 3) := by decide +kernel
theorem dX5_orderedSong_22 : decode cX5_orderedSong 22 = .ok (.iconst (-1), 1) := by decide +kernel
theorem dX5_orderedSong_23 : decode cX5_orderedSong 23 = .ok (.ireturn, 1) := by decide +kernel
theorem dX5_halve_0 : decode cX5_halve 0 = .ok (.iconst 0, 1) := by decide +kernel
theorem dX5_halve_1 : decode cX5_halve 1 = .ok (.istore_n 2, 1) := by decide +kernel
theorem dX5_halve_2 : decode cX5_halve 2 = .ok (.iconst 0, 1) := by decide +kernel
theorem dX5_halve_3 : decode cX5_halve 3 = .ok (.istore_n 3, 1) := by decide +kernel
theorem dX5_halve_4 : decode cX5_halve 4 = .ok (.iload_n 3, 1) := by decide +kernel
theorem dX5_halve_5 : decode cX5_halve 5 = .ok (.aload_n 1, 1) := by decide +kernel
theorem dX5_halve_6 : decode cX5_halve 6 = .ok (.getfield 90, 3) := by decide +kernel
theorem dX5_halve_9 : decode cX5_halve 9 = .ok (.if_icmp .ge 18, 3) := by decide +kernel
theorem dX5_halve_12 : decode cX5_halve 12 = .ok (.iload_n 2, 1) := by decide +kernel
theorem dX5_halve_13 : decode cX5_halve 13 = .ok (.aload_n 1, 1) := by decide +kernel
theorem dX5_halve_14 : decode cX5_halve 14 = .ok (.getfield 87, 3) := by decide +kernel
theorem dX5_halve_17 : decode cX5_halve 17 = .ok (.iload_n 3, 1) := by decide +kernel
theorem dX5_halve_18 : decode cX5_halve 18 = .ok (.iaload, 1) := by decide +kernel
theorem dX5_halve_19 : decode cX5_halve 19 = .ok (.iadd, 1) := by decide +kernel
theorem dX5_halve_20 : decode cX5_halve 20 = .ok (.istore_n 2, 1) := by decide +kernel
theorem dX5_halve_21 : decode cX5_halve 21 = .ok (.iinc 3 1, 3) := by decide +kernel
theorem dX5_halve_24 : decode cX5_halve 24 = .ok (.goto (-20), 3) := by decide +kernel
theorem dX5_halve_27 : decode cX5_halve 27 = .ok (.aload_n 0, 1) := by decide +kernel
theorem dX5_halve_28 : decode cX5_halve 28 = .ok (.ldc 33, 2) := by decide +kernel
theorem dX5_halve_30 : decode cX5_halve 30 = .ok (.putfield 34, 3) := by decide +kernel
theorem dX5_halve_33 : decode cX5_halve 33 = .ok (.aload_n 0, 1) := by decide +kernel
theorem dX5_halve_34 : decode cX5_halve 34 = .ok (.iconst 0, 1) := by decide +kernel
theorem dX5_halve_35 : decode cX5_halve 35 = .ok (.putfield 38, 3) := by decide +kernel
theorem dX5_halve_38 : decode cX5_halve 38 = .ok (.iconst 0, 1) := by decide +kernel
theorem dX5_halve_39 : decode cX5_halve 39 = .ok (.istore_n 3, 1) := by decide +kernel
theorem dX5_halve_40 : decode cX5_halve 40 = .ok (.iload_n 3, 1) := by decide +kernel
theorem dX5_halve_41 : decode cX5_halve 41 = .ok (.iconst 1, 1) := by decide +kernel
theorem dX5_halve_42 : decode cX5_halve 42 = .ok (.aload_n 1, 1) := by decide +kernel
theorem dX5_halve_43 : decode cX5_halve 43 = .ok (.getfield 90, 3) := by decide +kernel
theorem dX5_halve_46 : decode cX5_halve 46 = .ok (.bipush 12, 2) := by decide +kernel
theorem dX5_halve_48 : decode cX5_halve 48 = .ok (.invokestatic 27, 3) := by decide +kernel
theorem dX5_halve_51 : decode cX5_halve 51 = .ok (.ishl, 1) := by decide +kernel
theorem dX5_halve_52 : decode cX5_halve 52 = .ok (.if_icmp .ge 98, 3) := by decide +kernel
theorem dX5_halve_55 : decode cX5_halve 55 = .ok (.iconst 0, 1) := by decide +kernel
theorem dX5_halve_56 : decode cX5_halve 56 = .ok (.istore 4, 2) := by decide +kernel
theorem dX5_halve_58 : decode cX5_halve 58 = .ok (.iconst 0, 1) := by decide +kernel
theorem dX5_halve_59 : decode cX5_halve 59 = .ok (.istore 5, 2) := by decide +kernel
theorem dX5_halve_61 : decode cX5_halve 61 = .ok (.iload 5, 2) := by decide +kernel
theorem dX5_halve_63 : decode cX5_halve 63 = .ok (.aload_n 1, 1) := by decide +kernel
theorem dX5_halve_64 : decode cX5_halve 64 = .ok (.getfield 90, 3) := by decide +kernel
theorem dX5_halve_67 : decode cX5_halve 67 = .ok (.if_icmp .ge 28, 3) := by decide +kernel
theorem dX5_halve_70 : decode cX5_halve 70 = .ok (.iload 4, 2) := by decide +kernel
theorem dX5_halve_72 : decode cX5_halve 72 = .ok (.iload_n 3, 1) := by decide +kernel
theorem dX5_halve_73 : decode cX5_halve 73 = .ok (.iload 5, 2) := by decide +kernel
theorem dX5_halve_75 : decode cX5_halve 75 = .ok (.ishr, 1) := by decide +kernel
theorem dX5_halve_76 : decode cX5_halve 76 = .ok (.iconst 1, 1) := by decide +kernel
theorem dX5_halve_77 : decode cX5_halve 77 = .ok (.iand, 1) := by decide +kernel
theorem dX5_halve_78 : decode cX5_halve 78 = .ok (.aload_n 1, 1) := by decide +kernel
theorem dX5_halve_79 : decode cX5_halve 79 = .ok (.getfield 87, 3) := by decide +kernel
theorem dX5_halve_82 : decode cX5_halve 82 = .ok (.iload 5, 2) := by decide +kernel
theorem dX5_halve_84 : decode cX5_halve 84 = .ok (.iaload, 1) := by decide +kernel
theorem dX5_halve_85 : decode cX5_halve 85 = .ok (.imul, 1) := by decide +kernel
theorem dX5_halve_86 : decode cX5_halve 86 = .ok (.iadd, 1) := by decide +kernel
theorem dX5_halve_87 : decode cX5_halve 87 = .ok (.istore 4, 2) := by decide +kernel
theorem dX5_halve_89 : decode cX5_halve 89 = .ok (.iinc 5 1, 3) := by decide +kernel
theorem dX5_halve_92 : decode cX5_halve 92 = .ok (.goto (-31), 3) := by decide +kernel
theorem dX5_halve_95 : decode cX5_halve 95 = .ok (.iload_n 2, 1) := by decide +kernel
theorem dX5_halve_96 : decode cX5_halve 96 = .ok (.iconst 2, 1) := by decide +kernel
theorem dX5_halve_97 : decode cX5_halve 97 = .ok (.iload 4, 2) := by decide +kernel
theorem dX5_halve_99 : decode cX5_halve 99 = .ok (.imul, 1) := by decide +kernel
theorem dX5_halve_100 : decode cX5_halve 100 = .ok (.isub, 1) := by decide +kernel
theorem dX5_halve_101 : decode cX5_halve 101 = .ok (.invokestatic 92, 3) := by decide +kernel
theorem dX5_halve_104 : decode cX5_halve 104 = .ok (.istore 5, 2) := by decide +kernel
theorem dX5_halve_106 : decode cX5_halve 106 = .ok (.iload 4, 2) := by decide +kernel
theorem dX5_halve_108 : decode cX5_halve 108 = .ok (.sipush 200, 3) := by decide +kernel
theorem dX5_halve_111 : decode cX5_halve 111 = .ok (.if_icmp .gt 33, 3) := by decide +kernel
theorem dX5_halve_114 : decode cX5_halve 114 = .ok (.iload_n 2, 1) := by decide +kernel
theorem dX5_halve_115 : decode cX5_halve 115 = .ok (.iload 4, 2) := by decide +kernel
theorem dX5_halve_117 : decode cX5_halve 117 = .ok (.isub, 1) := by decide +kernel
theorem dX5_halve_118 : decode cX5_halve 118 = .ok (.sipush 200, 3) := by decide +kernel
theorem dX5_halve_121 : decode cX5_halve 121 = .ok (.if_icmp .gt 23, 3) := by decide +kernel
theorem dX5_halve_124 : decode cX5_halve 124 = .ok (.iload 5, 2) := by decide +kernel
theorem dX5_halve_126 : decode cX5_halve 126 = .ok (.aload_n 0, 1) := by decide +kernel
theorem dX5_halve_127 : decode cX5_halve 127 = .ok (.getfield 34, 3) := by decide +kernel
theorem dX5_halve_130 : decode cX5_halve 130 = .ok (.if_icmp .ge 14, 3) := by decide +kernel
theorem dX5_halve_133 : decode cX5_halve 133 = .ok (.aload_n 0, 1) := by decide +kernel
theorem dX5_halve_134 : decode cX5_halve 134 = .ok (.iload 5, 2) := by decide +kernel
theorem dX5_halve_136 : decode cX5_halve 136 = .ok (.putfield 34, 3) := by decide +kernel
theorem dX5_halve_139 : decode cX5_halve 139 = .ok (.aload_n 0, 1) := by decide +kernel
theorem dX5_halve_140 : decode cX5_halve 140 = .ok (.iload_n 3, 1) := by decide +kernel
theorem dX5_halve_141 : decode cX5_halve 141 = .ok (.putfield 38, 3) := by decide +kernel
theorem dX5_halve_144 : decode cX5_halve 144 = .ok (.iinc 3 1, 3) := by decide +kernel
theorem dX5_halve_147 : decode cX5_halve 147 = .ok (.goto (-107), 3) := by decide +kernel
theorem dX5_halve_150 : decode cX5_halve 150 = .ok (.aload_n 0, 1) := by decide +kernel
theorem dX5_halve_151 : decode cX5_halve 151 = .ok (.getfield 34, 3) := by decide +kernel
theorem dX5_halve_154 : decode cX5_halve 154 = .ok (.ldc 33, 2) := by decide +kernel
theorem dX5_halve_156 : decode cX5_halve 156 = .ok (.if_icmp .eq 7, 3) := by decide +kernel
theorem dX5_halve_159 : decode cX5_halve 159 = .ok (.iconst 1, 1) := by decide +kernel
theorem dX5_halve_160 : decode cX5_halve 160 = .ok (.goto 4, 3) := by decide +kernel
theorem dX5_halve_163 : decode cX5_halve 163 = .ok (.iconst 0, 1) := by decide +kernel
theorem dX5_halve_164 : decode cX5_halve 164 = .ok (.ireturn, 1) := by decide +kernel
theorem dX6_init_0 : decode cX6_init 0 = .ok (.aload_n 0, 1) := by decide +kernel
theorem dX6_init_1 : decode cX6_init 1 = .ok (.invokespecial 3, 3) := by decide +kernel
theorem dX6_init_4 : decode cX6_init 4 = .ok (.aload_n 0, 1) := by decide +kernel
theorem dX6_init_5 : decode cX6_init 5 = .ok (.bipush 7, 2) := by decide +kernel
theorem dX6_init_7 : decode cX6_init 7 = .ok (.newarray .int, 2) := by decide +kernel
theorem dX6_init_9 : decode cX6_init 9 = .ok (.putfield 11, 3) := by decide +kernel
theorem dX6_init_12 : decode cX6_init 12 = .ok (.aload_n 0, 1) := by decide +kernel
theorem dX6_init_13 : decode cX6_init 13 = .ok (.iconst 3, 1) := by decide +kernel
theorem dX6_init_14 : decode cX6_init 14 = .ok (.sipush 201, 3) := by decide +kernel
theorem dX6_init_17 : decode cX6_init 17 = .ok (.multianewarray 17 2, 4) := by decide +kernel
theorem dX6_init_21 : decode cX6_init 21 = .ok (.putfield 19, 3) := by decide +kernel
theorem dX6_init_24 : decode cX6_init 24 = .ok (.aload_n 0, 1) := by decide +kernel
theorem dX6_init_25 : decode cX6_init 25 = .ok (.iconst 3, 1) := by decide +kernel
theorem dX6_init_26 : decode cX6_init 26 = .ok (.sipush 201, 3) := by decide +kernel
theorem dX6_init_29 : decode cX6_init 29 = .ok (.multianewarray 17 2, 4) := by decide +kernel
theorem dX6_init_33 : decode cX6_init 33 = .ok (.putfield 22, 3) := by decide +kernel
theorem dX6_init_36 : decode cX6_init 36 = .ok (.aload_n 0, 1) := by decide +kernel
theorem dX6_init_37 : decode cX6_init 37 = .ok (.sipush 201, 3) := by decide +kernel
theorem dX6_init_40 : decode cX6_init 40 = .ok (.newarray .int, 2) := by decide +kernel
theorem dX6_init_42 : decode cX6_init 42 = .ok (.putfield 25, 3) := by decide +kernel
theorem dX6_init_45 : decode cX6_init 45 = .ok (.return_, 1) := by decide +kernel
theorem dX6_face_0 : decode cX6_face 0 = .ok (.aload_n 0, 1) := by decide +kernel
theorem dX6_face_1 : decode cX6_face 1 = .ok (.iload_n 1, 1) := by decide +kernel
theorem dX6_face_2 : decode cX6_face 2 = .ok (.putfield 28, 3) := by decide +kernel
theorem dX6_face_5 : decode cX6_face 5 = .ok (.aload_n 0, 1) := by decide +kernel
theorem dX6_face_6 : decode cX6_face 6 = .ok (.iload_n 2, 1) := by decide +kernel
theorem dX6_face_7 : decode cX6_face 7 = .ok (.putfield 32, 3) := by decide +kernel
theorem dX6_face_10 : decode cX6_face 10 = .ok (.return_, 1) := by decide +kernel
theorem dX6_press_0 : decode cX6_press 0 = .ok (.aload_n 0, 1) := by decide +kernel
theorem dX6_press_1 : decode cX6_press 1 = .ok (.iload_n 1, 1) := by decide +kernel
theorem dX6_press_2 : decode cX6_press 2 = .ok (.putfield 35, 3) := by decide +kernel
theorem dX6_press_5 : decode cX6_press 5 = .ok (.aload_n 0, 1) := by decide +kernel
theorem dX6_press_6 : decode cX6_press 6 = .ok (.iload_n 2, 1) := by decide +kernel
theorem dX6_press_7 : decode cX6_press 7 = .ok (.putfield 39, 3) := by decide +kernel
theorem dX6_press_10 : decode cX6_press 10 = .ok (.aload_n 0, 1) := by decide +kernel
theorem dX6_press_11 : decode cX6_press 11 = .ok (.dup, 1) := by decide +kernel
theorem dX6_press_12 : decode cX6_press 12 = .ok (.getfield 42, 3) := by decide +kernel
theorem dX6_press_15 : decode cX6_press 15 = .ok (.iconst 1, 1) := by decide +kernel
theorem dX6_press_16 : decode cX6_press 16 = .ok (.iadd, 1) := by decide +kernel
theorem dX6_press_17 : decode cX6_press 17 = .ok (.putfield 42, 3) := by decide +kernel
theorem dX6_press_20 : decode cX6_press 20 = .ok (.return_, 1) := by decide +kernel
theorem dX6_told_0 : decode cX6_told 0 = .ok (.iload_n 3, 1) := by decide +kernel
theorem dX6_told_1 : decode cX6_told 1 = .ok (.ifCond .lt 19, 3) := by decide +kernel
theorem dX6_told_4 : decode cX6_told 4 = .ok (.iload_n 3, 1) := by decide +kernel
theorem dX6_told_5 : decode cX6_told 5 = .ok (.iconst 3, 1) := by decide +kernel
theorem dX6_told_6 : decode cX6_told 6 = .ok (.if_icmp .ge 14, 3) := by decide +kernel
theorem dX6_told_9 : decode cX6_told 9 = .ok (.aload_n 1, 1) := by decide +kernel
theorem dX6_told_10 : decode cX6_told 10 = .ok (.getfield 45, 3) := by decide +kernel
theorem dX6_told_13 : decode cX6_told 13 = .ok (.iload_n 2, 1) := by decide +kernel
theorem dX6_told_14 : decode cX6_told 14 = .ok (.invokevirtual 51, 3) := by decide +kernel
theorem dX6_told_17 : decode cX6_told 17 = .ok (.ifCond .ne 5, 3) := by decide +kernel
theorem dX6_told_20 : decode cX6_told 20 = .ok (.iconst 0, 1) := by decide +kernel
theorem dX6_told_21 : decode cX6_told 21 = .ok (.ireturn, 1) := by decide +kernel
theorem dX6_told_22 : decode cX6_told 22 = .ok (.aload_n 0, 1) := by decide +kernel
theorem dX6_told_23 : decode cX6_told 23 = .ok (.getfield 22, 3) := by decide +kernel
theorem dX6_told_26 : decode cX6_told 26 = .ok (.iload_n 3, 1) := by decide +kernel
theorem dX6_told_27 : decode cX6_told 27 = .ok (.aaload, 1) := by decide +kernel
theorem dX6_told_28 : decode cX6_told 28 = .ok (.iload_n 2, 1) := by decide +kernel
theorem dX6_told_29 : decode cX6_told 29 = .ok (.iaload, 1) := by decide +kernel
theorem dX6_told_30 : decode cX6_told 30 = .ok (.aload_n 0, 1) := by decide +kernel
theorem dX6_told_31 : decode cX6_told 31 = .ok (.getfield 42, 3) := by decide +kernel
theorem dX6_told_34 : decode cX6_told 34 = .ok (.if_icmp .eq 161, 3) := by decide +kernel
theorem dX6_told_37 : decode cX6_told 37 = .ok (.aload_n 1, 1) := by decide +kernel
theorem dX6_told_38 : decode cX6_told 38 = .ok (.getfield 45, 3) := by decide +kernel
theorem dX6_told_41 : decode cX6_told 41 = .ok (.getfield 57, 3) := by decide +kernel
theorem dX6_told_44 : decode cX6_told 44 = .ok (.istore 4, 2) := by decide +kernel
theorem dX6_told_46 : decode cX6_told 46 = .ok (.aload_n 1, 1) := by decide +kernel
theorem dX6_told_47 : decode cX6_told 47 = .ok (.getfield 45, 3) := by decide +kernel
theorem dX6_told_50 : decode cX6_told 50 = .ok (.aload_n 0, 1) := by decide +kernel
theorem dX6_told_51 : decode cX6_told 51 = .ok (.getfield 28, 3) := by decide +kernel
theorem dX6_told_54 : decode cX6_told 54 = .ok (.iload_n 2, 1) := by decide +kernel
theorem dX6_told_55 : decode cX6_told 55 = .ok (.invokevirtual 60, 3) := by decide +kernel
theorem dX6_told_58 : decode cX6_told 58 = .ok (.istore 5, 2) := by decide +kernel
theorem dX6_told_60 : decode cX6_told 60 = .ok (.aload_n 0, 1) := by decide +kernel
theorem dX6_told_61 : decode cX6_told 61 = .ok (.getfield 11, 3) := by decide +kernel
theorem dX6_told_64 : decode cX6_told 64 = .ok (.iconst 0, 1) := by decide +kernel
theorem dX6_told_65 : decode cX6_told 65 = .ok (.iload_n 2, 1) := by decide +kernel
theorem dX6_told_66 : decode cX6_told 66 = .ok (.iastore, 1) := by decide +kernel
theorem dX6_told_67 : decode cX6_told 67 = .ok (.aload_n 0, 1) := by decide +kernel
theorem dX6_told_68 : decode cX6_told 68 = .ok (.getfield 11, 3) := by decide +kernel
theorem dX6_told_71 : decode cX6_told 71 = .ok (.iconst 1, 1) := by decide +kernel
theorem dX6_told_72 : decode cX6_told 72 = .ok (.iload 4, 2) := by decide +kernel
theorem dX6_told_74 : decode cX6_told 74 = .ok (.ifCond .ne 7, 3) := by decide +kernel
theorem dX6_told_77 : decode cX6_told 77 = .ok (.iconst 0, 1) := by decide +kernel
theorem dX6_told_78 : decode cX6_told 78 = .ok (.goto 10, 3) := by decide +kernel
theorem dX6_told_81 : decode cX6_told 81 = .ok (.bipush 99, 2) := by decide +kernel
theorem dX6_told_83 : decode cX6_told 83 = .ok (.iload_n 2, 1) := by decide +kernel
theorem dX6_told_84 : decode cX6_told 84 = .ok (.imul, 1) := by decide +kernel
theorem dX6_told_85 : decode cX6_told 85 = .ok (.iload 4, 2) := by decide +kernel
theorem dX6_told_87 : decode cX6_told 87 = .ok (.idiv, 1) := by decide +kernel
theorem dX6_told_88 : decode cX6_told 88 = .ok (.iastore, 1) := by decide +kernel
theorem dX6_told_89 : decode cX6_told 89 = .ok (.aload_n 0, 1) := by decide +kernel
theorem dX6_told_90 : decode cX6_told 90 = .ok (.getfield 11, 3) := by decide +kernel
theorem dX6_told_93 : decode cX6_told 93 = .ok (.iconst 2, 1) := by decide +kernel
theorem dX6_told_94 : decode cX6_told 94 = .ok (.aload_n 0, 1) := by decide +kernel
theorem dX6_told_95 : decode cX6_told 95 = .ok (.getfield 35, 3) := by decide +kernel
theorem dX6_told_98 : decode cX6_told 98 = .ok (.ifCond .eq 7, 3) := by decide +kernel
theorem dX6_told_101 : decode cX6_told 101 = .ok (.iconst 1, 1) := by decide +kernel
theorem dX6_told_102 : decode cX6_told 102 = .ok (.goto 4, 3) := by decide +kernel
theorem dX6_told_105 : decode cX6_told 105 = .ok (.iconst 0, 1) := by decide +kernel
theorem dX6_told_106 : decode cX6_told 106 = .ok (.iastore, 1) := by decide +kernel
theorem dX6_told_107 : decode cX6_told 107 = .ok (.aload_n 0, 1) := by decide +kernel
theorem dX6_told_108 : decode cX6_told 108 = .ok (.getfield 11, 3) := by decide +kernel
theorem dX6_told_111 : decode cX6_told 111 = .ok (.iconst 3, 1) := by decide +kernel
theorem dX6_told_112 : decode cX6_told 112 = .ok (.aload_n 0, 1) := by decide +kernel
theorem dX6_told_113 : decode cX6_told 113 = .ok (.getfield 39, 3) := by decide +kernel
theorem dX6_told_116 : decode cX6_told 116 = .ok (.iastore, 1) := by decide +kernel
theorem dX6_told_117 : decode cX6_told 117 = .ok (.aload_n 0, 1) := by decide +kernel
theorem dX6_told_118 : decode cX6_told 118 = .ok (.getfield 11, 3) := by decide +kernel
theorem dX6_told_121 : decode cX6_told 121 = .ok (.iconst 4, 1) := by decide +kernel
theorem dX6_told_122 : decode cX6_told 122 = .ok (.aload_n 0, 1) := by decide +kernel
theorem dX6_told_123 : decode cX6_told 123 = .ok (.getfield 28, 3) := by decide +kernel
theorem dX6_told_126 : decode cX6_told 126 = .ok (.iastore, 1) := by decide +kernel
theorem dX6_told_127 : decode cX6_told 127 = .ok (.aload_n 0, 1) := by decide +kernel
theorem dX6_told_128 : decode cX6_told 128 = .ok (.getfield 11, 3) := by decide +kernel
theorem dX6_told_131 : decode cX6_told 131 = .ok (.iconst 5, 1) := by decide +kernel
theorem dX6_told_132 : decode cX6_told 132 = .ok (.aload_n 1, 1) := by decide +kernel
theorem dX6_told_133 : decode cX6_told 133 = .ok (.getfield 45, 3) := by decide +kernel
theorem dX6_told_136 : decode cX6_told 136 = .ok (.iload 5, 2) := by decide +kernel
theorem dX6_told_138 : decode cX6_told 138 = .ok (.invokevirtual 64, 3) := by decide +kernel
theorem dX6_told_141 : decode cX6_told 141 = .ok (.ifCond .eq 8, 3) := by decide +kernel
theorem dX6_told_144 : decode cX6_told 144 = .ok (.iload 5, 2) := by decide +kernel
theorem dX6_told_146 : decode cX6_told 146 = .ok (.goto 5, 3) := by decide +kernel
theorem dX6_told_149 : decode cX6_told 149 = .ok (.bipush 99, 2) := by decide +kernel
theorem dX6_told_151 : decode cX6_told 151 = .ok (.iastore, 1) := by decide +kernel
theorem dX6_told_152 : decode cX6_told 152 = .ok (.aload_n 0, 1) := by decide +kernel
theorem dX6_told_153 : decode cX6_told 153 = .ok (.getfield 11, 3) := by decide +kernel
theorem dX6_told_156 : decode cX6_told 156 = .ok (.bipush 6, 2) := by decide +kernel
theorem dX6_told_158 : decode cX6_told 158 = .ok (.aload_n 0, 1) := by decide +kernel
theorem dX6_told_159 : decode cX6_told 159 = .ok (.getfield 32, 3) := by decide +kernel
theorem dX6_told_162 : decode cX6_told 162 = .ok (.iastore, 1) := by decide +kernel
theorem dX6_told_163 : decode cX6_told 163 = .ok (.aload_n 0, 1) := by decide +kernel
theorem dX6_told_164 : decode cX6_told 164 = .ok (.getfield 19, 3) := by decide +kernel
theorem dX6_told_167 : decode cX6_told 167 = .ok (.iload_n 3, 1) := by decide +kernel
theorem dX6_told_168 : decode cX6_told 168 = .ok (.aaload, 1) := by decide +kernel
theorem dX6_told_169 : decode cX6_told 169 = .ok (.iload_n 2, 1) := by decide +kernel
theorem dX6_told_170 : decode cX6_told 170 = .ok (.aload_n 1, 1) := by decide +kernel
theorem dX6_told_171 : decode cX6_told 171 = .ok (.getfield 67, 3) := by decide +kernel
theorem dX6_told_174 : decode cX6_told 174 = .ok (.iload_n 3, 1) := by decide +kernel
theorem dX6_told_175 : decode cX6_told 175 = .ok (.aload_n 0, 1) := by decide +kernel
theorem dX6_told_176 : decode cX6_told 176 = .ok (.getfield 11, 3) := by decide +kernel
theorem dX6_told_179 : decode cX6_told 179 = .ok (.invokevirtual 71, 3) := by decide +kernel
theorem dX6_told_182 : decode cX6_told 182 = .ok (.iastore, 1) := by decide +kernel
theorem dX6_told_183 : decode cX6_told 183 = .ok (.aload_n 0, 1) := by decide +kernel
theorem dX6_told_184 : decode cX6_told 184 = .ok (.getfield 22, 3) := by decide +kernel
theorem dX6_told_187 : decode cX6_told 187 = .ok (.iload_n 3, 1) := by decide +kernel
theorem dX6_told_188 : decode cX6_told 188 = .ok (.aaload, 1) := by decide +kernel
theorem dX6_told_189 : decode cX6_told 189 = .ok (.iload_n 2, 1) := by decide +kernel
theorem dX6_told_190 : decode cX6_told 190 = .ok (.aload_n 0, 1) := by decide +kernel
theorem dX6_told_191 : decode cX6_told 191 = .ok (.getfield 42, 3) := by decide +kernel
theorem dX6_told_194 : decode cX6_told 194 = .ok (.iastore, 1) := by decide +kernel
theorem dX6_told_195 : decode cX6_told 195 = .ok (.aload_n 0, 1) := by decide +kernel
theorem dX6_told_196 : decode cX6_told 196 = .ok (.getfield 19, 3) := by decide +kernel
theorem dX6_told_199 : decode cX6_told 199 = .ok (.iload_n 3, 1) := by decide +kernel
theorem dX6_told_200 : decode cX6_told 200 = .ok (.aaload, 1) := by decide +kernel
theorem dX6_told_201 : decode cX6_told 201 = .ok (.iload_n 2, 1) := by decide +kernel
theorem dX6_told_202 : decode cX6_told 202 = .ok (.iaload, 1) := by decide +kernel
theorem dX6_told_203 : decode cX6_told 203 = .ok (.ireturn, 1) := by decide +kernel
theorem dX6_moved_0 : decode cX6_moved 0 = .ok (.aload_n 0, 1) := by decide +kernel
theorem dX6_moved_1 : decode cX6_moved 1 = .ok (.getfield 35, 3) := by decide +kernel
theorem dX6_moved_4 : decode cX6_moved 4 = .ok (.ifCond .eq 19, 3) := by decide +kernel
theorem dX6_moved_7 : decode cX6_moved 7 = .ok (.iload_n 2, 1) := by decide +kernel
theorem dX6_moved_8 : decode cX6_moved 8 = .ok (.iload_n 3, 1) := by decide +kernel
theorem dX6_moved_9 : decode cX6_moved 9 = .ok (.iadd, 1) := by decide +kernel
theorem dX6_moved_10 : decode cX6_moved 10 = .ok (.aload_n 1, 1) := by decide +kernel
theorem dX6_moved_11 : decode cX6_moved 11 = .ok (.getfield 45, 3) := by decide +kernel
theorem dX6_moved_14 : decode cX6_moved 14 = .ok (.getfield 57, 3) := by decide +kernel
theorem dX6_moved_17 : decode cX6_moved 17 = .ok (.invokestatic 75, 3) := by decide +kernel
theorem dX6_moved_20 : decode cX6_moved 20 = .ok (.goto 10, 3) := by decide +kernel
theorem dX6_moved_23 : decode cX6_moved 23 = .ok (.iload_n 2, 1) := by decide +kernel
theorem dX6_moved_24 : decode cX6_moved 24 = .ok (.iload_n 3, 1) := by decide +kernel
theorem dX6_moved_25 : decode cX6_moved 25 = .ok (.isub, 1) := by decide +kernel
theorem dX6_moved_26 : decode cX6_moved 26 = .ok (.iconst 0, 1) := by decide +kernel
theorem dX6_moved_27 : decode cX6_moved 27 = .ok (.invokestatic 80, 3) := by decide +kernel
theorem dX6_moved_30 : decode cX6_moved 30 = .ok (.ireturn, 1) := by decide +kernel
theorem dX6_reach_0 : decode cX6_reach 0 = .ok (.iload_n 2, 1) := by decide +kernel
theorem dX6_reach_1 : decode cX6_reach 1 = .ok (.istore_n 3, 1) := by decide +kernel
theorem dX6_reach_2 : decode cX6_reach 2 = .ok (.iconst 0, 1) := by decide +kernel
theorem dX6_reach_3 : decode cX6_reach 3 = .ok (.istore 4, 2) := by decide +kernel
theorem dX6_reach_5 : decode cX6_reach 5 = .ok (.iload 4, 2) := by decide +kernel
theorem dX6_reach_7 : decode cX6_reach 7 = .ok (.aload_n 0, 1) := by decide +kernel
theorem dX6_reach_8 : decode cX6_reach 8 = .ok (.getfield 39, 3) := by decide +kernel
theorem dX6_reach_11 : decode cX6_reach 11 = .ok (.if_icmp .ge 36, 3) := by decide +kernel
theorem dX6_reach_14 : decode cX6_reach 14 = .ok (.aload_n 0, 1) := by decide +kernel
theorem dX6_reach_15 : decode cX6_reach 15 = .ok (.aload_n 1, 1) := by decide +kernel
theorem dX6_reach_16 : decode cX6_reach 16 = .ok (.iload_n 3, 1) := by decide +kernel
theorem dX6_reach_17 : decode cX6_reach 17 = .ok (.aload_n 0, 1) := by decide +kernel
theorem dX6_reach_18 : decode cX6_reach 18 = .ok (.aload_n 1, 1) := by decide +kernel
theorem dX6_reach_19 : decode cX6_reach 19 = .ok (.iload_n 3, 1) := by decide +kernel
theorem dX6_reach_20 : decode cX6_reach 20 = .ok (.iconst 0, 1) := by decide +kernel
theorem dX6_reach_21 : decode cX6_reach 21 = .ok (.invokevirtual 83, 3) := by decide +kernel
theorem dX6_reach_24 : decode cX6_reach 24 = .ok (.invokevirtual 87, 3) := by decide +kernel
theorem dX6_reach_27 : decode cX6_reach 27 = .ok (.istore 5, 2) := by decide +kernel
theorem dX6_reach_29 : decode cX6_reach 29 = .ok (.iload 5, 2) := by decide +kernel
theorem dX6_reach_31 : decode cX6_reach 31 = .ok (.iload_n 3, 1) := by decide +kernel
theorem dX6_reach_32 : decode cX6_reach 32 = .ok (.if_icmp .ne 6, 3) := by decide +kernel
theorem dX6_reach_35 : decode cX6_reach 35 = .ok (.goto 12, 3) := by decide +kernel
theorem dX6_reach_38 : decode cX6_reach 38 = .ok (.iload 5, 2) := by decide +kernel
theorem dX6_reach_40 : decode cX6_reach 40 = .ok (.istore_n 3, 1) := by decide +kernel
theorem dX6_reach_41 : decode cX6_reach 41 = .ok (.iinc 4 1, 3) := by decide +kernel
theorem dX6_reach_44 : decode cX6_reach 44 = .ok (.goto (-39), 3) := by decide +kernel
theorem dX6_reach_47 : decode cX6_reach 47 = .ok (.aload_n 0, 1) := by decide +kernel
theorem dX6_reach_48 : decode cX6_reach 48 = .ok (.aload_n 1, 1) := by decide +kernel
theorem dX6_reach_49 : decode cX6_reach 49 = .ok (.iload_n 3, 1) := by decide +kernel
theorem dX6_reach_50 : decode cX6_reach 50 = .ok (.aload_n 0, 1) := by decide +kernel
theorem dX6_reach_51 : decode cX6_reach 51 = .ok (.aload_n 1, 1) := by decide +kernel
theorem dX6_reach_52 : decode cX6_reach 52 = .ok (.iload_n 3, 1) := by decide +kernel
theorem dX6_reach_53 : decode cX6_reach 53 = .ok (.iconst 1, 1) := by decide +kernel
theorem dX6_reach_54 : decode cX6_reach 54 = .ok (.invokevirtual 83, 3) := by decide +kernel
theorem dX6_reach_57 : decode cX6_reach 57 = .ok (.invokevirtual 87, 3) := by decide +kernel
theorem dX6_reach_60 : decode cX6_reach 60 = .ok (.ireturn, 1) := by decide +kernel
theorem dX6_spread_0 : decode cX6_spread 0 = .ok (.aload_n 0, 1) := by decide +kernel
theorem dX6_spread_1 : decode cX6_spread 1 = .ok (.getfield 25, 3) := by decide +kernel
theorem dX6_spread_4 : decode cX6_spread 4 = .ok (.iconst 0, 1) := by decide +kernel
theorem dX6_spread_5 : decode cX6_spread 5 = .ok (.invokestatic 90, 3) := by decide +kernel
theorem dX6_spread_8 : decode cX6_spread 8 = .ok (.iconst 0, 1) := by decide +kernel
theorem dX6_spread_9 : decode cX6_spread 9 = .ok (.iload_n 3, 1) := by decide +kernel
theorem dX6_spread_10 : decode cX6_spread 10 = .ok (.aload_n 1, 1) := by decide +kernel
theorem dX6_spread_11 : decode cX6_spread 11 = .ok (.getfield 96, 3) := by decide +kernel
theorem dX6_spread_14 : decode cX6_spread 14 = .ok (.isub, 1) := by decide +kernel
theorem dX6_spread_15 : decode cX6_spread 15 = .ok (.invokestatic 80, 3) := by decide +kernel
theorem dX6_spread_18 : decode cX6_spread 18 = .ok (.istore 4, 2) := by decide +kernel
theorem dX6_spread_20 : decode cX6_spread 20 = .ok (.iload 4, 2) := by decide +kernel
theorem dX6_spread_22 : decode cX6_spread 22 = .ok (.iload_n 3, 1) := by decide +kernel
theorem dX6_spread_23 : decode cX6_spread 23 = .ok (.aload_n 1, 1) := by decide +kernel
theorem dX6_spread_24 : decode cX6_spread 24 = .ok (.getfield 96, 3) := by decide +kernel
theorem dX6_spread_27 : decode cX6_spread 27 = .ok (.iadd, 1) := by decide +kernel
theorem dX6_spread_28 : decode cX6_spread 28 = .ok (.if_icmp .gt 74, 3) := by decide +kernel
theorem dX6_spread_31 : decode cX6_spread 31 = .ok (.aload_n 0, 1) := by decide +kernel
theorem dX6_spread_32 : decode cX6_spread 32 = .ok (.iload_n 2, 1) := by decide +kernel
theorem dX6_spread_33 : decode cX6_spread 33 = .ok (.iload 4, 2) := by decide +kernel
theorem dX6_spread_35 : decode cX6_spread 35 = .ok (.invokevirtual 99, 3) := by decide +kernel
theorem dX6_spread_38 : decode cX6_spread 38 = .ok (.iconst 0, 1) := by decide +kernel
theorem dX6_spread_39 : decode cX6_spread 39 = .ok (.istore 5, 2) := by decide +kernel
theorem dX6_spread_41 : decode cX6_spread 41 = .ok (.iload 5, 2) := by decide +kernel
theorem dX6_spread_43 : decode cX6_spread 43 = .ok (.aload_n 1, 1) := by decide +kernel
theorem dX6_spread_44 : decode cX6_spread 44 = .ok (.getfield 45, 3) := by decide +kernel
theorem dX6_spread_47 : decode cX6_spread 47 = .ok (.getfield 57, 3) := by decide +kernel
theorem dX6_spread_50 : decode cX6_spread 50 = .ok (.if_icmp .gt 46, 3) := by decide +kernel
theorem dX6_spread_53 : decode cX6_spread 53 = .ok (.aload_n 1, 1) := by decide +kernel
theorem dX6_spread_54 : decode cX6_spread 54 = .ok (.getfield 103, 3) := by decide +kernel
theorem dX6_spread_57 : decode cX6_spread 57 = .ok (.getfield 107, 3) := by decide +kernel
theorem dX6_spread_60 : decode cX6_spread 60 = .ok (.iload 5, 2) := by decide +kernel
theorem dX6_spread_62 : decode cX6_spread 62 = .ok (.iaload, 1) := by decide +kernel
theorem dX6_spread_63 : decode cX6_spread 63 = .ok (.iconst 1, 1) := by decide +kernel
theorem dX6_spread_64 : decode cX6_spread 64 = .ok (.if_icmp .ne 26, 3) := by decide +kernel
theorem dX6_spread_67 : decode cX6_spread 67 = .ok (.aload_n 0, 1) := by decide +kernel
theorem dX6_spread_68 : decode cX6_spread 68 = .ok (.getfield 25, 3) := by decide +kernel
theorem dX6_spread_71 : decode cX6_spread 71 = .ok (.iconst 0, 1) := by decide +kernel
theorem dX6_spread_72 : decode cX6_spread 72 = .ok (.aload_n 0, 1) := by decide +kernel
theorem dX6_spread_73 : decode cX6_spread 73 = .ok (.aload_n 1, 1) := by decide +kernel
theorem dX6_spread_74 : decode cX6_spread 74 = .ok (.iload 5, 2) := by decide +kernel
theorem dX6_spread_76 : decode cX6_spread 76 = .ok (.invokevirtual 112, 3) := by decide +kernel
theorem dX6_spread_79 : decode cX6_spread 79 = .ok (.sipush 200, 3) := by decide +kernel
theorem dX6_spread_82 : decode cX6_spread 82 = .ok (.invokestatic 75, 3) := by decide +kernel
theorem dX6_spread_85 : decode cX6_spread 85 = .ok (.invokestatic 80, 3) := by decide +kernel
theorem dX6_spread_88 : decode cX6_spread 88 = .ok (.iconst 1, 1) := by decide +kernel
theorem dX6_spread_89 : decode cX6_spread 89 = .ok (.iastore, 1) := by decide +kernel
theorem dX6_spread_90 : decode cX6_spread 90 = .ok (.iinc 5 1, 3) := by decide +kernel
theorem dX6_spread_93 : decode cX6_spread 93 = .ok (.goto (-52), 3) := by decide +kernel
theorem dX6_spread_96 : decode cX6_spread 96 = .ok (.iinc 4 1, 3) := by decide +kernel
theorem dX6_spread_99 : decode cX6_spread 99 = .ok (.goto (-79), 3) := by decide +kernel
theorem dX6_spread_102 : decode cX6_spread 102 = .ok (.aload_n 0, 1) := by decide +kernel
theorem dX6_spread_103 : decode cX6_spread 103 = .ok (.getfield 25, 3) := by decide +kernel
theorem dX6_spread_106 : decode cX6_spread 106 = .ok (.iconst 0, 1) := by decide +kernel
theorem dX6_spread_107 : decode cX6_spread 107 = .ok (.aload_n 1, 1) := by decide +kernel
theorem dX6_spread_108 : decode cX6_spread 108 = .ok (.getfield 103, 3) := by decide +kernel
theorem dX6_spread_111 : decode cX6_spread 111 = .ok (.getfield 107, 3) := by decide +kernel
theorem dX6_spread_114 : decode cX6_spread 114 = .ok (.iconst 0, 1) := by decide +kernel
theorem dX6_spread_115 : decode cX6_spread 115 = .ok (.sipush 201, 3) := by decide +kernel
theorem dX6_spread_118 : decode cX6_spread 118 = .ok (.invokestatic 116, 3) := by decide +kernel
theorem dX6_spread_121 : decode cX6_spread 121 = .ok (.return_, 1) := by decide +kernel
theorem dX7_init_0 : decode cX7_init 0 = .ok (.aload_n 0, 1) := by decide +kernel
theorem dX7_init_1 : decode cX7_init 1 = .ok (.invokespecial 3, 3) := by decide +kernel
theorem dX7_init_4 : decode cX7_init 4 = .ok (.aload_n 0, 1) := by decide +kernel
theorem dX7_init_5 : decode cX7_init 5 = .ok (.bipush 14, 2) := by decide +kernel
theorem dX7_init_7 : decode cX7_init 7 = .ok (.newarray .int, 2) := by decide +kernel
theorem dX7_init_9 : decode cX7_init 9 = .ok (.putfield 9, 3) := by decide +kernel
theorem dX7_init_12 : decode cX7_init 12 = .ok (.aload_n 0, 1) := by decide +kernel
theorem dX7_init_13 : decode cX7_init 13 = .ok (.bipush 14, 2) := by decide +kernel
theorem dX7_init_15 : decode cX7_init 15 = .ok (.newarray .int, 2) := by decide +kernel
theorem dX7_init_17 : decode cX7_init 17 = .ok (.putfield 15, 3) := by decide +kernel
theorem dX7_init_20 : decode cX7_init 20 = .ok (.aload_n 0, 1) := by decide +kernel
theorem dX7_init_21 : decode cX7_init 21 = .ok (.bipush 14, 2) := by decide +kernel
theorem dX7_init_23 : decode cX7_init 23 = .ok (.newarray .int, 2) := by decide +kernel
theorem dX7_init_25 : decode cX7_init 25 = .ok (.putfield 18, 3) := by decide +kernel
theorem dX7_init_28 : decode cX7_init 28 = .ok (.aload_n 0, 1) := by decide +kernel
theorem dX7_init_29 : decode cX7_init 29 = .ok (.iconst 2, 1) := by decide +kernel
theorem dX7_init_30 : decode cX7_init 30 = .ok (.newarray .int, 2) := by decide +kernel
theorem dX7_init_32 : decode cX7_init 32 = .ok (.putfield 21, 3) := by decide +kernel
theorem dX7_init_35 : decode cX7_init 35 = .ok (.aload_n 0, 1) := by decide +kernel
theorem dX7_init_36 : decode cX7_init 36 = .ok (.iconst 2, 1) := by decide +kernel
theorem dX7_init_37 : decode cX7_init 37 = .ok (.sipush 201, 3) := by decide +kernel
theorem dX7_init_40 : decode cX7_init 40 = .ok (.multianewarray 24 2, 4) := by decide +kernel
theorem dX7_init_44 : decode cX7_init 44 = .ok (.putfield 26, 3) := by decide +kernel
theorem dX7_init_47 : decode cX7_init 47 = .ok (.aload_n 0, 1) := by decide +kernel
theorem dX7_init_48 : decode cX7_init 48 = .ok (.invokevirtual 29, 3) := by decide +kernel
theorem dX7_init_51 : decode cX7_init 51 = .ok (.return_, 1) := by decide +kernel
theorem dX7_reaches_0 : decode cX7_reaches 0 = .ok (.iload_n 1, 1) := by decide +kernel
theorem dX7_reaches_1 : decode cX7_reaches 1 = .ok (.ifCond .lt 15, 3) := by decide +kernel
theorem dX7_reaches_4 : decode cX7_reaches 4 = .ok (.iload_n 1, 1) := by decide +kernel
theorem dX7_reaches_5 : decode cX7_reaches 5 = .ok (.aload_n 0, 1) := by decide +kernel
theorem dX7_reaches_6 : decode cX7_reaches 6 = .ok (.getfield 32, 3) := by decide +kernel
theorem dX7_reaches_9 : decode cX7_reaches 9 = .ok (.if_icmp .gt 7, 3) := by decide +kernel
theorem dX7_reaches_12 : decode cX7_reaches 12 = .ok (.iconst 1, 1) := by decide +kernel
theorem dX7_reaches_13 : decode cX7_reaches 13 = .ok (.goto 4, 3) := by decide +kernel
theorem dX7_reaches_16 : decode cX7_reaches 16 = .ok (.iconst 0, 1) := by decide +kernel
theorem dX7_reaches_17 : decode cX7_reaches 17 = .ok (.ireturn, 1) := by decide +kernel
theorem dX7_hasSong_0 : decode cX7_hasSong 0 = .ok (.iload_n 1, 1) := by decide +kernel
theorem dX7_hasSong_1 : decode cX7_hasSong 1 = .ok (.ifCond .lt 15, 3) := by decide +kernel
theorem dX7_hasSong_4 : decode cX7_hasSong 4 = .ok (.iload_n 1, 1) := by decide +kernel
theorem dX7_hasSong_5 : decode cX7_hasSong 5 = .ok (.aload_n 0, 1) := by decide +kernel
theorem dX7_hasSong_6 : decode cX7_hasSong 6 = .ok (.getfield 36, 3) := by decide +kernel
theorem dX7_hasSong_9 : decode cX7_hasSong 9 = .ok (.if_icmp .ge 7, 3) := by decide +kernel
theorem dX7_hasSong_12 : decode cX7_hasSong 12 = .ok (.iconst 1, 1) := by decide +kernel
theorem dX7_hasSong_13 : decode cX7_hasSong 13 = .ok (.goto 4, 3) := by decide +kernel
theorem dX7_hasSong_16 : decode cX7_hasSong 16 = .ok (.iconst 0, 1) := by decide +kernel
theorem dX7_hasSong_17 : decode cX7_hasSong 17 = .ok (.ireturn, 1) := by decide +kernel
theorem dX7_sideOf_0 : decode cX7_sideOf 0 = .ok (.iload_n 1, 1) := by decide +kernel
theorem dX7_sideOf_1 : decode cX7_sideOf 1 = .ok (.aload_n 0, 1) := by decide +kernel
theorem dX7_sideOf_2 : decode cX7_sideOf 2 = .ok (.getfield 39, 3) := by decide +kernel
theorem dX7_sideOf_5 : decode cX7_sideOf 5 = .ok (.if_icmp .ge 7, 3) := by decide +kernel
theorem dX7_sideOf_8 : decode cX7_sideOf 8 = .ok (.iconst 0, 1) := by decide +kernel
theorem dX7_sideOf_9 : decode cX7_sideOf 9 = .ok (.goto 4, 3) := by decide +kernel
theorem dX7_sideOf_12 : decode cX7_sideOf 12 = .ok (.iconst 1, 1) := by decide +kernel
theorem dX7_sideOf_13 : decode cX7_sideOf 13 = .ok (.ireturn, 1) := by decide +kernel
theorem dX7_hasSongOn_0 : decode cX7_hasSongOn 0 = .ok (.iload_n 2, 1) := by decide +kernel
theorem dX7_hasSongOn_1 : decode cX7_hasSongOn 1 = .ok (.aload_n 0, 1) := by decide +kernel
theorem dX7_hasSongOn_2 : decode cX7_hasSongOn 2 = .ok (.iload_n 1, 1) := by decide +kernel
theorem dX7_hasSongOn_3 : decode cX7_hasSongOn 3 = .ok (.invokevirtual 42, 3) := by decide +kernel
theorem dX7_hasSongOn_6 : decode cX7_hasSongOn 6 = .ok (.if_icmp .lt 22, 3) := by decide +kernel
theorem dX7_hasSongOn_9 : decode cX7_hasSongOn 9 = .ok (.iload_n 2, 1) := by decide +kernel
theorem dX7_hasSongOn_10 : decode cX7_hasSongOn 10 = .ok (.aload_n 0, 1) := by decide +kernel
theorem dX7_hasSongOn_11 : decode cX7_hasSongOn 11 = .ok (.iload_n 1, 1) := by decide +kernel
theorem dX7_hasSongOn_12 : decode cX7_hasSongOn 12 = .ok (.invokevirtual 42, 3) := by decide +kernel
theorem dX7_hasSongOn_15 : decode cX7_hasSongOn 15 = .ok (.aload_n 0, 1) := by decide +kernel
theorem dX7_hasSongOn_16 : decode cX7_hasSongOn 16 = .ok (.iload_n 1, 1) := by decide +kernel
theorem dX7_hasSongOn_17 : decode cX7_hasSongOn 17 = .ok (.invokevirtual 46, 3) := by decide +kernel
theorem dX7_hasSongOn_20 : decode cX7_hasSongOn 20 = .ok (.iadd, 1) := by decide +kernel
theorem dX7_hasSongOn_21 : decode cX7_hasSongOn 21 = .ok (.if_icmp .ge 7, 3) := by decide +kernel
theorem dX7_hasSongOn_24 : decode cX7_hasSongOn 24 = .ok (.iconst 1, 1) := by decide +kernel
theorem dX7_hasSongOn_25 : decode cX7_hasSongOn 25 = .ok (.goto 4, 3) := by decide +kernel
theorem dX7_hasSongOn_28 : decode cX7_hasSongOn 28 = .ok (.iconst 0, 1) := by decide +kernel
theorem dX7_hasSongOn_29 : decode cX7_hasSongOn 29 = .ok (.ireturn, 1) := by decide +kernel
theorem dX7_firstOn_0 : decode cX7_firstOn 0 = .ok (.iload_n 1, 1) := by decide +kernel
theorem dX7_firstOn_1 : decode cX7_firstOn 1 = .ok (.ifCond .ne 7, 3) := by decide +kernel
theorem dX7_firstOn_4 : decode cX7_firstOn 4 = .ok (.iconst 0, 1) := by decide +kernel
theorem dX7_firstOn_5 : decode cX7_firstOn 5 = .ok (.goto 7, 3) := by decide +kernel
theorem dX7_firstOn_8 : decode cX7_firstOn 8 = .ok (.aload_n 0, 1) := by decide +kernel
theorem dX7_firstOn_9 : decode cX7_firstOn 9 = .ok (.getfield 39, 3) := by decide +kernel
theorem dX7_firstOn_12 : decode cX7_firstOn 12 = .ok (.ireturn, 1) := by decide +kernel
theorem dX7_songsOn_0 : decode cX7_songsOn 0 = .ok (.iload_n 1, 1) := by decide +kernel
theorem dX7_songsOn_1 : decode cX7_songsOn 1 = .ok (.ifCond .ne 10, 3) := by decide +kernel
theorem dX7_songsOn_4 : decode cX7_songsOn 4 = .ok (.aload_n 0, 1) := by decide +kernel
theorem dX7_songsOn_5 : decode cX7_songsOn 5 = .ok (.getfield 39, 3) := by decide +kernel
theorem dX7_songsOn_8 : decode cX7_songsOn 8 = .ok (.goto 12, 3) := by decide +kernel
theorem dX7_songsOn_11 : decode cX7_songsOn 11 = .ok (.aload_n 0, 1) := by decide +kernel
theorem dX7_songsOn_12 : decode cX7_songsOn 12 = .ok (.getfield 36, 3) := by decide +kernel
theorem dX7_songsOn_15 : decode cX7_songsOn 15 = .ok (.aload_n 0, 1) := by decide +kernel
theorem dX7_songsOn_16 : decode cX7_songsOn 16 = .ok (.getfield 39, 3) := by decide +kernel
theorem dX7_songsOn_19 : decode cX7_songsOn 19 = .ok (.isub, 1) := by decide +kernel
theorem dX7_songsOn_20 : decode cX7_songsOn 20 = .ok (.ireturn, 1) := by decide +kernel
theorem dX7_heardAt_0 : decode cX7_heardAt 0 = .ok (.iload_n 1, 1) := by decide +kernel
theorem dX7_heardAt_1 : decode cX7_heardAt 1 = .ok (.ifCond .lt 16, 3) := by decide +kernel
theorem dX7_heardAt_4 : decode cX7_heardAt 4 = .ok (.iload_n 1, 1) := by decide +kernel
theorem dX7_heardAt_5 : decode cX7_heardAt 5 = .ok (.iconst 1, 1) := by decide +kernel
theorem dX7_heardAt_6 : decode cX7_heardAt 6 = .ok (.if_icmp .gt 11, 3) := by decide +kernel
theorem dX7_heardAt_9 : decode cX7_heardAt 9 = .ok (.aload_n 0, 1) := by decide +kernel
theorem dX7_heardAt_10 : decode cX7_heardAt 10 = .ok (.iload_n 2, 1) := by decide +kernel
theorem dX7_heardAt_11 : decode cX7_heardAt 11 = .ok (.invokevirtual 49, 3) := by decide +kernel
theorem dX7_heardAt_14 : decode cX7_heardAt 14 = .ok (.ifCond .ne 6, 3) := by decide +kernel
theorem dX7_heardAt_17 : decode cX7_heardAt 17 = .ok (.bipush 99, 2) := by decide +kernel
theorem dX7_heardAt_19 : decode cX7_heardAt 19 = .ok (.ireturn, 1) := by decide +kernel
theorem dX7_heardAt_20 : decode cX7_heardAt 20 = .ok (.aload_n 0, 1) := by decide +kernel
theorem dX7_heardAt_21 : decode cX7_heardAt 21 = .ok (.getfield 26, 3) := by decide +kernel
theorem dX7_heardAt_24 : decode cX7_heardAt 24 = .ok (.iload_n 1, 1) := by decide +kernel
theorem dX7_heardAt_25 : decode cX7_heardAt 25 = .ok (.aaload, 1) := by decide +kernel
theorem dX7_heardAt_26 : decode cX7_heardAt 26 = .ok (.iload_n 2, 1) := by decide +kernel
theorem dX7_heardAt_27 : decode cX7_heardAt 27 = .ok (.iaload, 1) := by decide +kernel
theorem dX7_heardAt_28 : decode cX7_heardAt 28 = .ok (.ireturn, 1) := by decide +kernel
theorem dX7_read_0 : decode cX7_read 0 = .ok (.aload_n 0, 1) := by decide +kernel
theorem dX7_read_1 : decode cX7_read 1 = .ok (.iconst 0, 1) := by decide +kernel
theorem dX7_read_2 : decode cX7_read 2 = .ok (.putfield 36, 3) := by decide +kernel
theorem dX7_read_5 : decode cX7_read 5 = .ok (.aload_n 0, 1) := by decide +kernel
theorem dX7_read_6 : decode cX7_read 6 = .ok (.getfield 21, 3) := by decide +kernel
theorem dX7_read_9 : decode cX7_read 9 = .ok (.iconst 0, 1) := by decide +kernel
theorem dX7_read_10 : decode cX7_read 10 = .ok (.iconst 0, 1) := by decide +kernel
theorem dX7_read_11 : decode cX7_read 11 = .ok (.iastore, 1) := by decide +kernel
theorem dX7_read_12 : decode cX7_read 12 = .ok (.aload_n 0, 1) := by decide +kernel
theorem dX7_read_13 : decode cX7_read 13 = .ok (.getfield 21, 3) := by decide +kernel
theorem dX7_read_16 : decode cX7_read 16 = .ok (.iconst 1, 1) := by decide +kernel
theorem dX7_read_17 : decode cX7_read 17 = .ok (.iconst 0, 1) := by decide +kernel
theorem dX7_read_18 : decode cX7_read 18 = .ok (.iastore, 1) := by decide +kernel
theorem dX7_read_19 : decode cX7_read 19 = .ok (.iconst 0, 1) := by decide +kernel
theorem dX7_read_20 : decode cX7_read 20 = .ok (.istore_n 2, 1) := by decide +kernel
theorem dX7_read_21 : decode cX7_read 21 = .ok (.iconst 0, 1) := by decide +kernel
theorem dX7_read_22 : decode cX7_read 22 = .ok (.istore_n 3, 1) := by decide +kernel
theorem dX7_read_23 : decode cX7_read 23 = .ok (.iconst 0, 1) := by decide +kernel
theorem dX7_read_24 : decode cX7_read 24 = .ok (.istore 4, 2) := by decide +kernel
theorem dX7_read_26 : decode cX7_read 26 = .ok (.iload 4, 2) := by decide +kernel
theorem dX7_read_28 : decode cX7_read 28 = .ok (.sipush 400, 3) := by decide +kernel
theorem dX7_read_31 : decode cX7_read 31 = .ok (.if_icmp .gt 132, 3) := by decide +kernel
theorem dX7_read_34 : decode cX7_read 34 = .ok (.aload_n 1, 1) := by decide +kernel
theorem dX7_read_35 : decode cX7_read 35 = .ok (.invokevirtual 55, 3) := by decide +kernel
theorem dX7_read_38 : decode cX7_read 38 = .ok (.sipush 202, 3) := by decide +kernel
theorem dX7_read_41 : decode cX7_read 41 = .ok (.if_icmp .eq 122, 3) := by decide +kernel
theorem dX7_read_44 : decode cX7_read 44 = .ok (.aload_n 1, 1) := by decide +kernel
theorem dX7_read_45 : decode cX7_read 45 = .ok (.invokevirtual 55, 3) := by decide +kernel
theorem dX7_read_48 : decode cX7_read 48 = .ok (.istore 5, 2) := by decide +kernel
theorem dX7_read_50 : decode cX7_read 50 = .ok (.iload 5, 2) := by decide +kernel
theorem dX7_read_52 : decode cX7_read 52 = .ok (.sipush 303, 3) := by decide +kernel
theorem dX7_read_55 : decode cX7_read 55 = .ok (.if_icmp .ne 24, 3) := by decide +kernel
theorem dX7_read_58 : decode cX7_read 58 = .ok (.iload_n 2, 1) := by decide +kernel
theorem dX7_read_59 : decode cX7_read 59 = .ok (.ifCond .ne 20, 3) := by decide +kernel
theorem dX7_read_62 : decode cX7_read 62 = .ok (.aload_n 1, 1) := by decide +kernel
theorem dX7_read_63 : decode cX7_read 63 = .ok (.invokevirtual 59, 3) := by decide +kernel
theorem dX7_read_66 : decode cX7_read 66 = .ok (.aload_n 0, 1) := by decide +kernel
theorem dX7_read_67 : decode cX7_read 67 = .ok (.aload_n 0, 1) := by decide +kernel
theorem dX7_read_68 : decode cX7_read 68 = .ok (.getfield 36, 3) := by decide +kernel
theorem dX7_read_71 : decode cX7_read 71 = .ok (.putfield 39, 3) := by decide +kernel
theorem dX7_read_74 : decode cX7_read 74 = .ok (.iconst 1, 1) := by decide +kernel
theorem dX7_read_75 : decode cX7_read 75 = .ok (.istore_n 2, 1) := by decide +kernel
theorem dX7_read_76 : decode cX7_read 76 = .ok (.goto 70, 3) := by decide +kernel
theorem dX7_read_79 : decode cX7_read 79 = .ok (.iload 5, 2) := by decide +kernel
theorem dX7_read_81 : decode cX7_read 81 = .ok (.sipush 300, 3) := by decide +kernel
theorem dX7_read_84 : decode cX7_read 84 = .ok (.if_icmp .eq 17, 3) := by decide +kernel
theorem dX7_read_87 : decode cX7_read 87 = .ok (.iload 5, 2) := by decide +kernel
theorem dX7_read_89 : decode cX7_read 89 = .ok (.sipush 302, 3) := by decide +kernel
theorem dX7_read_92 : decode cX7_read 92 = .ok (.if_icmp .eq 9, 3) := by decide +kernel
theorem dX7_read_95 : decode cX7_read 95 = .ok (.aload_n 1, 1) := by decide +kernel
theorem dX7_read_96 : decode cX7_read 96 = .ok (.iconst 1, 1) := by decide +kernel
theorem dX7_read_97 : decode cX7_read 97 = .ok (.invokevirtual 62, 3) := by decide +kernel
theorem dX7_read_100 : decode cX7_read 100 = .ok (.ireturn, 1) := by decide +kernel
theorem dX7_read_101 : decode cX7_read 101 = .ok (.iload_n 3, 1) := by decide +kernel
theorem dX7_read_102 : decode cX7_read 102 = .ok (.bipush 20, 2) := by decide +kernel
theorem dX7_read_104 : decode cX7_read 104 = .ok (.if_icmp .ge 20, 3) := by decide +kernel
theorem dX7_read_107 : decode cX7_read 107 = .ok (.iload 5, 2) := by decide +kernel
theorem dX7_read_109 : decode cX7_read 109 = .ok (.sipush 300, 3) := by decide +kernel
theorem dX7_read_112 : decode cX7_read 112 = .ok (.if_icmp .ne 18, 3) := by decide +kernel
theorem dX7_read_115 : decode cX7_read 115 = .ok (.aload_n 0, 1) := by decide +kernel
theorem dX7_read_116 : decode cX7_read 116 = .ok (.getfield 36, 3) := by decide +kernel
theorem dX7_read_119 : decode cX7_read 119 = .ok (.bipush 14, 2) := by decide +kernel
theorem dX7_read_121 : decode cX7_read 121 = .ok (.if_icmp .lt 9, 3) := by decide +kernel
theorem dX7_read_124 : decode cX7_read 124 = .ok (.aload_n 1, 1) := by decide +kernel
theorem dX7_read_125 : decode cX7_read 125 = .ok (.iconst 3, 1) := by decide +kernel
theorem dX7_read_126 : decode cX7_read 126 = .ok (.invokevirtual 62, 3) := by decide +kernel
theorem dX7_read_129 : decode cX7_read 129 = .ok (.ireturn, 1) := by decide +kernel
theorem dX7_read_130 : decode cX7_read 130 = .ok (.aload_n 0, 1) := by decide +kernel
theorem dX7_read_131 : decode cX7_read 131 = .ok (.aload_n 1, 1) := by decide +kernel
theorem dX7_read_132 : decode cX7_read 132 = .ok (.iload 5, 2) := by decide +kernel
theorem dX7_read_134 : decode cX7_read 134 = .ok (.iload_n 2, 1) := by decide +kernel
theorem dX7_read_135 : decode cX7_read 135 = .ok (.invokevirtual 65, 3) := by decide +kernel
theorem dX7_read_138 : decode cX7_read 138 = .ok (.ifCond .ne 5, 3) := by decide +kernel
theorem dX7_read_141 : decode cX7_read 141 = .ok (.iconst 0, 1) := by decide +kernel
theorem dX7_read_142 : decode cX7_read 142 = .ok (.ireturn, 1) := by decide +kernel
theorem dX7_read_143 : decode cX7_read 143 = .ok (.iinc 3 1, 3) := by decide +kernel
theorem dX7_read_146 : decode cX7_read 146 = .ok (.aload_n 1, 1) := by decide +kernel
theorem dX7_read_147 : decode cX7_read 147 = .ok (.bipush 59, 2) := by decide +kernel
theorem dX7_read_149 : decode cX7_read 149 = .ok (.invokevirtual 69, 3) := by decide +kernel
theorem dX7_read_152 : decode cX7_read 152 = .ok (.ifCond .ne 5, 3) := by decide +kernel
theorem dX7_read_155 : decode cX7_read 155 = .ok (.iconst 0, 1) := by decide +kernel
theorem dX7_read_156 : decode cX7_read 156 = .ok (.ireturn, 1) := by decide +kernel
theorem dX7_read_157 : decode cX7_read 157 = .ok (.iinc 4 1, 3) := by decide +kernel
theorem dX7_read_160 : decode cX7_read 160 = .ok (.goto (-134), 3) := by decide +kernel
theorem dX7_read_163 : decode cX7_read 163 = .ok (.iload_n 2, 1) := by decide +kernel
theorem dX7_read_164 : decode cX7_read 164 = .ok (.ifCond .ne 11, 3) := by decide +kernel
theorem dX7_read_167 : decode cX7_read 167 = .ok (.aload_n 0, 1) := by decide +kernel
theorem dX7_read_168 : decode cX7_read 168 = .ok (.aload_n 0, 1) := by decide +kernel
theorem dX7_read_169 : decode cX7_read 169 = .ok (.getfield 36, 3) := by decide +kernel
theorem dX7_read_172 : decode cX7_read 172 = .ok (.putfield 39, 3) := by decide +kernel
theorem dX7_read_175 : decode cX7_read 175 = .ok (.aload_n 0, 1) := by decide +kernel
theorem dX7_read_176 : decode cX7_read 176 = .ok (.aload_n 1, 1) := by decide +kernel
theorem dX7_read_177 : decode cX7_read 177 = .ok (.invokevirtual 72, 3) := by decide +kernel
theorem dX7_read_180 : decode cX7_read 180 = .ok (.ireturn, 1) := by decide +kernel
theorem dX7_readLine_0 : decode cX7_readLine 0 = .ok (.aload_n 1, 1) := by decide +kernel
theorem dX7_readLine_1 : decode cX7_readLine 1 = .ok (.invokevirtual 59, 3) := by decide +kernel
theorem dX7_readLine_4 : decode cX7_readLine 4 = .ok (.aload_n 1, 1) := by decide +kernel
theorem dX7_readLine_5 : decode cX7_readLine 5 = .ok (.iconst 1, 1) := by decide +kernel
theorem dX7_readLine_6 : decode cX7_readLine 6 = .ok (.bipush 60, 2) := by decide +kernel
theorem dX7_readLine_8 : decode cX7_readLine 8 = .ok (.invokevirtual 76, 3) := by decide +kernel
theorem dX7_readLine_11 : decode cX7_readLine 11 = .ok (.istore 4, 2) := by decide +kernel
theorem dX7_readLine_13 : decode cX7_readLine 13 = .ok (.iload 4, 2) := by decide +kernel
theorem dX7_readLine_15 : decode cX7_readLine 15 = .ok (.ifCond .ge 5, 3) := by decide +kernel
theorem dX7_readLine_18 : decode cX7_readLine 18 = .ok (.iconst 0, 1) := by decide +kernel
theorem dX7_readLine_19 : decode cX7_readLine 19 = .ok (.ireturn, 1) := by decide +kernel
theorem dX7_readLine_20 : decode cX7_readLine 20 = .ok (.iload_n 2, 1) := by decide +kernel
theorem dX7_readLine_21 : decode cX7_readLine 21 = .ok (.sipush 300, 3) := by decide +kernel
theorem dX7_readLine_24 : decode cX7_readLine 24 = .ok (.if_icmp .ne 78, 3) := by decide +kernel
theorem dX7_readLine_27 : decode cX7_readLine 27 = .ok (.aload_n 1, 1) := by decide +kernel
theorem dX7_readLine_28 : decode cX7_readLine 28 = .ok (.sipush 301, 3) := by decide +kernel
theorem dX7_readLine_31 : decode cX7_readLine 31 = .ok (.invokevirtual 69, 3) := by decide +kernel
theorem dX7_readLine_34 : decode cX7_readLine 34 = .ok (.ifCond .ne 5, 3) := by decide +kernel
theorem dX7_readLine_37 : decode cX7_readLine 37 = .ok (.iconst 0, 1) := by decide +kernel
theorem dX7_readLine_38 : decode cX7_readLine 38 = .ok (.ireturn, 1) := by decide +kernel
theorem dX7_readLine_39 : decode cX7_readLine 39 = .ok (.aload_n 1, 1) := by decide +kernel
theorem dX7_readLine_40 : decode cX7_readLine 40 = .ok (.iconst 0, 1) := by decide +kernel
theorem dX7_readLine_41 : decode cX7_readLine 41 = .ok (.bipush 99, 2) := by decide +kernel
theorem dX7_readLine_43 : decode cX7_readLine 43 = .ok (.invokevirtual 76, 3) := by decide +kernel
theorem dX7_readLine_46 : decode cX7_readLine 46 = .ok (.istore 5, 2) := by decide +kernel
theorem dX7_readLine_48 : decode cX7_readLine 48 = .ok (.iload 5, 2) := by decide +kernel
theorem dX7_readLine_50 : decode cX7_readLine 50 = .ok (.ifCond .ge 5, 3) := by decide +kernel
theorem dX7_readLine_53 : decode cX7_readLine 53 = .ok (.iconst 0, 1) := by decide +kernel
theorem dX7_readLine_54 : decode cX7_readLine 54 = .ok (.ireturn, 1) := by decide +kernel
theorem dX7_readLine_55 : decode cX7_readLine 55 = .ok (.aload_n 0, 1) := by decide +kernel
theorem dX7_readLine_56 : decode cX7_readLine 56 = .ok (.getfield 9, 3) := by decide +kernel
theorem dX7_readLine_59 : decode cX7_readLine 59 = .ok (.aload_n 0, 1) := by decide +kernel
theorem dX7_readLine_60 : decode cX7_readLine 60 = .ok (.getfield 36, 3) := by decide +kernel
theorem dX7_readLine_63 : decode cX7_readLine 63 = .ok (.aload_n 0, 1) := by decide +kernel
theorem dX7_readLine_64 : decode cX7_readLine 64 = .ok (.getfield 21, 3) := by decide +kernel
theorem dX7_readLine_67 : decode cX7_readLine 67 = .ok (.iload_n 3, 1) := by decide +kernel
theorem dX7_readLine_68 : decode cX7_readLine 68 = .ok (.iaload, 1) := by decide +kernel
theorem dX7_readLine_69 : decode cX7_readLine 69 = .ok (.iastore, 1) := by decide +kernel
theorem dX7_readLine_70 : decode cX7_readLine 70 = .ok (.aload_n 0, 1) := by decide +kernel
theorem dX7_readLine_71 : decode cX7_readLine 71 = .ok (.getfield 15, 3) := by decide +kernel
theorem dX7_readLine_74 : decode cX7_readLine 74 = .ok (.aload_n 0, 1) := by decide +kernel
theorem dX7_readLine_75 : decode cX7_readLine 75 = .ok (.getfield 36, 3) := by decide +kernel
theorem dX7_readLine_78 : decode cX7_readLine 78 = .ok (.iload 4, 2) := by decide +kernel
theorem dX7_readLine_80 : decode cX7_readLine 80 = .ok (.iastore, 1) := by decide +kernel
theorem dX7_readLine_81 : decode cX7_readLine 81 = .ok (.aload_n 0, 1) := by decide +kernel
theorem dX7_readLine_82 : decode cX7_readLine 82 = .ok (.getfield 18, 3) := by decide +kernel
theorem dX7_readLine_85 : decode cX7_readLine 85 = .ok (.aload_n 0, 1) := by decide +kernel
theorem dX7_readLine_86 : decode cX7_readLine 86 = .ok (.getfield 36, 3) := by decide +kernel
theorem dX7_readLine_89 : decode cX7_readLine 89 = .ok (.iload 5, 2) := by decide +kernel
theorem dX7_readLine_91 : decode cX7_readLine 91 = .ok (.iastore, 1) := by decide +kernel
theorem dX7_readLine_92 : decode cX7_readLine 92 = .ok (.aload_n 0, 1) := by decide +kernel
theorem dX7_readLine_93 : decode cX7_readLine 93 = .ok (.dup, 1) := by decide +kernel
theorem dX7_readLine_94 : decode cX7_readLine 94 = .ok (.getfield 36, 3) := by decide +kernel
theorem dX7_readLine_97 : decode cX7_readLine 97 = .ok (.iconst 1, 1) := by decide +kernel
theorem dX7_readLine_98 : decode cX7_readLine 98 = .ok (.iadd, 1) := by decide +kernel
theorem dX7_readLine_99 : decode cX7_readLine 99 = .ok (.putfield 36, 3) := by decide +kernel
theorem dX7_readLine_102 : decode cX7_readLine 102 = .ok (.aload_n 0, 1) := by decide +kernel
theorem dX7_readLine_103 : decode cX7_readLine 103 = .ok (.getfield 21, 3) := by decide +kernel
theorem dX7_readLine_106 : decode cX7_readLine 106 = .ok (.iload_n 3, 1) := by decide +kernel
theorem dX7_readLine_107 : decode cX7_readLine 107 = .ok (.dup2, 1) := by decide +kernel
theorem dX7_readLine_108 : decode cX7_readLine 108 = .ok (.iaload, 1) := by decide +kernel
theorem dX7_readLine_109 : decode cX7_readLine 109 = .ok (.iload 4, 2) := by decide +kernel
theorem dX7_readLine_111 : decode cX7_readLine 111 = .ok (.iadd, 1) := by decide +kernel
theorem dX7_readLine_112 : decode cX7_readLine 112 = .ok (.iastore, 1) := by decide +kernel
theorem dX7_readLine_113 : decode cX7_readLine 113 = .ok (.iconst 1, 1) := by decide +kernel
theorem dX7_readLine_114 : decode cX7_readLine 114 = .ok (.ireturn, 1) := by decide +kernel
theorem dX7_layOut_0 : decode cX7_layOut 0 = .ok (.aload_n 0, 1) := by decide +kernel
theorem dX7_layOut_1 : decode cX7_layOut 1 = .ok (.aload_n 0, 1) := by decide +kernel
theorem dX7_layOut_2 : decode cX7_layOut 2 = .ok (.getfield 21, 3) := by decide +kernel
theorem dX7_layOut_5 : decode cX7_layOut 5 = .ok (.iconst 0, 1) := by decide +kernel
theorem dX7_layOut_6 : decode cX7_layOut 6 = .ok (.iaload, 1) := by decide +kernel
theorem dX7_layOut_7 : decode cX7_layOut 7 = .ok (.aload_n 0, 1) := by decide +kernel
theorem dX7_layOut_8 : decode cX7_layOut 8 = .ok (.getfield 21, 3) := by decide +kernel
theorem dX7_layOut_11 : decode cX7_layOut 11 = .ok (.iconst 1, 1) := by decide +kernel
theorem dX7_layOut_12 : decode cX7_layOut 12 = .ok (.iaload, 1) := by decide +kernel
theorem dX7_layOut_13 : decode cX7_layOut 13 = .ok (.invokestatic 80, 3) := by decide +kernel
theorem dX7_layOut_16 : decode cX7_layOut 16 = .ok (.putfield 32, 3) := by decide +kernel
theorem dX7_layOut_19 : decode cX7_layOut 19 = .ok (.aload_n 0, 1) := by decide +kernel
theorem dX7_layOut_20 : decode cX7_layOut 20 = .ok (.getfield 32, 3) := by decide +kernel
theorem dX7_layOut_23 : decode cX7_layOut 23 = .ok (.sipush 200, 3) := by decide +kernel
theorem dX7_layOut_26 : decode cX7_layOut 26 = .ok (.if_icmp .le 24, 3) := by decide +kernel
theorem dX7_layOut_29 : decode cX7_layOut 29 = .ok (.aload_n 0, 1) := by decide +kernel
theorem dX7_layOut_30 : decode cX7_layOut 30 = .ok (.iconst 0, 1) := by decide +kernel
theorem dX7_layOut_31 : decode cX7_layOut 31 = .ok (.putfield 32, 3) := by decide +kernel
theorem dX7_layOut_34 : decode cX7_layOut 34 = .ok (.aload_n 0, 1) := by decide +kernel
theorem dX7_layOut_35 : decode cX7_layOut 35 = .ok (.iconst 0, 1) := by decide +kernel
theorem dX7_layOut_36 : decode cX7_layOut 36 = .ok (.putfield 36, 3) := by decide +kernel
theorem dX7_layOut_39 : decode cX7_layOut 39 = .ok (.aload_n 0, 1) := by decide +kernel
theorem dX7_layOut_40 : decode cX7_layOut 40 = .ok (.iconst 0, 1) := by decide +kernel
theorem dX7_layOut_41 : decode cX7_layOut 41 = .ok (.putfield 39, 3) := by decide +kernel
theorem dX7_layOut_44 : decode cX7_layOut 44 = .ok (.aload_n 1, 1) := by decide +kernel
theorem dX7_layOut_45 : decode cX7_layOut 45 = .ok (.iconst 4, 1) := by decide +kernel
theorem dX7_layOut_46 : decode cX7_layOut 46 = .ok (.invokevirtual 62, 3) := by decide +kernel
theorem dX7_layOut_49 : decode cX7_layOut 49 = .ok (.ireturn, 1) := by decide +kernel
theorem dX7_layOut_50 : decode cX7_layOut 50 = .ok (.aload_n 0, 1) := by decide +kernel
theorem dX7_layOut_51 : decode cX7_layOut 51 = .ok (.invokevirtual 29, 3) := by decide +kernel
theorem dX7_layOut_54 : decode cX7_layOut 54 = .ok (.iconst 1, 1) := by decide +kernel
theorem dX7_layOut_55 : decode cX7_layOut 55 = .ok (.ireturn, 1) := by decide +kernel
theorem dX7_fillHeard_0 : decode cX7_fillHeard 0 = .ok (.iconst 0, 1) := by decide +kernel
theorem dX7_fillHeard_1 : decode cX7_fillHeard 1 = .ok (.istore_n 1, 1) := by decide +kernel
theorem dX7_fillHeard_2 : decode cX7_fillHeard 2 = .ok (.iload_n 1, 1) := by decide +kernel
theorem dX7_fillHeard_3 : decode cX7_fillHeard 3 = .ok (.iconst 2, 1) := by decide +kernel
theorem dX7_fillHeard_4 : decode cX7_fillHeard 4 = .ok (.if_icmp .ge 47, 3) := by decide +kernel
theorem dX7_fillHeard_7 : decode cX7_fillHeard 7 = .ok (.iconst 0, 1) := by decide +kernel
theorem dX7_fillHeard_8 : decode cX7_fillHeard 8 = .ok (.istore_n 2, 1) := by decide +kernel
theorem dX7_fillHeard_9 : decode cX7_fillHeard 9 = .ok (.iload_n 2, 1) := by decide +kernel
theorem dX7_fillHeard_10 : decode cX7_fillHeard 10 = .ok (.sipush 201, 3) := by decide +kernel
theorem dX7_fillHeard_13 : decode cX7_fillHeard 13 = .ok (.if_icmp .ge 32, 3) := by decide +kernel
theorem dX7_fillHeard_16 : decode cX7_fillHeard 16 = .ok (.aload_n 0, 1) := by decide +kernel
theorem dX7_fillHeard_17 : decode cX7_fillHeard 17 = .ok (.getfield 26, 3) := by decide +kernel
theorem dX7_fillHeard_20 : decode cX7_fillHeard 20 = .ok (.iload_n 1, 1) := by decide +kernel
theorem dX7_fillHeard_21 : decode cX7_fillHeard 21 = .ok (.aaload, 1) := by decide +kernel
theorem dX7_fillHeard_22 : decode cX7_fillHeard 22 = .ok (.iload_n 2, 1) := by decide +kernel
theorem dX7_fillHeard_23 : decode cX7_fillHeard 23 = .ok (.iload_n 2, 1) := by decide +kernel
theorem dX7_fillHeard_24 : decode cX7_fillHeard 24 = .ok (.aload_n 0, 1) := by decide +kernel
theorem dX7_fillHeard_25 : decode cX7_fillHeard 25 = .ok (.getfield 32, 3) := by decide +kernel
theorem dX7_fillHeard_28 : decode cX7_fillHeard 28 = .ok (.if_icmp .ge 8, 3) := by decide +kernel
theorem dX7_fillHeard_31 : decode cX7_fillHeard 31 = .ok (.bipush 98, 2) := by decide +kernel
theorem dX7_fillHeard_33 : decode cX7_fillHeard 33 = .ok (.goto 5, 3) := by decide +kernel
theorem dX7_fillHeard_36 : decode cX7_fillHeard 36 = .ok (.bipush 99, 2) := by decide +kernel
theorem dX7_fillHeard_38 : decode cX7_fillHeard 38 = .ok (.iastore, 1) := by decide +kernel
theorem dX7_fillHeard_39 : decode cX7_fillHeard 39 = .ok (.iinc 2 1, 3) := by decide +kernel
theorem dX7_fillHeard_42 : decode cX7_fillHeard 42 = .ok (.goto (-33), 3) := by decide +kernel
theorem dX7_fillHeard_45 : decode cX7_fillHeard 45 = .ok (.iinc 1 1, 3) := by decide +kernel
theorem dX7_fillHeard_48 : decode cX7_fillHeard 48 = .ok (.goto (-46), 3) := by decide +kernel
theorem dX7_fillHeard_51 : decode cX7_fillHeard 51 = .ok (.iconst 0, 1) := by decide +kernel
theorem dX7_fillHeard_52 : decode cX7_fillHeard 52 = .ok (.istore_n 1, 1) := by decide +kernel
theorem dX7_fillHeard_53 : decode cX7_fillHeard 53 = .ok (.iload_n 1, 1) := by decide +kernel
theorem dX7_fillHeard_54 : decode cX7_fillHeard 54 = .ok (.aload_n 0, 1) := by decide +kernel
theorem dX7_fillHeard_55 : decode cX7_fillHeard 55 = .ok (.getfield 36, 3) := by decide +kernel
theorem dX7_fillHeard_58 : decode cX7_fillHeard 58 = .ok (.if_icmp .ge 61, 3) := by decide +kernel
theorem dX7_fillHeard_61 : decode cX7_fillHeard 61 = .ok (.aload_n 0, 1) := by decide +kernel
theorem dX7_fillHeard_62 : decode cX7_fillHeard 62 = .ok (.getfield 26, 3) := by decide +kernel
theorem dX7_fillHeard_65 : decode cX7_fillHeard 65 = .ok (.aload_n 0, 1) := by decide +kernel
theorem dX7_fillHeard_66 : decode cX7_fillHeard 66 = .ok (.iload_n 1, 1) := by decide +kernel
theorem dX7_fillHeard_67 : decode cX7_fillHeard 67 = .ok (.invokevirtual 85, 3) := by decide +kernel
theorem dX7_fillHeard_70 : decode cX7_fillHeard 70 = .ok (.aaload, 1) := by decide +kernel
theorem dX7_fillHeard_71 : decode cX7_fillHeard 71 = .ok (.astore_n 2, 1) := by decide +kernel
theorem dX7_fillHeard_72 : decode cX7_fillHeard 72 = .ok (.aload_n 0, 1) := by decide +kernel
theorem dX7_fillHeard_73 : decode cX7_fillHeard 73 = .ok (.getfield 9, 3) := by decide +kernel
theorem dX7_fillHeard_76 : decode cX7_fillHeard 76 = .ok (.iload_n 1, 1) := by decide +kernel
theorem dX7_fillHeard_77 : decode cX7_fillHeard 77 = .ok (.iaload, 1) := by decide +kernel
theorem dX7_fillHeard_78 : decode cX7_fillHeard 78 = .ok (.istore_n 3, 1) := by decide +kernel
theorem dX7_fillHeard_79 : decode cX7_fillHeard 79 = .ok (.iload_n 3, 1) := by decide +kernel
theorem dX7_fillHeard_80 : decode cX7_fillHeard 80 = .ok (.aload_n 0, 1) := by decide +kernel
theorem dX7_fillHeard_81 : decode cX7_fillHeard 81 = .ok (.getfield 9, 3) := by decide +kernel
theorem dX7_fillHeard_84 : decode cX7_fillHeard 84 = .ok (.iload_n 1, 1) := by decide +kernel
theorem dX7_fillHeard_85 : decode cX7_fillHeard 85 = .ok (.iaload, 1) := by decide +kernel
theorem dX7_fillHeard_86 : decode cX7_fillHeard 86 = .ok (.aload_n 0, 1) := by decide +kernel
theorem dX7_fillHeard_87 : decode cX7_fillHeard 87 = .ok (.getfield 15, 3) := by decide +kernel
theorem dX7_fillHeard_90 : decode cX7_fillHeard 90 = .ok (.iload_n 1, 1) := by decide +kernel
theorem dX7_fillHeard_91 : decode cX7_fillHeard 91 = .ok (.iaload, 1) := by decide +kernel
theorem dX7_fillHeard_92 : decode cX7_fillHeard 92 = .ok (.iadd, 1) := by decide +kernel
theorem dX7_fillHeard_93 : decode cX7_fillHeard 93 = .ok (.if_icmp .ge 20, 3) := by decide +kernel
theorem dX7_fillHeard_96 : decode cX7_fillHeard 96 = .ok (.iload_n 3, 1) := by decide +kernel
theorem dX7_fillHeard_97 : decode cX7_fillHeard 97 = .ok (.sipush 201, 3) := by decide +kernel
theorem dX7_fillHeard_100 : decode cX7_fillHeard 100 = .ok (.if_icmp .ge 13, 3) := by decide +kernel
theorem dX7_fillHeard_103 : decode cX7_fillHeard 103 = .ok (.aload_n 2, 1) := by decide +kernel
theorem dX7_fillHeard_104 : decode cX7_fillHeard 104 = .ok (.iload_n 3, 1) := by decide +kernel
theorem dX7_fillHeard_105 : decode cX7_fillHeard 105 = .ok (.iload_n 1, 1) := by decide +kernel
theorem dX7_fillHeard_106 : decode cX7_fillHeard 106 = .ok (.iastore, 1) := by decide +kernel
theorem dX7_fillHeard_107 : decode cX7_fillHeard 107 = .ok (.iinc 3 1, 3) := by decide +kernel
theorem dX7_fillHeard_110 : decode cX7_fillHeard 110 = .ok (.goto (-31), 3) := by decide +kernel
theorem dX7_fillHeard_113 : decode cX7_fillHeard 113 = .ok (.iinc 1 1, 3) := by decide +kernel
theorem dX7_fillHeard_116 : decode cX7_fillHeard 116 = .ok (.goto (-63), 3) := by decide +kernel
theorem dX7_fillHeard_119 : decode cX7_fillHeard 119 = .ok (.return_, 1) := by decide +kernel
theorem dX7_copyFrom_0 : decode cX7_copyFrom 0 = .ok (.aload_n 0, 1) := by decide +kernel
theorem dX7_copyFrom_1 : decode cX7_copyFrom 1 = .ok (.aload_n 1, 1) := by decide +kernel
theorem dX7_copyFrom_2 : decode cX7_copyFrom 2 = .ok (.getfield 32, 3) := by decide +kernel
theorem dX7_copyFrom_5 : decode cX7_copyFrom 5 = .ok (.putfield 32, 3) := by decide +kernel
theorem dX7_copyFrom_8 : decode cX7_copyFrom 8 = .ok (.aload_n 0, 1) := by decide +kernel
theorem dX7_copyFrom_9 : decode cX7_copyFrom 9 = .ok (.aload_n 1, 1) := by decide +kernel
theorem dX7_copyFrom_10 : decode cX7_copyFrom 10 = .ok (.getfield 36, 3) := by decide +kernel
theorem dX7_copyFrom_13 : decode cX7_copyFrom 13 = .ok (.putfield 36, 3) := by decide +kernel
theorem dX7_copyFrom_16 : decode cX7_copyFrom 16 = .ok (.aload_n 0, 1) := by decide +kernel
theorem dX7_copyFrom_17 : decode cX7_copyFrom 17 = .ok (.aload_n 1, 1) := by decide +kernel
theorem dX7_copyFrom_18 : decode cX7_copyFrom 18 = .ok (.getfield 39, 3) := by decide +kernel
theorem dX7_copyFrom_21 : decode cX7_copyFrom 21 = .ok (.putfield 39, 3) := by decide +kernel
theorem dX7_copyFrom_24 : decode cX7_copyFrom 24 = .ok (.aload_n 1, 1) := by decide +kernel
theorem dX7_copyFrom_25 : decode cX7_copyFrom 25 = .ok (.getfield 9, 3) := by decide +kernel
theorem dX7_copyFrom_28 : decode cX7_copyFrom 28 = .ok (.iconst 0, 1) := by decide +kernel
theorem dX7_copyFrom_29 : decode cX7_copyFrom 29 = .ok (.aload_n 0, 1) := by decide +kernel
theorem dX7_copyFrom_30 : decode cX7_copyFrom 30 = .ok (.getfield 9, 3) := by decide +kernel
theorem dX7_copyFrom_33 : decode cX7_copyFrom 33 = .ok (.iconst 0, 1) := by decide +kernel
theorem dX7_copyFrom_34 : decode cX7_copyFrom 34 = .ok (.bipush 14, 2) := by decide +kernel
theorem dX7_copyFrom_36 : decode cX7_copyFrom 36 = .ok (.invokestatic 88, 3) := by decide +kernel
theorem dX7_copyFrom_39 : decode cX7_copyFrom 39 = .ok (.aload_n 1, 1) := by decide +kernel
theorem dX7_copyFrom_40 : decode cX7_copyFrom 40 = .ok (.getfield 15, 3) := by decide +kernel
theorem dX7_copyFrom_43 : decode cX7_copyFrom 43 = .ok (.iconst 0, 1) := by decide +kernel
theorem dX7_copyFrom_44 : decode cX7_copyFrom 44 = .ok (.aload_n 0, 1) := by decide +kernel
theorem dX7_copyFrom_45 : decode cX7_copyFrom 45 = .ok (.getfield 15, 3) := by decide +kernel
theorem dX7_copyFrom_48 : decode cX7_copyFrom 48 = .ok (.iconst 0, 1) := by decide +kernel
theorem dX7_copyFrom_49 : decode cX7_copyFrom 49 = .ok (.bipush 14, 2) := by decide +kernel
theorem dX7_copyFrom_51 : decode cX7_copyFrom 51 = .ok (.invokestatic 88, 3) := by decide +kernel
theorem dX7_copyFrom_54 : decode cX7_copyFrom 54 = .ok (.aload_n 1, 1) := by decide +kernel
theorem dX7_copyFrom_55 : decode cX7_copyFrom 55 = .ok (.getfield 18, 3) := by decide +kernel
theorem dX7_copyFrom_58 : decode cX7_copyFrom 58 = .ok (.iconst 0, 1) := by decide +kernel
theorem dX7_copyFrom_59 : decode cX7_copyFrom 59 = .ok (.aload_n 0, 1) := by decide +kernel
theorem dX7_copyFrom_60 : decode cX7_copyFrom 60 = .ok (.getfield 18, 3) := by decide +kernel
theorem dX7_copyFrom_63 : decode cX7_copyFrom 63 = .ok (.iconst 0, 1) := by decide +kernel
theorem dX7_copyFrom_64 : decode cX7_copyFrom 64 = .ok (.bipush 14, 2) := by decide +kernel
theorem dX7_copyFrom_66 : decode cX7_copyFrom 66 = .ok (.invokestatic 88, 3) := by decide +kernel
theorem dX7_copyFrom_69 : decode cX7_copyFrom 69 = .ok (.aload_n 1, 1) := by decide +kernel
theorem dX7_copyFrom_70 : decode cX7_copyFrom 70 = .ok (.getfield 26, 3) := by decide +kernel
theorem dX7_copyFrom_73 : decode cX7_copyFrom 73 = .ok (.iconst 0, 1) := by decide +kernel
theorem dX7_copyFrom_74 : decode cX7_copyFrom 74 = .ok (.aaload, 1) := by decide +kernel
theorem dX7_copyFrom_75 : decode cX7_copyFrom 75 = .ok (.iconst 0, 1) := by decide +kernel
theorem dX7_copyFrom_76 : decode cX7_copyFrom 76 = .ok (.aload_n 0, 1) := by decide +kernel
theorem dX7_copyFrom_77 : decode cX7_copyFrom 77 = .ok (.getfield 26, 3) := by decide +kernel
theorem dX7_copyFrom_80 : decode cX7_copyFrom 80 = .ok (.iconst 0, 1) := by decide +kernel
theorem dX7_copyFrom_81 : decode cX7_copyFrom 81 = .ok (.aaload, 1) := by decide +kernel
theorem dX7_copyFrom_82 : decode cX7_copyFrom 82 = .ok (.iconst 0, 1) := by decide +kernel
theorem dX7_copyFrom_83 : decode cX7_copyFrom 83 = .ok (.sipush 201, 3) := by decide +kernel
theorem dX7_copyFrom_86 : decode cX7_copyFrom 86 = .ok (.invokestatic 88, 3) := by decide +kernel
theorem dX7_copyFrom_89 : decode cX7_copyFrom 89 = .ok (.aload_n 1, 1) := by decide +kernel
theorem dX7_copyFrom_90 : decode cX7_copyFrom 90 = .ok (.getfield 26, 3) := by decide +kernel
theorem dX7_copyFrom_93 : decode cX7_copyFrom 93 = .ok (.iconst 1, 1) := by decide +kernel
theorem dX7_copyFrom_94 : decode cX7_copyFrom 94 = .ok (.aaload, 1) := by decide +kernel
theorem dX7_copyFrom_95 : decode cX7_copyFrom 95 = .ok (.iconst 0, 1) := by decide +kernel
theorem dX7_copyFrom_96 : decode cX7_copyFrom 96 = .ok (.aload_n 0, 1) := by decide +kernel
theorem dX7_copyFrom_97 : decode cX7_copyFrom 97 = .ok (.getfield 26, 3) := by decide +kernel
theorem dX7_copyFrom_100 : decode cX7_copyFrom 100 = .ok (.iconst 1, 1) := by decide +kernel
theorem dX7_copyFrom_101 : decode cX7_copyFrom 101 = .ok (.aaload, 1) := by decide +kernel
theorem dX7_copyFrom_102 : decode cX7_copyFrom 102 = .ok (.iconst 0, 1) := by decide +kernel
theorem dX7_copyFrom_103 : decode cX7_copyFrom 103 = .ok (.sipush 201, 3) := by decide +kernel
theorem dX7_copyFrom_106 : decode cX7_copyFrom 106 = .ok (.invokestatic 88, 3) := by decide +kernel
theorem dX7_copyFrom_109 : decode cX7_copyFrom 109 = .ok (.return_, 1) := by decide +kernel
theorem dX8_init_0 : decode cX8_init 0 = .ok (.aload_n 0, 1) := by decide +kernel
theorem dX8_init_1 : decode cX8_init 1 = .ok (.invokespecial 3, 3) := by decide +kernel
theorem dX8_init_4 : decode cX8_init 4 = .ok (.aload_n 0, 1) := by decide +kernel
theorem dX8_init_5 : decode cX8_init 5 = .ok (.sipush 201, 3) := by decide +kernel
theorem dX8_init_8 : decode cX8_init 8 = .ok (.newarray .int, 2) := by decide +kernel
theorem dX8_init_10 : decode cX8_init 10 = .ok (.putfield 9, 3) := by decide +kernel
theorem dX8_init_13 : decode cX8_init 13 = .ok (.aload_n 0, 1) := by decide +kernel
theorem dX8_init_14 : decode cX8_init 14 = .ok (.getfield 9, 3) := by decide +kernel
theorem dX8_init_17 : decode cX8_init 17 = .ok (.iconst 0, 1) := by decide +kernel
theorem dX8_init_18 : decode cX8_init 18 = .ok (.iconst 1, 1) := by decide +kernel
theorem dX8_init_19 : decode cX8_init 19 = .ok (.iastore, 1) := by decide +kernel
theorem dX8_init_20 : decode cX8_init 20 = .ok (.return_, 1) := by decide +kernel
theorem dX8_restart_0 : decode cX8_restart 0 = .ok (.aload_n 0, 1) := by decide +kernel
theorem dX8_restart_1 : decode cX8_restart 1 = .ok (.iconst 0, 1) := by decide +kernel
theorem dX8_restart_2 : decode cX8_restart 2 = .ok (.putfield 15, 3) := by decide +kernel
theorem dX8_restart_5 : decode cX8_restart 5 = .ok (.aload_n 0, 1) := by decide +kernel
theorem dX8_restart_6 : decode cX8_restart 6 = .ok (.iconst 0, 1) := by decide +kernel
theorem dX8_restart_7 : decode cX8_restart 7 = .ok (.putfield 19, 3) := by decide +kernel
theorem dX8_restart_10 : decode cX8_restart 10 = .ok (.aload_n 0, 1) := by decide +kernel
theorem dX8_restart_11 : decode cX8_restart 11 = .ok (.iconst 0, 1) := by decide +kernel
theorem dX8_restart_12 : decode cX8_restart 12 = .ok (.putfield 22, 3) := by decide +kernel
theorem dX8_restart_15 : decode cX8_restart 15 = .ok (.aload_n 0, 1) := by decide +kernel
theorem dX8_restart_16 : decode cX8_restart 16 = .ok (.iconst 0, 1) := by decide +kernel
theorem dX8_restart_17 : decode cX8_restart 17 = .ok (.putfield 25, 3) := by decide +kernel
theorem dX8_restart_20 : decode cX8_restart 20 = .ok (.aload_n 0, 1) := by decide +kernel
theorem dX8_restart_21 : decode cX8_restart 21 = .ok (.iconst 0, 1) := by decide +kernel
theorem dX8_restart_22 : decode cX8_restart 22 = .ok (.putfield 28, 3) := by decide +kernel
theorem dX8_restart_25 : decode cX8_restart 25 = .ok (.aload_n 0, 1) := by decide +kernel
theorem dX8_restart_26 : decode cX8_restart 26 = .ok (.getfield 9, 3) := by decide +kernel
theorem dX8_restart_29 : decode cX8_restart 29 = .ok (.iconst 0, 1) := by decide +kernel
theorem dX8_restart_30 : decode cX8_restart 30 = .ok (.invokestatic 31, 3) := by decide +kernel
theorem dX8_restart_33 : decode cX8_restart 33 = .ok (.aload_n 0, 1) := by decide +kernel
theorem dX8_restart_34 : decode cX8_restart 34 = .ok (.getfield 9, 3) := by decide +kernel
theorem dX8_restart_37 : decode cX8_restart 37 = .ok (.iconst 0, 1) := by decide +kernel
theorem dX8_restart_38 : decode cX8_restart 38 = .ok (.iconst 1, 1) := by decide +kernel
theorem dX8_restart_39 : decode cX8_restart 39 = .ok (.iastore, 1) := by decide +kernel
theorem dX8_restart_40 : decode cX8_restart 40 = .ok (.return_, 1) := by decide +kernel
theorem dX8_draw_0 : decode cX8_draw 0 = .ok (.aload_n 0, 1) := by decide +kernel
theorem dX8_draw_1 : decode cX8_draw 1 = .ok (.aload_n 0, 1) := by decide +kernel
theorem dX8_draw_2 : decode cX8_draw 2 = .ok (.getfield 37, 3) := by decide +kernel
theorem dX8_draw_5 : decode cX8_draw 5 = .ok (.ldc 40, 2) := by decide +kernel
theorem dX8_draw_7 : decode cX8_draw 7 = .ok (.imul, 1) := by decide +kernel
theorem dX8_draw_8 : decode cX8_draw 8 = .ok (.ldc 41, 2) := by decide +kernel
theorem dX8_draw_10 : decode cX8_draw 10 = .ok (.iadd, 1) := by decide +kernel
theorem dX8_draw_11 : decode cX8_draw 11 = .ok (.putfield 37, 3) := by decide +kernel
theorem dX8_draw_14 : decode cX8_draw 14 = .ok (.iload_n 1, 1) := by decide +kernel
theorem dX8_draw_15 : decode cX8_draw 15 = .ok (.ifCond .le 15, 3) := by decide +kernel
theorem dX8_draw_18 : decode cX8_draw 18 = .ok (.aload_n 0, 1) := by decide +kernel
theorem dX8_draw_19 : decode cX8_draw 19 = .ok (.getfield 37, 3) := by decide +kernel
theorem dX8_draw_22 : decode cX8_draw 22 = .ok (.bipush 8, 2) := by decide +kernel
theorem dX8_draw_24 : decode cX8_draw 24 = .ok (.iushr, 1) := by decide +kernel
theorem dX8_draw_25 : decode cX8_draw 25 = .ok (.iload_n 1, 1) := by decide +kernel
theorem dX8_draw_26 : decode cX8_draw 26 = .ok (.irem, 1) := by decide +kernel
theorem dX8_draw_27 : decode cX8_draw 27 = .ok (.goto 4, 3) := by decide +kernel
theorem dX8_draw_30 : decode cX8_draw 30 = .ok (.iconst 0, 1) := by decide +kernel
theorem dX8_draw_31 : decode cX8_draw 31 = .ok (.ireturn, 1) := by decide +kernel
theorem dX8_count_0 : decode cX8_count 0 = .ok (.aload_n 0, 1) := by decide +kernel
theorem dX8_count_1 : decode cX8_count 1 = .ok (.aload_n 0, 1) := by decide +kernel
theorem dX8_count_2 : decode cX8_count 2 = .ok (.getfield 22, 3) := by decide +kernel
theorem dX8_count_5 : decode cX8_count 5 = .ok (.iload_n 1, 1) := by decide +kernel
theorem dX8_count_6 : decode cX8_count 6 = .ok (.iadd, 1) := by decide +kernel
theorem dX8_count_7 : decode cX8_count 7 = .ok (.sipush 1000, 3) := by decide +kernel
theorem dX8_count_10 : decode cX8_count 10 = .ok (.invokestatic 42, 3) := by decide +kernel
theorem dX8_count_13 : decode cX8_count 13 = .ok (.putfield 22, 3) := by decide +kernel
theorem dX8_count_16 : decode cX8_count 16 = .ok (.return_, 1) := by decide +kernel
theorem dX8_copyFrom_0 : decode cX8_copyFrom 0 = .ok (.aload_n 0, 1) := by decide +kernel
theorem dX8_copyFrom_1 : decode cX8_copyFrom 1 = .ok (.aload_n 1, 1) := by decide +kernel
theorem dX8_copyFrom_2 : decode cX8_copyFrom 2 = .ok (.getfield 15, 3) := by decide +kernel
theorem dX8_copyFrom_5 : decode cX8_copyFrom 5 = .ok (.putfield 15, 3) := by decide +kernel
theorem dX8_copyFrom_8 : decode cX8_copyFrom 8 = .ok (.aload_n 0, 1) := by decide +kernel
theorem dX8_copyFrom_9 : decode cX8_copyFrom 9 = .ok (.aload_n 1, 1) := by decide +kernel
theorem dX8_copyFrom_10 : decode cX8_copyFrom 10 = .ok (.getfield 19, 3) := by decide +kernel
theorem dX8_copyFrom_13 : decode cX8_copyFrom 13 = .ok (.putfield 19, 3) := by decide +kernel
theorem dX8_copyFrom_16 : decode cX8_copyFrom 16 = .ok (.aload_n 0, 1) := by decide +kernel
theorem dX8_copyFrom_17 : decode cX8_copyFrom 17 = .ok (.aload_n 1, 1) := by decide +kernel
theorem dX8_copyFrom_18 : decode cX8_copyFrom 18 = .ok (.getfield 22, 3) := by decide +kernel
theorem dX8_copyFrom_21 : decode cX8_copyFrom 21 = .ok (.putfield 22, 3) := by decide +kernel
theorem dX8_copyFrom_24 : decode cX8_copyFrom 24 = .ok (.aload_n 0, 1) := by decide +kernel
theorem dX8_copyFrom_25 : decode cX8_copyFrom 25 = .ok (.aload_n 1, 1) := by decide +kernel
theorem dX8_copyFrom_26 : decode cX8_copyFrom 26 = .ok (.getfield 25, 3) := by decide +kernel
theorem dX8_copyFrom_29 : decode cX8_copyFrom 29 = .ok (.putfield 25, 3) := by decide +kernel
theorem dX8_copyFrom_32 : decode cX8_copyFrom 32 = .ok (.aload_n 0, 1) := by decide +kernel
theorem dX8_copyFrom_33 : decode cX8_copyFrom 33 = .ok (.aload_n 1, 1) := by decide +kernel
theorem dX8_copyFrom_34 : decode cX8_copyFrom 34 = .ok (.getfield 28, 3) := by decide +kernel
theorem dX8_copyFrom_37 : decode cX8_copyFrom 37 = .ok (.putfield 28, 3) := by decide +kernel
theorem dX8_copyFrom_40 : decode cX8_copyFrom 40 = .ok (.aload_n 0, 1) := by decide +kernel
theorem dX8_copyFrom_41 : decode cX8_copyFrom 41 = .ok (.aload_n 1, 1) := by decide +kernel
theorem dX8_copyFrom_42 : decode cX8_copyFrom 42 = .ok (.getfield 37, 3) := by decide +kernel
theorem dX8_copyFrom_45 : decode cX8_copyFrom 45 = .ok (.putfield 37, 3) := by decide +kernel
theorem dX8_copyFrom_48 : decode cX8_copyFrom 48 = .ok (.aload_n 0, 1) := by decide +kernel
theorem dX8_copyFrom_49 : decode cX8_copyFrom 49 = .ok (.aload_n 1, 1) := by decide +kernel
theorem dX8_copyFrom_50 : decode cX8_copyFrom 50 = .ok (.getfield 48, 3) := by decide +kernel
theorem dX8_copyFrom_53 : decode cX8_copyFrom 53 = .ok (.putfield 48, 3) := by decide +kernel
theorem dX8_copyFrom_56 : decode cX8_copyFrom 56 = .ok (.aload_n 1, 1) := by decide +kernel
theorem dX8_copyFrom_57 : decode cX8_copyFrom 57 = .ok (.getfield 9, 3) := by decide +kernel
theorem dX8_copyFrom_60 : decode cX8_copyFrom 60 = .ok (.iconst 0, 1) := by decide +kernel
theorem dX8_copyFrom_61 : decode cX8_copyFrom 61 = .ok (.aload_n 0, 1) := by decide +kernel
theorem dX8_copyFrom_62 : decode cX8_copyFrom 62 = .ok (.getfield 9, 3) := by decide +kernel
theorem dX8_copyFrom_65 : decode cX8_copyFrom 65 = .ok (.iconst 0, 1) := by decide +kernel
theorem dX8_copyFrom_66 : decode cX8_copyFrom 66 = .ok (.sipush 201, 3) := by decide +kernel
theorem dX8_copyFrom_69 : decode cX8_copyFrom 69 = .ok (.invokestatic 51, 3) := by decide +kernel
theorem dX8_copyFrom_72 : decode cX8_copyFrom 72 = .ok (.return_, 1) := by decide +kernel
theorem dX9_init_0 : decode cX9_init 0 = .ok (.aload_n 0, 1) := by decide +kernel
theorem dX9_init_1 : decode cX9_init 1 = .ok (.invokespecial 3, 3) := by decide +kernel
theorem dX9_init_4 : decode cX9_init 4 = .ok (.aload_n 0, 1) := by decide +kernel
theorem dX9_init_5 : decode cX9_init 5 = .ok (.bipush 65, 2) := by decide +kernel
theorem dX9_init_7 : decode cX9_init 7 = .ok (.newarray .int, 2) := by decide +kernel
theorem dX9_init_9 : decode cX9_init 9 = .ok (.putfield 9, 3) := by decide +kernel
theorem dX9_init_12 : decode cX9_init 12 = .ok (.aload_n 0, 1) := by decide +kernel
theorem dX9_init_13 : decode cX9_init 13 = .ok (.bipush 65, 2) := by decide +kernel
theorem dX9_init_15 : decode cX9_init 15 = .ok (.newarray .int, 2) := by decide +kernel
theorem dX9_init_17 : decode cX9_init 17 = .ok (.putfield 15, 3) := by decide +kernel
theorem dX9_init_20 : decode cX9_init 20 = .ok (.aload_n 0, 1) := by decide +kernel
theorem dX9_init_21 : decode cX9_init 21 = .ok (.sipush 800, 3) := by decide +kernel
theorem dX9_init_24 : decode cX9_init 24 = .ok (.newarray .int, 2) := by decide +kernel
theorem dX9_init_26 : decode cX9_init 26 = .ok (.putfield 18, 3) := by decide +kernel
theorem dX9_init_29 : decode cX9_init 29 = .ok (.aload_n 0, 1) := by decide +kernel
theorem dX9_init_30 : decode cX9_init 30 = .ok (.iconst 4, 1) := by decide +kernel
theorem dX9_init_31 : decode cX9_init 31 = .ok (.newarray .int, 2) := by decide +kernel
theorem dX9_init_33 : decode cX9_init 33 = .ok (.putfield 21, 3) := by decide +kernel
theorem dX9_init_36 : decode cX9_init 36 = .ok (.return_, 1) := by decide +kernel
theorem dX9_gather_0 : decode cX9_gather 0 = .ok (.aload_n 0, 1) := by decide +kernel
theorem dX9_gather_1 : decode cX9_gather 1 = .ok (.iload 4, 2) := by decide +kernel
theorem dX9_gather_3 : decode cX9_gather 3 = .ok (.putfield 24, 3) := by decide +kernel
theorem dX9_gather_6 : decode cX9_gather 6 = .ok (.aload_n 2, 1) := by decide +kernel
theorem dX9_gather_7 : decode cX9_gather 7 = .ok (.iload_n 3, 1) := by decide +kernel
theorem dX9_gather_8 : decode cX9_gather 8 = .ok (.aload_n 1, 1) := by decide +kernel
theorem dX9_gather_9 : decode cX9_gather 9 = .ok (.getfield 28, 3) := by decide +kernel
theorem dX9_gather_12 : decode cX9_gather 12 = .ok (.getfield 34, 3) := by decide +kernel
theorem dX9_gather_15 : decode cX9_gather 15 = .ok (.invokevirtual 39, 3) := by decide +kernel
theorem dX9_gather_18 : decode cX9_gather 18 = .ok (.iconst 0, 1) := by decide +kernel
theorem dX9_gather_19 : decode cX9_gather 19 = .ok (.istore 5, 2) := by decide +kernel
theorem dX9_gather_21 : decode cX9_gather 21 = .ok (.iload 5, 2) := by decide +kernel
theorem dX9_gather_23 : decode cX9_gather 23 = .ok (.bipush 65, 2) := by decide +kernel
theorem dX9_gather_25 : decode cX9_gather 25 = .ok (.if_icmp .ge 51, 3) := by decide +kernel
theorem dX9_gather_28 : decode cX9_gather 28 = .ok (.aload_n 2, 1) := by decide +kernel
theorem dX9_gather_29 : decode cX9_gather 29 = .ok (.iconst 1, 1) := by decide +kernel
theorem dX9_gather_30 : decode cX9_gather 30 = .ok (.iload 5, 2) := by decide +kernel
theorem dX9_gather_32 : decode cX9_gather 32 = .ok (.invokevirtual 45, 3) := by decide +kernel
theorem dX9_gather_35 : decode cX9_gather 35 = .ok (.aload_n 0, 1) := by decide +kernel
theorem dX9_gather_36 : decode cX9_gather 36 = .ok (.getfield 9, 3) := by decide +kernel
theorem dX9_gather_39 : decode cX9_gather 39 = .ok (.iload 5, 2) := by decide +kernel
theorem dX9_gather_41 : decode cX9_gather 41 = .ok (.aload_n 2, 1) := by decide +kernel
theorem dX9_gather_42 : decode cX9_gather 42 = .ok (.aload_n 1, 1) := by decide +kernel
theorem dX9_gather_43 : decode cX9_gather 43 = .ok (.iload 4, 2) := by decide +kernel
theorem dX9_gather_45 : decode cX9_gather 45 = .ok (.invokevirtual 49, 3) := by decide +kernel
theorem dX9_gather_48 : decode cX9_gather 48 = .ok (.iastore, 1) := by decide +kernel
theorem dX9_gather_49 : decode cX9_gather 49 = .ok (.aload_n 2, 1) := by decide +kernel
theorem dX9_gather_50 : decode cX9_gather 50 = .ok (.iconst 0, 1) := by decide +kernel
theorem dX9_gather_51 : decode cX9_gather 51 = .ok (.iload 5, 2) := by decide +kernel
theorem dX9_gather_53 : decode cX9_gather 53 = .ok (.invokevirtual 45, 3) := by decide +kernel
theorem dX9_gather_56 : decode cX9_gather 56 = .ok (.aload_n 0, 1) := by decide +kernel
theorem dX9_gather_57 : decode cX9_gather 57 = .ok (.getfield 15, 3) := by decide +kernel
theorem dX9_gather_60 : decode cX9_gather 60 = .ok (.iload 5, 2) := by decide +kernel
theorem dX9_gather_62 : decode cX9_gather 62 = .ok (.aload_n 2, 1) := by decide +kernel
theorem dX9_gather_63 : decode cX9_gather 63 = .ok (.aload_n 1, 1) := by decide +kernel
theorem dX9_gather_64 : decode cX9_gather 64 = .ok (.iload 4, 2) := by decide +kernel
theorem dX9_gather_66 : decode cX9_gather 66 = .ok (.invokevirtual 49, 3) := by decide +kernel
theorem dX9_gather_69 : decode cX9_gather 69 = .ok (.iastore, 1) := by decide +kernel
theorem dX9_gather_70 : decode cX9_gather 70 = .ok (.iinc 5 1, 3) := by decide +kernel
theorem dX9_gather_73 : decode cX9_gather 73 = .ok (.goto (-52), 3) := by decide +kernel
theorem dX9_gather_76 : decode cX9_gather 76 = .ok (.return_, 1) := by decide +kernel
theorem dX9_ending_0 : decode cX9_ending 0 = .ok (.iconst 0, 1) := by decide +kernel
theorem dX9_ending_1 : decode cX9_ending 1 = .ok (.bipush 64, 2) := by decide +kernel
theorem dX9_ending_3 : decode cX9_ending 3 = .ok (.iload_n 2, 1) := by decide +kernel
theorem dX9_ending_4 : decode cX9_ending 4 = .ok (.invokestatic 53, 3) := by decide +kernel
theorem dX9_ending_7 : decode cX9_ending 7 = .ok (.invokestatic 59, 3) := by decide +kernel
theorem dX9_ending_10 : decode cX9_ending 10 = .ok (.istore_n 3, 1) := by decide +kernel
theorem dX9_ending_11 : decode cX9_ending 11 = .ok (.iload_n 1, 1) := by decide +kernel
theorem dX9_ending_12 : decode cX9_ending 12 = .ok (.ifCond .eq 12, 3) := by decide +kernel
theorem dX9_ending_15 : decode cX9_ending 15 = .ok (.aload_n 0, 1) := by decide +kernel
theorem dX9_ending_16 : decode cX9_ending 16 = .ok (.getfield 9, 3) := by decide +kernel
theorem dX9_ending_19 : decode cX9_ending 19 = .ok (.iload_n 3, 1) := by decide +kernel
theorem dX9_ending_20 : decode cX9_ending 20 = .ok (.iaload, 1) := by decide +kernel
theorem dX9_ending_21 : decode cX9_ending 21 = .ok (.goto 9, 3) := by decide +kernel
theorem dX9_ending_24 : decode cX9_ending 24 = .ok (.aload_n 0, 1) := by decide +kernel
theorem dX9_ending_25 : decode cX9_ending 25 = .ok (.getfield 15, 3) := by decide +kernel
theorem dX9_ending_28 : decode cX9_ending 28 = .ok (.iload_n 3, 1) := by decide +kernel
theorem dX9_ending_29 : decode cX9_ending 29 = .ok (.iaload, 1) := by decide +kernel
theorem dX9_ending_30 : decode cX9_ending 30 = .ok (.ireturn, 1) := by decide +kernel
theorem dX9_windingSum_0 : decode cX9_windingSum 0 = .ok (.iconst 0, 1) := by decide +kernel
theorem dX9_windingSum_1 : decode cX9_windingSum 1 = .ok (.istore 5, 2) := by decide +kernel
theorem dX9_windingSum_3 : decode cX9_windingSum 3 = .ok (.aload_n 1, 1) := by decide +kernel
theorem dX9_windingSum_4 : decode cX9_windingSum 4 = .ok (.getfield 62, 3) := by decide +kernel
theorem dX9_windingSum_7 : decode cX9_windingSum 7 = .ok (.ineg, 1) := by decide +kernel
theorem dX9_windingSum_8 : decode cX9_windingSum 8 = .ok (.istore 6, 2) := by decide +kernel
theorem dX9_windingSum_10 : decode cX9_windingSum 10 = .ok (.iload 6, 2) := by decide +kernel
theorem dX9_windingSum_12 : decode cX9_windingSum 12 = .ok (.aload_n 1, 1) := by decide +kernel
theorem dX9_windingSum_13 : decode cX9_windingSum 13 = .ok (.getfield 62, 3) := by decide +kernel
theorem dX9_windingSum_16 : decode cX9_windingSum 16 = .ok (.if_icmp .gt 60, 3) := by decide +kernel
theorem dX9_windingSum_19 : decode cX9_windingSum 19 = .ok (.iconst 0, 1) := by decide +kernel
theorem dX9_windingSum_20 : decode cX9_windingSum 20 = .ok (.iload_n 3, 1) := by decide +kernel
theorem dX9_windingSum_21 : decode cX9_windingSum 21 = .ok (.iload 6, 2) := by decide +kernel
theorem dX9_windingSum_23 : decode cX9_windingSum 23 = .ok (.iadd, 1) := by decide +kernel
theorem dX9_windingSum_24 : decode cX9_windingSum 24 = .ok (.invokestatic 59, 3) := by decide +kernel
theorem dX9_windingSum_27 : decode cX9_windingSum 27 = .ok (.istore 7, 2) := by decide +kernel
theorem dX9_windingSum_29 : decode cX9_windingSum 29 = .ok (.iload 4, 2) := by decide +kernel
theorem dX9_windingSum_31 : decode cX9_windingSum 31 = .ok (.aload_n 0, 1) := by decide +kernel
theorem dX9_windingSum_32 : decode cX9_windingSum 32 = .ok (.iload_n 2, 1) := by decide +kernel
theorem dX9_windingSum_33 : decode cX9_windingSum 33 = .ok (.iload 7, 2) := by decide +kernel
theorem dX9_windingSum_35 : decode cX9_windingSum 35 = .ok (.invokevirtual 65, 3) := by decide +kernel
theorem dX9_windingSum_38 : decode cX9_windingSum 38 = .ok (.isub, 1) := by decide +kernel
theorem dX9_windingSum_39 : decode cX9_windingSum 39 = .ok (.istore 8, 2) := by decide +kernel
theorem dX9_windingSum_41 : decode cX9_windingSum 41 = .ok (.iload 5, 2) := by decide +kernel
theorem dX9_windingSum_43 : decode cX9_windingSum 43 = .ok (.iload 7, 2) := by decide +kernel
theorem dX9_windingSum_45 : decode cX9_windingSum 45 = .ok (.iconst 1, 1) := by decide +kernel
theorem dX9_windingSum_46 : decode cX9_windingSum 46 = .ok (.iadd, 1) := by decide +kernel
theorem dX9_windingSum_47 : decode cX9_windingSum 47 = .ok (.iload 8, 2) := by decide +kernel
theorem dX9_windingSum_49 : decode cX9_windingSum 49 = .ok (.ifCond .lt 8, 3) := by decide +kernel
theorem dX9_windingSum_52 : decode cX9_windingSum 52 = .ok (.iload 8, 2) := by decide +kernel
theorem dX9_windingSum_54 : decode cX9_windingSum 54 = .ok (.goto 12, 3) := by decide +kernel
theorem dX9_windingSum_57 : decode cX9_windingSum 57 = .ok (.aload_n 1, 1) := by decide +kernel
theorem dX9_windingSum_58 : decode cX9_windingSum 58 = .ok (.getfield 69, 3) := by decide +kernel
theorem dX9_windingSum_61 : decode cX9_windingSum 61 = .ok (.iconst 2, 1) := by decide +kernel
theorem dX9_windingSum_62 : decode cX9_windingSum 62 = .ok (.iload 8, 2) := by decide +kernel
theorem dX9_windingSum_64 : decode cX9_windingSum 64 = .ok (.imul, 1) := by decide +kernel
theorem dX9_windingSum_65 : decode cX9_windingSum 65 = .ok (.isub, 1) := by decide +kernel
theorem dX9_windingSum_66 : decode cX9_windingSum 66 = .ok (.iadd, 1) := by decide +kernel
theorem dX9_windingSum_67 : decode cX9_windingSum 67 = .ok (.iadd, 1) := by decide +kernel
theorem dX9_windingSum_68 : decode cX9_windingSum 68 = .ok (.istore 5, 2) := by decide +kernel
theorem dX9_windingSum_70 : decode cX9_windingSum 70 = .ok (.iinc 6 1, 3) := by decide +kernel
theorem dX9_windingSum_73 : decode cX9_windingSum 73 = .ok (.goto (-63), 3) := by decide +kernel
theorem dX9_windingSum_76 : decode cX9_windingSum 76 = .ok (.iload 5, 2) := by decide +kernel
theorem dX9_windingSum_78 : decode cX9_windingSum 78 = .ok (.ireturn, 1) := by decide +kernel
theorem dX9_playingSum_0 : decode cX9_playingSum 0 = .ok (.iload_n 2, 1) := by decide +kernel
theorem dX9_playingSum_1 : decode cX9_playingSum 1 = .ok (.aload_n 0, 1) := by decide +kernel
theorem dX9_playingSum_2 : decode cX9_playingSum 2 = .ok (.getfield 24, 3) := by decide +kernel
theorem dX9_playingSum_5 : decode cX9_playingSum 5 = .ok (.isub, 1) := by decide +kernel
theorem dX9_playingSum_6 : decode cX9_playingSum 6 = .ok (.aload_n 1, 1) := by decide +kernel
theorem dX9_playingSum_7 : decode cX9_playingSum 7 = .ok (.invokevirtual 72, 3) := by decide +kernel
theorem dX9_playingSum_10 : decode cX9_playingSum 10 = .ok (.imul, 1) := by decide +kernel
theorem dX9_playingSum_11 : decode cX9_playingSum 11 = .ok (.ireturn, 1) := by decide +kernel
theorem dX9_seek_0 : decode cX9_seek 0 = .ok (.aload_n 0, 1) := by decide +kernel
theorem dX9_seek_1 : decode cX9_seek 1 = .ok (.ldc 76, 2) := by decide +kernel
theorem dX9_seek_3 : decode cX9_seek 3 = .ok (.putfield 77, 3) := by decide +kernel
theorem dX9_seek_6 : decode cX9_seek 6 = .ok (.aload_n 0, 1) := by decide +kernel
theorem dX9_seek_7 : decode cX9_seek 7 = .ok (.getfield 24, 3) := by decide +kernel
theorem dX9_seek_10 : decode cX9_seek 10 = .ok (.iload_n 2, 1) := by decide +kernel
theorem dX9_seek_11 : decode cX9_seek 11 = .ok (.if_icmp .gt 16, 3) := by decide +kernel
theorem dX9_seek_14 : decode cX9_seek 14 = .ok (.aload_n 0, 1) := by decide +kernel
theorem dX9_seek_15 : decode cX9_seek 15 = .ok (.aload_n 0, 1) := by decide +kernel
theorem dX9_seek_16 : decode cX9_seek 16 = .ok (.aload_n 1, 1) := by decide +kernel
theorem dX9_seek_17 : decode cX9_seek 17 = .ok (.iload_n 2, 1) := by decide +kernel
theorem dX9_seek_18 : decode cX9_seek 18 = .ok (.invokevirtual 80, 3) := by decide +kernel
theorem dX9_seek_21 : decode cX9_seek 21 = .ok (.iconst 0, 1) := by decide +kernel
theorem dX9_seek_22 : decode cX9_seek 22 = .ok (.iconst 1, 1) := by decide +kernel
theorem dX9_seek_23 : decode cX9_seek 23 = .ok (.iconst 0, 1) := by decide +kernel
theorem dX9_seek_24 : decode cX9_seek 24 = .ok (.invokevirtual 83, 3) := by decide +kernel
theorem dX9_seek_27 : decode cX9_seek 27 = .ok (.iconst 1, 1) := by decide +kernel
theorem dX9_seek_28 : decode cX9_seek 28 = .ok (.istore_n 3, 1) := by decide +kernel
theorem dX9_seek_29 : decode cX9_seek 29 = .ok (.iload_n 3, 1) := by decide +kernel
theorem dX9_seek_30 : decode cX9_seek 30 = .ok (.bipush 60, 2) := by decide +kernel
theorem dX9_seek_32 : decode cX9_seek 32 = .ok (.if_icmp .gt 53, 3) := by decide +kernel
theorem dX9_seek_35 : decode cX9_seek 35 = .ok (.aload_n 0, 1) := by decide +kernel
theorem dX9_seek_36 : decode cX9_seek 36 = .ok (.aload_n 0, 1) := by decide +kernel
theorem dX9_seek_37 : decode cX9_seek 37 = .ok (.aload_n 1, 1) := by decide +kernel
theorem dX9_seek_38 : decode cX9_seek 38 = .ok (.iconst 1, 1) := by decide +kernel
theorem dX9_seek_39 : decode cX9_seek 39 = .ok (.iload_n 3, 1) := by decide +kernel
theorem dX9_seek_40 : decode cX9_seek 40 = .ok (.iload_n 2, 1) := by decide +kernel
theorem dX9_seek_41 : decode cX9_seek 41 = .ok (.invokevirtual 87, 3) := by decide +kernel
theorem dX9_seek_44 : decode cX9_seek 44 = .ok (.iload_n 3, 1) := by decide +kernel
theorem dX9_seek_45 : decode cX9_seek 45 = .ok (.iconst 1, 1) := by decide +kernel
theorem dX9_seek_46 : decode cX9_seek 46 = .ok (.iload_n 2, 1) := by decide +kernel
theorem dX9_seek_47 : decode cX9_seek 47 = .ok (.aload_n 0, 1) := by decide +kernel
theorem dX9_seek_48 : decode cX9_seek 48 = .ok (.getfield 9, 3) := by decide +kernel
theorem dX9_seek_51 : decode cX9_seek 51 = .ok (.iload_n 3, 1) := by decide +kernel
theorem dX9_seek_52 : decode cX9_seek 52 = .ok (.iaload, 1) := by decide +kernel
theorem dX9_seek_53 : decode cX9_seek 53 = .ok (.isub, 1) := by decide +kernel
theorem dX9_seek_54 : decode cX9_seek 54 = .ok (.invokevirtual 83, 3) := by decide +kernel
theorem dX9_seek_57 : decode cX9_seek 57 = .ok (.aload_n 0, 1) := by decide +kernel
theorem dX9_seek_58 : decode cX9_seek 58 = .ok (.aload_n 0, 1) := by decide +kernel
theorem dX9_seek_59 : decode cX9_seek 59 = .ok (.aload_n 1, 1) := by decide +kernel
theorem dX9_seek_60 : decode cX9_seek 60 = .ok (.iconst 0, 1) := by decide +kernel
theorem dX9_seek_61 : decode cX9_seek 61 = .ok (.iload_n 3, 1) := by decide +kernel
theorem dX9_seek_62 : decode cX9_seek 62 = .ok (.iload_n 2, 1) := by decide +kernel
theorem dX9_seek_63 : decode cX9_seek 63 = .ok (.invokevirtual 87, 3) := by decide +kernel
theorem dX9_seek_66 : decode cX9_seek 66 = .ok (.iload_n 3, 1) := by decide +kernel
theorem dX9_seek_67 : decode cX9_seek 67 = .ok (.iconst 0, 1) := by decide +kernel
theorem dX9_seek_68 : decode cX9_seek 68 = .ok (.iload_n 2, 1) := by decide +kernel
theorem dX9_seek_69 : decode cX9_seek 69 = .ok (.aload_n 0, 1) := by decide +kernel
theorem dX9_seek_70 : decode cX9_seek 70 = .ok (.getfield 15, 3) := by decide +kernel
theorem dX9_seek_73 : decode cX9_seek 73 = .ok (.iload_n 3, 1) := by decide +kernel
theorem dX9_seek_74 : decode cX9_seek 74 = .ok (.iaload, 1) := by decide +kernel
theorem dX9_seek_75 : decode cX9_seek 75 = .ok (.isub, 1) := by decide +kernel
theorem dX9_seek_76 : decode cX9_seek 76 = .ok (.invokevirtual 83, 3) := by decide +kernel
theorem dX9_seek_79 : decode cX9_seek 79 = .ok (.iinc 3 1, 3) := by decide +kernel
theorem dX9_seek_82 : decode cX9_seek 82 = .ok (.goto (-53), 3) := by decide +kernel
theorem dX9_seek_85 : decode cX9_seek 85 = .ok (.return_, 1) := by decide +kernel
theorem dX9_keep_0 : decode cX9_keep 0 = .ok (.iload_n 1, 1) := by decide +kernel
theorem dX9_keep_1 : decode cX9_keep 1 = .ok (.aload_n 0, 1) := by decide +kernel
theorem dX9_keep_2 : decode cX9_keep 2 = .ok (.getfield 77, 3) := by decide +kernel
theorem dX9_keep_5 : decode cX9_keep 5 = .ok (.if_icmp .ge 24, 3) := by decide +kernel
theorem dX9_keep_8 : decode cX9_keep 8 = .ok (.aload_n 0, 1) := by decide +kernel
theorem dX9_keep_9 : decode cX9_keep 9 = .ok (.iload_n 1, 1) := by decide +kernel
theorem dX9_keep_10 : decode cX9_keep 10 = .ok (.putfield 77, 3) := by decide +kernel
theorem dX9_keep_13 : decode cX9_keep 13 = .ok (.aload_n 0, 1) := by decide +kernel
theorem dX9_keep_14 : decode cX9_keep 14 = .ok (.iload_n 2, 1) := by decide +kernel
theorem dX9_keep_15 : decode cX9_keep 15 = .ok (.putfield 91, 3) := by decide +kernel
theorem dX9_keep_18 : decode cX9_keep 18 = .ok (.aload_n 0, 1) := by decide +kernel
theorem dX9_keep_19 : decode cX9_keep 19 = .ok (.iload_n 3, 1) := by decide +kernel
theorem dX9_keep_20 : decode cX9_keep 20 = .ok (.putfield 94, 3) := by decide +kernel
theorem dX9_keep_23 : decode cX9_keep 23 = .ok (.aload_n 0, 1) := by decide +kernel
theorem dX9_keep_24 : decode cX9_keep 24 = .ok (.iload 4, 2) := by decide +kernel
theorem dX9_keep_26 : decode cX9_keep 26 = .ok (.putfield 97, 3) := by decide +kernel
theorem dX9_keep_29 : decode cX9_keep 29 = .ok (.return_, 1) := by decide +kernel
theorem dX9_found_0 : decode cX9_found 0 = .ok (.iload_n 1, 1) := by decide +kernel
theorem dX9_found_1 : decode cX9_found 1 = .ok (.tableswitch 44 0 2 #[27, 34, 39], 27) := by decide +kernel
theorem dX9_found_28 : decode cX9_found 28 = .ok (.aload_n 0, 1) := by decide +kernel
theorem dX9_found_29 : decode cX9_found 29 = .ok (.getfield 77, 3) := by decide +kernel
theorem dX9_found_32 : decode cX9_found 32 = .ok (.iload_n 2, 1) := by decide +kernel
theorem dX9_found_33 : decode cX9_found 33 = .ok (.iadd, 1) := by decide +kernel
theorem dX9_found_34 : decode cX9_found 34 = .ok (.ireturn, 1) := by decide +kernel
theorem dX9_found_35 : decode cX9_found 35 = .ok (.aload_n 0, 1) := by decide +kernel
theorem dX9_found_36 : decode cX9_found 36 = .ok (.getfield 91, 3) := by decide +kernel
theorem dX9_found_39 : decode cX9_found 39 = .ok (.ireturn, 1) := by decide +kernel
theorem dX9_found_40 : decode cX9_found 40 = .ok (.aload_n 0, 1) := by decide +kernel
theorem dX9_found_41 : decode cX9_found 41 = .ok (.getfield 94, 3) := by decide +kernel
theorem dX9_found_44 : decode cX9_found 44 = .ok (.ireturn, 1) := by decide +kernel
theorem dX9_found_45 : decode cX9_found 45 = .ok (.aload_n 0, 1) := by decide +kernel
theorem dX9_found_46 : decode cX9_found 46 = .ok (.getfield 97, 3) := by decide +kernel
theorem dX9_found_49 : decode cX9_found 49 = .ok (.ireturn, 1) := by decide +kernel
theorem dX9_cost_0 : decode cX9_cost 0 = .ok (.lconst 0, 1) := by decide +kernel
theorem dX9_cost_1 : decode cX9_cost 1 = .ok (.lstore_n 3, 1) := by decide +kernel
theorem dX9_cost_2 : decode cX9_cost 2 = .ok (.aload_n 1, 1) := by decide +kernel
theorem dX9_cost_3 : decode cX9_cost 3 = .ok (.getfield 100, 3) := by decide +kernel
theorem dX9_cost_6 : decode cX9_cost 6 = .ok (.aload_n 1, 1) := by decide +kernel
theorem dX9_cost_7 : decode cX9_cost 7 = .ok (.getfield 28, 3) := by decide +kernel
theorem dX9_cost_10 : decode cX9_cost 10 = .ok (.getfield 104, 3) := by decide +kernel
theorem dX9_cost_13 : decode cX9_cost 13 = .ok (.invokevirtual 107, 3) := by decide +kernel
theorem dX9_cost_16 : decode cX9_cost 16 = .ok (.istore 5, 2) := by decide +kernel
theorem dX9_cost_18 : decode cX9_cost 18 = .ok (.iload 5, 2) := by decide +kernel
theorem dX9_cost_20 : decode cX9_cost 20 = .ok (.istore 6, 2) := by decide +kernel
theorem dX9_cost_22 : decode cX9_cost 22 = .ok (.iload 6, 2) := by decide +kernel
theorem dX9_cost_24 : decode cX9_cost 24 = .ok (.iload 5, 2) := by decide +kernel
theorem dX9_cost_26 : decode cX9_cost 26 = .ok (.aload_n 1, 1) := by decide +kernel
theorem dX9_cost_27 : decode cX9_cost 27 = .ok (.getfield 100, 3) := by decide +kernel
theorem dX9_cost_30 : decode cX9_cost 30 = .ok (.aload_n 1, 1) := by decide +kernel
theorem dX9_cost_31 : decode cX9_cost 31 = .ok (.getfield 28, 3) := by decide +kernel
theorem dX9_cost_34 : decode cX9_cost 34 = .ok (.getfield 104, 3) := by decide +kernel
theorem dX9_cost_37 : decode cX9_cost 37 = .ok (.invokevirtual 113, 3) := by decide +kernel
theorem dX9_cost_40 : decode cX9_cost 40 = .ok (.iadd, 1) := by decide +kernel
theorem dX9_cost_41 : decode cX9_cost 41 = .ok (.if_icmp .ge 41, 3) := by decide +kernel
theorem dX9_cost_44 : decode cX9_cost 44 = .ok (.lload_n 3, 1) := by decide +kernel
theorem dX9_cost_45 : decode cX9_cost 45 = .ok (.aload_n 1, 1) := by decide +kernel
theorem dX9_cost_46 : decode cX9_cost 46 = .ok (.getfield 100, 3) := by decide +kernel
theorem dX9_cost_49 : decode cX9_cost 49 = .ok (.getfield 116, 3) := by decide +kernel
theorem dX9_cost_52 : decode cX9_cost 52 = .ok (.iload 6, 2) := by decide +kernel
theorem dX9_cost_54 : decode cX9_cost 54 = .ok (.iaload, 1) := by decide +kernel
theorem dX9_cost_55 : decode cX9_cost 55 = .ok (.i2l, 1) := by decide +kernel
theorem dX9_cost_56 : decode cX9_cost 56 = .ok (.aload_n 0, 1) := by decide +kernel
theorem dX9_cost_57 : decode cX9_cost 57 = .ok (.aload_n 1, 1) := by decide +kernel
theorem dX9_cost_58 : decode cX9_cost 58 = .ok (.aload_n 1, 1) := by decide +kernel
theorem dX9_cost_59 : decode cX9_cost 59 = .ok (.getfield 100, 3) := by decide +kernel
theorem dX9_cost_62 : decode cX9_cost 62 = .ok (.getfield 119, 3) := by decide +kernel
theorem dX9_cost_65 : decode cX9_cost 65 = .ok (.iload 6, 2) := by decide +kernel
theorem dX9_cost_67 : decode cX9_cost 67 = .ok (.iaload, 1) := by decide +kernel
theorem dX9_cost_68 : decode cX9_cost 68 = .ok (.iload_n 2, 1) := by decide +kernel
theorem dX9_cost_69 : decode cX9_cost 69 = .ok (.invokevirtual 122, 3) := by decide +kernel
theorem dX9_cost_72 : decode cX9_cost 72 = .ok (.i2l, 1) := by decide +kernel
theorem dX9_cost_73 : decode cX9_cost 73 = .ok (.lmul, 1) := by decide +kernel
theorem dX9_cost_74 : decode cX9_cost 74 = .ok (.ladd, 1) := by decide +kernel
theorem dX9_cost_75 : decode cX9_cost 75 = .ok (.lstore_n 3, 1) := by decide +kernel
theorem dX9_cost_76 : decode cX9_cost 76 = .ok (.iinc 6 1, 3) := by decide +kernel
theorem dX9_cost_79 : decode cX9_cost 79 = .ok (.goto (-57), 3) := by decide +kernel
theorem dX9_cost_82 : decode cX9_cost 82 = .ok (.lload_n 3, 1) := by decide +kernel
theorem dX9_cost_83 : decode cX9_cost 83 = .ok (.lreturn, 1) := by decide +kernel
theorem dX9_ruledSum_0 : decode cX9_ruledSum 0 = .ok (.iconst 0, 1) := by decide +kernel
theorem dX9_ruledSum_1 : decode cX9_ruledSum 1 = .ok (.iload_n 2, 1) := by decide +kernel
theorem dX9_ruledSum_2 : decode cX9_ruledSum 2 = .ok (.iload_n 3, 1) := by decide +kernel
theorem dX9_ruledSum_3 : decode cX9_ruledSum 3 = .ok (.isub, 1) := by decide +kernel
theorem dX9_ruledSum_4 : decode cX9_ruledSum 4 = .ok (.invokestatic 59, 3) := by decide +kernel
theorem dX9_ruledSum_7 : decode cX9_ruledSum 7 = .ok (.istore 4, 2) := by decide +kernel
theorem dX9_ruledSum_9 : decode cX9_ruledSum 9 = .ok (.aload_n 0, 1) := by decide +kernel
theorem dX9_ruledSum_10 : decode cX9_ruledSum 10 = .ok (.getfield 24, 3) := by decide +kernel
theorem dX9_ruledSum_13 : decode cX9_ruledSum 13 = .ok (.iload_n 2, 1) := by decide +kernel
theorem dX9_ruledSum_14 : decode cX9_ruledSum 14 = .ok (.if_icmp .le 18, 3) := by decide +kernel
theorem dX9_ruledSum_17 : decode cX9_ruledSum 17 = .ok (.aload_n 0, 1) := by decide +kernel
theorem dX9_ruledSum_18 : decode cX9_ruledSum 18 = .ok (.aload_n 1, 1) := by decide +kernel
theorem dX9_ruledSum_19 : decode cX9_ruledSum 19 = .ok (.iconst 0, 1) := by decide +kernel
theorem dX9_ruledSum_20 : decode cX9_ruledSum 20 = .ok (.aload_n 0, 1) := by decide +kernel
theorem dX9_ruledSum_21 : decode cX9_ruledSum 21 = .ok (.iconst 0, 1) := by decide +kernel
theorem dX9_ruledSum_22 : decode cX9_ruledSum 22 = .ok (.iload 4, 2) := by decide +kernel
theorem dX9_ruledSum_24 : decode cX9_ruledSum 24 = .ok (.invokevirtual 126, 3) := by decide +kernel
theorem dX9_ruledSum_27 : decode cX9_ruledSum 27 = .ok (.iload_n 2, 1) := by decide +kernel
theorem dX9_ruledSum_28 : decode cX9_ruledSum 28 = .ok (.invokevirtual 87, 3) := by decide +kernel
theorem dX9_ruledSum_31 : decode cX9_ruledSum 31 = .ok (.ireturn, 1) := by decide +kernel
theorem dX9_ruledSum_32 : decode cX9_ruledSum 32 = .ok (.aload_n 0, 1) := by decide +kernel
theorem dX9_ruledSum_33 : decode cX9_ruledSum 33 = .ok (.getfield 24, 3) := by decide +kernel
theorem dX9_ruledSum_36 : decode cX9_ruledSum 36 = .ok (.iload 4, 2) := by decide +kernel
theorem dX9_ruledSum_38 : decode cX9_ruledSum 38 = .ok (.if_icmp .lt 10, 3) := by decide +kernel
theorem dX9_ruledSum_41 : decode cX9_ruledSum 41 = .ok (.aload_n 0, 1) := by decide +kernel
theorem dX9_ruledSum_42 : decode cX9_ruledSum 42 = .ok (.aload_n 1, 1) := by decide +kernel
theorem dX9_ruledSum_43 : decode cX9_ruledSum 43 = .ok (.iload_n 2, 1) := by decide +kernel
theorem dX9_ruledSum_44 : decode cX9_ruledSum 44 = .ok (.invokevirtual 80, 3) := by decide +kernel
theorem dX9_ruledSum_47 : decode cX9_ruledSum 47 = .ok (.ireturn, 1) := by decide +kernel
theorem dX9_ruledSum_48 : decode cX9_ruledSum 48 = .ok (.aload_n 0, 1) := by decide +kernel
theorem dX9_ruledSum_49 : decode cX9_ruledSum 49 = .ok (.aload_n 1, 1) := by decide +kernel
theorem dX9_ruledSum_50 : decode cX9_ruledSum 50 = .ok (.iconst 1, 1) := by decide +kernel
theorem dX9_ruledSum_51 : decode cX9_ruledSum 51 = .ok (.aload_n 0, 1) := by decide +kernel
theorem dX9_ruledSum_52 : decode cX9_ruledSum 52 = .ok (.iconst 1, 1) := by decide +kernel
theorem dX9_ruledSum_53 : decode cX9_ruledSum 53 = .ok (.iload 4, 2) := by decide +kernel
theorem dX9_ruledSum_55 : decode cX9_ruledSum 55 = .ok (.invokevirtual 126, 3) := by decide +kernel
theorem dX9_ruledSum_58 : decode cX9_ruledSum 58 = .ok (.iload_n 2, 1) := by decide +kernel
theorem dX9_ruledSum_59 : decode cX9_ruledSum 59 = .ok (.invokevirtual 87, 3) := by decide +kernel
theorem dX9_ruledSum_62 : decode cX9_ruledSum 62 = .ok (.ireturn, 1) := by decide +kernel
theorem dX9_leastHold_0 : decode cX9_leastHold 0 = .ok (.iconst 1, 1) := by decide +kernel
theorem dX9_leastHold_1 : decode cX9_leastHold 1 = .ok (.istore_n 3, 1) := by decide +kernel
theorem dX9_leastHold_2 : decode cX9_leastHold 2 = .ok (.iload_n 3, 1) := by decide +kernel
theorem dX9_leastHold_3 : decode cX9_leastHold 3 = .ok (.bipush 60, 2) := by decide +kernel
theorem dX9_leastHold_5 : decode cX9_leastHold 5 = .ok (.if_icmp .ge 38, 3) := by decide +kernel
theorem dX9_leastHold_8 : decode cX9_leastHold 8 = .ok (.iload_n 1, 1) := by decide +kernel
theorem dX9_leastHold_9 : decode cX9_leastHold 9 = .ok (.ifCond .eq 16, 3) := by decide +kernel
theorem dX9_leastHold_12 : decode cX9_leastHold 12 = .ok (.aload_n 0, 1) := by decide +kernel
theorem dX9_leastHold_13 : decode cX9_leastHold 13 = .ok (.getfield 9, 3) := by decide +kernel
theorem dX9_leastHold_16 : decode cX9_leastHold 16 = .ok (.iload_n 3, 1) := by decide +kernel
theorem dX9_leastHold_17 : decode cX9_leastHold 17 = .ok (.iaload, 1) := by decide +kernel
theorem dX9_leastHold_18 : decode cX9_leastHold 18 = .ok (.iload_n 2, 1) := by decide +kernel
theorem dX9_leastHold_19 : decode cX9_leastHold 19 = .ok (.if_icmp .lt 18, 3) := by decide +kernel
theorem dX9_leastHold_22 : decode cX9_leastHold 22 = .ok (.goto 13, 3) := by decide +kernel
theorem dX9_leastHold_25 : decode cX9_leastHold 25 = .ok (.aload_n 0, 1) := by decide +kernel
theorem dX9_leastHold_26 : decode cX9_leastHold 26 = .ok (.getfield 15, 3) := by decide +kernel
theorem dX9_leastHold_29 : decode cX9_leastHold 29 = .ok (.iload_n 3, 1) := by decide +kernel
theorem dX9_leastHold_30 : decode cX9_leastHold 30 = .ok (.iaload, 1) := by decide +kernel
theorem dX9_leastHold_31 : decode cX9_leastHold 31 = .ok (.iload_n 2, 1) := by decide +kernel
theorem dX9_leastHold_32 : decode cX9_leastHold 32 = .ok (.if_icmp .gt 5, 3) := by decide +kernel
theorem dX9_leastHold_35 : decode cX9_leastHold 35 = .ok (.iload_n 3, 1) := by decide +kernel
theorem dX9_leastHold_36 : decode cX9_leastHold 36 = .ok (.ireturn, 1) := by decide +kernel
theorem dX9_leastHold_37 : decode cX9_leastHold 37 = .ok (.iinc 3 1, 3) := by decide +kernel
theorem dX9_leastHold_40 : decode cX9_leastHold 40 = .ok (.goto (-38), 3) := by decide +kernel
theorem dX9_leastHold_43 : decode cX9_leastHold 43 = .ok (.bipush 60, 2) := by decide +kernel
theorem dX9_leastHold_45 : decode cX9_leastHold 45 = .ok (.ireturn, 1) := by decide +kernel
theorem dX9_cheapest_0 : decode cX9_cheapest 0 = .ok (.iconst 0, 1) := by decide +kernel
theorem dX9_cheapest_1 : decode cX9_cheapest 1 = .ok (.istore_n 2, 1) := by decide +kernel
theorem dX9_cheapest_2 : decode cX9_cheapest 2 = .ok (.aload_n 0, 1) := by decide +kernel
theorem dX9_cheapest_3 : decode cX9_cheapest 3 = .ok (.aload_n 1, 1) := by decide +kernel
theorem dX9_cheapest_4 : decode cX9_cheapest 4 = .ok (.iconst 0, 1) := by decide +kernel
theorem dX9_cheapest_5 : decode cX9_cheapest 5 = .ok (.invokevirtual 129, 3) := by decide +kernel
theorem dX9_cheapest_8 : decode cX9_cheapest 8 = .ok (.lstore_n 3, 1) := by decide +kernel
theorem dX9_cheapest_9 : decode cX9_cheapest 9 = .ok (.iconst 1, 1) := by decide +kernel
theorem dX9_cheapest_10 : decode cX9_cheapest 10 = .ok (.istore 5, 2) := by decide +kernel
theorem dX9_cheapest_12 : decode cX9_cheapest 12 = .ok (.iload 5, 2) := by decide +kernel
theorem dX9_cheapest_14 : decode cX9_cheapest 14 = .ok (.bipush 30, 2) := by decide +kernel
theorem dX9_cheapest_16 : decode cX9_cheapest 16 = .ok (.if_icmp .gt 31, 3) := by decide +kernel
theorem dX9_cheapest_19 : decode cX9_cheapest 19 = .ok (.aload_n 0, 1) := by decide +kernel
theorem dX9_cheapest_20 : decode cX9_cheapest 20 = .ok (.aload_n 1, 1) := by decide +kernel
theorem dX9_cheapest_21 : decode cX9_cheapest 21 = .ok (.iload 5, 2) := by decide +kernel
theorem dX9_cheapest_23 : decode cX9_cheapest 23 = .ok (.invokevirtual 129, 3) := by decide +kernel
theorem dX9_cheapest_26 : decode cX9_cheapest 26 = .ok (.lstore 6, 2) := by decide +kernel
theorem dX9_cheapest_28 : decode cX9_cheapest 28 = .ok (.lload 6, 2) := by decide +kernel
theorem dX9_cheapest_30 : decode cX9_cheapest 30 = .ok (.lload_n 3, 1) := by decide +kernel
theorem dX9_cheapest_31 : decode cX9_cheapest 31 = .ok (.lcmp, 1) := by decide +kernel
theorem dX9_cheapest_32 : decode cX9_cheapest 32 = .ok (.ifCond .ge 9, 3) := by decide +kernel
theorem dX9_cheapest_35 : decode cX9_cheapest 35 = .ok (.lload 6, 2) := by decide +kernel
theorem dX9_cheapest_37 : decode cX9_cheapest 37 = .ok (.lstore_n 3, 1) := by decide +kernel
theorem dX9_cheapest_38 : decode cX9_cheapest 38 = .ok (.iload 5, 2) := by decide +kernel
theorem dX9_cheapest_40 : decode cX9_cheapest 40 = .ok (.istore_n 2, 1) := by decide +kernel
theorem dX9_cheapest_41 : decode cX9_cheapest 41 = .ok (.iinc 5 1, 3) := by decide +kernel
theorem dX9_cheapest_44 : decode cX9_cheapest 44 = .ok (.goto (-32), 3) := by decide +kernel
theorem dX9_cheapest_47 : decode cX9_cheapest 47 = .ok (.iload_n 2, 1) := by decide +kernel
theorem dX9_cheapest_48 : decode cX9_cheapest 48 = .ok (.ireturn, 1) := by decide +kernel
theorem dX9_findTelling_0 : decode cX9_findTelling 0 = .ok (.aload_n 0, 1) := by decide +kernel
theorem dX9_findTelling_1 : decode cX9_findTelling 1 = .ok (.ldc 76, 2) := by decide +kernel
theorem dX9_findTelling_3 : decode cX9_findTelling 3 = .ok (.putfield 77, 3) := by decide +kernel
theorem dX9_findTelling_6 : decode cX9_findTelling 6 = .ok (.iconst 1, 1) := by decide +kernel
theorem dX9_findTelling_7 : decode cX9_findTelling 7 = .ok (.istore_n 2, 1) := by decide +kernel
theorem dX9_findTelling_8 : decode cX9_findTelling 8 = .ok (.iload_n 2, 1) := by decide +kernel
theorem dX9_findTelling_9 : decode cX9_findTelling 9 = .ok (.bipush 20, 2) := by decide +kernel
theorem dX9_findTelling_11 : decode cX9_findTelling 11 = .ok (.if_icmp .gt 37, 3) := by decide +kernel
theorem dX9_findTelling_14 : decode cX9_findTelling 14 = .ok (.aload_n 0, 1) := by decide +kernel
theorem dX9_findTelling_15 : decode cX9_findTelling 15 = .ok (.aload_n 0, 1) := by decide +kernel
theorem dX9_findTelling_16 : decode cX9_findTelling 16 = .ok (.aload_n 1, 1) := by decide +kernel
theorem dX9_findTelling_17 : decode cX9_findTelling 17 = .ok (.iconst 1, 1) := by decide +kernel
theorem dX9_findTelling_18 : decode cX9_findTelling 18 = .ok (.iload_n 2, 1) := by decide +kernel
theorem dX9_findTelling_19 : decode cX9_findTelling 19 = .ok (.invokevirtual 133, 3) := by decide +kernel
theorem dX9_findTelling_22 : decode cX9_findTelling 22 = .ok (.iload_n 2, 1) := by decide +kernel
theorem dX9_findTelling_23 : decode cX9_findTelling 23 = .ok (.iconst 1, 1) := by decide +kernel
theorem dX9_findTelling_24 : decode cX9_findTelling 24 = .ok (.iconst 0, 1) := by decide +kernel
theorem dX9_findTelling_25 : decode cX9_findTelling 25 = .ok (.invokevirtual 83, 3) := by decide +kernel
theorem dX9_findTelling_28 : decode cX9_findTelling 28 = .ok (.aload_n 0, 1) := by decide +kernel
theorem dX9_findTelling_29 : decode cX9_findTelling 29 = .ok (.aload_n 0, 1) := by decide +kernel
theorem dX9_findTelling_30 : decode cX9_findTelling 30 = .ok (.aload_n 1, 1) := by decide +kernel
theorem dX9_findTelling_31 : decode cX9_findTelling 31 = .ok (.iconst 0, 1) := by decide +kernel
theorem dX9_findTelling_32 : decode cX9_findTelling 32 = .ok (.iload_n 2, 1) := by decide +kernel
theorem dX9_findTelling_33 : decode cX9_findTelling 33 = .ok (.invokevirtual 133, 3) := by decide +kernel
theorem dX9_findTelling_36 : decode cX9_findTelling 36 = .ok (.iload_n 2, 1) := by decide +kernel
theorem dX9_findTelling_37 : decode cX9_findTelling 37 = .ok (.iconst 0, 1) := by decide +kernel
theorem dX9_findTelling_38 : decode cX9_findTelling 38 = .ok (.iconst 0, 1) := by decide +kernel
theorem dX9_findTelling_39 : decode cX9_findTelling 39 = .ok (.invokevirtual 83, 3) := by decide +kernel
theorem dX9_findTelling_42 : decode cX9_findTelling 42 = .ok (.iinc 2 1, 3) := by decide +kernel
theorem dX9_findTelling_45 : decode cX9_findTelling 45 = .ok (.goto (-37), 3) := by decide +kernel
theorem dX9_findTelling_48 : decode cX9_findTelling 48 = .ok (.return_, 1) := by decide +kernel
theorem dX9_tallyRow_0 : decode cX9_tallyRow 0 = .ok (.iload_n 0, 1) := by decide +kernel
theorem dX9_tallyRow_1 : decode cX9_tallyRow 1 = .ok (.bipush 25, 2) := by decide +kernel
theorem dX9_tallyRow_3 : decode cX9_tallyRow 3 = .ok (.imul, 1) := by decide +kernel
theorem dX9_tallyRow_4 : decode cX9_tallyRow 4 = .ok (.iload_n 1, 1) := by decide +kernel
theorem dX9_tallyRow_5 : decode cX9_tallyRow 5 = .ok (.iadd, 1) := by decide +kernel
theorem dX9_tallyRow_6 : decode cX9_tallyRow 6 = .ok (.bipush 16, 2) := by decide +kernel
theorem dX9_tallyRow_8 : decode cX9_tallyRow 8 = .ok (.imul, 1) := by decide +kernel
theorem dX9_tallyRow_9 : decode cX9_tallyRow 9 = .ok (.ireturn, 1) := by decide +kernel
theorem dX9_tally_0 : decode cX9_tally 0 = .ok (.aload_n 0, 1) := by decide +kernel
theorem dX9_tally_1 : decode cX9_tally 1 = .ok (.getfield 18, 3) := by decide +kernel
theorem dX9_tally_4 : decode cX9_tally 4 = .ok (.iconst 0, 1) := by decide +kernel
theorem dX9_tally_5 : decode cX9_tally 5 = .ok (.invokestatic 136, 3) := by decide +kernel
theorem dX9_tally_8 : decode cX9_tally 8 = .ok (.aload_n 2, 1) := by decide +kernel
theorem dX9_tally_9 : decode cX9_tally 9 = .ok (.aload_n 1, 1) := by decide +kernel
theorem dX9_tally_10 : decode cX9_tally 10 = .ok (.getfield 28, 3) := by decide +kernel
theorem dX9_tally_13 : decode cX9_tally 13 = .ok (.getfield 104, 3) := by decide +kernel
theorem dX9_tally_16 : decode cX9_tally 16 = .ok (.aload_n 1, 1) := by decide +kernel
theorem dX9_tally_17 : decode cX9_tally 17 = .ok (.getfield 28, 3) := by decide +kernel
theorem dX9_tally_20 : decode cX9_tally 20 = .ok (.getfield 34, 3) := by decide +kernel
theorem dX9_tally_23 : decode cX9_tally 23 = .ok (.invokevirtual 39, 3) := by decide +kernel
theorem dX9_tally_26 : decode cX9_tally 26 = .ok (.iconst 0, 1) := by decide +kernel
theorem dX9_tally_27 : decode cX9_tally 27 = .ok (.istore_n 3, 1) := by decide +kernel
theorem dX9_tally_28 : decode cX9_tally 28 = .ok (.iload_n 3, 1) := by decide +kernel
theorem dX9_tally_29 : decode cX9_tally 29 = .ok (.iconst 1, 1) := by decide +kernel
theorem dX9_tally_30 : decode cX9_tally 30 = .ok (.if_icmp .gt 58, 3) := by decide +kernel
theorem dX9_tally_33 : decode cX9_tally 33 = .ok (.iconst 0, 1) := by decide +kernel
theorem dX9_tally_34 : decode cX9_tally 34 = .ok (.istore 4, 2) := by decide +kernel
theorem dX9_tally_36 : decode cX9_tally 36 = .ok (.iload 4, 2) := by decide +kernel
theorem dX9_tally_38 : decode cX9_tally 38 = .ok (.bipush 20, 2) := by decide +kernel
theorem dX9_tally_40 : decode cX9_tally 40 = .ok (.aload_n 1, 1) := by decide +kernel
theorem dX9_tally_41 : decode cX9_tally 41 = .ok (.getfield 62, 3) := by decide +kernel
theorem dX9_tally_44 : decode cX9_tally 44 = .ok (.iadd, 1) := by decide +kernel
theorem dX9_tally_45 : decode cX9_tally 45 = .ok (.if_icmp .gt 37, 3) := by decide +kernel
theorem dX9_tally_48 : decode cX9_tally 48 = .ok (.aload_n 2, 1) := by decide +kernel
theorem dX9_tally_49 : decode cX9_tally 49 = .ok (.iload_n 3, 1) := by decide +kernel
theorem dX9_tally_50 : decode cX9_tally 50 = .ok (.iconst 1, 1) := by decide +kernel
theorem dX9_tally_51 : decode cX9_tally 51 = .ok (.if_icmp .ne 7, 3) := by decide +kernel
theorem dX9_tally_54 : decode cX9_tally 54 = .ok (.iconst 1, 1) := by decide +kernel
theorem dX9_tally_55 : decode cX9_tally 55 = .ok (.goto 4, 3) := by decide +kernel
theorem dX9_tally_58 : decode cX9_tally 58 = .ok (.iconst 0, 1) := by decide +kernel
theorem dX9_tally_59 : decode cX9_tally 59 = .ok (.iload 4, 2) := by decide +kernel
theorem dX9_tally_61 : decode cX9_tally 61 = .ok (.invokevirtual 45, 3) := by decide +kernel
theorem dX9_tally_64 : decode cX9_tally 64 = .ok (.aload_n 0, 1) := by decide +kernel
theorem dX9_tally_65 : decode cX9_tally 65 = .ok (.aload_n 1, 1) := by decide +kernel
theorem dX9_tally_66 : decode cX9_tally 66 = .ok (.aload_n 2, 1) := by decide +kernel
theorem dX9_tally_67 : decode cX9_tally 67 = .ok (.iload_n 3, 1) := by decide +kernel
theorem dX9_tally_68 : decode cX9_tally 68 = .ok (.iload 4, 2) := by decide +kernel
theorem dX9_tally_70 : decode cX9_tally 70 = .ok (.invokestatic 142, 3) := by decide +kernel
theorem dX9_tally_73 : decode cX9_tally 73 = .ok (.invokevirtual 145, 3) := by decide +kernel
theorem dX9_tally_76 : decode cX9_tally 76 = .ok (.iinc 4 1, 3) := by decide +kernel
theorem dX9_tally_79 : decode cX9_tally 79 = .ok (.goto (-43), 3) := by decide +kernel
theorem dX9_tally_82 : decode cX9_tally 82 = .ok (.iinc 3 1, 3) := by decide +kernel
theorem dX9_tally_85 : decode cX9_tally 85 = .ok (.goto (-57), 3) := by decide +kernel
theorem dX9_tally_88 : decode cX9_tally 88 = .ok (.return_, 1) := by decide +kernel
theorem dX9_tallyEnds_0 : decode cX9_tallyEnds 0 = .ok (.iconst 0, 1) := by decide +kernel
theorem dX9_tallyEnds_1 : decode cX9_tallyEnds 1 = .ok (.istore 4, 2) := by decide +kernel
theorem dX9_tallyEnds_3 : decode cX9_tallyEnds 3 = .ok (.iload 4, 2) := by decide +kernel
theorem dX9_tallyEnds_5 : decode cX9_tallyEnds 5 = .ok (.aload_n 1, 1) := by decide +kernel
theorem dX9_tallyEnds_6 : decode cX9_tallyEnds 6 = .ok (.getfield 100, 3) := by decide +kernel
theorem dX9_tallyEnds_9 : decode cX9_tallyEnds 9 = .ok (.getfield 149, 3) := by decide +kernel
theorem dX9_tallyEnds_12 : decode cX9_tallyEnds 12 = .ok (.if_icmp .gt 96, 3) := by decide +kernel
theorem dX9_tallyEnds_15 : decode cX9_tallyEnds 15 = .ok (.aload_n 1, 1) := by decide +kernel
theorem dX9_tallyEnds_16 : decode cX9_tallyEnds 16 = .ok (.getfield 28, 3) := by decide +kernel
theorem dX9_tallyEnds_19 : decode cX9_tallyEnds 19 = .ok (.getfield 152, 3) := by decide +kernel
theorem dX9_tallyEnds_22 : decode cX9_tallyEnds 22 = .ok (.iload 4, 2) := by decide +kernel
theorem dX9_tallyEnds_24 : decode cX9_tallyEnds 24 = .ok (.iaload, 1) := by decide +kernel
theorem dX9_tallyEnds_25 : decode cX9_tallyEnds 25 = .ok (.iconst 1, 1) := by decide +kernel
theorem dX9_tallyEnds_26 : decode cX9_tallyEnds 26 = .ok (.if_icmp .ne 76, 3) := by decide +kernel
theorem dX9_tallyEnds_29 : decode cX9_tallyEnds 29 = .ok (.aload_n 1, 1) := by decide +kernel
theorem dX9_tallyEnds_30 : decode cX9_tallyEnds 30 = .ok (.getfield 100, 3) := by decide +kernel
theorem dX9_tallyEnds_33 : decode cX9_tallyEnds 33 = .ok (.aload_n 1, 1) := by decide +kernel
theorem dX9_tallyEnds_34 : decode cX9_tallyEnds 34 = .ok (.getfield 28, 3) := by decide +kernel
theorem dX9_tallyEnds_37 : decode cX9_tallyEnds 37 = .ok (.getfield 104, 3) := by decide +kernel
theorem dX9_tallyEnds_40 : decode cX9_tallyEnds 40 = .ok (.aload_n 2, 1) := by decide +kernel
theorem dX9_tallyEnds_41 : decode cX9_tallyEnds 41 = .ok (.aload_n 1, 1) := by decide +kernel
theorem dX9_tallyEnds_42 : decode cX9_tallyEnds 42 = .ok (.iload 4, 2) := by decide +kernel
theorem dX9_tallyEnds_44 : decode cX9_tallyEnds 44 = .ok (.invokevirtual 49, 3) := by decide +kernel
theorem dX9_tallyEnds_47 : decode cX9_tallyEnds 47 = .ok (.invokevirtual 155, 3) := by decide +kernel
theorem dX9_tallyEnds_50 : decode cX9_tallyEnds 50 = .ok (.istore 5, 2) := by decide +kernel
theorem dX9_tallyEnds_52 : decode cX9_tallyEnds 52 = .ok (.iload_n 3, 1) := by decide +kernel
theorem dX9_tallyEnds_53 : decode cX9_tallyEnds 53 = .ok (.iload 5, 2) := by decide +kernel
theorem dX9_tallyEnds_55 : decode cX9_tallyEnds 55 = .ok (.bipush 14, 2) := by decide +kernel
theorem dX9_tallyEnds_57 : decode cX9_tallyEnds 57 = .ok (.if_icmp .ge 8, 3) := by decide +kernel
theorem dX9_tallyEnds_60 : decode cX9_tallyEnds 60 = .ok (.iload 5, 2) := by decide +kernel
theorem dX9_tallyEnds_62 : decode cX9_tallyEnds 62 = .ok (.goto 11, 3) := by decide +kernel
theorem dX9_tallyEnds_65 : decode cX9_tallyEnds 65 = .ok (.iload 5, 2) := by decide +kernel
theorem dX9_tallyEnds_67 : decode cX9_tallyEnds 67 = .ok (.bipush 98, 2) := by decide +kernel
theorem dX9_tallyEnds_69 : decode cX9_tallyEnds 69 = .ok (.isub, 1) := by decide +kernel
theorem dX9_tallyEnds_70 : decode cX9_tallyEnds 70 = .ok (.bipush 14, 2) := by decide +kernel
theorem dX9_tallyEnds_72 : decode cX9_tallyEnds 72 = .ok (.iadd, 1) := by decide +kernel
theorem dX9_tallyEnds_73 : decode cX9_tallyEnds 73 = .ok (.iadd, 1) := by decide +kernel
theorem dX9_tallyEnds_74 : decode cX9_tallyEnds 74 = .ok (.istore 6, 2) := by decide +kernel
theorem dX9_tallyEnds_76 : decode cX9_tallyEnds 76 = .ok (.iload 6, 2) := by decide +kernel
theorem dX9_tallyEnds_78 : decode cX9_tallyEnds 78 = .ok (.ifCond .lt 24, 3) := by decide +kernel
theorem dX9_tallyEnds_81 : decode cX9_tallyEnds 81 = .ok (.iload 6, 2) := by decide +kernel
theorem dX9_tallyEnds_83 : decode cX9_tallyEnds 83 = .ok (.aload_n 0, 1) := by decide +kernel
theorem dX9_tallyEnds_84 : decode cX9_tallyEnds 84 = .ok (.getfield 18, 3) := by decide +kernel
theorem dX9_tallyEnds_87 : decode cX9_tallyEnds 87 = .ok (.arraylength, 1) := by decide +kernel
theorem dX9_tallyEnds_88 : decode cX9_tallyEnds 88 = .ok (.if_icmp .ge 14, 3) := by decide +kernel
theorem dX9_tallyEnds_91 : decode cX9_tallyEnds 91 = .ok (.aload_n 0, 1) := by decide +kernel
theorem dX9_tallyEnds_92 : decode cX9_tallyEnds 92 = .ok (.getfield 18, 3) := by decide +kernel
theorem dX9_tallyEnds_95 : decode cX9_tallyEnds 95 = .ok (.iload 6, 2) := by decide +kernel
theorem dX9_tallyEnds_97 : decode cX9_tallyEnds 97 = .ok (.dup2, 1) := by decide +kernel
theorem dX9_tallyEnds_98 : decode cX9_tallyEnds 98 = .ok (.iaload, 1) := by decide +kernel
theorem dX9_tallyEnds_99 : decode cX9_tallyEnds 99 = .ok (.iconst 1, 1) := by decide +kernel
theorem dX9_tallyEnds_100 : decode cX9_tallyEnds 100 = .ok (.iadd, 1) := by decide +kernel
theorem dX9_tallyEnds_101 : decode cX9_tallyEnds 101 = .ok (.iastore, 1) := by decide +kernel
theorem dX9_tallyEnds_102 : decode cX9_tallyEnds 102 = .ok (.iinc 4 1, 3) := by decide +kernel
theorem dX9_tallyEnds_105 : decode cX9_tallyEnds 105 = .ok (.goto (-102), 3) := by decide +kernel
theorem dX9_tallyEnds_108 : decode cX9_tallyEnds 108 = .ok (.return_, 1) := by decide +kernel
theorem dX9_greatest_0 : decode cX9_greatest 0 = .ok (.iconst 0, 1) := by decide +kernel
theorem dX9_greatest_1 : decode cX9_greatest 1 = .ok (.istore 4, 2) := by decide +kernel
theorem dX9_greatest_3 : decode cX9_greatest 3 = .ok (.iconst 0, 1) := by decide +kernel
theorem dX9_greatest_4 : decode cX9_greatest 4 = .ok (.istore 5, 2) := by decide +kernel
theorem dX9_greatest_6 : decode cX9_greatest 6 = .ok (.iload 5, 2) := by decide +kernel
theorem dX9_greatest_8 : decode cX9_greatest 8 = .ok (.bipush 16, 2) := by decide +kernel
theorem dX9_greatest_10 : decode cX9_greatest 10 = .ok (.if_icmp .ge 91, 3) := by decide +kernel
theorem dX9_greatest_13 : decode cX9_greatest 13 = .ok (.iconst 0, 1) := by decide +kernel
theorem dX9_greatest_14 : decode cX9_greatest 14 = .ok (.istore 6, 2) := by decide +kernel
theorem dX9_greatest_16 : decode cX9_greatest 16 = .ok (.aload_n 1, 1) := by decide +kernel
theorem dX9_greatest_17 : decode cX9_greatest 17 = .ok (.getfield 62, 3) := by decide +kernel
theorem dX9_greatest_20 : decode cX9_greatest 20 = .ok (.ineg, 1) := by decide +kernel
theorem dX9_greatest_21 : decode cX9_greatest 21 = .ok (.istore 7, 2) := by decide +kernel
theorem dX9_greatest_23 : decode cX9_greatest 23 = .ok (.iload 7, 2) := by decide +kernel
theorem dX9_greatest_25 : decode cX9_greatest 25 = .ok (.aload_n 1, 1) := by decide +kernel
theorem dX9_greatest_26 : decode cX9_greatest 26 = .ok (.getfield 62, 3) := by decide +kernel
theorem dX9_greatest_29 : decode cX9_greatest 29 = .ok (.if_icmp .gt 57, 3) := by decide +kernel
theorem dX9_greatest_32 : decode cX9_greatest 32 = .ok (.iload_n 2, 1) := by decide +kernel
theorem dX9_greatest_33 : decode cX9_greatest 33 = .ok (.iconst 0, 1) := by decide +kernel
theorem dX9_greatest_34 : decode cX9_greatest 34 = .ok (.iload_n 3, 1) := by decide +kernel
theorem dX9_greatest_35 : decode cX9_greatest 35 = .ok (.iload 7, 2) := by decide +kernel
theorem dX9_greatest_37 : decode cX9_greatest 37 = .ok (.iadd, 1) := by decide +kernel
theorem dX9_greatest_38 : decode cX9_greatest 38 = .ok (.invokestatic 59, 3) := by decide +kernel
theorem dX9_greatest_41 : decode cX9_greatest 41 = .ok (.invokestatic 142, 3) := by decide +kernel
theorem dX9_greatest_44 : decode cX9_greatest 44 = .ok (.iload 5, 2) := by decide +kernel
theorem dX9_greatest_46 : decode cX9_greatest 46 = .ok (.iadd, 1) := by decide +kernel
theorem dX9_greatest_47 : decode cX9_greatest 47 = .ok (.istore 8, 2) := by decide +kernel
theorem dX9_greatest_49 : decode cX9_greatest 49 = .ok (.iload 6, 2) := by decide +kernel
theorem dX9_greatest_51 : decode cX9_greatest 51 = .ok (.iload 8, 2) := by decide +kernel
theorem dX9_greatest_53 : decode cX9_greatest 53 = .ok (.ifCond .lt 23, 3) := by decide +kernel
theorem dX9_greatest_56 : decode cX9_greatest 56 = .ok (.iload 8, 2) := by decide +kernel
theorem dX9_greatest_58 : decode cX9_greatest 58 = .ok (.aload_n 0, 1) := by decide +kernel
theorem dX9_greatest_59 : decode cX9_greatest 59 = .ok (.getfield 18, 3) := by decide +kernel
theorem dX9_greatest_62 : decode cX9_greatest 62 = .ok (.arraylength, 1) := by decide +kernel
theorem dX9_greatest_63 : decode cX9_greatest 63 = .ok (.if_icmp .ge 13, 3) := by decide +kernel
theorem dX9_greatest_66 : decode cX9_greatest 66 = .ok (.aload_n 0, 1) := by decide +kernel
theorem dX9_greatest_67 : decode cX9_greatest 67 = .ok (.getfield 18, 3) := by decide +kernel
theorem dX9_greatest_70 : decode cX9_greatest 70 = .ok (.iload 8, 2) := by decide +kernel
theorem dX9_greatest_72 : decode cX9_greatest 72 = .ok (.iaload, 1) := by decide +kernel
theorem dX9_greatest_73 : decode cX9_greatest 73 = .ok (.goto 4, 3) := by decide +kernel
theorem dX9_greatest_76 : decode cX9_greatest 76 = .ok (.iconst 0, 1) := by decide +kernel
theorem dX9_greatest_77 : decode cX9_greatest 77 = .ok (.iadd, 1) := by decide +kernel
theorem dX9_greatest_78 : decode cX9_greatest 78 = .ok (.istore 6, 2) := by decide +kernel
theorem dX9_greatest_80 : decode cX9_greatest 80 = .ok (.iinc 7 1, 3) := by decide +kernel
theorem dX9_greatest_83 : decode cX9_greatest 83 = .ok (.goto (-60), 3) := by decide +kernel
theorem dX9_greatest_86 : decode cX9_greatest 86 = .ok (.iload 4, 2) := by decide +kernel
theorem dX9_greatest_88 : decode cX9_greatest 88 = .ok (.iload 6, 2) := by decide +kernel
theorem dX9_greatest_90 : decode cX9_greatest 90 = .ok (.invokestatic 59, 3) := by decide +kernel
theorem dX9_greatest_93 : decode cX9_greatest 93 = .ok (.istore 4, 2) := by decide +kernel
theorem dX9_greatest_95 : decode cX9_greatest 95 = .ok (.iinc 5 1, 3) := by decide +kernel
theorem dX9_greatest_98 : decode cX9_greatest 98 = .ok (.goto (-92), 3) := by decide +kernel
theorem dX9_greatest_101 : decode cX9_greatest 101 = .ok (.iload 4, 2) := by decide +kernel
theorem dX9_greatest_103 : decode cX9_greatest 103 = .ok (.ireturn, 1) := by decide +kernel
theorem dX9_passEvening_0 : decode cX9_passEvening 0 = .ok (.aload_n 1, 1) := by decide +kernel
theorem dX9_passEvening_1 : decode cX9_passEvening 1 = .ok (.getfield 28, 3) := by decide +kernel
theorem dX9_passEvening_4 : decode cX9_passEvening 4 = .ok (.getfield 104, 3) := by decide +kernel
theorem dX9_passEvening_7 : decode cX9_passEvening 7 = .ok (.istore_n 3, 1) := by decide +kernel
theorem dX9_passEvening_8 : decode cX9_passEvening 8 = .ok (.aload_n 1, 1) := by decide +kernel
theorem dX9_passEvening_9 : decode cX9_passEvening 9 = .ok (.getfield 28, 3) := by decide +kernel
theorem dX9_passEvening_12 : decode cX9_passEvening 12 = .ok (.getfield 158, 3) := by decide +kernel
theorem dX9_passEvening_15 : decode cX9_passEvening 15 = .ok (.istore 4, 2) := by decide +kernel
theorem dX9_passEvening_17 : decode cX9_passEvening 17 = .ok (.aload_n 1, 1) := by decide +kernel
theorem dX9_passEvening_18 : decode cX9_passEvening 18 = .ok (.getfield 28, 3) := by decide +kernel
theorem dX9_passEvening_21 : decode cX9_passEvening 21 = .ok (.getfield 34, 3) := by decide +kernel
theorem dX9_passEvening_24 : decode cX9_passEvening 24 = .ok (.istore 5, 2) := by decide +kernel
theorem dX9_passEvening_26 : decode cX9_passEvening 26 = .ok (.iconst 0, 1) := by decide +kernel
theorem dX9_passEvening_27 : decode cX9_passEvening 27 = .ok (.istore 6, 2) := by decide +kernel
theorem dX9_passEvening_29 : decode cX9_passEvening 29 = .ok (.iconst 0, 1) := by decide +kernel
theorem dX9_passEvening_30 : decode cX9_passEvening 30 = .ok (.istore 7, 2) := by decide +kernel
theorem dX9_passEvening_32 : decode cX9_passEvening 32 = .ok (.aload_n 1, 1) := by decide +kernel
theorem dX9_passEvening_33 : decode cX9_passEvening 33 = .ok (.getfield 161, 3) := by decide +kernel
theorem dX9_passEvening_36 : decode cX9_passEvening 36 = .ok (.astore 8, 2) := by decide +kernel
theorem dX9_passEvening_38 : decode cX9_passEvening 38 = .ok (.iconst 0, 1) := by decide +kernel
theorem dX9_passEvening_39 : decode cX9_passEvening 39 = .ok (.istore 9, 2) := by decide +kernel
theorem dX9_passEvening_41 : decode cX9_passEvening 41 = .ok (.iload 9, 2) := by decide +kernel
theorem dX9_passEvening_43 : decode cX9_passEvening 43 = .ok (.aload 8, 2) := by decide +kernel
theorem dX9_passEvening_45 : decode cX9_passEvening 45 = .ok (.getfield 164, 3) := by decide +kernel
theorem dX9_passEvening_48 : decode cX9_passEvening 48 = .ok (.if_icmp .ge 158, 3) := by decide +kernel
theorem dX9_passEvening_51 : decode cX9_passEvening 51 = .ok (.iload 9, 2) := by decide +kernel
theorem dX9_passEvening_53 : decode cX9_passEvening 53 = .ok (.bipush 60, 2) := by decide +kernel
theorem dX9_passEvening_55 : decode cX9_passEvening 55 = .ok (.if_icmp .ge 151, 3) := by decide +kernel
theorem dX9_passEvening_58 : decode cX9_passEvening 58 = .ok (.aload 8, 2) := by decide +kernel
theorem dX9_passEvening_60 : decode cX9_passEvening 60 = .ok (.getfield 169, 3) := by decide +kernel
theorem dX9_passEvening_63 : decode cX9_passEvening 63 = .ok (.iload 9, 2) := by decide +kernel
theorem dX9_passEvening_65 : decode cX9_passEvening 65 = .ok (.iaload, 1) := by decide +kernel
theorem dX9_passEvening_66 : decode cX9_passEvening 66 = .ok (.istore 10, 2) := by decide +kernel
theorem dX9_passEvening_68 : decode cX9_passEvening 68 = .ok (.aload 8, 2) := by decide +kernel
theorem dX9_passEvening_70 : decode cX9_passEvening 70 = .ok (.getfield 172, 3) := by decide +kernel
theorem dX9_passEvening_73 : decode cX9_passEvening 73 = .ok (.iload 9, 2) := by decide +kernel
theorem dX9_passEvening_75 : decode cX9_passEvening 75 = .ok (.iaload, 1) := by decide +kernel
theorem dX9_passEvening_76 : decode cX9_passEvening 76 = .ok (.iconst 3, 1) := by decide +kernel
theorem dX9_passEvening_77 : decode cX9_passEvening 77 = .ok (.if_icmp .ne 25, 3) := by decide +kernel
theorem dX9_passEvening_80 : decode cX9_passEvening 80 = .ok (.iconst 1, 1) := by decide +kernel
theorem dX9_passEvening_81 : decode cX9_passEvening 81 = .ok (.iload_n 3, 1) := by decide +kernel
theorem dX9_passEvening_82 : decode cX9_passEvening 82 = .ok (.isub, 1) := by decide +kernel
theorem dX9_passEvening_83 : decode cX9_passEvening 83 = .ok (.istore_n 3, 1) := by decide +kernel
theorem dX9_passEvening_84 : decode cX9_passEvening 84 = .ok (.aload_n 1, 1) := by decide +kernel
theorem dX9_passEvening_85 : decode cX9_passEvening 85 = .ok (.getfield 100, 3) := by decide +kernel
theorem dX9_passEvening_88 : decode cX9_passEvening 88 = .ok (.getfield 149, 3) := by decide +kernel
theorem dX9_passEvening_91 : decode cX9_passEvening 91 = .ok (.iload 4, 2) := by decide +kernel
theorem dX9_passEvening_93 : decode cX9_passEvening 93 = .ok (.isub, 1) := by decide +kernel
theorem dX9_passEvening_94 : decode cX9_passEvening 94 = .ok (.istore 4, 2) := by decide +kernel
theorem dX9_passEvening_96 : decode cX9_passEvening 96 = .ok (.iinc 6 8, 3) := by decide +kernel
theorem dX9_passEvening_99 : decode cX9_passEvening 99 = .ok (.goto 101, 3) := by decide +kernel
theorem dX9_passEvening_102 : decode cX9_passEvening 102 = .ok (.aload 8, 2) := by decide +kernel
theorem dX9_passEvening_104 : decode cX9_passEvening 104 = .ok (.getfield 172, 3) := by decide +kernel
theorem dX9_passEvening_107 : decode cX9_passEvening 107 = .ok (.iload 9, 2) := by decide +kernel
theorem dX9_passEvening_109 : decode cX9_passEvening 109 = .ok (.iaload, 1) := by decide +kernel
theorem dX9_passEvening_110 : decode cX9_passEvening 110 = .ok (.iconst 2, 1) := by decide +kernel
theorem dX9_passEvening_111 : decode cX9_passEvening 111 = .ok (.if_icmp .ne 30, 3) := by decide +kernel
theorem dX9_passEvening_114 : decode cX9_passEvening 114 = .ok (.iload 4, 2) := by decide +kernel
theorem dX9_passEvening_116 : decode cX9_passEvening 116 = .ok (.iload 10, 2) := by decide +kernel
theorem dX9_passEvening_118 : decode cX9_passEvening 118 = .ok (.iadd, 1) := by decide +kernel
theorem dX9_passEvening_119 : decode cX9_passEvening 119 = .ok (.aload_n 1, 1) := by decide +kernel
theorem dX9_passEvening_120 : decode cX9_passEvening 120 = .ok (.getfield 100, 3) := by decide +kernel
theorem dX9_passEvening_123 : decode cX9_passEvening 123 = .ok (.getfield 149, 3) := by decide +kernel
theorem dX9_passEvening_126 : decode cX9_passEvening 126 = .ok (.invokestatic 53, 3) := by decide +kernel
theorem dX9_passEvening_129 : decode cX9_passEvening 129 = .ok (.istore 4, 2) := by decide +kernel
theorem dX9_passEvening_131 : decode cX9_passEvening 131 = .ok (.iload 6, 2) := by decide +kernel
theorem dX9_passEvening_133 : decode cX9_passEvening 133 = .ok (.iload 10, 2) := by decide +kernel
theorem dX9_passEvening_135 : decode cX9_passEvening 135 = .ok (.iadd, 1) := by decide +kernel
theorem dX9_passEvening_136 : decode cX9_passEvening 136 = .ok (.istore 6, 2) := by decide +kernel
theorem dX9_passEvening_138 : decode cX9_passEvening 138 = .ok (.goto 62, 3) := by decide +kernel
theorem dX9_passEvening_141 : decode cX9_passEvening 141 = .ok (.aload_n 2, 1) := by decide +kernel
theorem dX9_passEvening_142 : decode cX9_passEvening 142 = .ok (.iload_n 3, 1) := by decide +kernel
theorem dX9_passEvening_143 : decode cX9_passEvening 143 = .ok (.iload 5, 2) := by decide +kernel
theorem dX9_passEvening_145 : decode cX9_passEvening 145 = .ok (.invokevirtual 39, 3) := by decide +kernel
theorem dX9_passEvening_148 : decode cX9_passEvening 148 = .ok (.aload_n 2, 1) := by decide +kernel
theorem dX9_passEvening_149 : decode cX9_passEvening 149 = .ok (.aload 8, 2) := by decide +kernel
theorem dX9_passEvening_151 : decode cX9_passEvening 151 = .ok (.getfield 172, 3) := by decide +kernel
theorem dX9_passEvening_154 : decode cX9_passEvening 154 = .ok (.iload 9, 2) := by decide +kernel
theorem dX9_passEvening_156 : decode cX9_passEvening 156 = .ok (.iaload, 1) := by decide +kernel
theorem dX9_passEvening_157 : decode cX9_passEvening 157 = .ok (.ifCond .ne 7, 3) := by decide +kernel
theorem dX9_passEvening_160 : decode cX9_passEvening 160 = .ok (.iconst 1, 1) := by decide +kernel
theorem dX9_passEvening_161 : decode cX9_passEvening 161 = .ok (.goto 4, 3) := by decide +kernel
theorem dX9_passEvening_164 : decode cX9_passEvening 164 = .ok (.iconst 0, 1) := by decide +kernel
theorem dX9_passEvening_165 : decode cX9_passEvening 165 = .ok (.iload 10, 2) := by decide +kernel
theorem dX9_passEvening_167 : decode cX9_passEvening 167 = .ok (.invokevirtual 45, 3) := by decide +kernel
theorem dX9_passEvening_170 : decode cX9_passEvening 170 = .ok (.aload_n 2, 1) := by decide +kernel
theorem dX9_passEvening_171 : decode cX9_passEvening 171 = .ok (.aload_n 1, 1) := by decide +kernel
theorem dX9_passEvening_172 : decode cX9_passEvening 172 = .ok (.iload 4, 2) := by decide +kernel
theorem dX9_passEvening_174 : decode cX9_passEvening 174 = .ok (.invokevirtual 49, 3) := by decide +kernel
theorem dX9_passEvening_177 : decode cX9_passEvening 177 = .ok (.istore 4, 2) := by decide +kernel
theorem dX9_passEvening_179 : decode cX9_passEvening 179 = .ok (.iinc 5 1, 3) := by decide +kernel
theorem dX9_passEvening_182 : decode cX9_passEvening 182 = .ok (.iload 6, 2) := by decide +kernel
theorem dX9_passEvening_184 : decode cX9_passEvening 184 = .ok (.iload 10, 2) := by decide +kernel
theorem dX9_passEvening_186 : decode cX9_passEvening 186 = .ok (.iconst 1, 1) := by decide +kernel
theorem dX9_passEvening_187 : decode cX9_passEvening 187 = .ok (.iadd, 1) := by decide +kernel
theorem dX9_passEvening_188 : decode cX9_passEvening 188 = .ok (.iadd, 1) := by decide +kernel
theorem dX9_passEvening_189 : decode cX9_passEvening 189 = .ok (.istore 6, 2) := by decide +kernel
theorem dX9_passEvening_191 : decode cX9_passEvening 191 = .ok (.iload 7, 2) := by decide +kernel
theorem dX9_passEvening_193 : decode cX9_passEvening 193 = .ok (.iload 10, 2) := by decide +kernel
theorem dX9_passEvening_195 : decode cX9_passEvening 195 = .ok (.iconst 1, 1) := by decide +kernel
theorem dX9_passEvening_196 : decode cX9_passEvening 196 = .ok (.iadd, 1) := by decide +kernel
theorem dX9_passEvening_197 : decode cX9_passEvening 197 = .ok (.iadd, 1) := by decide +kernel
theorem dX9_passEvening_198 : decode cX9_passEvening 198 = .ok (.istore 7, 2) := by decide +kernel
theorem dX9_passEvening_200 : decode cX9_passEvening 200 = .ok (.iinc 9 1, 3) := by decide +kernel
theorem dX9_passEvening_203 : decode cX9_passEvening 203 = .ok (.goto (-162), 3) := by decide +kernel
theorem dX9_passEvening_206 : decode cX9_passEvening 206 = .ok (.aload_n 0, 1) := by decide +kernel
theorem dX9_passEvening_207 : decode cX9_passEvening 207 = .ok (.getfield 21, 3) := by decide +kernel
theorem dX9_passEvening_210 : decode cX9_passEvening 210 = .ok (.iconst 0, 1) := by decide +kernel
theorem dX9_passEvening_211 : decode cX9_passEvening 211 = .ok (.iload_n 3, 1) := by decide +kernel
theorem dX9_passEvening_212 : decode cX9_passEvening 212 = .ok (.iastore, 1) := by decide +kernel
theorem dX9_passEvening_213 : decode cX9_passEvening 213 = .ok (.aload_n 0, 1) := by decide +kernel
theorem dX9_passEvening_214 : decode cX9_passEvening 214 = .ok (.getfield 21, 3) := by decide +kernel
theorem dX9_passEvening_217 : decode cX9_passEvening 217 = .ok (.iconst 1, 1) := by decide +kernel
theorem dX9_passEvening_218 : decode cX9_passEvening 218 = .ok (.iload 4, 2) := by decide +kernel
theorem dX9_passEvening_220 : decode cX9_passEvening 220 = .ok (.iastore, 1) := by decide +kernel
theorem dX9_passEvening_221 : decode cX9_passEvening 221 = .ok (.aload_n 0, 1) := by decide +kernel
theorem dX9_passEvening_222 : decode cX9_passEvening 222 = .ok (.getfield 21, 3) := by decide +kernel
theorem dX9_passEvening_225 : decode cX9_passEvening 225 = .ok (.iconst 2, 1) := by decide +kernel
theorem dX9_passEvening_226 : decode cX9_passEvening 226 = .ok (.iload 6, 2) := by decide +kernel
theorem dX9_passEvening_228 : decode cX9_passEvening 228 = .ok (.iastore, 1) := by decide +kernel
theorem dX9_passEvening_229 : decode cX9_passEvening 229 = .ok (.aload_n 0, 1) := by decide +kernel
theorem dX9_passEvening_230 : decode cX9_passEvening 230 = .ok (.getfield 21, 3) := by decide +kernel
theorem dX9_passEvening_233 : decode cX9_passEvening 233 = .ok (.iconst 3, 1) := by decide +kernel
theorem dX9_passEvening_234 : decode cX9_passEvening 234 = .ok (.iload 7, 2) := by decide +kernel
theorem dX9_passEvening_236 : decode cX9_passEvening 236 = .ok (.iastore, 1) := by decide +kernel
theorem dX9_passEvening_237 : decode cX9_passEvening 237 = .ok (.return_, 1) := by decide +kernel
theorem dX9_passed_0 : decode cX9_passed 0 = .ok (.iload_n 1, 1) := by decide +kernel
theorem dX9_passed_1 : decode cX9_passed 1 = .ok (.ifCond .lt 21, 3) := by decide +kernel
theorem dX9_passed_4 : decode cX9_passed 4 = .ok (.iload_n 1, 1) := by decide +kernel
theorem dX9_passed_5 : decode cX9_passed 5 = .ok (.aload_n 0, 1) := by decide +kernel
theorem dX9_passed_6 : decode cX9_passed 6 = .ok (.getfield 21, 3) := by decide +kernel
theorem dX9_passed_9 : decode cX9_passed 9 = .ok (.arraylength, 1) := by decide +kernel
theorem dX9_passed_10 : decode cX9_passed 10 = .ok (.if_icmp .ge 12, 3) := by decide +kernel
theorem dX9_passed_13 : decode cX9_passed 13 = .ok (.aload_n 0, 1) := by decide +kernel
theorem dX9_passed_14 : decode cX9_passed 14 = .ok (.getfield 21, 3) := by decide +kernel
theorem dX9_passed_17 : decode cX9_passed 17 = .ok (.iload_n 1, 1) := by decide +kernel
theorem dX9_passed_18 : decode cX9_passed 18 = .ok (.iaload, 1) := by decide +kernel
theorem dX9_passed_19 : decode cX9_passed 19 = .ok (.goto 4, 3) := by decide +kernel
theorem dX9_passed_22 : decode cX9_passed 22 = .ok (.iconst (-1), 1) := by decide +kernel
theorem dX9_passed_23 : decode cX9_passed 23 = .ok (.ireturn, 1) := by decide +kernel
theorem dX10_init_0 : decode cX10_init 0 = .ok (.aload_n 0, 1) := by decide +kernel
theorem dX10_init_1 : decode cX10_init 1 = .ok (.invokespecial 3, 3) := by decide +kernel
theorem dX10_init_4 : decode cX10_init 4 = .ok (.aload_n 0, 1) := by decide +kernel
theorem dX10_init_5 : decode cX10_init 5 = .ok (.sipush 400, 3) := by decide +kernel
theorem dX10_init_8 : decode cX10_init 8 = .ok (.newarray .int, 2) := by decide +kernel
theorem dX10_init_10 : decode cX10_init 10 = .ok (.putfield 11, 3) := by decide +kernel
theorem dX10_init_13 : decode cX10_init 13 = .ok (.aload_n 0, 1) := by decide +kernel
theorem dX10_init_14 : decode cX10_init 14 = .ok (.sipush 401, 3) := by decide +kernel
theorem dX10_init_17 : decode cX10_init 17 = .ok (.newarray .int, 2) := by decide +kernel
theorem dX10_init_19 : decode cX10_init 19 = .ok (.putfield 15, 3) := by decide +kernel
theorem dX10_init_22 : decode cX10_init 22 = .ok (.aload_n 0, 1) := by decide +kernel
theorem dX10_init_23 : decode cX10_init 23 = .ok (.sipush 401, 3) := by decide +kernel
theorem dX10_init_26 : decode cX10_init 26 = .ok (.newarray .int, 2) := by decide +kernel
theorem dX10_init_28 : decode cX10_init 28 = .ok (.putfield 18, 3) := by decide +kernel
theorem dX10_init_31 : decode cX10_init 31 = .ok (.aload_n 0, 1) := by decide +kernel
theorem dX10_init_32 : decode cX10_init 32 = .ok (.sipush 401, 3) := by decide +kernel
theorem dX10_init_35 : decode cX10_init 35 = .ok (.newarray .int, 2) := by decide +kernel
theorem dX10_init_37 : decode cX10_init 37 = .ok (.putfield 21, 3) := by decide +kernel
theorem dX10_init_40 : decode cX10_init 40 = .ok (.aload_n 0, 1) := by decide +kernel
theorem dX10_init_41 : decode cX10_init 41 = .ok (.iconst (-1), 1) := by decide +kernel
theorem dX10_init_42 : decode cX10_init 42 = .ok (.putfield 24, 3) := by decide +kernel
theorem dX10_init_45 : decode cX10_init 45 = .ok (.return_, 1) := by decide +kernel
theorem dX10_hasRoom_0 : decode cX10_hasRoom 0 = .ok (.aload_n 0, 1) := by decide +kernel
theorem dX10_hasRoom_1 : decode cX10_hasRoom 1 = .ok (.getfield 28, 3) := by decide +kernel
theorem dX10_hasRoom_4 : decode cX10_hasRoom 4 = .ok (.iload_n 1, 1) := by decide +kernel
theorem dX10_hasRoom_5 : decode cX10_hasRoom 5 = .ok (.iadd, 1) := by decide +kernel
theorem dX10_hasRoom_6 : decode cX10_hasRoom 6 = .ok (.sipush 400, 3) := by decide +kernel
theorem dX10_hasRoom_9 : decode cX10_hasRoom 9 = .ok (.if_icmp .gt 7, 3) := by decide +kernel
theorem dX10_hasRoom_12 : decode cX10_hasRoom 12 = .ok (.iconst 1, 1) := by decide +kernel
theorem dX10_hasRoom_13 : decode cX10_hasRoom 13 = .ok (.goto 4, 3) := by decide +kernel
theorem dX10_hasRoom_16 : decode cX10_hasRoom 16 = .ok (.iconst 0, 1) := by decide +kernel
theorem dX10_hasRoom_17 : decode cX10_hasRoom 17 = .ok (.ireturn, 1) := by decide +kernel
theorem dX10_append_0 : decode cX10_append 0 = .ok (.bipush 24, 2) := by decide +kernel
theorem dX10_append_2 : decode cX10_append 2 = .ok (.istore_n 2, 1) := by decide +kernel
theorem dX10_append_3 : decode cX10_append 3 = .ok (.iload_n 2, 1) := by decide +kernel
theorem dX10_append_4 : decode cX10_append 4 = .ok (.ifCond .lt 45, 3) := by decide +kernel
theorem dX10_append_7 : decode cX10_append 7 = .ok (.aload_n 0, 1) := by decide +kernel
theorem dX10_append_8 : decode cX10_append 8 = .ok (.getfield 28, 3) := by decide +kernel
theorem dX10_append_11 : decode cX10_append 11 = .ok (.sipush 400, 3) := by decide +kernel
theorem dX10_append_14 : decode cX10_append 14 = .ok (.if_icmp .ge 35, 3) := by decide +kernel
theorem dX10_append_17 : decode cX10_append 17 = .ok (.aload_n 0, 1) := by decide +kernel
theorem dX10_append_18 : decode cX10_append 18 = .ok (.getfield 11, 3) := by decide +kernel
theorem dX10_append_21 : decode cX10_append 21 = .ok (.aload_n 0, 1) := by decide +kernel
theorem dX10_append_22 : decode cX10_append 22 = .ok (.getfield 28, 3) := by decide +kernel
theorem dX10_append_25 : decode cX10_append 25 = .ok (.iload_n 1, 1) := by decide +kernel
theorem dX10_append_26 : decode cX10_append 26 = .ok (.iload_n 2, 1) := by decide +kernel
theorem dX10_append_27 : decode cX10_append 27 = .ok (.iushr, 1) := by decide +kernel
theorem dX10_append_28 : decode cX10_append 28 = .ok (.sipush 255, 3) := by decide +kernel
theorem dX10_append_31 : decode cX10_append 31 = .ok (.iand, 1) := by decide +kernel
theorem dX10_append_32 : decode cX10_append 32 = .ok (.iastore, 1) := by decide +kernel
theorem dX10_append_33 : decode cX10_append 33 = .ok (.aload_n 0, 1) := by decide +kernel
theorem dX10_append_34 : decode cX10_append 34 = .ok (.dup, 1) := by decide +kernel
theorem dX10_append_35 : decode cX10_append 35 = .ok (.getfield 28, 3) := by decide +kernel
theorem dX10_append_38 : decode cX10_append 38 = .ok (.iconst 1, 1) := by decide +kernel
theorem dX10_append_39 : decode cX10_append 39 = .ok (.iadd, 1) := by decide +kernel
theorem dX10_append_40 : decode cX10_append 40 = .ok (.putfield 28, 3) := by decide +kernel
theorem dX10_append_43 : decode cX10_append 43 = .ok (.iinc 2 (-8), 3) := by decide +kernel
theorem dX10_append_46 : decode cX10_append 46 = .ok (.goto (-43), 3) := by decide +kernel
theorem dX10_append_49 : decode cX10_append 49 = .ok (.return_, 1) := by decide +kernel
theorem dX10_cut_0 : decode cX10_cut 0 = .ok (.iload_n 1, 1) := by decide +kernel
theorem dX10_cut_1 : decode cX10_cut 1 = .ok (.ifCond .lt 11, 3) := by decide +kernel
theorem dX10_cut_4 : decode cX10_cut 4 = .ok (.iload_n 1, 1) := by decide +kernel
theorem dX10_cut_5 : decode cX10_cut 5 = .ok (.aload_n 0, 1) := by decide +kernel
theorem dX10_cut_6 : decode cX10_cut 6 = .ok (.getfield 28, 3) := by decide +kernel
theorem dX10_cut_9 : decode cX10_cut 9 = .ok (.if_icmp .le 5, 3) := by decide +kernel
theorem dX10_cut_12 : decode cX10_cut 12 = .ok (.iconst 0, 1) := by decide +kernel
theorem dX10_cut_13 : decode cX10_cut 13 = .ok (.ireturn, 1) := by decide +kernel
theorem dX10_cut_14 : decode cX10_cut 14 = .ok (.aload_n 0, 1) := by decide +kernel
theorem dX10_cut_15 : decode cX10_cut 15 = .ok (.iload_n 1, 1) := by decide +kernel
theorem dX10_cut_16 : decode cX10_cut 16 = .ok (.putfield 28, 3) := by decide +kernel
theorem dX10_cut_19 : decode cX10_cut 19 = .ok (.iconst 1, 1) := by decide +kernel
theorem dX10_cut_20 : decode cX10_cut 20 = .ok (.ireturn, 1) := by decide +kernel
theorem dX10_split_0 : decode cX10_split 0 = .ok (.aload_n 0, 1) := by decide +kernel
theorem dX10_split_1 : decode cX10_split 1 = .ok (.iconst 0, 1) := by decide +kernel
theorem dX10_split_2 : decode cX10_split 2 = .ok (.putfield 31, 3) := by decide +kernel
theorem dX10_split_5 : decode cX10_split 5 = .ok (.aload_n 0, 1) := by decide +kernel
theorem dX10_split_6 : decode cX10_split 6 = .ok (.iconst 0, 1) := by decide +kernel
theorem dX10_split_7 : decode cX10_split 7 = .ok (.putfield 34, 3) := by decide +kernel
theorem dX10_split_10 : decode cX10_split 10 = .ok (.aload_n 0, 1) := by decide +kernel
theorem dX10_split_11 : decode cX10_split 11 = .ok (.iconst 0, 1) := by decide +kernel
theorem dX10_split_12 : decode cX10_split 12 = .ok (.putfield 37, 3) := by decide +kernel
theorem dX10_split_15 : decode cX10_split 15 = .ok (.aload_n 0, 1) := by decide +kernel
theorem dX10_split_16 : decode cX10_split 16 = .ok (.iconst (-1), 1) := by decide +kernel
theorem dX10_split_17 : decode cX10_split 17 = .ok (.putfield 24, 3) := by decide +kernel
theorem dX10_split_20 : decode cX10_split 20 = .ok (.iconst 0, 1) := by decide +kernel
theorem dX10_split_21 : decode cX10_split 21 = .ok (.istore_n 1, 1) := by decide +kernel
theorem dX10_split_22 : decode cX10_split 22 = .ok (.iconst 0, 1) := by decide +kernel
theorem dX10_split_23 : decode cX10_split 23 = .ok (.istore_n 2, 1) := by decide +kernel
theorem dX10_split_24 : decode cX10_split 24 = .ok (.iload_n 2, 1) := by decide +kernel
theorem dX10_split_25 : decode cX10_split 25 = .ok (.sipush 400, 3) := by decide +kernel
theorem dX10_split_28 : decode cX10_split 28 = .ok (.if_icmp .ge 41, 3) := by decide +kernel
theorem dX10_split_31 : decode cX10_split 31 = .ok (.iload_n 1, 1) := by decide +kernel
theorem dX10_split_32 : decode cX10_split 32 = .ok (.aload_n 0, 1) := by decide +kernel
theorem dX10_split_33 : decode cX10_split 33 = .ok (.getfield 28, 3) := by decide +kernel
theorem dX10_split_36 : decode cX10_split 36 = .ok (.if_icmp .ge 33, 3) := by decide +kernel
theorem dX10_split_39 : decode cX10_split 39 = .ok (.aload_n 0, 1) := by decide +kernel
theorem dX10_split_40 : decode cX10_split 40 = .ok (.getfield 11, 3) := by decide +kernel
theorem dX10_split_43 : decode cX10_split 43 = .ok (.iload_n 1, 1) := by decide +kernel
theorem dX10_split_44 : decode cX10_split 44 = .ok (.iaload, 1) := by decide +kernel
theorem dX10_split_45 : decode cX10_split 45 = .ok (.invokestatic 40, 3) := by decide +kernel
theorem dX10_split_48 : decode cX10_split 48 = .ok (.ifCond .eq 9, 3) := by decide +kernel
theorem dX10_split_51 : decode cX10_split 51 = .ok (.iload_n 1, 1) := by decide +kernel
theorem dX10_split_52 : decode cX10_split 52 = .ok (.iconst 1, 1) := by decide +kernel
theorem dX10_split_53 : decode cX10_split 53 = .ok (.iadd, 1) := by decide +kernel
theorem dX10_split_54 : decode cX10_split 54 = .ok (.goto 8, 3) := by decide +kernel
theorem dX10_split_57 : decode cX10_split 57 = .ok (.aload_n 0, 1) := by decide +kernel
theorem dX10_split_58 : decode cX10_split 58 = .ok (.iload_n 1, 1) := by decide +kernel
theorem dX10_split_59 : decode cX10_split 59 = .ok (.invokevirtual 44, 3) := by decide +kernel
theorem dX10_split_62 : decode cX10_split 62 = .ok (.istore_n 1, 1) := by decide +kernel
theorem dX10_split_63 : decode cX10_split 63 = .ok (.iinc 2 1, 3) := by decide +kernel
theorem dX10_split_66 : decode cX10_split 66 = .ok (.goto (-42), 3) := by decide +kernel
theorem dX10_split_69 : decode cX10_split 69 = .ok (.aload_n 0, 1) := by decide +kernel
theorem dX10_split_70 : decode cX10_split 70 = .ok (.sipush 202, 3) := by decide +kernel
theorem dX10_split_73 : decode cX10_split 73 = .ok (.iconst 0, 1) := by decide +kernel
theorem dX10_split_74 : decode cX10_split 74 = .ok (.aload_n 0, 1) := by decide +kernel
theorem dX10_split_75 : decode cX10_split 75 = .ok (.getfield 28, 3) := by decide +kernel
theorem dX10_split_78 : decode cX10_split 78 = .ok (.invokevirtual 48, 3) := by decide +kernel
theorem dX10_split_81 : decode cX10_split 81 = .ok (.return_, 1) := by decide +kernel
theorem dX10_cutToken_0 : decode cX10_cutToken 0 = .ok (.aload_n 0, 1) := by decide +kernel
theorem dX10_cutToken_1 : decode cX10_cutToken 1 = .ok (.getfield 11, 3) := by decide +kernel
theorem dX10_cutToken_4 : decode cX10_cutToken 4 = .ok (.iload_n 1, 1) := by decide +kernel
theorem dX10_cutToken_5 : decode cX10_cutToken 5 = .ok (.iaload, 1) := by decide +kernel
theorem dX10_cutToken_6 : decode cX10_cutToken 6 = .ok (.istore_n 2, 1) := by decide +kernel
theorem dX10_cutToken_7 : decode cX10_cutToken 7 = .ok (.iload_n 2, 1) := by decide +kernel
theorem dX10_cutToken_8 : decode cX10_cutToken 8 = .ok (.invokestatic 52, 3) := by decide +kernel
theorem dX10_cutToken_11 : decode cX10_cutToken 11 = .ok (.ifCond .eq 9, 3) := by decide +kernel
theorem dX10_cutToken_14 : decode cX10_cutToken 14 = .ok (.aload_n 0, 1) := by decide +kernel
theorem dX10_cutToken_15 : decode cX10_cutToken 15 = .ok (.iload_n 1, 1) := by decide +kernel
theorem dX10_cutToken_16 : decode cX10_cutToken 16 = .ok (.invokevirtual 55, 3) := by decide +kernel
theorem dX10_cutToken_19 : decode cX10_cutToken 19 = .ok (.ireturn, 1) := by decide +kernel
theorem dX10_cutToken_20 : decode cX10_cutToken 20 = .ok (.iload_n 2, 1) := by decide +kernel
theorem dX10_cutToken_21 : decode cX10_cutToken 21 = .ok (.invokestatic 58, 3) := by decide +kernel
theorem dX10_cutToken_24 : decode cX10_cutToken 24 = .ok (.ifCond .ne 30, 3) := by decide +kernel
theorem dX10_cutToken_27 : decode cX10_cutToken 27 = .ok (.aload_n 0, 1) := by decide +kernel
theorem dX10_cutToken_28 : decode cX10_cutToken 28 = .ok (.ldc 61, 2) := by decide +kernel
theorem dX10_cutToken_30 : decode cX10_cutToken 30 = .ok (.iload_n 2, 1) := by decide +kernel
theorem dX10_cutToken_31 : decode cX10_cutToken 31 = .ok (.i2c, 1) := by decide +kernel
theorem dX10_cutToken_32 : decode cX10_cutToken 32 = .ok (.invokevirtual 63, 3) := by decide +kernel
theorem dX10_cutToken_35 : decode cX10_cutToken 35 = .ok (.ifCond .lt 7, 3) := by decide +kernel
theorem dX10_cutToken_38 : decode cX10_cutToken 38 = .ok (.iload_n 2, 1) := by decide +kernel
theorem dX10_cutToken_39 : decode cX10_cutToken 39 = .ok (.goto 6, 3) := by decide +kernel
theorem dX10_cutToken_42 : decode cX10_cutToken 42 = .ok (.sipush 201, 3) := by decide +kernel
theorem dX10_cutToken_45 : decode cX10_cutToken 45 = .ok (.iconst 0, 1) := by decide +kernel
theorem dX10_cutToken_46 : decode cX10_cutToken 46 = .ok (.iload_n 1, 1) := by decide +kernel
theorem dX10_cutToken_47 : decode cX10_cutToken 47 = .ok (.invokevirtual 48, 3) := by decide +kernel
theorem dX10_cutToken_50 : decode cX10_cutToken 50 = .ok (.iload_n 1, 1) := by decide +kernel
theorem dX10_cutToken_51 : decode cX10_cutToken 51 = .ok (.iconst 1, 1) := by decide +kernel
theorem dX10_cutToken_52 : decode cX10_cutToken 52 = .ok (.iadd, 1) := by decide +kernel
theorem dX10_cutToken_53 : decode cX10_cutToken 53 = .ok (.ireturn, 1) := by decide +kernel
theorem dX10_cutToken_54 : decode cX10_cutToken 54 = .ok (.iload_n 1, 1) := by decide +kernel
theorem dX10_cutToken_55 : decode cX10_cutToken 55 = .ok (.iconst 1, 1) := by decide +kernel
theorem dX10_cutToken_56 : decode cX10_cutToken 56 = .ok (.iadd, 1) := by decide +kernel
theorem dX10_cutToken_57 : decode cX10_cutToken 57 = .ok (.istore_n 3, 1) := by decide +kernel
theorem dX10_cutToken_58 : decode cX10_cutToken 58 = .ok (.iload_n 3, 1) := by decide +kernel
theorem dX10_cutToken_59 : decode cX10_cutToken 59 = .ok (.aload_n 0, 1) := by decide +kernel
theorem dX10_cutToken_60 : decode cX10_cutToken 60 = .ok (.getfield 28, 3) := by decide +kernel
theorem dX10_cutToken_63 : decode cX10_cutToken 63 = .ok (.if_icmp .ge 21, 3) := by decide +kernel
theorem dX10_cutToken_66 : decode cX10_cutToken 66 = .ok (.aload_n 0, 1) := by decide +kernel
theorem dX10_cutToken_67 : decode cX10_cutToken 67 = .ok (.getfield 11, 3) := by decide +kernel
theorem dX10_cutToken_70 : decode cX10_cutToken 70 = .ok (.iload_n 3, 1) := by decide +kernel
theorem dX10_cutToken_71 : decode cX10_cutToken 71 = .ok (.iaload, 1) := by decide +kernel
theorem dX10_cutToken_72 : decode cX10_cutToken 72 = .ok (.invokestatic 58, 3) := by decide +kernel
theorem dX10_cutToken_75 : decode cX10_cutToken 75 = .ok (.ifCond .eq 9, 3) := by decide +kernel
theorem dX10_cutToken_78 : decode cX10_cutToken 78 = .ok (.iinc 3 1, 3) := by decide +kernel
theorem dX10_cutToken_81 : decode cX10_cutToken 81 = .ok (.goto (-23), 3) := by decide +kernel
theorem dX10_cutToken_84 : decode cX10_cutToken 84 = .ok (.aload_n 0, 1) := by decide +kernel
theorem dX10_cutToken_85 : decode cX10_cutToken 85 = .ok (.aload_n 0, 1) := by decide +kernel
theorem dX10_cutToken_86 : decode cX10_cutToken 86 = .ok (.iload_n 1, 1) := by decide +kernel
theorem dX10_cutToken_87 : decode cX10_cutToken 87 = .ok (.iload_n 3, 1) := by decide +kernel
theorem dX10_cutToken_88 : decode cX10_cutToken 88 = .ok (.invokevirtual 68, 3) := by decide +kernel
theorem dX10_cutToken_91 : decode cX10_cutToken 91 = .ok (.iconst 0, 1) := by decide +kernel
theorem dX10_cutToken_92 : decode cX10_cutToken 92 = .ok (.iload_n 1, 1) := by decide +kernel
theorem dX10_cutToken_93 : decode cX10_cutToken 93 = .ok (.invokevirtual 48, 3) := by decide +kernel
theorem dX10_cutToken_96 : decode cX10_cutToken 96 = .ok (.iload_n 3, 1) := by decide +kernel
theorem dX10_cutToken_97 : decode cX10_cutToken 97 = .ok (.ireturn, 1) := by decide +kernel
theorem dX10_cutNumber_0 : decode cX10_cutNumber 0 = .ok (.iload_n 1, 1) := by decide +kernel
theorem dX10_cutNumber_1 : decode cX10_cutNumber 1 = .ok (.istore_n 2, 1) := by decide +kernel
theorem dX10_cutNumber_2 : decode cX10_cutNumber 2 = .ok (.iconst 0, 1) := by decide +kernel
theorem dX10_cutNumber_3 : decode cX10_cutNumber 3 = .ok (.istore_n 3, 1) := by decide +kernel
theorem dX10_cutNumber_4 : decode cX10_cutNumber 4 = .ok (.iload_n 2, 1) := by decide +kernel
theorem dX10_cutNumber_5 : decode cX10_cutNumber 5 = .ok (.aload_n 0, 1) := by decide +kernel
theorem dX10_cutNumber_6 : decode cX10_cutNumber 6 = .ok (.getfield 28, 3) := by decide +kernel
theorem dX10_cutNumber_9 : decode cX10_cutNumber 9 = .ok (.if_icmp .ge 47, 3) := by decide +kernel
theorem dX10_cutNumber_12 : decode cX10_cutNumber 12 = .ok (.aload_n 0, 1) := by decide +kernel
theorem dX10_cutNumber_13 : decode cX10_cutNumber 13 = .ok (.getfield 11, 3) := by decide +kernel
theorem dX10_cutNumber_16 : decode cX10_cutNumber 16 = .ok (.iload_n 2, 1) := by decide +kernel
theorem dX10_cutNumber_17 : decode cX10_cutNumber 17 = .ok (.iaload, 1) := by decide +kernel
theorem dX10_cutNumber_18 : decode cX10_cutNumber 18 = .ok (.invokestatic 52, 3) := by decide +kernel
theorem dX10_cutNumber_21 : decode cX10_cutNumber 21 = .ok (.ifCond .eq 35, 3) := by decide +kernel
theorem dX10_cutNumber_24 : decode cX10_cutNumber 24 = .ok (.iload_n 2, 1) := by decide +kernel
theorem dX10_cutNumber_25 : decode cX10_cutNumber 25 = .ok (.iload_n 1, 1) := by decide +kernel
theorem dX10_cutNumber_26 : decode cX10_cutNumber 26 = .ok (.isub, 1) := by decide +kernel
theorem dX10_cutNumber_27 : decode cX10_cutNumber 27 = .ok (.iconst 4, 1) := by decide +kernel
theorem dX10_cutNumber_28 : decode cX10_cutNumber 28 = .ok (.if_icmp .ge 20, 3) := by decide +kernel
theorem dX10_cutNumber_31 : decode cX10_cutNumber 31 = .ok (.iload_n 3, 1) := by decide +kernel
theorem dX10_cutNumber_32 : decode cX10_cutNumber 32 = .ok (.bipush 10, 2) := by decide +kernel
theorem dX10_cutNumber_34 : decode cX10_cutNumber 34 = .ok (.imul, 1) := by decide +kernel
theorem dX10_cutNumber_35 : decode cX10_cutNumber 35 = .ok (.aload_n 0, 1) := by decide +kernel
theorem dX10_cutNumber_36 : decode cX10_cutNumber 36 = .ok (.getfield 11, 3) := by decide +kernel
theorem dX10_cutNumber_39 : decode cX10_cutNumber 39 = .ok (.iload_n 2, 1) := by decide +kernel
theorem dX10_cutNumber_40 : decode cX10_cutNumber 40 = .ok (.iaload, 1) := by decide +kernel
theorem dX10_cutNumber_41 : decode cX10_cutNumber 41 = .ok (.iadd, 1) := by decide +kernel
theorem dX10_cutNumber_42 : decode cX10_cutNumber 42 = .ok (.bipush 48, 2) := by decide +kernel
theorem dX10_cutNumber_44 : decode cX10_cutNumber 44 = .ok (.isub, 1) := by decide +kernel
theorem dX10_cutNumber_45 : decode cX10_cutNumber 45 = .ok (.goto 4, 3) := by decide +kernel
theorem dX10_cutNumber_48 : decode cX10_cutNumber 48 = .ok (.iload_n 3, 1) := by decide +kernel
theorem dX10_cutNumber_49 : decode cX10_cutNumber 49 = .ok (.istore_n 3, 1) := by decide +kernel
theorem dX10_cutNumber_50 : decode cX10_cutNumber 50 = .ok (.iinc 2 1, 3) := by decide +kernel
theorem dX10_cutNumber_53 : decode cX10_cutNumber 53 = .ok (.goto (-49), 3) := by decide +kernel
theorem dX10_cutNumber_56 : decode cX10_cutNumber 56 = .ok (.aload_n 0, 1) := by decide +kernel
theorem dX10_cutNumber_57 : decode cX10_cutNumber 57 = .ok (.iload_n 2, 1) := by decide +kernel
theorem dX10_cutNumber_58 : decode cX10_cutNumber 58 = .ok (.iload_n 1, 1) := by decide +kernel
theorem dX10_cutNumber_59 : decode cX10_cutNumber 59 = .ok (.isub, 1) := by decide +kernel
theorem dX10_cutNumber_60 : decode cX10_cutNumber 60 = .ok (.iconst 4, 1) := by decide +kernel
theorem dX10_cutNumber_61 : decode cX10_cutNumber 61 = .ok (.if_icmp .gt 9, 3) := by decide +kernel
theorem dX10_cutNumber_64 : decode cX10_cutNumber 64 = .ok (.sipush 200, 3) := by decide +kernel
theorem dX10_cutNumber_67 : decode cX10_cutNumber 67 = .ok (.goto 6, 3) := by decide +kernel
theorem dX10_cutNumber_70 : decode cX10_cutNumber 70 = .ok (.sipush 201, 3) := by decide +kernel
theorem dX10_cutNumber_73 : decode cX10_cutNumber 73 = .ok (.iload_n 3, 1) := by decide +kernel
theorem dX10_cutNumber_74 : decode cX10_cutNumber 74 = .ok (.iload_n 1, 1) := by decide +kernel
theorem dX10_cutNumber_75 : decode cX10_cutNumber 75 = .ok (.invokevirtual 48, 3) := by decide +kernel
theorem dX10_cutNumber_78 : decode cX10_cutNumber 78 = .ok (.iload_n 2, 1) := by decide +kernel
theorem dX10_cutNumber_79 : decode cX10_cutNumber 79 = .ok (.ireturn, 1) := by decide +kernel
theorem dX10_addToken_0 : decode cX10_addToken 0 = .ok (.aload_n 0, 1) := by decide +kernel
theorem dX10_addToken_1 : decode cX10_addToken 1 = .ok (.getfield 31, 3) := by decide +kernel
theorem dX10_addToken_4 : decode cX10_addToken 4 = .ok (.aload_n 0, 1) := by decide +kernel
theorem dX10_addToken_5 : decode cX10_addToken 5 = .ok (.getfield 15, 3) := by decide +kernel
theorem dX10_addToken_8 : decode cX10_addToken 8 = .ok (.arraylength, 1) := by decide +kernel
theorem dX10_addToken_9 : decode cX10_addToken 9 = .ok (.if_icmp .ge 43, 3) := by decide +kernel
theorem dX10_addToken_12 : decode cX10_addToken 12 = .ok (.aload_n 0, 1) := by decide +kernel
theorem dX10_addToken_13 : decode cX10_addToken 13 = .ok (.getfield 15, 3) := by decide +kernel
theorem dX10_addToken_16 : decode cX10_addToken 16 = .ok (.aload_n 0, 1) := by decide +kernel
theorem dX10_addToken_17 : decode cX10_addToken 17 = .ok (.getfield 31, 3) := by decide +kernel
theorem dX10_addToken_20 : decode cX10_addToken 20 = .ok (.iload_n 1, 1) := by decide +kernel
theorem dX10_addToken_21 : decode cX10_addToken 21 = .ok (.iastore, 1) := by decide +kernel
theorem dX10_addToken_22 : decode cX10_addToken 22 = .ok (.aload_n 0, 1) := by decide +kernel
theorem dX10_addToken_23 : decode cX10_addToken 23 = .ok (.getfield 18, 3) := by decide +kernel
theorem dX10_addToken_26 : decode cX10_addToken 26 = .ok (.aload_n 0, 1) := by decide +kernel
theorem dX10_addToken_27 : decode cX10_addToken 27 = .ok (.getfield 31, 3) := by decide +kernel
theorem dX10_addToken_30 : decode cX10_addToken 30 = .ok (.iload_n 2, 1) := by decide +kernel
theorem dX10_addToken_31 : decode cX10_addToken 31 = .ok (.iastore, 1) := by decide +kernel
theorem dX10_addToken_32 : decode cX10_addToken 32 = .ok (.aload_n 0, 1) := by decide +kernel
theorem dX10_addToken_33 : decode cX10_addToken 33 = .ok (.getfield 21, 3) := by decide +kernel
theorem dX10_addToken_36 : decode cX10_addToken 36 = .ok (.aload_n 0, 1) := by decide +kernel
theorem dX10_addToken_37 : decode cX10_addToken 37 = .ok (.getfield 31, 3) := by decide +kernel
theorem dX10_addToken_40 : decode cX10_addToken 40 = .ok (.iload_n 3, 1) := by decide +kernel
theorem dX10_addToken_41 : decode cX10_addToken 41 = .ok (.iastore, 1) := by decide +kernel
theorem dX10_addToken_42 : decode cX10_addToken 42 = .ok (.aload_n 0, 1) := by decide +kernel
theorem dX10_addToken_43 : decode cX10_addToken 43 = .ok (.dup, 1) := by decide +kernel
theorem dX10_addToken_44 : decode cX10_addToken 44 = .ok (.getfield 31, 3) := by decide +kernel
theorem dX10_addToken_47 : decode cX10_addToken 47 = .ok (.iconst 1, 1) := by decide +kernel
theorem dX10_addToken_48 : decode cX10_addToken 48 = .ok (.iadd, 1) := by decide +kernel
theorem dX10_addToken_49 : decode cX10_addToken 49 = .ok (.putfield 31, 3) := by decide +kernel
theorem dX10_addToken_52 : decode cX10_addToken 52 = .ok (.return_, 1) := by decide +kernel
theorem dX10_keyword_0 : decode cX10_keyword 0 = .ok (.sipush 300, 3) := by decide +kernel
theorem dX10_keyword_3 : decode cX10_keyword 3 = .ok (.istore_n 3, 1) := by decide +kernel
theorem dX10_keyword_4 : decode cX10_keyword 4 = .ok (.iconst 0, 1) := by decide +kernel
theorem dX10_keyword_5 : decode cX10_keyword 5 = .ok (.istore 4, 2) := by decide +kernel
theorem dX10_keyword_7 : decode cX10_keyword 7 = .ok (.iconst 0, 1) := by decide +kernel
theorem dX10_keyword_8 : decode cX10_keyword 8 = .ok (.istore 5, 2) := by decide +kernel
theorem dX10_keyword_10 : decode cX10_keyword 10 = .ok (.iload 5, 2) := by decide +kernel
theorem dX10_keyword_12 : decode cX10_keyword 12 = .ok (.ldc 72, 2) := by decide +kernel
theorem dX10_keyword_14 : decode cX10_keyword 14 = .ok (.invokevirtual 74, 3) := by decide +kernel
theorem dX10_keyword_17 : decode cX10_keyword 17 = .ok (.if_icmp .ge 54, 3) := by decide +kernel
theorem dX10_keyword_20 : decode cX10_keyword 20 = .ok (.ldc 72, 2) := by decide +kernel
theorem dX10_keyword_22 : decode cX10_keyword 22 = .ok (.iload 5, 2) := by decide +kernel
theorem dX10_keyword_24 : decode cX10_keyword 24 = .ok (.invokevirtual 78, 3) := by decide +kernel
theorem dX10_keyword_27 : decode cX10_keyword 27 = .ok (.bipush 32, 2) := by decide +kernel
theorem dX10_keyword_29 : decode cX10_keyword 29 = .ok (.if_icmp .ne 36, 3) := by decide +kernel
theorem dX10_keyword_32 : decode cX10_keyword 32 = .ok (.iload 5, 2) := by decide +kernel
theorem dX10_keyword_34 : decode cX10_keyword 34 = .ok (.iload 4, 2) := by decide +kernel
theorem dX10_keyword_36 : decode cX10_keyword 36 = .ok (.isub, 1) := by decide +kernel
theorem dX10_keyword_37 : decode cX10_keyword 37 = .ok (.iload_n 2, 1) := by decide +kernel
theorem dX10_keyword_38 : decode cX10_keyword 38 = .ok (.iload_n 1, 1) := by decide +kernel
theorem dX10_keyword_39 : decode cX10_keyword 39 = .ok (.isub, 1) := by decide +kernel
theorem dX10_keyword_40 : decode cX10_keyword 40 = .ok (.if_icmp .ne 16, 3) := by decide +kernel
theorem dX10_keyword_43 : decode cX10_keyword 43 = .ok (.aload_n 0, 1) := by decide +kernel
theorem dX10_keyword_44 : decode cX10_keyword 44 = .ok (.iload_n 1, 1) := by decide +kernel
theorem dX10_keyword_45 : decode cX10_keyword 45 = .ok (.iload_n 2, 1) := by decide +kernel
theorem dX10_keyword_46 : decode cX10_keyword 46 = .ok (.iload 4, 2) := by decide +kernel
theorem dX10_keyword_48 : decode cX10_keyword 48 = .ok (.invokevirtual 82, 3) := by decide +kernel
theorem dX10_keyword_51 : decode cX10_keyword 51 = .ok (.ifCond .eq 5, 3) := by decide +kernel
theorem dX10_keyword_54 : decode cX10_keyword 54 = .ok (.iload_n 3, 1) := by decide +kernel
theorem dX10_keyword_55 : decode cX10_keyword 55 = .ok (.ireturn, 1) := by decide +kernel
theorem dX10_keyword_56 : decode cX10_keyword 56 = .ok (.iinc 3 1, 3) := by decide +kernel
theorem dX10_keyword_59 : decode cX10_keyword 59 = .ok (.iload 5, 2) := by decide +kernel
theorem dX10_keyword_61 : decode cX10_keyword 61 = .ok (.iconst 1, 1) := by decide +kernel
theorem dX10_keyword_62 : decode cX10_keyword 62 = .ok (.iadd, 1) := by decide +kernel
theorem dX10_keyword_63 : decode cX10_keyword 63 = .ok (.istore 4, 2) := by decide +kernel
theorem dX10_keyword_65 : decode cX10_keyword 65 = .ok (.iinc 5 1, 3) := by decide +kernel
theorem dX10_keyword_68 : decode cX10_keyword 68 = .ok (.goto (-58), 3) := by decide +kernel
theorem dX10_keyword_71 : decode cX10_keyword 71 = .ok (.sipush 201, 3) := by decide +kernel
theorem dX10_keyword_74 : decode cX10_keyword 74 = .ok (.ireturn, 1) := by decide +kernel
theorem dX10_isWritten_0 : decode cX10_isWritten 0 = .ok (.iload_n 1, 1) := by decide +kernel
theorem dX10_isWritten_1 : decode cX10_isWritten 1 = .ok (.istore 4, 2) := by decide +kernel
theorem dX10_isWritten_3 : decode cX10_isWritten 3 = .ok (.iload 4, 2) := by decide +kernel
theorem dX10_isWritten_5 : decode cX10_isWritten 5 = .ok (.iload_n 2, 1) := by decide +kernel
theorem dX10_isWritten_6 : decode cX10_isWritten 6 = .ok (.if_icmp .ge 32, 3) := by decide +kernel
theorem dX10_isWritten_9 : decode cX10_isWritten 9 = .ok (.aload_n 0, 1) := by decide +kernel
theorem dX10_isWritten_10 : decode cX10_isWritten 10 = .ok (.getfield 11, 3) := by decide +kernel
theorem dX10_isWritten_13 : decode cX10_isWritten 13 = .ok (.iload 4, 2) := by decide +kernel
theorem dX10_isWritten_15 : decode cX10_isWritten 15 = .ok (.iaload, 1) := by decide +kernel
theorem dX10_isWritten_16 : decode cX10_isWritten 16 = .ok (.ldc 72, 2) := by decide +kernel
theorem dX10_isWritten_18 : decode cX10_isWritten 18 = .ok (.iload_n 3, 1) := by decide +kernel
theorem dX10_isWritten_19 : decode cX10_isWritten 19 = .ok (.iload 4, 2) := by decide +kernel
theorem dX10_isWritten_21 : decode cX10_isWritten 21 = .ok (.iadd, 1) := by decide +kernel
theorem dX10_isWritten_22 : decode cX10_isWritten 22 = .ok (.iload_n 1, 1) := by decide +kernel
theorem dX10_isWritten_23 : decode cX10_isWritten 23 = .ok (.isub, 1) := by decide +kernel
theorem dX10_isWritten_24 : decode cX10_isWritten 24 = .ok (.invokevirtual 78, 3) := by decide +kernel
theorem dX10_isWritten_27 : decode cX10_isWritten 27 = .ok (.if_icmp .eq 5, 3) := by decide +kernel
theorem dX10_isWritten_30 : decode cX10_isWritten 30 = .ok (.iconst 0, 1) := by decide +kernel
theorem dX10_isWritten_31 : decode cX10_isWritten 31 = .ok (.ireturn, 1) := by decide +kernel
theorem dX10_isWritten_32 : decode cX10_isWritten 32 = .ok (.iinc 4 1, 3) := by decide +kernel
theorem dX10_isWritten_35 : decode cX10_isWritten 35 = .ok (.goto (-32), 3) := by decide +kernel
theorem dX10_isWritten_38 : decode cX10_isWritten 38 = .ok (.iconst 1, 1) := by decide +kernel
theorem dX10_isWritten_39 : decode cX10_isWritten 39 = .ok (.ireturn, 1) := by decide +kernel
theorem dX10_isBlank_0 : decode cX10_isBlank 0 = .ok (.iload_n 0, 1) := by decide +kernel
theorem dX10_isBlank_1 : decode cX10_isBlank 1 = .ok (.bipush 32, 2) := by decide +kernel
theorem dX10_isBlank_3 : decode cX10_isBlank 3 = .ok (.if_icmp .eq 9, 3) := by decide +kernel
theorem dX10_isBlank_6 : decode cX10_isBlank 6 = .ok (.iload_n 0, 1) := by decide +kernel
theorem dX10_isBlank_7 : decode cX10_isBlank 7 = .ok (.bipush 10, 2) := by decide +kernel
theorem dX10_isBlank_9 : decode cX10_isBlank 9 = .ok (.if_icmp .ne 7, 3) := by decide +kernel
theorem dX10_isBlank_12 : decode cX10_isBlank 12 = .ok (.iconst 1, 1) := by decide +kernel
theorem dX10_isBlank_13 : decode cX10_isBlank 13 = .ok (.goto 4, 3) := by decide +kernel
theorem dX10_isBlank_16 : decode cX10_isBlank 16 = .ok (.iconst 0, 1) := by decide +kernel
theorem dX10_isBlank_17 : decode cX10_isBlank 17 = .ok (.ireturn, 1) := by decide +kernel
theorem dX10_isDigit_0 : decode cX10_isDigit 0 = .ok (.iload_n 0, 1) := by decide +kernel
theorem dX10_isDigit_1 : decode cX10_isDigit 1 = .ok (.bipush 48, 2) := by decide +kernel
theorem dX10_isDigit_3 : decode cX10_isDigit 3 = .ok (.if_icmp .lt 13, 3) := by decide +kernel
theorem dX10_isDigit_6 : decode cX10_isDigit 6 = .ok (.iload_n 0, 1) := by decide +kernel
theorem dX10_isDigit_7 : decode cX10_isDigit 7 = .ok (.bipush 57, 2) := by decide +kernel
theorem dX10_isDigit_9 : decode cX10_isDigit 9 = .ok (.if_icmp .gt 7, 3) := by decide +kernel
theorem dX10_isDigit_12 : decode cX10_isDigit 12 = .ok (.iconst 1, 1) := by decide +kernel
theorem dX10_isDigit_13 : decode cX10_isDigit 13 = .ok (.goto 4, 3) := by decide +kernel
theorem dX10_isDigit_16 : decode cX10_isDigit 16 = .ok (.iconst 0, 1) := by decide +kernel
theorem dX10_isDigit_17 : decode cX10_isDigit 17 = .ok (.ireturn, 1) := by decide +kernel
theorem dX10_isLetter_0 : decode cX10_isLetter 0 = .ok (.iload_n 0, 1) := by decide +kernel
theorem dX10_isLetter_1 : decode cX10_isLetter 1 = .ok (.bipush 97, 2) := by decide +kernel
theorem dX10_isLetter_3 : decode cX10_isLetter 3 = .ok (.if_icmp .lt 9, 3) := by decide +kernel
theorem dX10_isLetter_6 : decode cX10_isLetter 6 = .ok (.iload_n 0, 1) := by decide +kernel
theorem dX10_isLetter_7 : decode cX10_isLetter 7 = .ok (.bipush 122, 2) := by decide +kernel
theorem dX10_isLetter_9 : decode cX10_isLetter 9 = .ok (.if_icmp .le 15, 3) := by decide +kernel
theorem dX10_isLetter_12 : decode cX10_isLetter 12 = .ok (.iload_n 0, 1) := by decide +kernel
theorem dX10_isLetter_13 : decode cX10_isLetter 13 = .ok (.bipush 65, 2) := by decide +kernel
theorem dX10_isLetter_15 : decode cX10_isLetter 15 = .ok (.if_icmp .lt 13, 3) := by decide +kernel
theorem dX10_isLetter_18 : decode cX10_isLetter 18 = .ok (.iload_n 0, 1) := by decide +kernel
theorem dX10_isLetter_19 : decode cX10_isLetter 19 = .ok (.bipush 90, 2) := by decide +kernel
theorem dX10_isLetter_21 : decode cX10_isLetter 21 = .ok (.if_icmp .gt 7, 3) := by decide +kernel
theorem dX10_isLetter_24 : decode cX10_isLetter 24 = .ok (.iconst 1, 1) := by decide +kernel
theorem dX10_isLetter_25 : decode cX10_isLetter 25 = .ok (.goto 4, 3) := by decide +kernel
theorem dX10_isLetter_28 : decode cX10_isLetter 28 = .ok (.iconst 0, 1) := by decide +kernel
theorem dX10_isLetter_29 : decode cX10_isLetter 29 = .ok (.ireturn, 1) := by decide +kernel
theorem dX10_kind_0 : decode cX10_kind 0 = .ok (.aload_n 0, 1) := by decide +kernel
theorem dX10_kind_1 : decode cX10_kind 1 = .ok (.getfield 15, 3) := by decide +kernel
theorem dX10_kind_4 : decode cX10_kind 4 = .ok (.aload_n 0, 1) := by decide +kernel
theorem dX10_kind_5 : decode cX10_kind 5 = .ok (.getfield 34, 3) := by decide +kernel
theorem dX10_kind_8 : decode cX10_kind 8 = .ok (.iaload, 1) := by decide +kernel
theorem dX10_kind_9 : decode cX10_kind 9 = .ok (.ireturn, 1) := by decide +kernel
theorem dX10_pass_0 : decode cX10_pass 0 = .ok (.aload_n 0, 1) := by decide +kernel
theorem dX10_pass_1 : decode cX10_pass 1 = .ok (.getfield 34, 3) := by decide +kernel
theorem dX10_pass_4 : decode cX10_pass 4 = .ok (.iconst 1, 1) := by decide +kernel
theorem dX10_pass_5 : decode cX10_pass 5 = .ok (.iadd, 1) := by decide +kernel
theorem dX10_pass_6 : decode cX10_pass 6 = .ok (.aload_n 0, 1) := by decide +kernel
theorem dX10_pass_7 : decode cX10_pass 7 = .ok (.getfield 31, 3) := by decide +kernel
theorem dX10_pass_10 : decode cX10_pass 10 = .ok (.if_icmp .ge 13, 3) := by decide +kernel
theorem dX10_pass_13 : decode cX10_pass 13 = .ok (.aload_n 0, 1) := by decide +kernel
theorem dX10_pass_14 : decode cX10_pass 14 = .ok (.dup, 1) := by decide +kernel
theorem dX10_pass_15 : decode cX10_pass 15 = .ok (.getfield 34, 3) := by decide +kernel
theorem dX10_pass_18 : decode cX10_pass 18 = .ok (.iconst 1, 1) := by decide +kernel
theorem dX10_pass_19 : decode cX10_pass 19 = .ok (.iadd, 1) := by decide +kernel
theorem dX10_pass_20 : decode cX10_pass 20 = .ok (.putfield 34, 3) := by decide +kernel
theorem dX10_pass_23 : decode cX10_pass 23 = .ok (.return_, 1) := by decide +kernel
theorem dX10_refuse_0 : decode cX10_refuse 0 = .ok (.aload_n 0, 1) := by decide +kernel
theorem dX10_refuse_1 : decode cX10_refuse 1 = .ok (.iload_n 1, 1) := by decide +kernel
theorem dX10_refuse_2 : decode cX10_refuse 2 = .ok (.putfield 37, 3) := by decide +kernel
theorem dX10_refuse_5 : decode cX10_refuse 5 = .ok (.aload_n 0, 1) := by decide +kernel
theorem dX10_refuse_6 : decode cX10_refuse 6 = .ok (.aload_n 0, 1) := by decide +kernel
theorem dX10_refuse_7 : decode cX10_refuse 7 = .ok (.getfield 21, 3) := by decide +kernel
theorem dX10_refuse_10 : decode cX10_refuse 10 = .ok (.aload_n 0, 1) := by decide +kernel
theorem dX10_refuse_11 : decode cX10_refuse 11 = .ok (.getfield 34, 3) := by decide +kernel
theorem dX10_refuse_14 : decode cX10_refuse 14 = .ok (.iaload, 1) := by decide +kernel
theorem dX10_refuse_15 : decode cX10_refuse 15 = .ok (.putfield 24, 3) := by decide +kernel
theorem dX10_refuse_18 : decode cX10_refuse 18 = .ok (.iconst 0, 1) := by decide +kernel
theorem dX10_refuse_19 : decode cX10_refuse 19 = .ok (.ireturn, 1) := by decide +kernel
theorem dX10_take_0 : decode cX10_take 0 = .ok (.aload_n 0, 1) := by decide +kernel
theorem dX10_take_1 : decode cX10_take 1 = .ok (.getfield 15, 3) := by decide +kernel
theorem dX10_take_4 : decode cX10_take 4 = .ok (.aload_n 0, 1) := by decide +kernel
theorem dX10_take_5 : decode cX10_take 5 = .ok (.getfield 34, 3) := by decide +kernel
theorem dX10_take_8 : decode cX10_take 8 = .ok (.iaload, 1) := by decide +kernel
theorem dX10_take_9 : decode cX10_take 9 = .ok (.iload_n 1, 1) := by decide +kernel
theorem dX10_take_10 : decode cX10_take 10 = .ok (.if_icmp .eq 9, 3) := by decide +kernel
theorem dX10_take_13 : decode cX10_take 13 = .ok (.aload_n 0, 1) := by decide +kernel
theorem dX10_take_14 : decode cX10_take 14 = .ok (.iconst 1, 1) := by decide +kernel
theorem dX10_take_15 : decode cX10_take 15 = .ok (.invokevirtual 86, 3) := by decide +kernel
theorem dX10_take_18 : decode cX10_take 18 = .ok (.ireturn, 1) := by decide +kernel
theorem dX10_take_19 : decode cX10_take 19 = .ok (.aload_n 0, 1) := by decide +kernel
theorem dX10_take_20 : decode cX10_take 20 = .ok (.invokevirtual 89, 3) := by decide +kernel
theorem dX10_take_23 : decode cX10_take 23 = .ok (.iconst 1, 1) := by decide +kernel
theorem dX10_take_24 : decode cX10_take 24 = .ok (.ireturn, 1) := by decide +kernel
theorem dX10_isNumber_0 : decode cX10_isNumber 0 = .ok (.aload_n 0, 1) := by decide +kernel
theorem dX10_isNumber_1 : decode cX10_isNumber 1 = .ok (.getfield 15, 3) := by decide +kernel
theorem dX10_isNumber_4 : decode cX10_isNumber 4 = .ok (.aload_n 0, 1) := by decide +kernel
theorem dX10_isNumber_5 : decode cX10_isNumber 5 = .ok (.getfield 34, 3) := by decide +kernel
theorem dX10_isNumber_8 : decode cX10_isNumber 8 = .ok (.iaload, 1) := by decide +kernel
theorem dX10_isNumber_9 : decode cX10_isNumber 9 = .ok (.sipush 200, 3) := by decide +kernel
theorem dX10_isNumber_12 : decode cX10_isNumber 12 = .ok (.if_icmp .ne 20, 3) := by decide +kernel
theorem dX10_isNumber_15 : decode cX10_isNumber 15 = .ok (.aload_n 0, 1) := by decide +kernel
theorem dX10_isNumber_16 : decode cX10_isNumber 16 = .ok (.getfield 18, 3) := by decide +kernel
theorem dX10_isNumber_19 : decode cX10_isNumber 19 = .ok (.aload_n 0, 1) := by decide +kernel
theorem dX10_isNumber_20 : decode cX10_isNumber 20 = .ok (.getfield 34, 3) := by decide +kernel
theorem dX10_isNumber_23 : decode cX10_isNumber 23 = .ok (.iaload, 1) := by decide +kernel
theorem dX10_isNumber_24 : decode cX10_isNumber 24 = .ok (.iload_n 1, 1) := by decide +kernel
theorem dX10_isNumber_25 : decode cX10_isNumber 25 = .ok (.if_icmp .ne 7, 3) := by decide +kernel
theorem dX10_isNumber_28 : decode cX10_isNumber 28 = .ok (.iconst 1, 1) := by decide +kernel
theorem dX10_isNumber_29 : decode cX10_isNumber 29 = .ok (.goto 4, 3) := by decide +kernel
theorem dX10_isNumber_32 : decode cX10_isNumber 32 = .ok (.iconst 0, 1) := by decide +kernel
theorem dX10_isNumber_33 : decode cX10_isNumber 33 = .ok (.ireturn, 1) := by decide +kernel
theorem dX10_number_0 : decode cX10_number 0 = .ok (.aload_n 0, 1) := by decide +kernel
theorem dX10_number_1 : decode cX10_number 1 = .ok (.getfield 15, 3) := by decide +kernel
theorem dX10_number_4 : decode cX10_number 4 = .ok (.aload_n 0, 1) := by decide +kernel
theorem dX10_number_5 : decode cX10_number 5 = .ok (.getfield 34, 3) := by decide +kernel
theorem dX10_number_8 : decode cX10_number 8 = .ok (.iaload, 1) := by decide +kernel
theorem dX10_number_9 : decode cX10_number 9 = .ok (.sipush 200, 3) := by decide +kernel
theorem dX10_number_12 : decode cX10_number 12 = .ok (.if_icmp .eq 11, 3) := by decide +kernel
theorem dX10_number_15 : decode cX10_number 15 = .ok (.aload_n 0, 1) := by decide +kernel
theorem dX10_number_16 : decode cX10_number 16 = .ok (.iconst 1, 1) := by decide +kernel
theorem dX10_number_17 : decode cX10_number 17 = .ok (.invokevirtual 86, 3) := by decide +kernel
theorem dX10_number_20 : decode cX10_number 20 = .ok (.pop, 1) := by decide +kernel
theorem dX10_number_21 : decode cX10_number 21 = .ok (.iconst (-1), 1) := by decide +kernel
theorem dX10_number_22 : decode cX10_number 22 = .ok (.ireturn, 1) := by decide +kernel
theorem dX10_number_23 : decode cX10_number 23 = .ok (.aload_n 0, 1) := by decide +kernel
theorem dX10_number_24 : decode cX10_number 24 = .ok (.getfield 18, 3) := by decide +kernel
theorem dX10_number_27 : decode cX10_number 27 = .ok (.aload_n 0, 1) := by decide +kernel
theorem dX10_number_28 : decode cX10_number 28 = .ok (.getfield 34, 3) := by decide +kernel
theorem dX10_number_31 : decode cX10_number 31 = .ok (.iaload, 1) := by decide +kernel
theorem dX10_number_32 : decode cX10_number 32 = .ok (.istore_n 3, 1) := by decide +kernel
theorem dX10_number_33 : decode cX10_number 33 = .ok (.iload_n 3, 1) := by decide +kernel
theorem dX10_number_34 : decode cX10_number 34 = .ok (.iload_n 1, 1) := by decide +kernel
theorem dX10_number_35 : decode cX10_number 35 = .ok (.if_icmp .lt 8, 3) := by decide +kernel
theorem dX10_number_38 : decode cX10_number 38 = .ok (.iload_n 3, 1) := by decide +kernel
theorem dX10_number_39 : decode cX10_number 39 = .ok (.iload_n 2, 1) := by decide +kernel
theorem dX10_number_40 : decode cX10_number 40 = .ok (.if_icmp .le 11, 3) := by decide +kernel
theorem dX10_number_43 : decode cX10_number 43 = .ok (.aload_n 0, 1) := by decide +kernel
theorem dX10_number_44 : decode cX10_number 44 = .ok (.iconst 2, 1) := by decide +kernel
theorem dX10_number_45 : decode cX10_number 45 = .ok (.invokevirtual 86, 3) := by decide +kernel
theorem dX10_number_48 : decode cX10_number 48 = .ok (.pop, 1) := by decide +kernel
theorem dX10_number_49 : decode cX10_number 49 = .ok (.iconst (-1), 1) := by decide +kernel
theorem dX10_number_50 : decode cX10_number 50 = .ok (.ireturn, 1) := by decide +kernel
theorem dX10_number_51 : decode cX10_number 51 = .ok (.aload_n 0, 1) := by decide +kernel
theorem dX10_number_52 : decode cX10_number 52 = .ok (.invokevirtual 89, 3) := by decide +kernel
theorem dX10_number_55 : decode cX10_number 55 = .ok (.iload_n 3, 1) := by decide +kernel
theorem dX10_number_56 : decode cX10_number 56 = .ok (.ireturn, 1) := by decide +kernel
theorem dX11_init_0 : decode cX11_init 0 = .ok (.aload_n 0, 1) := by decide +kernel
theorem dX11_init_1 : decode cX11_init 1 = .ok (.invokespecial 3, 3) := by decide +kernel
theorem dX11_init_4 : decode cX11_init 4 = .ok (.aload_n 0, 1) := by decide +kernel
theorem dX11_init_5 : decode cX11_init 5 = .ok (.new 9, 3) := by decide +kernel
theorem dX11_init_8 : decode cX11_init 8 = .ok (.dup, 1) := by decide +kernel
theorem dX11_init_9 : decode cX11_init 9 = .ok (.invokespecial 11, 3) := by decide +kernel
theorem dX11_init_12 : decode cX11_init 12 = .ok (.putfield 12, 3) := by decide +kernel
theorem dX11_init_15 : decode cX11_init 15 = .ok (.aload_n 0, 1) := by decide +kernel
theorem dX11_init_16 : decode cX11_init 16 = .ok (.new 16, 3) := by decide +kernel
theorem dX11_init_19 : decode cX11_init 19 = .ok (.dup, 1) := by decide +kernel
theorem dX11_init_20 : decode cX11_init 20 = .ok (.invokespecial 18, 3) := by decide +kernel
theorem dX11_init_23 : decode cX11_init 23 = .ok (.putfield 19, 3) := by decide +kernel
theorem dX11_init_26 : decode cX11_init 26 = .ok (.aload_n 0, 1) := by decide +kernel
theorem dX11_init_27 : decode cX11_init 27 = .ok (.new 16, 3) := by decide +kernel
theorem dX11_init_30 : decode cX11_init 30 = .ok (.dup, 1) := by decide +kernel
theorem dX11_init_31 : decode cX11_init 31 = .ok (.invokespecial 18, 3) := by decide +kernel
theorem dX11_init_34 : decode cX11_init 34 = .ok (.putfield 23, 3) := by decide +kernel
theorem dX11_init_37 : decode cX11_init 37 = .ok (.aload_n 0, 1) := by decide +kernel
theorem dX11_init_38 : decode cX11_init 38 = .ok (.new 26, 3) := by decide +kernel
theorem dX11_init_41 : decode cX11_init 41 = .ok (.dup, 1) := by decide +kernel
theorem dX11_init_42 : decode cX11_init 42 = .ok (.invokespecial 28, 3) := by decide +kernel
theorem dX11_init_45 : decode cX11_init 45 = .ok (.putfield 29, 3) := by decide +kernel
theorem dX11_init_48 : decode cX11_init 48 = .ok (.aload_n 0, 1) := by decide +kernel
theorem dX11_init_49 : decode cX11_init 49 = .ok (.new 33, 3) := by decide +kernel
theorem dX11_init_52 : decode cX11_init 52 = .ok (.dup, 1) := by decide +kernel
theorem dX11_init_53 : decode cX11_init 53 = .ok (.invokespecial 35, 3) := by decide +kernel
theorem dX11_init_56 : decode cX11_init 56 = .ok (.putfield 36, 3) := by decide +kernel
theorem dX11_init_59 : decode cX11_init 59 = .ok (.aload_n 0, 1) := by decide +kernel
theorem dX11_init_60 : decode cX11_init 60 = .ok (.new 40, 3) := by decide +kernel
theorem dX11_init_63 : decode cX11_init 63 = .ok (.dup, 1) := by decide +kernel
theorem dX11_init_64 : decode cX11_init 64 = .ok (.invokespecial 42, 3) := by decide +kernel
theorem dX11_init_67 : decode cX11_init 67 = .ok (.putfield 43, 3) := by decide +kernel
theorem dX11_init_70 : decode cX11_init 70 = .ok (.aload_n 0, 1) := by decide +kernel
theorem dX11_init_71 : decode cX11_init 71 = .ok (.new 47, 3) := by decide +kernel
theorem dX11_init_74 : decode cX11_init 74 = .ok (.dup, 1) := by decide +kernel
theorem dX11_init_75 : decode cX11_init 75 = .ok (.invokespecial 49, 3) := by decide +kernel
theorem dX11_init_78 : decode cX11_init 78 = .ok (.putfield 50, 3) := by decide +kernel
theorem dX11_init_81 : decode cX11_init 81 = .ok (.aload_n 0, 1) := by decide +kernel
theorem dX11_init_82 : decode cX11_init 82 = .ok (.new 54, 3) := by decide +kernel
theorem dX11_init_85 : decode cX11_init 85 = .ok (.dup, 1) := by decide +kernel
theorem dX11_init_86 : decode cX11_init 86 = .ok (.invokespecial 56, 3) := by decide +kernel
theorem dX11_init_89 : decode cX11_init 89 = .ok (.putfield 57, 3) := by decide +kernel
theorem dX11_init_92 : decode cX11_init 92 = .ok (.aload_n 0, 1) := by decide +kernel
theorem dX11_init_93 : decode cX11_init 93 = .ok (.new 61, 3) := by decide +kernel
theorem dX11_init_96 : decode cX11_init 96 = .ok (.dup, 1) := by decide +kernel
theorem dX11_init_97 : decode cX11_init 97 = .ok (.invokespecial 63, 3) := by decide +kernel
theorem dX11_init_100 : decode cX11_init 100 = .ok (.putfield 64, 3) := by decide +kernel
theorem dX11_init_103 : decode cX11_init 103 = .ok (.aload_n 0, 1) := by decide +kernel
theorem dX11_init_104 : decode cX11_init 104 = .ok (.new 68, 3) := by decide +kernel
theorem dX11_init_107 : decode cX11_init 107 = .ok (.dup, 1) := by decide +kernel
theorem dX11_init_108 : decode cX11_init 108 = .ok (.invokespecial 70, 3) := by decide +kernel
theorem dX11_init_111 : decode cX11_init 111 = .ok (.putfield 71, 3) := by decide +kernel
theorem dX11_init_114 : decode cX11_init 114 = .ok (.aload_n 0, 1) := by decide +kernel
theorem dX11_init_115 : decode cX11_init 115 = .ok (.bipush 6, 2) := by decide +kernel
theorem dX11_init_117 : decode cX11_init 117 = .ok (.anewarray 75, 3) := by decide +kernel
theorem dX11_init_120 : decode cX11_init 120 = .ok (.putfield 77, 3) := by decide +kernel
theorem dX11_init_123 : decode cX11_init 123 = .ok (.iconst 0, 1) := by decide +kernel
theorem dX11_init_124 : decode cX11_init 124 = .ok (.istore_n 1, 1) := by decide +kernel
theorem dX11_init_125 : decode cX11_init 125 = .ok (.iload_n 1, 1) := by decide +kernel
theorem dX11_init_126 : decode cX11_init 126 = .ok (.bipush 6, 2) := by decide +kernel
theorem dX11_init_128 : decode cX11_init 128 = .ok (.if_icmp .ge 22, 3) := by decide +kernel
theorem dX11_init_131 : decode cX11_init 131 = .ok (.aload_n 0, 1) := by decide +kernel
theorem dX11_init_132 : decode cX11_init 132 = .ok (.getfield 77, 3) := by decide +kernel
theorem dX11_init_135 : decode cX11_init 135 = .ok (.iload_n 1, 1) := by decide +kernel
theorem dX11_init_136 : decode cX11_init 136 = .ok (.new 75, 3) := by decide +kernel
theorem dX11_init_139 : decode cX11_init 139 = .ok (.dup, 1) := by decide +kernel
theorem dX11_init_140 : decode cX11_init 140 = .ok (.invokespecial 81, 3) := by decide +kernel
theorem dX11_init_143 : decode cX11_init 143 = .ok (.aastore, 1) := by decide +kernel
theorem dX11_init_144 : decode cX11_init 144 = .ok (.iinc 1 1, 3) := by decide +kernel
theorem dX11_init_147 : decode cX11_init 147 = .ok (.goto (-22), 3) := by decide +kernel
theorem dX11_init_150 : decode cX11_init 150 = .ok (.return_, 1) := by decide +kernel
theorem dX11_state_0 : decode cX11_state 0 = .ok (.aload_n 0, 1) := by decide +kernel
theorem dX11_state_1 : decode cX11_state 1 = .ok (.getfield 19, 3) := by decide +kernel
theorem dX11_state_4 : decode cX11_state 4 = .ok (.getfield 82, 3) := by decide +kernel
theorem dX11_state_7 : decode cX11_state 7 = .ok (.getfield 86, 3) := by decide +kernel
theorem dX11_state_10 : decode cX11_state 10 = .ok (.istore_n 2, 1) := by decide +kernel
theorem dX11_state_11 : decode cX11_state 11 = .ok (.aload_n 0, 1) := by decide +kernel
theorem dX11_state_12 : decode cX11_state 12 = .ok (.getfield 19, 3) := by decide +kernel
theorem dX11_state_15 : decode cX11_state 15 = .ok (.getfield 82, 3) := by decide +kernel
theorem dX11_state_18 : decode cX11_state 18 = .ok (.iload_n 1, 1) := by decide +kernel
theorem dX11_state_19 : decode cX11_state 19 = .ok (.putfield 86, 3) := by decide +kernel
theorem dX11_state_22 : decode cX11_state 22 = .ok (.aload_n 0, 1) := by decide +kernel
theorem dX11_state_23 : decode cX11_state 23 = .ok (.iconst 0, 1) := by decide +kernel
theorem dX11_state_24 : decode cX11_state 24 = .ok (.putfield 90, 3) := by decide +kernel
theorem dX11_state_27 : decode cX11_state 27 = .ok (.iload_n 2, 1) := by decide +kernel
theorem dX11_state_28 : decode cX11_state 28 = .ok (.ireturn, 1) := by decide +kernel
theorem dX11_set_0 : decode cX11_set 0 = .ok (.iload_n 1, 1) := by decide +kernel
theorem dX11_set_1 : decode cX11_set 1 = .ok (.ifCond .ne 23, 3) := by decide +kernel
theorem dX11_set_4 : decode cX11_set 4 = .ok (.iload_n 2, 1) := by decide +kernel
theorem dX11_set_5 : decode cX11_set 5 = .ok (.ifCond .lt 19, 3) := by decide +kernel
theorem dX11_set_8 : decode cX11_set 8 = .ok (.iload_n 2, 1) := by decide +kernel
theorem dX11_set_9 : decode cX11_set 9 = .ok (.iconst 4, 1) := by decide +kernel
theorem dX11_set_10 : decode cX11_set 10 = .ok (.if_icmp .gt 14, 3) := by decide +kernel
theorem dX11_set_13 : decode cX11_set 13 = .ok (.aload_n 0, 1) := by decide +kernel
theorem dX11_set_14 : decode cX11_set 14 = .ok (.getfield 19, 3) := by decide +kernel
theorem dX11_set_17 : decode cX11_set 17 = .ok (.iload_n 2, 1) := by decide +kernel
theorem dX11_set_18 : decode cX11_set 18 = .ok (.putfield 93, 3) := by decide +kernel
theorem dX11_set_21 : decode cX11_set 21 = .ok (.goto 31, 3) := by decide +kernel
theorem dX11_set_24 : decode cX11_set 24 = .ok (.iload_n 1, 1) := by decide +kernel
theorem dX11_set_25 : decode cX11_set 25 = .ok (.iconst 1, 1) := by decide +kernel
theorem dX11_set_26 : decode cX11_set 26 = .ok (.if_icmp .ne 24, 3) := by decide +kernel
theorem dX11_set_29 : decode cX11_set 29 = .ok (.iload_n 2, 1) := by decide +kernel
theorem dX11_set_30 : decode cX11_set 30 = .ok (.ifCond .lt 20, 3) := by decide +kernel
theorem dX11_set_33 : decode cX11_set 33 = .ok (.iload_n 2, 1) := by decide +kernel
theorem dX11_set_34 : decode cX11_set 34 = .ok (.bipush 99, 2) := by decide +kernel
theorem dX11_set_36 : decode cX11_set 36 = .ok (.if_icmp .gt 14, 3) := by decide +kernel
theorem dX11_set_39 : decode cX11_set 39 = .ok (.aload_n 0, 1) := by decide +kernel
theorem dX11_set_40 : decode cX11_set 40 = .ok (.getfield 19, 3) := by decide +kernel
theorem dX11_set_43 : decode cX11_set 43 = .ok (.iload_n 2, 1) := by decide +kernel
theorem dX11_set_44 : decode cX11_set 44 = .ok (.putfield 96, 3) := by decide +kernel
theorem dX11_set_47 : decode cX11_set 47 = .ok (.goto 5, 3) := by decide +kernel
theorem dX11_set_50 : decode cX11_set 50 = .ok (.iconst 0, 1) := by decide +kernel
theorem dX11_set_51 : decode cX11_set 51 = .ok (.ireturn, 1) := by decide +kernel
theorem dX11_set_52 : decode cX11_set 52 = .ok (.aload_n 0, 1) := by decide +kernel
theorem dX11_set_53 : decode cX11_set 53 = .ok (.iconst 0, 1) := by decide +kernel
theorem dX11_set_54 : decode cX11_set 54 = .ok (.putfield 90, 3) := by decide +kernel
theorem dX11_set_57 : decode cX11_set 57 = .ok (.iconst 1, 1) := by decide +kernel
theorem dX11_set_58 : decode cX11_set 58 = .ok (.ireturn, 1) := by decide +kernel
theorem dX11_put_0 : decode cX11_put 0 = .ok (.aload_n 0, 1) := by decide +kernel
theorem dX11_put_1 : decode cX11_put 1 = .ok (.getfield 19, 3) := by decide +kernel
theorem dX11_put_4 : decode cX11_put 4 = .ok (.getfield 99, 3) := by decide +kernel
theorem dX11_put_7 : decode cX11_put 7 = .ok (.iload_n 1, 1) := by decide +kernel
theorem dX11_put_8 : decode cX11_put 8 = .ok (.invokevirtual 102, 3) := by decide +kernel
theorem dX11_put_11 : decode cX11_put 11 = .ok (.ifCond .ne 5, 3) := by decide +kernel
theorem dX11_put_14 : decode cX11_put 14 = .ok (.iconst 0, 1) := by decide +kernel
theorem dX11_put_15 : decode cX11_put 15 = .ok (.ireturn, 1) := by decide +kernel
theorem dX11_put_16 : decode cX11_put 16 = .ok (.aload_n 0, 1) := by decide +kernel
theorem dX11_put_17 : decode cX11_put 17 = .ok (.invokevirtual 106, 3) := by decide +kernel
theorem dX11_put_20 : decode cX11_put 20 = .ok (.aload_n 0, 1) := by decide +kernel
theorem dX11_put_21 : decode cX11_put 21 = .ok (.getfield 19, 3) := by decide +kernel
theorem dX11_put_24 : decode cX11_put 24 = .ok (.iload_n 1, 1) := by decide +kernel
theorem dX11_put_25 : decode cX11_put 25 = .ok (.invokevirtual 109, 3) := by decide +kernel
theorem dX11_put_28 : decode cX11_put 28 = .ok (.iconst 1, 1) := by decide +kernel
theorem dX11_put_29 : decode cX11_put 29 = .ok (.ireturn, 1) := by decide +kernel
theorem dX11_wind_0 : decode cX11_wind 0 = .ok (.iload_n 2, 1) := by decide +kernel
theorem dX11_wind_1 : decode cX11_wind 1 = .ok (.iconst 1, 1) := by decide +kernel
theorem dX11_wind_2 : decode cX11_wind 2 = .ok (.if_icmp .lt 9, 3) := by decide +kernel
theorem dX11_wind_5 : decode cX11_wind 5 = .ok (.iload_n 2, 1) := by decide +kernel
theorem dX11_wind_6 : decode cX11_wind 6 = .ok (.bipush 60, 2) := by decide +kernel
theorem dX11_wind_8 : decode cX11_wind 8 = .ok (.if_icmp .le 5, 3) := by decide +kernel
theorem dX11_wind_11 : decode cX11_wind 11 = .ok (.iconst (-1), 1) := by decide +kernel
theorem dX11_wind_12 : decode cX11_wind 12 = .ok (.ireturn, 1) := by decide +kernel
theorem dX11_wind_13 : decode cX11_wind 13 = .ok (.aload_n 0, 1) := by decide +kernel
theorem dX11_wind_14 : decode cX11_wind 14 = .ok (.invokevirtual 106, 3) := by decide +kernel
theorem dX11_wind_17 : decode cX11_wind 17 = .ok (.aload_n 0, 1) := by decide +kernel
theorem dX11_wind_18 : decode cX11_wind 18 = .ok (.getfield 19, 3) := by decide +kernel
theorem dX11_wind_21 : decode cX11_wind 21 = .ok (.aload_n 0, 1) := by decide +kernel
theorem dX11_wind_22 : decode cX11_wind 22 = .ok (.getfield 57, 3) := by decide +kernel
theorem dX11_wind_25 : decode cX11_wind 25 = .ok (.iload_n 1, 1) := by decide +kernel
theorem dX11_wind_26 : decode cX11_wind 26 = .ok (.iload_n 2, 1) := by decide +kernel
theorem dX11_wind_27 : decode cX11_wind 27 = .ok (.invokevirtual 113, 3) := by decide +kernel
theorem dX11_wind_30 : decode cX11_wind 30 = .ok (.aload_n 0, 1) := by decide +kernel
theorem dX11_wind_31 : decode cX11_wind 31 = .ok (.getfield 19, 3) := by decide +kernel
theorem dX11_wind_34 : decode cX11_wind 34 = .ok (.getfield 82, 3) := by decide +kernel
theorem dX11_wind_37 : decode cX11_wind 37 = .ok (.getfield 117, 3) := by decide +kernel
theorem dX11_wind_40 : decode cX11_wind 40 = .ok (.ireturn, 1) := by decide +kernel
theorem dX11_hear_0 : decode cX11_hear 0 = .ok (.iload_n 1, 1) := by decide +kernel
theorem dX11_hear_1 : decode cX11_hear 1 = .ok (.iconst 1, 1) := by decide +kernel
theorem dX11_hear_2 : decode cX11_hear 2 = .ok (.if_icmp .lt 9, 3) := by decide +kernel
theorem dX11_hear_5 : decode cX11_hear 5 = .ok (.iload_n 1, 1) := by decide +kernel
theorem dX11_hear_6 : decode cX11_hear 6 = .ok (.bipush 30, 2) := by decide +kernel
theorem dX11_hear_8 : decode cX11_hear 8 = .ok (.if_icmp .le 5, 3) := by decide +kernel
theorem dX11_hear_11 : decode cX11_hear 11 = .ok (.iconst (-1), 1) := by decide +kernel
theorem dX11_hear_12 : decode cX11_hear 12 = .ok (.ireturn, 1) := by decide +kernel
theorem dX11_hear_13 : decode cX11_hear 13 = .ok (.aload_n 0, 1) := by decide +kernel
theorem dX11_hear_14 : decode cX11_hear 14 = .ok (.invokevirtual 106, 3) := by decide +kernel
theorem dX11_hear_17 : decode cX11_hear 17 = .ok (.aload_n 0, 1) := by decide +kernel
theorem dX11_hear_18 : decode cX11_hear 18 = .ok (.getfield 19, 3) := by decide +kernel
theorem dX11_hear_21 : decode cX11_hear 21 = .ok (.iload_n 1, 1) := by decide +kernel
theorem dX11_hear_22 : decode cX11_hear 22 = .ok (.invokevirtual 120, 3) := by decide +kernel
theorem dX11_hear_25 : decode cX11_hear 25 = .ok (.ireturn, 1) := by decide +kernel
theorem dX11_turn_0 : decode cX11_turn 0 = .ok (.aload_n 0, 1) := by decide +kernel
theorem dX11_turn_1 : decode cX11_turn 1 = .ok (.invokevirtual 106, 3) := by decide +kernel
theorem dX11_turn_4 : decode cX11_turn 4 = .ok (.aload_n 0, 1) := by decide +kernel
theorem dX11_turn_5 : decode cX11_turn 5 = .ok (.getfield 19, 3) := by decide +kernel
theorem dX11_turn_8 : decode cX11_turn 8 = .ok (.invokevirtual 124, 3) := by decide +kernel
theorem dX11_turn_11 : decode cX11_turn 11 = .ok (.aload_n 0, 1) := by decide +kernel
theorem dX11_turn_12 : decode cX11_turn 12 = .ok (.getfield 19, 3) := by decide +kernel
theorem dX11_turn_15 : decode cX11_turn 15 = .ok (.getfield 82, 3) := by decide +kernel
theorem dX11_turn_18 : decode cX11_turn 18 = .ok (.getfield 117, 3) := by decide +kernel
theorem dX11_turn_21 : decode cX11_turn 21 = .ok (.ireturn, 1) := by decide +kernel
theorem dX11_evening_0 : decode cX11_evening 0 = .ok (.aload_n 0, 1) := by decide +kernel
theorem dX11_evening_1 : decode cX11_evening 1 = .ok (.invokevirtual 106, 3) := by decide +kernel
theorem dX11_evening_4 : decode cX11_evening 4 = .ok (.aload_n 0, 1) := by decide +kernel
theorem dX11_evening_5 : decode cX11_evening 5 = .ok (.getfield 19, 3) := by decide +kernel
theorem dX11_evening_8 : decode cX11_evening 8 = .ok (.getfield 127, 3) := by decide +kernel
theorem dX11_evening_11 : decode cX11_evening 11 = .ok (.astore_n 1, 1) := by decide +kernel
theorem dX11_evening_12 : decode cX11_evening 12 = .ok (.iconst 0, 1) := by decide +kernel
theorem dX11_evening_13 : decode cX11_evening 13 = .ok (.istore_n 2, 1) := by decide +kernel
theorem dX11_evening_14 : decode cX11_evening 14 = .ok (.iload_n 2, 1) := by decide +kernel
theorem dX11_evening_15 : decode cX11_evening 15 = .ok (.aload_n 1, 1) := by decide +kernel
theorem dX11_evening_16 : decode cX11_evening 16 = .ok (.getfield 130, 3) := by decide +kernel
theorem dX11_evening_19 : decode cX11_evening 19 = .ok (.if_icmp .ge 85, 3) := by decide +kernel
theorem dX11_evening_22 : decode cX11_evening 22 = .ok (.iload_n 2, 1) := by decide +kernel
theorem dX11_evening_23 : decode cX11_evening 23 = .ok (.bipush 60, 2) := by decide +kernel
theorem dX11_evening_25 : decode cX11_evening 25 = .ok (.if_icmp .ge 79, 3) := by decide +kernel
theorem dX11_evening_28 : decode cX11_evening 28 = .ok (.aload_n 1, 1) := by decide +kernel
theorem dX11_evening_29 : decode cX11_evening 29 = .ok (.getfield 133, 3) := by decide +kernel
theorem dX11_evening_32 : decode cX11_evening 32 = .ok (.iload_n 2, 1) := by decide +kernel
theorem dX11_evening_33 : decode cX11_evening 33 = .ok (.iaload, 1) := by decide +kernel
theorem dX11_evening_34 : decode cX11_evening 34 = .ok (.istore_n 3, 1) := by decide +kernel
theorem dX11_evening_35 : decode cX11_evening 35 = .ok (.iload_n 3, 1) := by decide +kernel
theorem dX11_evening_36 : decode cX11_evening 36 = .ok (.iconst 2, 1) := by decide +kernel
theorem dX11_evening_37 : decode cX11_evening 37 = .ok (.if_icmp .ne 20, 3) := by decide +kernel
theorem dX11_evening_40 : decode cX11_evening 40 = .ok (.aload_n 0, 1) := by decide +kernel
theorem dX11_evening_41 : decode cX11_evening 41 = .ok (.getfield 19, 3) := by decide +kernel
theorem dX11_evening_44 : decode cX11_evening 44 = .ok (.aload_n 1, 1) := by decide +kernel
theorem dX11_evening_45 : decode cX11_evening 45 = .ok (.getfield 137, 3) := by decide +kernel
theorem dX11_evening_48 : decode cX11_evening 48 = .ok (.iload_n 2, 1) := by decide +kernel
theorem dX11_evening_49 : decode cX11_evening 49 = .ok (.iaload, 1) := by decide +kernel
theorem dX11_evening_50 : decode cX11_evening 50 = .ok (.invokevirtual 120, 3) := by decide +kernel
theorem dX11_evening_53 : decode cX11_evening 53 = .ok (.pop, 1) := by decide +kernel
theorem dX11_evening_54 : decode cX11_evening 54 = .ok (.goto 44, 3) := by decide +kernel
theorem dX11_evening_57 : decode cX11_evening 57 = .ok (.iload_n 3, 1) := by decide +kernel
theorem dX11_evening_58 : decode cX11_evening 58 = .ok (.iconst 3, 1) := by decide +kernel
theorem dX11_evening_59 : decode cX11_evening 59 = .ok (.if_icmp .ne 13, 3) := by decide +kernel
theorem dX11_evening_62 : decode cX11_evening 62 = .ok (.aload_n 0, 1) := by decide +kernel
theorem dX11_evening_63 : decode cX11_evening 63 = .ok (.getfield 19, 3) := by decide +kernel
theorem dX11_evening_66 : decode cX11_evening 66 = .ok (.invokevirtual 124, 3) := by decide +kernel
theorem dX11_evening_69 : decode cX11_evening 69 = .ok (.goto 29, 3) := by decide +kernel
theorem dX11_evening_72 : decode cX11_evening 72 = .ok (.aload_n 0, 1) := by decide +kernel
theorem dX11_evening_73 : decode cX11_evening 73 = .ok (.getfield 19, 3) := by decide +kernel
theorem dX11_evening_76 : decode cX11_evening 76 = .ok (.aload_n 0, 1) := by decide +kernel
theorem dX11_evening_77 : decode cX11_evening 77 = .ok (.getfield 57, 3) := by decide +kernel
theorem dX11_evening_80 : decode cX11_evening 80 = .ok (.iload_n 3, 1) := by decide +kernel
theorem dX11_evening_81 : decode cX11_evening 81 = .ok (.ifCond .ne 7, 3) := by decide +kernel
theorem dX11_evening_84 : decode cX11_evening 84 = .ok (.iconst 1, 1) := by decide +kernel
theorem dX11_evening_85 : decode cX11_evening 85 = .ok (.goto 4, 3) := by decide +kernel
theorem dX11_evening_88 : decode cX11_evening 88 = .ok (.iconst 0, 1) := by decide +kernel
theorem dX11_evening_89 : decode cX11_evening 89 = .ok (.aload_n 1, 1) := by decide +kernel
theorem dX11_evening_90 : decode cX11_evening 90 = .ok (.getfield 137, 3) := by decide +kernel
theorem dX11_evening_93 : decode cX11_evening 93 = .ok (.iload_n 2, 1) := by decide +kernel
theorem dX11_evening_94 : decode cX11_evening 94 = .ok (.iaload, 1) := by decide +kernel
theorem dX11_evening_95 : decode cX11_evening 95 = .ok (.invokevirtual 113, 3) := by decide +kernel
theorem dX11_evening_98 : decode cX11_evening 98 = .ok (.iinc 2 1, 3) := by decide +kernel
theorem dX11_evening_101 : decode cX11_evening 101 = .ok (.goto (-87), 3) := by decide +kernel
theorem dX11_evening_104 : decode cX11_evening 104 = .ok (.aload_n 1, 1) := by decide +kernel
theorem dX11_evening_105 : decode cX11_evening 105 = .ok (.getfield 130, 3) := by decide +kernel
theorem dX11_evening_108 : decode cX11_evening 108 = .ok (.ireturn, 1) := by decide +kernel
theorem dX11_feed_0 : decode cX11_feed 0 = .ok (.aload_n 0, 1) := by decide +kernel
theorem dX11_feed_1 : decode cX11_feed 1 = .ok (.getfield 12, 3) := by decide +kernel
theorem dX11_feed_4 : decode cX11_feed 4 = .ok (.bipush 20, 2) := by decide +kernel
theorem dX11_feed_6 : decode cX11_feed 6 = .ok (.invokevirtual 140, 3) := by decide +kernel
theorem dX11_feed_9 : decode cX11_feed 9 = .ok (.ifCond .ne 5, 3) := by decide +kernel
theorem dX11_feed_12 : decode cX11_feed 12 = .ok (.iconst (-1), 1) := by decide +kernel
theorem dX11_feed_13 : decode cX11_feed 13 = .ok (.ireturn, 1) := by decide +kernel
theorem dX11_feed_14 : decode cX11_feed 14 = .ok (.aload_n 0, 1) := by decide +kernel
theorem dX11_feed_15 : decode cX11_feed 15 = .ok (.getfield 12, 3) := by decide +kernel
theorem dX11_feed_18 : decode cX11_feed 18 = .ok (.iload_n 1, 1) := by decide +kernel
theorem dX11_feed_19 : decode cX11_feed 19 = .ok (.invokevirtual 143, 3) := by decide +kernel
theorem dX11_feed_22 : decode cX11_feed 22 = .ok (.aload_n 0, 1) := by decide +kernel
theorem dX11_feed_23 : decode cX11_feed 23 = .ok (.getfield 12, 3) := by decide +kernel
theorem dX11_feed_26 : decode cX11_feed 26 = .ok (.iload_n 2, 1) := by decide +kernel
theorem dX11_feed_27 : decode cX11_feed 27 = .ok (.invokevirtual 143, 3) := by decide +kernel
theorem dX11_feed_30 : decode cX11_feed 30 = .ok (.aload_n 0, 1) := by decide +kernel
theorem dX11_feed_31 : decode cX11_feed 31 = .ok (.getfield 12, 3) := by decide +kernel
theorem dX11_feed_34 : decode cX11_feed 34 = .ok (.iload_n 3, 1) := by decide +kernel
theorem dX11_feed_35 : decode cX11_feed 35 = .ok (.invokevirtual 143, 3) := by decide +kernel
theorem dX11_feed_38 : decode cX11_feed 38 = .ok (.aload_n 0, 1) := by decide +kernel
theorem dX11_feed_39 : decode cX11_feed 39 = .ok (.getfield 12, 3) := by decide +kernel
theorem dX11_feed_42 : decode cX11_feed 42 = .ok (.iload 4, 2) := by decide +kernel
theorem dX11_feed_44 : decode cX11_feed 44 = .ok (.invokevirtual 143, 3) := by decide +kernel
theorem dX11_feed_47 : decode cX11_feed 47 = .ok (.aload_n 0, 1) := by decide +kernel
theorem dX11_feed_48 : decode cX11_feed 48 = .ok (.getfield 12, 3) := by decide +kernel
theorem dX11_feed_51 : decode cX11_feed 51 = .ok (.iload 5, 2) := by decide +kernel
theorem dX11_feed_53 : decode cX11_feed 53 = .ok (.invokevirtual 143, 3) := by decide +kernel
theorem dX11_feed_56 : decode cX11_feed 56 = .ok (.aload_n 0, 1) := by decide +kernel
theorem dX11_feed_57 : decode cX11_feed 57 = .ok (.getfield 12, 3) := by decide +kernel
theorem dX11_feed_60 : decode cX11_feed 60 = .ok (.getfield 146, 3) := by decide +kernel
theorem dX11_feed_63 : decode cX11_feed 63 = .ok (.ireturn, 1) := by decide +kernel
theorem dX11_end_0 : decode cX11_end 0 = .ok (.aload_n 0, 1) := by decide +kernel
theorem dX11_end_1 : decode cX11_end 1 = .ok (.getfield 12, 3) := by decide +kernel
theorem dX11_end_4 : decode cX11_end 4 = .ok (.iload_n 1, 1) := by decide +kernel
theorem dX11_end_5 : decode cX11_end 5 = .ok (.invokevirtual 149, 3) := by decide +kernel
theorem dX11_end_8 : decode cX11_end 8 = .ok (.ireturn, 1) := by decide +kernel
theorem dX11_text_0 : decode cX11_text 0 = .ok (.aload_n 0, 1) := by decide +kernel
theorem dX11_text_1 : decode cX11_text 1 = .ok (.getfield 12, 3) := by decide +kernel
theorem dX11_text_4 : decode cX11_text 4 = .ok (.invokevirtual 152, 3) := by decide +kernel
theorem dX11_text_7 : decode cX11_text 7 = .ok (.iconst (-1), 1) := by decide +kernel
theorem dX11_text_8 : decode cX11_text 8 = .ok (.istore_n 2, 1) := by decide +kernel
theorem dX11_text_9 : decode cX11_text 9 = .ok (.iload_n 1, 1) := by decide +kernel
theorem dX11_text_10 : decode cX11_text 10 = .ok (.ifCond .ne 47, 3) := by decide +kernel
theorem dX11_text_13 : decode cX11_text 13 = .ok (.aload_n 0, 1) := by decide +kernel
theorem dX11_text_14 : decode cX11_text 14 = .ok (.getfield 29, 3) := by decide +kernel
theorem dX11_text_17 : decode cX11_text 17 = .ok (.aload_n 0, 1) := by decide +kernel
theorem dX11_text_18 : decode cX11_text 18 = .ok (.getfield 12, 3) := by decide +kernel
theorem dX11_text_21 : decode cX11_text 21 = .ok (.invokevirtual 155, 3) := by decide +kernel
theorem dX11_text_24 : decode cX11_text 24 = .ok (.ifCond .eq 33, 3) := by decide +kernel
theorem dX11_text_27 : decode cX11_text 27 = .ok (.aload_n 0, 1) := by decide +kernel
theorem dX11_text_28 : decode cX11_text 28 = .ok (.getfield 19, 3) := by decide +kernel
theorem dX11_text_31 : decode cX11_text 31 = .ok (.aload_n 0, 1) := by decide +kernel
theorem dX11_text_32 : decode cX11_text 32 = .ok (.getfield 29, 3) := by decide +kernel
theorem dX11_text_35 : decode cX11_text 35 = .ok (.invokevirtual 159, 3) := by decide +kernel
theorem dX11_text_38 : decode cX11_text 38 = .ok (.aload_n 0, 1) := by decide +kernel
theorem dX11_text_39 : decode cX11_text 39 = .ok (.iconst 0, 1) := by decide +kernel
theorem dX11_text_40 : decode cX11_text 40 = .ok (.putfield 90, 3) := by decide +kernel
theorem dX11_text_43 : decode cX11_text 43 = .ok (.aload_n 0, 1) := by decide +kernel
theorem dX11_text_44 : decode cX11_text 44 = .ok (.getfield 19, 3) := by decide +kernel
theorem dX11_text_47 : decode cX11_text 47 = .ok (.getfield 99, 3) := by decide +kernel
theorem dX11_text_50 : decode cX11_text 50 = .ok (.getfield 163, 3) := by decide +kernel
theorem dX11_text_53 : decode cX11_text 53 = .ok (.istore_n 2, 1) := by decide +kernel
theorem dX11_text_54 : decode cX11_text 54 = .ok (.goto 156, 3) := by decide +kernel
theorem dX11_text_57 : decode cX11_text 57 = .ok (.iload_n 1, 1) := by decide +kernel
theorem dX11_text_58 : decode cX11_text 58 = .ok (.iconst 1, 1) := by decide +kernel
theorem dX11_text_59 : decode cX11_text 59 = .ok (.if_icmp .ne 45, 3) := by decide +kernel
theorem dX11_text_62 : decode cX11_text 62 = .ok (.aload_n 0, 1) := by decide +kernel
theorem dX11_text_63 : decode cX11_text 63 = .ok (.getfield 36, 3) := by decide +kernel
theorem dX11_text_66 : decode cX11_text 66 = .ok (.aload_n 0, 1) := by decide +kernel
theorem dX11_text_67 : decode cX11_text 67 = .ok (.getfield 12, 3) := by decide +kernel
theorem dX11_text_70 : decode cX11_text 70 = .ok (.invokevirtual 166, 3) := by decide +kernel
theorem dX11_text_73 : decode cX11_text 73 = .ok (.ifCond .eq 31, 3) := by decide +kernel
theorem dX11_text_76 : decode cX11_text 76 = .ok (.aload_n 0, 1) := by decide +kernel
theorem dX11_text_77 : decode cX11_text 77 = .ok (.getfield 19, 3) := by decide +kernel
theorem dX11_text_80 : decode cX11_text 80 = .ok (.getfield 167, 3) := by decide +kernel
theorem dX11_text_83 : decode cX11_text 83 = .ok (.aload_n 0, 1) := by decide +kernel
theorem dX11_text_84 : decode cX11_text 84 = .ok (.getfield 36, 3) := by decide +kernel
theorem dX11_text_87 : decode cX11_text 87 = .ok (.invokevirtual 170, 3) := by decide +kernel
theorem dX11_text_90 : decode cX11_text 90 = .ok (.aload_n 0, 1) := by decide +kernel
theorem dX11_text_91 : decode cX11_text 91 = .ok (.getfield 19, 3) := by decide +kernel
theorem dX11_text_94 : decode cX11_text 94 = .ok (.getfield 167, 3) := by decide +kernel
theorem dX11_text_97 : decode cX11_text 97 = .ok (.getfield 174, 3) := by decide +kernel
theorem dX11_text_100 : decode cX11_text 100 = .ok (.istore_n 2, 1) := by decide +kernel
theorem dX11_text_101 : decode cX11_text 101 = .ok (.goto 109, 3) := by decide +kernel
theorem dX11_text_104 : decode cX11_text 104 = .ok (.iload_n 1, 1) := by decide +kernel
theorem dX11_text_105 : decode cX11_text 105 = .ok (.iconst 2, 1) := by decide +kernel
theorem dX11_text_106 : decode cX11_text 106 = .ok (.if_icmp .ne 50, 3) := by decide +kernel
theorem dX11_text_109 : decode cX11_text 109 = .ok (.aload_n 0, 1) := by decide +kernel
theorem dX11_text_110 : decode cX11_text 110 = .ok (.getfield 43, 3) := by decide +kernel
theorem dX11_text_113 : decode cX11_text 113 = .ok (.aload_n 0, 1) := by decide +kernel
theorem dX11_text_114 : decode cX11_text 114 = .ok (.getfield 12, 3) := by decide +kernel
theorem dX11_text_117 : decode cX11_text 117 = .ok (.invokevirtual 177, 3) := by decide +kernel
theorem dX11_text_120 : decode cX11_text 120 = .ok (.ifCond .eq 36, 3) := by decide +kernel
theorem dX11_text_123 : decode cX11_text 123 = .ok (.aload_n 0, 1) := by decide +kernel
theorem dX11_text_124 : decode cX11_text 124 = .ok (.getfield 19, 3) := by decide +kernel
theorem dX11_text_127 : decode cX11_text 127 = .ok (.getfield 127, 3) := by decide +kernel
theorem dX11_text_130 : decode cX11_text 130 = .ok (.aload_n 0, 1) := by decide +kernel
theorem dX11_text_131 : decode cX11_text 131 = .ok (.getfield 43, 3) := by decide +kernel
theorem dX11_text_134 : decode cX11_text 134 = .ok (.invokevirtual 178, 3) := by decide +kernel
theorem dX11_text_137 : decode cX11_text 137 = .ok (.aload_n 0, 1) := by decide +kernel
theorem dX11_text_138 : decode cX11_text 138 = .ok (.iconst 0, 1) := by decide +kernel
theorem dX11_text_139 : decode cX11_text 139 = .ok (.putfield 90, 3) := by decide +kernel
theorem dX11_text_142 : decode cX11_text 142 = .ok (.aload_n 0, 1) := by decide +kernel
theorem dX11_text_143 : decode cX11_text 143 = .ok (.getfield 19, 3) := by decide +kernel
theorem dX11_text_146 : decode cX11_text 146 = .ok (.getfield 127, 3) := by decide +kernel
theorem dX11_text_149 : decode cX11_text 149 = .ok (.getfield 130, 3) := by decide +kernel
theorem dX11_text_152 : decode cX11_text 152 = .ok (.istore_n 2, 1) := by decide +kernel
theorem dX11_text_153 : decode cX11_text 153 = .ok (.goto 57, 3) := by decide +kernel
theorem dX11_text_156 : decode cX11_text 156 = .ok (.iload_n 1, 1) := by decide +kernel
theorem dX11_text_157 : decode cX11_text 157 = .ok (.iconst 3, 1) := by decide +kernel
theorem dX11_text_158 : decode cX11_text 158 = .ok (.if_icmp .ne 52, 3) := by decide +kernel
theorem dX11_text_161 : decode cX11_text 161 = .ok (.aload_n 0, 1) := by decide +kernel
theorem dX11_text_162 : decode cX11_text 162 = .ok (.getfield 50, 3) := by decide +kernel
theorem dX11_text_165 : decode cX11_text 165 = .ok (.aload_n 0, 1) := by decide +kernel
theorem dX11_text_166 : decode cX11_text 166 = .ok (.getfield 12, 3) := by decide +kernel
theorem dX11_text_169 : decode cX11_text 169 = .ok (.aload_n 0, 1) := by decide +kernel
theorem dX11_text_170 : decode cX11_text 170 = .ok (.getfield 19, 3) := by decide +kernel
theorem dX11_text_173 : decode cX11_text 173 = .ok (.getfield 99, 3) := by decide +kernel
theorem dX11_text_176 : decode cX11_text 176 = .ok (.getfield 163, 3) := by decide +kernel
theorem dX11_text_179 : decode cX11_text 179 = .ok (.invokevirtual 181, 3) := by decide +kernel
theorem dX11_text_182 : decode cX11_text 182 = .ok (.ifCond .eq 28, 3) := by decide +kernel
theorem dX11_text_185 : decode cX11_text 185 = .ok (.aload_n 0, 1) := by decide +kernel
theorem dX11_text_186 : decode cX11_text 186 = .ok (.getfield 19, 3) := by decide +kernel
theorem dX11_text_189 : decode cX11_text 189 = .ok (.getfield 184, 3) := by decide +kernel
theorem dX11_text_192 : decode cX11_text 192 = .ok (.aload_n 0, 1) := by decide +kernel
theorem dX11_text_193 : decode cX11_text 193 = .ok (.getfield 50, 3) := by decide +kernel
theorem dX11_text_196 : decode cX11_text 196 = .ok (.invokevirtual 187, 3) := by decide +kernel
theorem dX11_text_199 : decode cX11_text 199 = .ok (.aload_n 0, 1) := by decide +kernel
theorem dX11_text_200 : decode cX11_text 200 = .ok (.getfield 19, 3) := by decide +kernel
theorem dX11_text_203 : decode cX11_text 203 = .ok (.getfield 184, 3) := by decide +kernel
theorem dX11_text_206 : decode cX11_text 206 = .ok (.getfield 190, 3) := by decide +kernel
theorem dX11_text_209 : decode cX11_text 209 = .ok (.istore_n 2, 1) := by decide +kernel
theorem dX11_text_210 : decode cX11_text 210 = .ok (.aload_n 0, 1) := by decide +kernel
theorem dX11_text_211 : decode cX11_text 211 = .ok (.getfield 12, 3) := by decide +kernel
theorem dX11_text_214 : decode cX11_text 214 = .ok (.iconst 0, 1) := by decide +kernel
theorem dX11_text_215 : decode cX11_text 215 = .ok (.invokevirtual 149, 3) := by decide +kernel
theorem dX11_text_218 : decode cX11_text 218 = .ok (.pop, 1) := by decide +kernel
theorem dX11_text_219 : decode cX11_text 219 = .ok (.iload_n 2, 1) := by decide +kernel
theorem dX11_text_220 : decode cX11_text 220 = .ok (.ireturn, 1) := by decide +kernel
theorem dX11_fault_0 : decode cX11_fault 0 = .ok (.iload_n 1, 1) := by decide +kernel
theorem dX11_fault_1 : decode cX11_fault 1 = .ok (.ifCond .ne 11, 3) := by decide +kernel
theorem dX11_fault_4 : decode cX11_fault 4 = .ok (.aload_n 0, 1) := by decide +kernel
theorem dX11_fault_5 : decode cX11_fault 5 = .ok (.getfield 12, 3) := by decide +kernel
theorem dX11_fault_8 : decode cX11_fault 8 = .ok (.getfield 191, 3) := by decide +kernel
theorem dX11_fault_11 : decode cX11_fault 11 = .ok (.ireturn, 1) := by decide +kernel
theorem dX11_fault_12 : decode cX11_fault 12 = .ok (.iload_n 1, 1) := by decide +kernel
theorem dX11_fault_13 : decode cX11_fault 13 = .ok (.iconst 1, 1) := by decide +kernel
theorem dX11_fault_14 : decode cX11_fault 14 = .ok (.if_icmp .ne 13, 3) := by decide +kernel
theorem dX11_fault_17 : decode cX11_fault 17 = .ok (.aload_n 0, 1) := by decide +kernel
theorem dX11_fault_18 : decode cX11_fault 18 = .ok (.getfield 12, 3) := by decide +kernel
theorem dX11_fault_21 : decode cX11_fault 21 = .ok (.getfield 194, 3) := by decide +kernel
theorem dX11_fault_24 : decode cX11_fault 24 = .ok (.goto 4, 3) := by decide +kernel
theorem dX11_fault_27 : decode cX11_fault 27 = .ok (.iconst (-1), 1) := by decide +kernel
theorem dX11_fault_28 : decode cX11_fault 28 = .ok (.ireturn, 1) := by decide +kernel
theorem dX11_song_0 : decode cX11_song 0 = .ok (.aload_n 0, 1) := by decide +kernel
theorem dX11_song_1 : decode cX11_song 1 = .ok (.getfield 19, 3) := by decide +kernel
theorem dX11_song_4 : decode cX11_song 4 = .ok (.getfield 99, 3) := by decide +kernel
theorem dX11_song_7 : decode cX11_song 7 = .ok (.astore_n 3, 1) := by decide +kernel
theorem dX11_song_8 : decode cX11_song 8 = .ok (.aload_n 3, 1) := by decide +kernel
theorem dX11_song_9 : decode cX11_song 9 = .ok (.iload_n 1, 1) := by decide +kernel
theorem dX11_song_10 : decode cX11_song 10 = .ok (.invokevirtual 197, 3) := by decide +kernel
theorem dX11_song_13 : decode cX11_song 13 = .ok (.ifCond .ne 5, 3) := by decide +kernel
theorem dX11_song_16 : decode cX11_song 16 = .ok (.iconst (-1), 1) := by decide +kernel
theorem dX11_song_17 : decode cX11_song 17 = .ok (.ireturn, 1) := by decide +kernel
theorem dX11_song_18 : decode cX11_song 18 = .ok (.iload_n 2, 1) := by decide +kernel
theorem dX11_song_19 : decode cX11_song 19 = .ok (.tableswitch 56 0 3 #[29, 35, 42, 49], 29) := by decide +kernel
theorem dX11_song_48 : decode cX11_song 48 = .ok (.aload_n 3, 1) := by decide +kernel
theorem dX11_song_49 : decode cX11_song 49 = .ok (.iload_n 1, 1) := by decide +kernel
theorem dX11_song_50 : decode cX11_song 50 = .ok (.invokevirtual 200, 3) := by decide +kernel
theorem dX11_song_53 : decode cX11_song 53 = .ok (.ireturn, 1) := by decide +kernel
theorem dX11_song_54 : decode cX11_song 54 = .ok (.aload_n 3, 1) := by decide +kernel
theorem dX11_song_55 : decode cX11_song 55 = .ok (.getfield 203, 3) := by decide +kernel
theorem dX11_song_58 : decode cX11_song 58 = .ok (.iload_n 1, 1) := by decide +kernel
theorem dX11_song_59 : decode cX11_song 59 = .ok (.iaload, 1) := by decide +kernel
theorem dX11_song_60 : decode cX11_song 60 = .ok (.ireturn, 1) := by decide +kernel
theorem dX11_song_61 : decode cX11_song 61 = .ok (.aload_n 3, 1) := by decide +kernel
theorem dX11_song_62 : decode cX11_song 62 = .ok (.getfield 206, 3) := by decide +kernel
theorem dX11_song_65 : decode cX11_song 65 = .ok (.iload_n 1, 1) := by decide +kernel
theorem dX11_song_66 : decode cX11_song 66 = .ok (.iaload, 1) := by decide +kernel
theorem dX11_song_67 : decode cX11_song 67 = .ok (.ireturn, 1) := by decide +kernel
theorem dX11_song_68 : decode cX11_song 68 = .ok (.aload_n 3, 1) := by decide +kernel
theorem dX11_song_69 : decode cX11_song 69 = .ok (.getfield 209, 3) := by decide +kernel
theorem dX11_song_72 : decode cX11_song 72 = .ok (.iload_n 1, 1) := by decide +kernel
theorem dX11_song_73 : decode cX11_song 73 = .ok (.iaload, 1) := by decide +kernel
theorem dX11_song_74 : decode cX11_song 74 = .ok (.ireturn, 1) := by decide +kernel
theorem dX11_song_75 : decode cX11_song 75 = .ok (.iconst (-1), 1) := by decide +kernel
theorem dX11_song_76 : decode cX11_song 76 = .ok (.ireturn, 1) := by decide +kernel
theorem dX11_at_0 : decode cX11_at 0 = .ok (.iload_n 1, 1) := by decide +kernel
theorem dX11_at_1 : decode cX11_at 1 = .ok (.ifCond .lt 22, 3) := by decide +kernel
theorem dX11_at_4 : decode cX11_at 4 = .ok (.iload_n 1, 1) := by decide +kernel
theorem dX11_at_5 : decode cX11_at 5 = .ok (.iconst 1, 1) := by decide +kernel
theorem dX11_at_6 : decode cX11_at 6 = .ok (.if_icmp .gt 17, 3) := by decide +kernel
theorem dX11_at_9 : decode cX11_at 9 = .ok (.aload_n 0, 1) := by decide +kernel
theorem dX11_at_10 : decode cX11_at 10 = .ok (.getfield 19, 3) := by decide +kernel
theorem dX11_at_13 : decode cX11_at 13 = .ok (.getfield 99, 3) := by decide +kernel
theorem dX11_at_16 : decode cX11_at 16 = .ok (.iload_n 2, 1) := by decide +kernel
theorem dX11_at_17 : decode cX11_at 17 = .ok (.invokevirtual 102, 3) := by decide +kernel
theorem dX11_at_20 : decode cX11_at 20 = .ok (.ifCond .ne 5, 3) := by decide +kernel
theorem dX11_at_23 : decode cX11_at 23 = .ok (.iconst (-1), 1) := by decide +kernel
theorem dX11_at_24 : decode cX11_at 24 = .ok (.ireturn, 1) := by decide +kernel
theorem dX11_at_25 : decode cX11_at 25 = .ok (.aload_n 0, 1) := by decide +kernel
theorem dX11_at_26 : decode cX11_at 26 = .ok (.getfield 19, 3) := by decide +kernel
theorem dX11_at_29 : decode cX11_at 29 = .ok (.getfield 99, 3) := by decide +kernel
theorem dX11_at_32 : decode cX11_at 32 = .ok (.iload_n 1, 1) := by decide +kernel
theorem dX11_at_33 : decode cX11_at 33 = .ok (.iload_n 2, 1) := by decide +kernel
theorem dX11_at_34 : decode cX11_at 34 = .ok (.invokevirtual 212, 3) := by decide +kernel
theorem dX11_at_37 : decode cX11_at 37 = .ok (.ireturn, 1) := by decide +kernel
theorem dX11_after_0 : decode cX11_after 0 = .ok (.aload_n 0, 1) := by decide +kernel
theorem dX11_after_1 : decode cX11_after 1 = .ok (.getfield 19, 3) := by decide +kernel
theorem dX11_after_4 : decode cX11_after 4 = .ok (.getfield 99, 3) := by decide +kernel
theorem dX11_after_7 : decode cX11_after 7 = .ok (.iload_n 1, 1) := by decide +kernel
theorem dX11_after_8 : decode cX11_after 8 = .ok (.invokevirtual 197, 3) := by decide +kernel
theorem dX11_after_11 : decode cX11_after 11 = .ok (.ifCond .eq 22, 3) := by decide +kernel
theorem dX11_after_14 : decode cX11_after 14 = .ok (.aload_n 0, 1) := by decide +kernel
theorem dX11_after_15 : decode cX11_after 15 = .ok (.getfield 19, 3) := by decide +kernel
theorem dX11_after_18 : decode cX11_after 18 = .ok (.getfield 99, 3) := by decide +kernel
theorem dX11_after_21 : decode cX11_after 21 = .ok (.iload_n 2, 1) := by decide +kernel
theorem dX11_after_22 : decode cX11_after 22 = .ok (.invokevirtual 197, 3) := by decide +kernel
theorem dX11_after_25 : decode cX11_after 25 = .ok (.ifCond .eq 8, 3) := by decide +kernel
theorem dX11_after_28 : decode cX11_after 28 = .ok (.iload_n 1, 1) := by decide +kernel
theorem dX11_after_29 : decode cX11_after 29 = .ok (.iload_n 2, 1) := by decide +kernel
theorem dX11_after_30 : decode cX11_after 30 = .ok (.if_icmp .ne 5, 3) := by decide +kernel
theorem dX11_after_33 : decode cX11_after 33 = .ok (.iconst (-1), 1) := by decide +kernel
theorem dX11_after_34 : decode cX11_after 34 = .ok (.ireturn, 1) := by decide +kernel
theorem dX11_after_35 : decode cX11_after 35 = .ok (.aload_n 0, 1) := by decide +kernel
theorem dX11_after_36 : decode cX11_after 36 = .ok (.getfield 19, 3) := by decide +kernel
theorem dX11_after_39 : decode cX11_after 39 = .ok (.getfield 184, 3) := by decide +kernel
theorem dX11_after_42 : decode cX11_after 42 = .ok (.iload_n 1, 1) := by decide +kernel
theorem dX11_after_43 : decode cX11_after 43 = .ok (.iload_n 2, 1) := by decide +kernel
theorem dX11_after_44 : decode cX11_after 44 = .ok (.invokevirtual 216, 3) := by decide +kernel
theorem dX11_after_47 : decode cX11_after 47 = .ok (.ireturn, 1) := by decide +kernel
theorem dX11_known_0 : decode cX11_known 0 = .ok (.aload_n 0, 1) := by decide +kernel
theorem dX11_known_1 : decode cX11_known 1 = .ok (.getfield 19, 3) := by decide +kernel
theorem dX11_known_4 : decode cX11_known 4 = .ok (.getfield 99, 3) := by decide +kernel
theorem dX11_known_7 : decode cX11_known 7 = .ok (.iload_n 1, 1) := by decide +kernel
theorem dX11_known_8 : decode cX11_known 8 = .ok (.invokevirtual 102, 3) := by decide +kernel
theorem dX11_known_11 : decode cX11_known 11 = .ok (.ifCond .eq 18, 3) := by decide +kernel
theorem dX11_known_14 : decode cX11_known 14 = .ok (.aload_n 0, 1) := by decide +kernel
theorem dX11_known_15 : decode cX11_known 15 = .ok (.getfield 19, 3) := by decide +kernel
theorem dX11_known_18 : decode cX11_known 18 = .ok (.getfield 82, 3) := by decide +kernel
theorem dX11_known_21 : decode cX11_known 21 = .ok (.getfield 219, 3) := by decide +kernel
theorem dX11_known_24 : decode cX11_known 24 = .ok (.iload_n 1, 1) := by decide +kernel
theorem dX11_known_25 : decode cX11_known 25 = .ok (.iaload, 1) := by decide +kernel
theorem dX11_known_26 : decode cX11_known 26 = .ok (.goto 4, 3) := by decide +kernel
theorem dX11_known_29 : decode cX11_known 29 = .ok (.iconst (-1), 1) := by decide +kernel
theorem dX11_known_30 : decode cX11_known 30 = .ok (.ireturn, 1) := by decide +kernel
theorem dX11_lawAt_0 : decode cX11_lawAt 0 = .ok (.aload_n 0, 1) := by decide +kernel
theorem dX11_lawAt_1 : decode cX11_lawAt 1 = .ok (.getfield 19, 3) := by decide +kernel
theorem dX11_lawAt_4 : decode cX11_lawAt 4 = .ok (.getfield 99, 3) := by decide +kernel
theorem dX11_lawAt_7 : decode cX11_lawAt 7 = .ok (.iload_n 1, 1) := by decide +kernel
theorem dX11_lawAt_8 : decode cX11_lawAt 8 = .ok (.invokevirtual 102, 3) := by decide +kernel
theorem dX11_lawAt_11 : decode cX11_lawAt 11 = .ok (.ifCond .eq 21, 3) := by decide +kernel
theorem dX11_lawAt_14 : decode cX11_lawAt 14 = .ok (.iload_n 3, 1) := by decide +kernel
theorem dX11_lawAt_15 : decode cX11_lawAt 15 = .ok (.invokestatic 222, 3) := by decide +kernel
theorem dX11_lawAt_18 : decode cX11_lawAt 18 = .ok (.ifCond .eq 14, 3) := by decide +kernel
theorem dX11_lawAt_21 : decode cX11_lawAt 21 = .ok (.iload 4, 2) := by decide +kernel
theorem dX11_lawAt_23 : decode cX11_lawAt 23 = .ok (.ifCond .lt 9, 3) := by decide +kernel
theorem dX11_lawAt_26 : decode cX11_lawAt 26 = .ok (.iload 4, 2) := by decide +kernel
theorem dX11_lawAt_28 : decode cX11_lawAt 28 = .ok (.iconst 2, 1) := by decide +kernel
theorem dX11_lawAt_29 : decode cX11_lawAt 29 = .ok (.if_icmp .le 5, 3) := by decide +kernel
theorem dX11_lawAt_32 : decode cX11_lawAt 32 = .ok (.iconst (-1), 1) := by decide +kernel
theorem dX11_lawAt_33 : decode cX11_lawAt 33 = .ok (.ireturn, 1) := by decide +kernel
theorem dX11_lawAt_34 : decode cX11_lawAt 34 = .ok (.aload_n 0, 1) := by decide +kernel
theorem dX11_lawAt_35 : decode cX11_lawAt 35 = .ok (.getfield 57, 3) := by decide +kernel
theorem dX11_lawAt_38 : decode cX11_lawAt 38 = .ok (.aload_n 0, 1) := by decide +kernel
theorem dX11_lawAt_39 : decode cX11_lawAt 39 = .ok (.getfield 19, 3) := by decide +kernel
theorem dX11_lawAt_42 : decode cX11_lawAt 42 = .ok (.getfield 82, 3) := by decide +kernel
theorem dX11_lawAt_45 : decode cX11_lawAt 45 = .ok (.getfield 225, 3) := by decide +kernel
theorem dX11_lawAt_48 : decode cX11_lawAt 48 = .ok (.aload_n 0, 1) := by decide +kernel
theorem dX11_lawAt_49 : decode cX11_lawAt 49 = .ok (.getfield 19, 3) := by decide +kernel
theorem dX11_lawAt_52 : decode cX11_lawAt 52 = .ok (.getfield 82, 3) := by decide +kernel
theorem dX11_lawAt_55 : decode cX11_lawAt 55 = .ok (.getfield 228, 3) := by decide +kernel
theorem dX11_lawAt_58 : decode cX11_lawAt 58 = .ok (.invokevirtual 231, 3) := by decide +kernel
theorem dX11_lawAt_61 : decode cX11_lawAt 61 = .ok (.aload_n 0, 1) := by decide +kernel
theorem dX11_lawAt_62 : decode cX11_lawAt 62 = .ok (.getfield 57, 3) := by decide +kernel
theorem dX11_lawAt_65 : decode cX11_lawAt 65 = .ok (.iload_n 2, 1) := by decide +kernel
theorem dX11_lawAt_66 : decode cX11_lawAt 66 = .ok (.iload_n 3, 1) := by decide +kernel
theorem dX11_lawAt_67 : decode cX11_lawAt 67 = .ok (.invokevirtual 235, 3) := by decide +kernel
theorem dX11_lawAt_70 : decode cX11_lawAt 70 = .ok (.aload_n 0, 1) := by decide +kernel
theorem dX11_lawAt_71 : decode cX11_lawAt 71 = .ok (.getfield 57, 3) := by decide +kernel
theorem dX11_lawAt_74 : decode cX11_lawAt 74 = .ok (.aload_n 0, 1) := by decide +kernel
theorem dX11_lawAt_75 : decode cX11_lawAt 75 = .ok (.getfield 19, 3) := by decide +kernel
theorem dX11_lawAt_78 : decode cX11_lawAt 78 = .ok (.iload_n 1, 1) := by decide +kernel
theorem dX11_lawAt_79 : decode cX11_lawAt 79 = .ok (.iload 4, 2) := by decide +kernel
theorem dX11_lawAt_81 : decode cX11_lawAt 81 = .ok (.invokevirtual 239, 3) := by decide +kernel
theorem dX11_lawAt_84 : decode cX11_lawAt 84 = .ok (.ireturn, 1) := by decide +kernel
theorem dX11_book_0 : decode cX11_book 0 = .ok (.iload_n 1, 1) := by decide +kernel
theorem dX11_book_1 : decode cX11_book 1 = .ok (.ifCond .lt 26, 3) := by decide +kernel
theorem dX11_book_4 : decode cX11_book 4 = .ok (.iload_n 1, 1) := by decide +kernel
theorem dX11_book_5 : decode cX11_book 5 = .ok (.aload_n 0, 1) := by decide +kernel
theorem dX11_book_6 : decode cX11_book 6 = .ok (.getfield 19, 3) := by decide +kernel
theorem dX11_book_9 : decode cX11_book 9 = .ok (.getfield 82, 3) := by decide +kernel
theorem dX11_book_12 : decode cX11_book 12 = .ok (.getfield 243, 3) := by decide +kernel
theorem dX11_book_15 : decode cX11_book 15 = .ok (.if_icmp .ge 12, 3) := by decide +kernel
theorem dX11_book_18 : decode cX11_book 18 = .ok (.iload_n 2, 1) := by decide +kernel
theorem dX11_book_19 : decode cX11_book 19 = .ok (.ifCond .lt 8, 3) := by decide +kernel
theorem dX11_book_22 : decode cX11_book 22 = .ok (.iload_n 2, 1) := by decide +kernel
theorem dX11_book_23 : decode cX11_book 23 = .ok (.iconst 4, 1) := by decide +kernel
theorem dX11_book_24 : decode cX11_book 24 = .ok (.if_icmp .lt 5, 3) := by decide +kernel
theorem dX11_book_27 : decode cX11_book 27 = .ok (.iconst (-1), 1) := by decide +kernel
theorem dX11_book_28 : decode cX11_book 28 = .ok (.ireturn, 1) := by decide +kernel
theorem dX11_book_29 : decode cX11_book 29 = .ok (.aload_n 0, 1) := by decide +kernel
theorem dX11_book_30 : decode cX11_book 30 = .ok (.getfield 19, 3) := by decide +kernel
theorem dX11_book_33 : decode cX11_book 33 = .ok (.getfield 248, 3) := by decide +kernel
theorem dX11_book_36 : decode cX11_book 36 = .ok (.iload_n 1, 1) := by decide +kernel
theorem dX11_book_37 : decode cX11_book 37 = .ok (.iload_n 2, 1) := by decide +kernel
theorem dX11_book_38 : decode cX11_book 38 = .ok (.invokevirtual 252, 3) := by decide +kernel
theorem dX11_book_41 : decode cX11_book 41 = .ok (.ireturn, 1) := by decide +kernel
theorem dX11_runs_0 : decode cX11_runs 0 = .ok (.aload_n 0, 1) := by decide +kernel
theorem dX11_runs_1 : decode cX11_runs 1 = .ok (.getfield 19, 3) := by decide +kernel
theorem dX11_runs_4 : decode cX11_runs 4 = .ok (.getfield 99, 3) := by decide +kernel
theorem dX11_runs_7 : decode cX11_runs 7 = .ok (.iload_n 1, 1) := by decide +kernel
theorem dX11_runs_8 : decode cX11_runs 8 = .ok (.invokevirtual 102, 3) := by decide +kernel
theorem dX11_runs_11 : decode cX11_runs 11 = .ok (.ifCond .eq 10, 3) := by decide +kernel
theorem dX11_runs_14 : decode cX11_runs 14 = .ok (.iload_n 3, 1) := by decide +kernel
theorem dX11_runs_15 : decode cX11_runs 15 = .ok (.invokestatic 222, 3) := by decide +kernel
theorem dX11_runs_18 : decode cX11_runs 18 = .ok (.ifCond .ne 5, 3) := by decide +kernel
theorem dX11_runs_21 : decode cX11_runs 21 = .ok (.iconst (-1), 1) := by decide +kernel
theorem dX11_runs_22 : decode cX11_runs 22 = .ok (.ireturn, 1) := by decide +kernel
theorem dX11_runs_23 : decode cX11_runs 23 = .ok (.aload_n 0, 1) := by decide +kernel
theorem dX11_runs_24 : decode cX11_runs 24 = .ok (.getfield 57, 3) := by decide +kernel
theorem dX11_runs_27 : decode cX11_runs 27 = .ok (.aload_n 0, 1) := by decide +kernel
theorem dX11_runs_28 : decode cX11_runs 28 = .ok (.getfield 19, 3) := by decide +kernel
theorem dX11_runs_31 : decode cX11_runs 31 = .ok (.getfield 82, 3) := by decide +kernel
theorem dX11_runs_34 : decode cX11_runs 34 = .ok (.getfield 225, 3) := by decide +kernel
theorem dX11_runs_37 : decode cX11_runs 37 = .ok (.aload_n 0, 1) := by decide +kernel
theorem dX11_runs_38 : decode cX11_runs 38 = .ok (.getfield 19, 3) := by decide +kernel
theorem dX11_runs_41 : decode cX11_runs 41 = .ok (.getfield 82, 3) := by decide +kernel
theorem dX11_runs_44 : decode cX11_runs 44 = .ok (.getfield 228, 3) := by decide +kernel
theorem dX11_runs_47 : decode cX11_runs 47 = .ok (.invokevirtual 231, 3) := by decide +kernel
theorem dX11_runs_50 : decode cX11_runs 50 = .ok (.aload_n 0, 1) := by decide +kernel
theorem dX11_runs_51 : decode cX11_runs 51 = .ok (.getfield 57, 3) := by decide +kernel
theorem dX11_runs_54 : decode cX11_runs 54 = .ok (.iload_n 2, 1) := by decide +kernel
theorem dX11_runs_55 : decode cX11_runs 55 = .ok (.iload_n 3, 1) := by decide +kernel
theorem dX11_runs_56 : decode cX11_runs 56 = .ok (.invokevirtual 235, 3) := by decide +kernel
theorem dX11_runs_59 : decode cX11_runs 59 = .ok (.aload_n 0, 1) := by decide +kernel
theorem dX11_runs_60 : decode cX11_runs 60 = .ok (.getfield 57, 3) := by decide +kernel
theorem dX11_runs_63 : decode cX11_runs 63 = .ok (.aload_n 0, 1) := by decide +kernel
theorem dX11_runs_64 : decode cX11_runs 64 = .ok (.getfield 19, 3) := by decide +kernel
theorem dX11_runs_67 : decode cX11_runs 67 = .ok (.iload_n 1, 1) := by decide +kernel
theorem dX11_runs_68 : decode cX11_runs 68 = .ok (.invokevirtual 255, 3) := by decide +kernel
theorem dX11_runs_71 : decode cX11_runs 71 = .ok (.ireturn, 1) := by decide +kernel
theorem dX11_soonest_0 : decode cX11_soonest 0 = .ok (.aload_n 0, 1) := by decide +kernel
theorem dX11_soonest_1 : decode cX11_soonest 1 = .ok (.getfield 19, 3) := by decide +kernel
theorem dX11_soonest_4 : decode cX11_soonest 4 = .ok (.getfield 82, 3) := by decide +kernel
theorem dX11_soonest_7 : decode cX11_soonest 7 = .ok (.getfield 225, 3) := by decide +kernel
theorem dX11_soonest_10 : decode cX11_soonest 10 = .ok (.istore 4, 2) := by decide +kernel
theorem dX11_soonest_12 : decode cX11_soonest 12 = .ok (.iload_n 3, 1) := by decide +kernel
theorem dX11_soonest_13 : decode cX11_soonest 13 = .ok (.ifCond .lt 38, 3) := by decide +kernel
theorem dX11_soonest_16 : decode cX11_soonest 16 = .ok (.iload_n 3, 1) := by decide +kernel
theorem dX11_soonest_17 : decode cX11_soonest 17 = .ok (.iconst 3, 1) := by decide +kernel
theorem dX11_soonest_18 : decode cX11_soonest 18 = .ok (.if_icmp .gt 33, 3) := by decide +kernel
theorem dX11_soonest_21 : decode cX11_soonest 21 = .ok (.aload_n 0, 1) := by decide +kernel
theorem dX11_soonest_22 : decode cX11_soonest 22 = .ok (.getfield 19, 3) := by decide +kernel
theorem dX11_soonest_25 : decode cX11_soonest 25 = .ok (.getfield 99, 3) := by decide +kernel
theorem dX11_soonest_28 : decode cX11_soonest 28 = .ok (.iload_n 1, 1) := by decide +kernel
theorem dX11_soonest_29 : decode cX11_soonest 29 = .ok (.invokevirtual 102, 3) := by decide +kernel
theorem dX11_soonest_32 : decode cX11_soonest 32 = .ok (.ifCond .eq 19, 3) := by decide +kernel
theorem dX11_soonest_35 : decode cX11_soonest 35 = .ok (.aload_n 0, 1) := by decide +kernel
theorem dX11_soonest_36 : decode cX11_soonest 36 = .ok (.getfield 19, 3) := by decide +kernel
theorem dX11_soonest_39 : decode cX11_soonest 39 = .ok (.getfield 99, 3) := by decide +kernel
theorem dX11_soonest_42 : decode cX11_soonest 42 = .ok (.iload 4, 2) := by decide +kernel
theorem dX11_soonest_44 : decode cX11_soonest 44 = .ok (.iload_n 2, 1) := by decide +kernel
theorem dX11_soonest_45 : decode cX11_soonest 45 = .ok (.invokevirtual 259, 3) := by decide +kernel
theorem dX11_soonest_48 : decode cX11_soonest 48 = .ok (.ifCond .ne 7, 3) := by decide +kernel
theorem dX11_soonest_51 : decode cX11_soonest 51 = .ok (.sipush (-1000), 3) := by decide +kernel
theorem dX11_soonest_54 : decode cX11_soonest 54 = .ok (.ireturn, 1) := by decide +kernel
theorem dX11_soonest_55 : decode cX11_soonest 55 = .ok (.aload_n 0, 1) := by decide +kernel
theorem dX11_soonest_56 : decode cX11_soonest 56 = .ok (.getfield 64, 3) := by decide +kernel
theorem dX11_soonest_59 : decode cX11_soonest 59 = .ok (.aload_n 0, 1) := by decide +kernel
theorem dX11_soonest_60 : decode cX11_soonest 60 = .ok (.getfield 19, 3) := by decide +kernel
theorem dX11_soonest_63 : decode cX11_soonest 63 = .ok (.aload_n 0, 1) := by decide +kernel
theorem dX11_soonest_64 : decode cX11_soonest 64 = .ok (.getfield 57, 3) := by decide +kernel
theorem dX11_soonest_67 : decode cX11_soonest 67 = .ok (.iload 4, 2) := by decide +kernel
theorem dX11_soonest_69 : decode cX11_soonest 69 = .ok (.iload_n 1, 1) := by decide +kernel
theorem dX11_soonest_70 : decode cX11_soonest 70 = .ok (.invokevirtual 263, 3) := by decide +kernel
theorem dX11_soonest_73 : decode cX11_soonest 73 = .ok (.aload_n 0, 1) := by decide +kernel
theorem dX11_soonest_74 : decode cX11_soonest 74 = .ok (.getfield 64, 3) := by decide +kernel
theorem dX11_soonest_77 : decode cX11_soonest 77 = .ok (.aload_n 0, 1) := by decide +kernel
theorem dX11_soonest_78 : decode cX11_soonest 78 = .ok (.getfield 19, 3) := by decide +kernel
theorem dX11_soonest_81 : decode cX11_soonest 81 = .ok (.aload_n 0, 1) := by decide +kernel
theorem dX11_soonest_82 : decode cX11_soonest 82 = .ok (.getfield 19, 3) := by decide +kernel
theorem dX11_soonest_85 : decode cX11_soonest 85 = .ok (.getfield 99, 3) := by decide +kernel
theorem dX11_soonest_88 : decode cX11_soonest 88 = .ok (.getfield 203, 3) := by decide +kernel
theorem dX11_soonest_91 : decode cX11_soonest 91 = .ok (.iload_n 2, 1) := by decide +kernel
theorem dX11_soonest_92 : decode cX11_soonest 92 = .ok (.iaload, 1) := by decide +kernel
theorem dX11_soonest_93 : decode cX11_soonest 93 = .ok (.invokevirtual 267, 3) := by decide +kernel
theorem dX11_soonest_96 : decode cX11_soonest 96 = .ok (.aload_n 0, 1) := by decide +kernel
theorem dX11_soonest_97 : decode cX11_soonest 97 = .ok (.getfield 64, 3) := by decide +kernel
theorem dX11_soonest_100 : decode cX11_soonest 100 = .ok (.iload_n 3, 1) := by decide +kernel
theorem dX11_soonest_101 : decode cX11_soonest 101 = .ok (.iconst 0, 1) := by decide +kernel
theorem dX11_soonest_102 : decode cX11_soonest 102 = .ok (.invokevirtual 271, 3) := by decide +kernel
theorem dX11_soonest_105 : decode cX11_soonest 105 = .ok (.ireturn, 1) := by decide +kernel
theorem dX11_turned_0 : decode cX11_turned 0 = .ok (.iconst 1, 1) := by decide +kernel
theorem dX11_turned_1 : decode cX11_turned 1 = .ok (.aload_n 0, 1) := by decide +kernel
theorem dX11_turned_2 : decode cX11_turned 2 = .ok (.getfield 19, 3) := by decide +kernel
theorem dX11_turned_5 : decode cX11_turned 5 = .ok (.getfield 82, 3) := by decide +kernel
theorem dX11_turned_8 : decode cX11_turned 8 = .ok (.getfield 225, 3) := by decide +kernel
theorem dX11_turned_11 : decode cX11_turned 11 = .ok (.isub, 1) := by decide +kernel
theorem dX11_turned_12 : decode cX11_turned 12 = .ok (.istore_n 3, 1) := by decide +kernel
theorem dX11_turned_13 : decode cX11_turned 13 = .ok (.iload_n 2, 1) := by decide +kernel
theorem dX11_turned_14 : decode cX11_turned 14 = .ok (.ifCond .lt 23, 3) := by decide +kernel
theorem dX11_turned_17 : decode cX11_turned 17 = .ok (.iload_n 2, 1) := by decide +kernel
theorem dX11_turned_18 : decode cX11_turned 18 = .ok (.iconst 2, 1) := by decide +kernel
theorem dX11_turned_19 : decode cX11_turned 19 = .ok (.if_icmp .gt 18, 3) := by decide +kernel
theorem dX11_turned_22 : decode cX11_turned 22 = .ok (.aload_n 0, 1) := by decide +kernel
theorem dX11_turned_23 : decode cX11_turned 23 = .ok (.getfield 19, 3) := by decide +kernel
theorem dX11_turned_26 : decode cX11_turned 26 = .ok (.getfield 99, 3) := by decide +kernel
theorem dX11_turned_29 : decode cX11_turned 29 = .ok (.iload_n 3, 1) := by decide +kernel
theorem dX11_turned_30 : decode cX11_turned 30 = .ok (.iload_n 1, 1) := by decide +kernel
theorem dX11_turned_31 : decode cX11_turned 31 = .ok (.invokevirtual 259, 3) := by decide +kernel
theorem dX11_turned_34 : decode cX11_turned 34 = .ok (.ifCond .ne 5, 3) := by decide +kernel
theorem dX11_turned_37 : decode cX11_turned 37 = .ok (.iconst (-1), 1) := by decide +kernel
theorem dX11_turned_38 : decode cX11_turned 38 = .ok (.ireturn, 1) := by decide +kernel
theorem dX11_turned_39 : decode cX11_turned 39 = .ok (.aload_n 0, 1) := by decide +kernel
theorem dX11_turned_40 : decode cX11_turned 40 = .ok (.getfield 64, 3) := by decide +kernel
theorem dX11_turned_43 : decode cX11_turned 43 = .ok (.aload_n 0, 1) := by decide +kernel
theorem dX11_turned_44 : decode cX11_turned 44 = .ok (.getfield 19, 3) := by decide +kernel
theorem dX11_turned_47 : decode cX11_turned 47 = .ok (.aload_n 0, 1) := by decide +kernel
theorem dX11_turned_48 : decode cX11_turned 48 = .ok (.getfield 57, 3) := by decide +kernel
theorem dX11_turned_51 : decode cX11_turned 51 = .ok (.iload_n 3, 1) := by decide +kernel
theorem dX11_turned_52 : decode cX11_turned 52 = .ok (.aload_n 0, 1) := by decide +kernel
theorem dX11_turned_53 : decode cX11_turned 53 = .ok (.getfield 19, 3) := by decide +kernel
theorem dX11_turned_56 : decode cX11_turned 56 = .ok (.getfield 99, 3) := by decide +kernel
theorem dX11_turned_59 : decode cX11_turned 59 = .ok (.getfield 274, 3) := by decide +kernel
theorem dX11_turned_62 : decode cX11_turned 62 = .ok (.aload_n 0, 1) := by decide +kernel
theorem dX11_turned_63 : decode cX11_turned 63 = .ok (.getfield 19, 3) := by decide +kernel
theorem dX11_turned_66 : decode cX11_turned 66 = .ok (.getfield 82, 3) := by decide +kernel
theorem dX11_turned_69 : decode cX11_turned 69 = .ok (.getfield 117, 3) := by decide +kernel
theorem dX11_turned_72 : decode cX11_turned 72 = .ok (.isub, 1) := by decide +kernel
theorem dX11_turned_73 : decode cX11_turned 73 = .ok (.invokevirtual 263, 3) := by decide +kernel
theorem dX11_turned_76 : decode cX11_turned 76 = .ok (.aload_n 0, 1) := by decide +kernel
theorem dX11_turned_77 : decode cX11_turned 77 = .ok (.getfield 64, 3) := by decide +kernel
theorem dX11_turned_80 : decode cX11_turned 80 = .ok (.aload_n 0, 1) := by decide +kernel
theorem dX11_turned_81 : decode cX11_turned 81 = .ok (.getfield 19, 3) := by decide +kernel
theorem dX11_turned_84 : decode cX11_turned 84 = .ok (.aload_n 0, 1) := by decide +kernel
theorem dX11_turned_85 : decode cX11_turned 85 = .ok (.getfield 19, 3) := by decide +kernel
theorem dX11_turned_88 : decode cX11_turned 88 = .ok (.getfield 99, 3) := by decide +kernel
theorem dX11_turned_91 : decode cX11_turned 91 = .ok (.getfield 203, 3) := by decide +kernel
theorem dX11_turned_94 : decode cX11_turned 94 = .ok (.iload_n 1, 1) := by decide +kernel
theorem dX11_turned_95 : decode cX11_turned 95 = .ok (.iaload, 1) := by decide +kernel
theorem dX11_turned_96 : decode cX11_turned 96 = .ok (.invokevirtual 267, 3) := by decide +kernel
theorem dX11_turned_99 : decode cX11_turned 99 = .ok (.aload_n 0, 1) := by decide +kernel
theorem dX11_turned_100 : decode cX11_turned 100 = .ok (.getfield 64, 3) := by decide +kernel
theorem dX11_turned_103 : decode cX11_turned 103 = .ok (.iload_n 2, 1) := by decide +kernel
theorem dX11_turned_104 : decode cX11_turned 104 = .ok (.bipush 8, 2) := by decide +kernel
theorem dX11_turned_106 : decode cX11_turned 106 = .ok (.aload_n 0, 1) := by decide +kernel
theorem dX11_turned_107 : decode cX11_turned 107 = .ok (.getfield 19, 3) := by decide +kernel
theorem dX11_turned_110 : decode cX11_turned 110 = .ok (.invokevirtual 277, 3) := by decide +kernel
theorem dX11_turned_113 : decode cX11_turned 113 = .ok (.imul, 1) := by decide +kernel
theorem dX11_turned_114 : decode cX11_turned 114 = .ok (.invokevirtual 271, 3) := by decide +kernel
theorem dX11_turned_117 : decode cX11_turned 117 = .ok (.ireturn, 1) := by decide +kernel
theorem dX11_unsure_0 : decode cX11_unsure 0 = .ok (.iload_n 1, 1) := by decide +kernel
theorem dX11_unsure_1 : decode cX11_unsure 1 = .ok (.tableswitch 83 0 3 #[31, 39, 47, 65], 31) := by decide +kernel
theorem dX11_unsure_32 : decode cX11_unsure 32 = .ok (.aload_n 0, 1) := by decide +kernel
theorem dX11_unsure_33 : decode cX11_unsure 33 = .ok (.getfield 19, 3) := by decide +kernel
theorem dX11_unsure_36 : decode cX11_unsure 36 = .ok (.invokevirtual 281, 3) := by decide +kernel
theorem dX11_unsure_39 : decode cX11_unsure 39 = .ok (.ireturn, 1) := by decide +kernel
theorem dX11_unsure_40 : decode cX11_unsure 40 = .ok (.aload_n 0, 1) := by decide +kernel
theorem dX11_unsure_41 : decode cX11_unsure 41 = .ok (.getfield 19, 3) := by decide +kernel
theorem dX11_unsure_44 : decode cX11_unsure 44 = .ok (.invokevirtual 284, 3) := by decide +kernel
theorem dX11_unsure_47 : decode cX11_unsure 47 = .ok (.ireturn, 1) := by decide +kernel
theorem dX11_unsure_48 : decode cX11_unsure 48 = .ok (.aload_n 0, 1) := by decide +kernel
theorem dX11_unsure_49 : decode cX11_unsure 49 = .ok (.getfield 19, 3) := by decide +kernel
theorem dX11_unsure_52 : decode cX11_unsure 52 = .ok (.bipush 98, 2) := by decide +kernel
theorem dX11_unsure_54 : decode cX11_unsure 54 = .ok (.invokevirtual 287, 3) := by decide +kernel
theorem dX11_unsure_57 : decode cX11_unsure 57 = .ok (.ifCond .eq 7, 3) := by decide +kernel
theorem dX11_unsure_60 : decode cX11_unsure 60 = .ok (.iconst 1, 1) := by decide +kernel
theorem dX11_unsure_61 : decode cX11_unsure 61 = .ok (.goto 4, 3) := by decide +kernel
theorem dX11_unsure_64 : decode cX11_unsure 64 = .ok (.iconst 0, 1) := by decide +kernel
theorem dX11_unsure_65 : decode cX11_unsure 65 = .ok (.ireturn, 1) := by decide +kernel
theorem dX11_unsure_66 : decode cX11_unsure 66 = .ok (.aload_n 0, 1) := by decide +kernel
theorem dX11_unsure_67 : decode cX11_unsure 67 = .ok (.getfield 19, 3) := by decide +kernel
theorem dX11_unsure_70 : decode cX11_unsure 70 = .ok (.bipush 99, 2) := by decide +kernel
theorem dX11_unsure_72 : decode cX11_unsure 72 = .ok (.invokevirtual 287, 3) := by decide +kernel
theorem dX11_unsure_75 : decode cX11_unsure 75 = .ok (.ifCond .eq 7, 3) := by decide +kernel
theorem dX11_unsure_78 : decode cX11_unsure 78 = .ok (.iconst 1, 1) := by decide +kernel
theorem dX11_unsure_79 : decode cX11_unsure 79 = .ok (.goto 4, 3) := by decide +kernel
theorem dX11_unsure_82 : decode cX11_unsure 82 = .ok (.iconst 0, 1) := by decide +kernel
theorem dX11_unsure_83 : decode cX11_unsure 83 = .ok (.ireturn, 1) := by decide +kernel
theorem dX11_unsure_84 : decode cX11_unsure 84 = .ok (.iconst (-1), 1) := by decide +kernel
theorem dX11_unsure_85 : decode cX11_unsure 85 = .ok (.ireturn, 1) := by decide +kernel
theorem dX11_tells_0 : decode cX11_tells 0 = .ok (.iload_n 1, 1) := by decide +kernel
theorem dX11_tells_1 : decode cX11_tells 1 = .ok (.ifCond .lt 8, 3) := by decide +kernel
theorem dX11_tells_4 : decode cX11_tells 4 = .ok (.iload_n 1, 1) := by decide +kernel
theorem dX11_tells_5 : decode cX11_tells 5 = .ok (.iconst 2, 1) := by decide +kernel
theorem dX11_tells_6 : decode cX11_tells 6 = .ok (.if_icmp .le 5, 3) := by decide +kernel
theorem dX11_tells_9 : decode cX11_tells 9 = .ok (.iconst (-1), 1) := by decide +kernel
theorem dX11_tells_10 : decode cX11_tells 10 = .ok (.ireturn, 1) := by decide +kernel
theorem dX11_tells_11 : decode cX11_tells 11 = .ok (.aload_n 0, 1) := by decide +kernel
theorem dX11_tells_12 : decode cX11_tells 12 = .ok (.getfield 64, 3) := by decide +kernel
theorem dX11_tells_15 : decode cX11_tells 15 = .ok (.aload_n 0, 1) := by decide +kernel
theorem dX11_tells_16 : decode cX11_tells 16 = .ok (.getfield 19, 3) := by decide +kernel
theorem dX11_tells_19 : decode cX11_tells 19 = .ok (.aload_n 0, 1) := by decide +kernel
theorem dX11_tells_20 : decode cX11_tells 20 = .ok (.getfield 57, 3) := by decide +kernel
theorem dX11_tells_23 : decode cX11_tells 23 = .ok (.invokevirtual 290, 3) := by decide +kernel
theorem dX11_tells_26 : decode cX11_tells 26 = .ok (.aload_n 0, 1) := by decide +kernel
theorem dX11_tells_27 : decode cX11_tells 27 = .ok (.getfield 64, 3) := by decide +kernel
theorem dX11_tells_30 : decode cX11_tells 30 = .ok (.aload_n 0, 1) := by decide +kernel
theorem dX11_tells_31 : decode cX11_tells 31 = .ok (.getfield 19, 3) := by decide +kernel
theorem dX11_tells_34 : decode cX11_tells 34 = .ok (.invokevirtual 294, 3) := by decide +kernel
theorem dX11_tells_37 : decode cX11_tells 37 = .ok (.iload_n 1, 1) := by decide +kernel
theorem dX11_tells_38 : decode cX11_tells 38 = .ok (.ifCond .ne 11, 3) := by decide +kernel
theorem dX11_tells_41 : decode cX11_tells 41 = .ok (.aload_n 0, 1) := by decide +kernel
theorem dX11_tells_42 : decode cX11_tells 42 = .ok (.getfield 64, 3) := by decide +kernel
theorem dX11_tells_45 : decode cX11_tells 45 = .ok (.getfield 298, 3) := by decide +kernel
theorem dX11_tells_48 : decode cX11_tells 48 = .ok (.ireturn, 1) := by decide +kernel
theorem dX11_tells_49 : decode cX11_tells 49 = .ok (.iload_n 1, 1) := by decide +kernel
theorem dX11_tells_50 : decode cX11_tells 50 = .ok (.iconst 1, 1) := by decide +kernel
theorem dX11_tells_51 : decode cX11_tells 51 = .ok (.if_icmp .ne 13, 3) := by decide +kernel
theorem dX11_tells_54 : decode cX11_tells 54 = .ok (.aload_n 0, 1) := by decide +kernel
theorem dX11_tells_55 : decode cX11_tells 55 = .ok (.getfield 64, 3) := by decide +kernel
theorem dX11_tells_58 : decode cX11_tells 58 = .ok (.getfield 301, 3) := by decide +kernel
theorem dX11_tells_61 : decode cX11_tells 61 = .ok (.goto 10, 3) := by decide +kernel
theorem dX11_tells_64 : decode cX11_tells 64 = .ok (.aload_n 0, 1) := by decide +kernel
theorem dX11_tells_65 : decode cX11_tells 65 = .ok (.getfield 64, 3) := by decide +kernel
theorem dX11_tells_68 : decode cX11_tells 68 = .ok (.getfield 304, 3) := by decide +kernel
theorem dX11_tells_71 : decode cX11_tells 71 = .ok (.ireturn, 1) := by decide +kernel
theorem dX11_card_0 : decode cX11_card 0 = .ok (.iload_n 1, 1) := by decide +kernel
theorem dX11_card_1 : decode cX11_card 1 = .ok (.iconst 1, 1) := by decide +kernel
theorem dX11_card_2 : decode cX11_card 2 = .ok (.if_icmp .lt 18, 3) := by decide +kernel
theorem dX11_card_5 : decode cX11_card 5 = .ok (.iload_n 1, 1) := by decide +kernel
theorem dX11_card_6 : decode cX11_card 6 = .ok (.bipush 6, 2) := by decide +kernel
theorem dX11_card_8 : decode cX11_card 8 = .ok (.if_icmp .gt 12, 3) := by decide +kernel
theorem dX11_card_11 : decode cX11_card 11 = .ok (.iload_n 2, 1) := by decide +kernel
theorem dX11_card_12 : decode cX11_card 12 = .ok (.ifCond .lt 8, 3) := by decide +kernel
theorem dX11_card_15 : decode cX11_card 15 = .ok (.iload_n 2, 1) := by decide +kernel
theorem dX11_card_16 : decode cX11_card 16 = .ok (.iconst 1, 1) := by decide +kernel
theorem dX11_card_17 : decode cX11_card 17 = .ok (.if_icmp .le 5, 3) := by decide +kernel
theorem dX11_card_20 : decode cX11_card 20 = .ok (.iconst (-1), 1) := by decide +kernel
theorem dX11_card_21 : decode cX11_card 21 = .ok (.ireturn, 1) := by decide +kernel
theorem dX11_card_22 : decode cX11_card 22 = .ok (.aload_n 0, 1) := by decide +kernel
theorem dX11_card_23 : decode cX11_card 23 = .ok (.getfield 71, 3) := by decide +kernel
theorem dX11_card_26 : decode cX11_card 26 = .ok (.aload_n 0, 1) := by decide +kernel
theorem dX11_card_27 : decode cX11_card 27 = .ok (.getfield 19, 3) := by decide +kernel
theorem dX11_card_30 : decode cX11_card 30 = .ok (.getfield 99, 3) := by decide +kernel
theorem dX11_card_33 : decode cX11_card 33 = .ok (.iload_n 1, 1) := by decide +kernel
theorem dX11_card_34 : decode cX11_card 34 = .ok (.invokevirtual 307, 3) := by decide +kernel
theorem dX11_card_37 : decode cX11_card 37 = .ok (.iload_n 2, 1) := by decide +kernel
theorem dX11_card_38 : decode cX11_card 38 = .ok (.ifCond .ne 13, 3) := by decide +kernel
theorem dX11_card_41 : decode cX11_card 41 = .ok (.aload_n 0, 1) := by decide +kernel
theorem dX11_card_42 : decode cX11_card 42 = .ok (.getfield 71, 3) := by decide +kernel
theorem dX11_card_45 : decode cX11_card 45 = .ok (.getfield 311, 3) := by decide +kernel
theorem dX11_card_48 : decode cX11_card 48 = .ok (.goto 10, 3) := by decide +kernel
theorem dX11_card_51 : decode cX11_card 51 = .ok (.aload_n 0, 1) := by decide +kernel
theorem dX11_card_52 : decode cX11_card 52 = .ok (.getfield 71, 3) := by decide +kernel
theorem dX11_card_55 : decode cX11_card 55 = .ok (.getfield 314, 3) := by decide +kernel
theorem dX11_card_58 : decode cX11_card 58 = .ok (.ireturn, 1) := by decide +kernel
theorem dX11_order_0 : decode cX11_order 0 = .ok (.aload_n 0, 1) := by decide +kernel
theorem dX11_order_1 : decode cX11_order 1 = .ok (.getfield 19, 3) := by decide +kernel
theorem dX11_order_4 : decode cX11_order 4 = .ok (.getfield 99, 3) := by decide +kernel
theorem dX11_order_7 : decode cX11_order 7 = .ok (.aload_n 0, 1) := by decide +kernel
theorem dX11_order_8 : decode cX11_order 8 = .ok (.getfield 19, 3) := by decide +kernel
theorem dX11_order_11 : decode cX11_order 11 = .ok (.getfield 82, 3) := by decide +kernel
theorem dX11_order_14 : decode cX11_order 14 = .ok (.getfield 225, 3) := by decide +kernel
theorem dX11_order_17 : decode cX11_order 17 = .ok (.invokevirtual 317, 3) := by decide +kernel
theorem dX11_order_20 : decode cX11_order 20 = .ok (.istore_n 2, 1) := by decide +kernel
theorem dX11_order_21 : decode cX11_order 21 = .ok (.iload_n 1, 1) := by decide +kernel
theorem dX11_order_22 : decode cX11_order 22 = .ok (.ifCond .eq 17, 3) := by decide +kernel
theorem dX11_order_25 : decode cX11_order 25 = .ok (.iload_n 1, 1) := by decide +kernel
theorem dX11_order_26 : decode cX11_order 26 = .ok (.bipush 10, 2) := by decide +kernel
theorem dX11_order_28 : decode cX11_order 28 = .ok (.if_icmp .lt 15, 3) := by decide +kernel
theorem dX11_order_31 : decode cX11_order 31 = .ok (.iload_n 1, 1) := by decide +kernel
theorem dX11_order_32 : decode cX11_order 32 = .ok (.bipush 10, 2) := by decide +kernel
theorem dX11_order_34 : decode cX11_order 34 = .ok (.isub, 1) := by decide +kernel
theorem dX11_order_35 : decode cX11_order 35 = .ok (.iload_n 2, 1) := by decide +kernel
theorem dX11_order_36 : decode cX11_order 36 = .ok (.if_icmp .ge 7, 3) := by decide +kernel
theorem dX11_order_39 : decode cX11_order 39 = .ok (.iconst 1, 1) := by decide +kernel
theorem dX11_order_40 : decode cX11_order 40 = .ok (.goto 4, 3) := by decide +kernel
theorem dX11_order_43 : decode cX11_order 43 = .ok (.iconst 0, 1) := by decide +kernel
theorem dX11_order_44 : decode cX11_order 44 = .ok (.istore_n 3, 1) := by decide +kernel
theorem dX11_order_45 : decode cX11_order 45 = .ok (.iload_n 2, 1) := by decide +kernel
theorem dX11_order_46 : decode cX11_order 46 = .ok (.bipush 8, 2) := by decide +kernel
theorem dX11_order_48 : decode cX11_order 48 = .ok (.if_icmp .gt 7, 3) := by decide +kernel
theorem dX11_order_51 : decode cX11_order 51 = .ok (.iload_n 3, 1) := by decide +kernel
theorem dX11_order_52 : decode cX11_order 52 = .ok (.ifCond .ne 5, 3) := by decide +kernel
theorem dX11_order_55 : decode cX11_order 55 = .ok (.iconst (-1), 1) := by decide +kernel
theorem dX11_order_56 : decode cX11_order 56 = .ok (.ireturn, 1) := by decide +kernel
theorem dX11_order_57 : decode cX11_order 57 = .ok (.aload_n 0, 1) := by decide +kernel
theorem dX11_order_58 : decode cX11_order 58 = .ok (.getfield 71, 3) := by decide +kernel
theorem dX11_order_61 : decode cX11_order 61 = .ok (.aload_n 0, 1) := by decide +kernel
theorem dX11_order_62 : decode cX11_order 62 = .ok (.getfield 19, 3) := by decide +kernel
theorem dX11_order_65 : decode cX11_order 65 = .ok (.invokevirtual 320, 3) := by decide +kernel
theorem dX11_order_68 : decode cX11_order 68 = .ok (.iload_n 1, 1) := by decide +kernel
theorem dX11_order_69 : decode cX11_order 69 = .ok (.ifCond .ne 13, 3) := by decide +kernel
theorem dX11_order_72 : decode cX11_order 72 = .ok (.aload_n 0, 1) := by decide +kernel
theorem dX11_order_73 : decode cX11_order 73 = .ok (.getfield 71, 3) := by decide +kernel
theorem dX11_order_76 : decode cX11_order 76 = .ok (.getfield 311, 3) := by decide +kernel
theorem dX11_order_79 : decode cX11_order 79 = .ok (.goto 14, 3) := by decide +kernel
theorem dX11_order_82 : decode cX11_order 82 = .ok (.aload_n 0, 1) := by decide +kernel
theorem dX11_order_83 : decode cX11_order 83 = .ok (.getfield 71, 3) := by decide +kernel
theorem dX11_order_86 : decode cX11_order 86 = .ok (.iload_n 1, 1) := by decide +kernel
theorem dX11_order_87 : decode cX11_order 87 = .ok (.bipush 10, 2) := by decide +kernel
theorem dX11_order_89 : decode cX11_order 89 = .ok (.isub, 1) := by decide +kernel
theorem dX11_order_90 : decode cX11_order 90 = .ok (.invokevirtual 323, 3) := by decide +kernel
theorem dX11_order_93 : decode cX11_order 93 = .ok (.ireturn, 1) := by decide +kernel
theorem dX11_halves_0 : decode cX11_halves 0 = .ok (.aload_n 0, 1) := by decide +kernel
theorem dX11_halves_1 : decode cX11_halves 1 = .ok (.getfield 19, 3) := by decide +kernel
theorem dX11_halves_4 : decode cX11_halves 4 = .ok (.getfield 99, 3) := by decide +kernel
theorem dX11_halves_7 : decode cX11_halves 7 = .ok (.getfield 163, 3) := by decide +kernel
theorem dX11_halves_10 : decode cX11_halves 10 = .ok (.bipush 12, 2) := by decide +kernel
theorem dX11_halves_12 : decode cX11_halves 12 = .ok (.if_icmp .gt 12, 3) := by decide +kernel
theorem dX11_halves_15 : decode cX11_halves 15 = .ok (.iload_n 1, 1) := by decide +kernel
theorem dX11_halves_16 : decode cX11_halves 16 = .ok (.ifCond .lt 8, 3) := by decide +kernel
theorem dX11_halves_19 : decode cX11_halves 19 = .ok (.iload_n 1, 1) := by decide +kernel
theorem dX11_halves_20 : decode cX11_halves 20 = .ok (.iconst 1, 1) := by decide +kernel
theorem dX11_halves_21 : decode cX11_halves 21 = .ok (.if_icmp .le 5, 3) := by decide +kernel
theorem dX11_halves_24 : decode cX11_halves 24 = .ok (.iconst (-1), 1) := by decide +kernel
theorem dX11_halves_25 : decode cX11_halves 25 = .ok (.ireturn, 1) := by decide +kernel
theorem dX11_halves_26 : decode cX11_halves 26 = .ok (.aload_n 0, 1) := by decide +kernel
theorem dX11_halves_27 : decode cX11_halves 27 = .ok (.getfield 71, 3) := by decide +kernel
theorem dX11_halves_30 : decode cX11_halves 30 = .ok (.aload_n 0, 1) := by decide +kernel
theorem dX11_halves_31 : decode cX11_halves 31 = .ok (.getfield 19, 3) := by decide +kernel
theorem dX11_halves_34 : decode cX11_halves 34 = .ok (.getfield 99, 3) := by decide +kernel
theorem dX11_halves_37 : decode cX11_halves 37 = .ok (.invokevirtual 326, 3) := by decide +kernel
theorem dX11_halves_40 : decode cX11_halves 40 = .ok (.ifCond .ne 5, 3) := by decide +kernel
theorem dX11_halves_43 : decode cX11_halves 43 = .ok (.iconst (-1), 1) := by decide +kernel
theorem dX11_halves_44 : decode cX11_halves 44 = .ok (.ireturn, 1) := by decide +kernel
theorem dX11_halves_45 : decode cX11_halves 45 = .ok (.iload_n 1, 1) := by decide +kernel
theorem dX11_halves_46 : decode cX11_halves 46 = .ok (.ifCond .ne 13, 3) := by decide +kernel
theorem dX11_halves_49 : decode cX11_halves 49 = .ok (.aload_n 0, 1) := by decide +kernel
theorem dX11_halves_50 : decode cX11_halves 50 = .ok (.getfield 71, 3) := by decide +kernel
theorem dX11_halves_53 : decode cX11_halves 53 = .ok (.getfield 311, 3) := by decide +kernel
theorem dX11_halves_56 : decode cX11_halves 56 = .ok (.goto 10, 3) := by decide +kernel
theorem dX11_halves_59 : decode cX11_halves 59 = .ok (.aload_n 0, 1) := by decide +kernel
theorem dX11_halves_60 : decode cX11_halves 60 = .ok (.getfield 71, 3) := by decide +kernel
theorem dX11_halves_63 : decode cX11_halves 63 = .ok (.getfield 314, 3) := by decide +kernel
theorem dX11_halves_66 : decode cX11_halves 66 = .ok (.ireturn, 1) := by decide +kernel
theorem dX11_worn_0 : decode cX11_worn 0 = .ok (.iload_n 1, 1) := by decide +kernel
theorem dX11_worn_1 : decode cX11_worn 1 = .ok (.iconst (-1), 1) := by decide +kernel
theorem dX11_worn_2 : decode cX11_worn 2 = .ok (.if_icmp .ne 13, 3) := by decide +kernel
theorem dX11_worn_5 : decode cX11_worn 5 = .ok (.aload_n 0, 1) := by decide +kernel
theorem dX11_worn_6 : decode cX11_worn 6 = .ok (.getfield 19, 3) := by decide +kernel
theorem dX11_worn_9 : decode cX11_worn 9 = .ok (.iconst 0, 1) := by decide +kernel
theorem dX11_worn_10 : decode cX11_worn 10 = .ok (.putfield 330, 3) := by decide +kernel
theorem dX11_worn_13 : decode cX11_worn 13 = .ok (.iconst 0, 1) := by decide +kernel
theorem dX11_worn_14 : decode cX11_worn 14 = .ok (.ireturn, 1) := by decide +kernel
theorem dX11_worn_15 : decode cX11_worn 15 = .ok (.aload_n 0, 1) := by decide +kernel
theorem dX11_worn_16 : decode cX11_worn 16 = .ok (.getfield 19, 3) := by decide +kernel
theorem dX11_worn_19 : decode cX11_worn 19 = .ok (.getfield 99, 3) := by decide +kernel
theorem dX11_worn_22 : decode cX11_worn 22 = .ok (.iload_n 1, 1) := by decide +kernel
theorem dX11_worn_23 : decode cX11_worn 23 = .ok (.invokevirtual 102, 3) := by decide +kernel
theorem dX11_worn_26 : decode cX11_worn 26 = .ok (.ifCond .eq 14, 3) := by decide +kernel
theorem dX11_worn_29 : decode cX11_worn 29 = .ok (.iload_n 2, 1) := by decide +kernel
theorem dX11_worn_30 : decode cX11_worn 30 = .ok (.iconst 1, 1) := by decide +kernel
theorem dX11_worn_31 : decode cX11_worn 31 = .ok (.if_icmp .lt 9, 3) := by decide +kernel
theorem dX11_worn_34 : decode cX11_worn 34 = .ok (.iload_n 2, 1) := by decide +kernel
theorem dX11_worn_35 : decode cX11_worn 35 = .ok (.bipush 99, 2) := by decide +kernel
theorem dX11_worn_37 : decode cX11_worn 37 = .ok (.if_icmp .le 5, 3) := by decide +kernel
theorem dX11_worn_40 : decode cX11_worn 40 = .ok (.iconst (-1), 1) := by decide +kernel
theorem dX11_worn_41 : decode cX11_worn 41 = .ok (.ireturn, 1) := by decide +kernel
theorem dX11_worn_42 : decode cX11_worn 42 = .ok (.aload_n 0, 1) := by decide +kernel
theorem dX11_worn_43 : decode cX11_worn 43 = .ok (.getfield 19, 3) := by decide +kernel
theorem dX11_worn_46 : decode cX11_worn 46 = .ok (.iload_n 1, 1) := by decide +kernel
theorem dX11_worn_47 : decode cX11_worn 47 = .ok (.iload_n 2, 1) := by decide +kernel
theorem dX11_worn_48 : decode cX11_worn 48 = .ok (.invokevirtual 333, 3) := by decide +kernel
theorem dX11_worn_51 : decode cX11_worn 51 = .ok (.ifCond .eq 13, 3) := by decide +kernel
theorem dX11_worn_54 : decode cX11_worn 54 = .ok (.aload_n 0, 1) := by decide +kernel
theorem dX11_worn_55 : decode cX11_worn 55 = .ok (.getfield 19, 3) := by decide +kernel
theorem dX11_worn_58 : decode cX11_worn 58 = .ok (.getfield 330, 3) := by decide +kernel
theorem dX11_worn_61 : decode cX11_worn 61 = .ok (.goto 4, 3) := by decide +kernel
theorem dX11_worn_64 : decode cX11_worn 64 = .ok (.iconst (-1), 1) := by decide +kernel
theorem dX11_worn_65 : decode cX11_worn 65 = .ok (.ireturn, 1) := by decide +kernel
theorem dX11_sought_0 : decode cX11_sought 0 = .ok (.aload_n 0, 1) := by decide +kernel
theorem dX11_sought_1 : decode cX11_sought 1 = .ok (.getfield 19, 3) := by decide +kernel
theorem dX11_sought_4 : decode cX11_sought 4 = .ok (.getfield 99, 3) := by decide +kernel
theorem dX11_sought_7 : decode cX11_sought 7 = .ok (.aload_n 0, 1) := by decide +kernel
theorem dX11_sought_8 : decode cX11_sought 8 = .ok (.getfield 19, 3) := by decide +kernel
theorem dX11_sought_11 : decode cX11_sought 11 = .ok (.getfield 82, 3) := by decide +kernel
theorem dX11_sought_14 : decode cX11_sought 14 = .ok (.getfield 225, 3) := by decide +kernel
theorem dX11_sought_17 : decode cX11_sought 17 = .ok (.iload_n 1, 1) := by decide +kernel
theorem dX11_sought_18 : decode cX11_sought 18 = .ok (.invokevirtual 259, 3) := by decide +kernel
theorem dX11_sought_21 : decode cX11_sought 21 = .ok (.ifCond .ne 5, 3) := by decide +kernel
theorem dX11_sought_24 : decode cX11_sought 24 = .ok (.iconst (-1), 1) := by decide +kernel
theorem dX11_sought_25 : decode cX11_sought 25 = .ok (.ireturn, 1) := by decide +kernel
theorem dX11_sought_26 : decode cX11_sought 26 = .ok (.aload_n 0, 1) := by decide +kernel
theorem dX11_sought_27 : decode cX11_sought 27 = .ok (.getfield 19, 3) := by decide +kernel
theorem dX11_sought_30 : decode cX11_sought 30 = .ok (.aload_n 0, 1) := by decide +kernel
theorem dX11_sought_31 : decode cX11_sought 31 = .ok (.getfield 19, 3) := by decide +kernel
theorem dX11_sought_34 : decode cX11_sought 34 = .ok (.getfield 99, 3) := by decide +kernel
theorem dX11_sought_37 : decode cX11_sought 37 = .ok (.getfield 203, 3) := by decide +kernel
theorem dX11_sought_40 : decode cX11_sought 40 = .ok (.iload_n 1, 1) := by decide +kernel
theorem dX11_sought_41 : decode cX11_sought 41 = .ok (.iaload, 1) := by decide +kernel
theorem dX11_sought_42 : decode cX11_sought 42 = .ok (.invokevirtual 336, 3) := by decide +kernel
theorem dX11_sought_45 : decode cX11_sought 45 = .ok (.ireturn, 1) := by decide +kernel
theorem dX11_most_0 : decode cX11_most 0 = .ok (.aload_n 0, 1) := by decide +kernel
theorem dX11_most_1 : decode cX11_most 1 = .ok (.getfield 19, 3) := by decide +kernel
theorem dX11_most_4 : decode cX11_most 4 = .ok (.invokevirtual 339, 3) := by decide +kernel
theorem dX11_most_7 : decode cX11_most 7 = .ok (.ireturn, 1) := by decide +kernel
theorem dX11_rule_0 : decode cX11_rule 0 = .ok (.iload_n 1, 1) := by decide +kernel
theorem dX11_rule_1 : decode cX11_rule 1 = .ok (.ifCond .lt 9, 3) := by decide +kernel
theorem dX11_rule_4 : decode cX11_rule 4 = .ok (.iload_n 1, 1) := by decide +kernel
theorem dX11_rule_5 : decode cX11_rule 5 = .ok (.bipush 30, 2) := by decide +kernel
theorem dX11_rule_7 : decode cX11_rule 7 = .ok (.if_icmp .le 7, 3) := by decide +kernel
theorem dX11_rule_10 : decode cX11_rule 10 = .ok (.ldc2_w 342, 3) := by decide +kernel
theorem dX11_rule_13 : decode cX11_rule 13 = .ok (.lreturn, 1) := by decide +kernel
theorem dX11_rule_14 : decode cX11_rule 14 = .ok (.aload_n 0, 1) := by decide +kernel
theorem dX11_rule_15 : decode cX11_rule 15 = .ok (.getfield 64, 3) := by decide +kernel
theorem dX11_rule_18 : decode cX11_rule 18 = .ok (.aload_n 0, 1) := by decide +kernel
theorem dX11_rule_19 : decode cX11_rule 19 = .ok (.getfield 19, 3) := by decide +kernel
theorem dX11_rule_22 : decode cX11_rule 22 = .ok (.aload_n 0, 1) := by decide +kernel
theorem dX11_rule_23 : decode cX11_rule 23 = .ok (.getfield 57, 3) := by decide +kernel
theorem dX11_rule_26 : decode cX11_rule 26 = .ok (.aload_n 0, 1) := by decide +kernel
theorem dX11_rule_27 : decode cX11_rule 27 = .ok (.getfield 19, 3) := by decide +kernel
theorem dX11_rule_30 : decode cX11_rule 30 = .ok (.getfield 82, 3) := by decide +kernel
theorem dX11_rule_33 : decode cX11_rule 33 = .ok (.getfield 225, 3) := by decide +kernel
theorem dX11_rule_36 : decode cX11_rule 36 = .ok (.aload_n 0, 1) := by decide +kernel
theorem dX11_rule_37 : decode cX11_rule 37 = .ok (.getfield 19, 3) := by decide +kernel
theorem dX11_rule_40 : decode cX11_rule 40 = .ok (.getfield 82, 3) := by decide +kernel
theorem dX11_rule_43 : decode cX11_rule 43 = .ok (.getfield 117, 3) := by decide +kernel
theorem dX11_rule_46 : decode cX11_rule 46 = .ok (.invokevirtual 263, 3) := by decide +kernel
theorem dX11_rule_49 : decode cX11_rule 49 = .ok (.aload_n 0, 1) := by decide +kernel
theorem dX11_rule_50 : decode cX11_rule 50 = .ok (.getfield 64, 3) := by decide +kernel
theorem dX11_rule_53 : decode cX11_rule 53 = .ok (.aload_n 0, 1) := by decide +kernel
theorem dX11_rule_54 : decode cX11_rule 54 = .ok (.getfield 19, 3) := by decide +kernel
theorem dX11_rule_57 : decode cX11_rule 57 = .ok (.iload_n 1, 1) := by decide +kernel
theorem dX11_rule_58 : decode cX11_rule 58 = .ok (.invokevirtual 344, 3) := by decide +kernel
theorem dX11_rule_61 : decode cX11_rule 61 = .ok (.lreturn, 1) := by decide +kernel
theorem dX11_best_0 : decode cX11_best 0 = .ok (.aload_n 0, 1) := by decide +kernel
theorem dX11_best_1 : decode cX11_best 1 = .ok (.getfield 64, 3) := by decide +kernel
theorem dX11_best_4 : decode cX11_best 4 = .ok (.aload_n 0, 1) := by decide +kernel
theorem dX11_best_5 : decode cX11_best 5 = .ok (.getfield 19, 3) := by decide +kernel
theorem dX11_best_8 : decode cX11_best 8 = .ok (.aload_n 0, 1) := by decide +kernel
theorem dX11_best_9 : decode cX11_best 9 = .ok (.getfield 57, 3) := by decide +kernel
theorem dX11_best_12 : decode cX11_best 12 = .ok (.aload_n 0, 1) := by decide +kernel
theorem dX11_best_13 : decode cX11_best 13 = .ok (.getfield 19, 3) := by decide +kernel
theorem dX11_best_16 : decode cX11_best 16 = .ok (.getfield 82, 3) := by decide +kernel
theorem dX11_best_19 : decode cX11_best 19 = .ok (.getfield 225, 3) := by decide +kernel
theorem dX11_best_22 : decode cX11_best 22 = .ok (.aload_n 0, 1) := by decide +kernel
theorem dX11_best_23 : decode cX11_best 23 = .ok (.getfield 19, 3) := by decide +kernel
theorem dX11_best_26 : decode cX11_best 26 = .ok (.getfield 82, 3) := by decide +kernel
theorem dX11_best_29 : decode cX11_best 29 = .ok (.getfield 117, 3) := by decide +kernel
theorem dX11_best_32 : decode cX11_best 32 = .ok (.invokevirtual 263, 3) := by decide +kernel
theorem dX11_best_35 : decode cX11_best 35 = .ok (.aload_n 0, 1) := by decide +kernel
theorem dX11_best_36 : decode cX11_best 36 = .ok (.getfield 64, 3) := by decide +kernel
theorem dX11_best_39 : decode cX11_best 39 = .ok (.aload_n 0, 1) := by decide +kernel
theorem dX11_best_40 : decode cX11_best 40 = .ok (.getfield 19, 3) := by decide +kernel
theorem dX11_best_43 : decode cX11_best 43 = .ok (.invokevirtual 348, 3) := by decide +kernel
theorem dX11_best_46 : decode cX11_best 46 = .ok (.ireturn, 1) := by decide +kernel
theorem dX11_goes_0 : decode cX11_goes 0 = .ok (.iload_n 1, 1) := by decide +kernel
theorem dX11_goes_1 : decode cX11_goes 1 = .ok (.ifCond .lt 8, 3) := by decide +kernel
theorem dX11_goes_4 : decode cX11_goes 4 = .ok (.iload_n 1, 1) := by decide +kernel
theorem dX11_goes_5 : decode cX11_goes 5 = .ok (.iconst 3, 1) := by decide +kernel
theorem dX11_goes_6 : decode cX11_goes 6 = .ok (.if_icmp .le 5, 3) := by decide +kernel
theorem dX11_goes_9 : decode cX11_goes 9 = .ok (.iconst (-1), 1) := by decide +kernel
theorem dX11_goes_10 : decode cX11_goes 10 = .ok (.ireturn, 1) := by decide +kernel
theorem dX11_goes_11 : decode cX11_goes 11 = .ok (.aload_n 0, 1) := by decide +kernel
theorem dX11_goes_12 : decode cX11_goes 12 = .ok (.getfield 64, 3) := by decide +kernel
theorem dX11_goes_15 : decode cX11_goes 15 = .ok (.aload_n 0, 1) := by decide +kernel
theorem dX11_goes_16 : decode cX11_goes 16 = .ok (.getfield 19, 3) := by decide +kernel
theorem dX11_goes_19 : decode cX11_goes 19 = .ok (.aload_n 0, 1) := by decide +kernel
theorem dX11_goes_20 : decode cX11_goes 20 = .ok (.getfield 57, 3) := by decide +kernel
theorem dX11_goes_23 : decode cX11_goes 23 = .ok (.invokevirtual 352, 3) := by decide +kernel
theorem dX11_goes_26 : decode cX11_goes 26 = .ok (.aload_n 0, 1) := by decide +kernel
theorem dX11_goes_27 : decode cX11_goes 27 = .ok (.getfield 64, 3) := by decide +kernel
theorem dX11_goes_30 : decode cX11_goes 30 = .ok (.iload_n 1, 1) := by decide +kernel
theorem dX11_goes_31 : decode cX11_goes 31 = .ok (.invokevirtual 355, 3) := by decide +kernel
theorem dX11_goes_34 : decode cX11_goes 34 = .ok (.ireturn, 1) := by decide +kernel
theorem dX11_undo_0 : decode cX11_undo 0 = .ok (.aload_n 0, 1) := by decide +kernel
theorem dX11_undo_1 : decode cX11_undo 1 = .ok (.getfield 90, 3) := by decide +kernel
theorem dX11_undo_4 : decode cX11_undo 4 = .ok (.iconst 1, 1) := by decide +kernel
theorem dX11_undo_5 : decode cX11_undo 5 = .ok (.if_icmp .lt 12, 3) := by decide +kernel
theorem dX11_undo_8 : decode cX11_undo 8 = .ok (.aload_n 0, 1) := by decide +kernel
theorem dX11_undo_9 : decode cX11_undo 9 = .ok (.getfield 90, 3) := by decide +kernel
theorem dX11_undo_12 : decode cX11_undo 12 = .ok (.bipush 6, 2) := by decide +kernel
theorem dX11_undo_14 : decode cX11_undo 14 = .ok (.if_icmp .le 5, 3) := by decide +kernel
theorem dX11_undo_17 : decode cX11_undo 17 = .ok (.iconst 0, 1) := by decide +kernel
theorem dX11_undo_18 : decode cX11_undo 18 = .ok (.ireturn, 1) := by decide +kernel
theorem dX11_undo_19 : decode cX11_undo 19 = .ok (.aload_n 0, 1) := by decide +kernel
theorem dX11_undo_20 : decode cX11_undo 20 = .ok (.dup, 1) := by decide +kernel
theorem dX11_undo_21 : decode cX11_undo 21 = .ok (.getfield 90, 3) := by decide +kernel
theorem dX11_undo_24 : decode cX11_undo 24 = .ok (.iconst 1, 1) := by decide +kernel
theorem dX11_undo_25 : decode cX11_undo 25 = .ok (.isub, 1) := by decide +kernel
theorem dX11_undo_26 : decode cX11_undo 26 = .ok (.putfield 90, 3) := by decide +kernel
theorem dX11_undo_29 : decode cX11_undo 29 = .ok (.aload_n 0, 1) := by decide +kernel
theorem dX11_undo_30 : decode cX11_undo 30 = .ok (.getfield 19, 3) := by decide +kernel
theorem dX11_undo_33 : decode cX11_undo 33 = .ok (.getfield 82, 3) := by decide +kernel
theorem dX11_undo_36 : decode cX11_undo 36 = .ok (.aload_n 0, 1) := by decide +kernel
theorem dX11_undo_37 : decode cX11_undo 37 = .ok (.getfield 77, 3) := by decide +kernel
theorem dX11_undo_40 : decode cX11_undo 40 = .ok (.aload_n 0, 1) := by decide +kernel
theorem dX11_undo_41 : decode cX11_undo 41 = .ok (.getfield 90, 3) := by decide +kernel
theorem dX11_undo_44 : decode cX11_undo 44 = .ok (.aaload, 1) := by decide +kernel
theorem dX11_undo_45 : decode cX11_undo 45 = .ok (.invokevirtual 358, 3) := by decide +kernel
theorem dX11_undo_48 : decode cX11_undo 48 = .ok (.iconst 1, 1) := by decide +kernel
theorem dX11_undo_49 : decode cX11_undo 49 = .ok (.ireturn, 1) := by decide +kernel
theorem dX11_image_0 : decode cX11_image 0 = .ok (.iload_n 1, 1) := by decide +kernel
theorem dX11_image_1 : decode cX11_image 1 = .ok (.ifCond .eq 21, 3) := by decide +kernel
theorem dX11_image_4 : decode cX11_image 4 = .ok (.aload_n 0, 1) := by decide +kernel
theorem dX11_image_5 : decode cX11_image 5 = .ok (.getfield 23, 3) := by decide +kernel
theorem dX11_image_8 : decode cX11_image 8 = .ok (.aload_n 0, 1) := by decide +kernel
theorem dX11_image_9 : decode cX11_image 9 = .ok (.getfield 19, 3) := by decide +kernel
theorem dX11_image_12 : decode cX11_image 12 = .ok (.invokevirtual 361, 3) := by decide +kernel
theorem dX11_image_15 : decode cX11_image 15 = .ok (.aload_n 0, 1) := by decide +kernel
theorem dX11_image_16 : decode cX11_image 16 = .ok (.iconst 1, 1) := by decide +kernel
theorem dX11_image_17 : decode cX11_image 17 = .ok (.putfield 363, 3) := by decide +kernel
theorem dX11_image_20 : decode cX11_image 20 = .ok (.iconst 1, 1) := by decide +kernel
theorem dX11_image_21 : decode cX11_image 21 = .ok (.ireturn, 1) := by decide +kernel
theorem dX11_image_22 : decode cX11_image 22 = .ok (.aload_n 0, 1) := by decide +kernel
theorem dX11_image_23 : decode cX11_image 23 = .ok (.getfield 363, 3) := by decide +kernel
theorem dX11_image_26 : decode cX11_image 26 = .ok (.ifCond .ne 5, 3) := by decide +kernel
theorem dX11_image_29 : decode cX11_image 29 = .ok (.iconst 0, 1) := by decide +kernel
theorem dX11_image_30 : decode cX11_image 30 = .ok (.ireturn, 1) := by decide +kernel
theorem dX11_image_31 : decode cX11_image 31 = .ok (.aload_n 0, 1) := by decide +kernel
theorem dX11_image_32 : decode cX11_image 32 = .ok (.getfield 19, 3) := by decide +kernel
theorem dX11_image_35 : decode cX11_image 35 = .ok (.aload_n 0, 1) := by decide +kernel
theorem dX11_image_36 : decode cX11_image 36 = .ok (.getfield 23, 3) := by decide +kernel
theorem dX11_image_39 : decode cX11_image 39 = .ok (.invokevirtual 361, 3) := by decide +kernel
theorem dX11_image_42 : decode cX11_image 42 = .ok (.aload_n 0, 1) := by decide +kernel
theorem dX11_image_43 : decode cX11_image 43 = .ok (.iconst 0, 1) := by decide +kernel
theorem dX11_image_44 : decode cX11_image 44 = .ok (.putfield 90, 3) := by decide +kernel
theorem dX11_image_47 : decode cX11_image 47 = .ok (.iconst 1, 1) := by decide +kernel
theorem dX11_image_48 : decode cX11_image 48 = .ok (.ireturn, 1) := by decide +kernel
theorem dX11_look_0 : decode cX11_look 0 = .ok (.iload_n 1, 1) := by decide +kernel
theorem dX11_look_1 : decode cX11_look 1 = .ok (.bipush 8, 2) := by decide +kernel
theorem dX11_look_3 : decode cX11_look 3 = .ok (.if_icmp .lt 9, 3) := by decide +kernel
theorem dX11_look_6 : decode cX11_look 6 = .ok (.aload_n 0, 1) := by decide +kernel
theorem dX11_look_7 : decode cX11_look 7 = .ok (.iload_n 1, 1) := by decide +kernel
theorem dX11_look_8 : decode cX11_look 8 = .ok (.invokevirtual 367, 3) := by decide +kernel
theorem dX11_look_11 : decode cX11_look 11 = .ok (.ireturn, 1) := by decide +kernel
theorem dX11_look_12 : decode cX11_look 12 = .ok (.aload_n 0, 1) := by decide +kernel
theorem dX11_look_13 : decode cX11_look 13 = .ok (.getfield 19, 3) := by decide +kernel
theorem dX11_look_16 : decode cX11_look 16 = .ok (.getfield 82, 3) := by decide +kernel
theorem dX11_look_19 : decode cX11_look 19 = .ok (.astore_n 2, 1) := by decide +kernel
theorem dX11_look_20 : decode cX11_look 20 = .ok (.iload_n 1, 1) := by decide +kernel
theorem dX11_look_21 : decode cX11_look 21 = .ok (.tableswitch 102 0 7 #[47, 58, 69, 74, 79, 84, 89, 94], 47) := by decide +kernel
theorem dX11_look_68 : decode cX11_look 68 = .ok (.aload_n 0, 1) := by decide +kernel
theorem dX11_look_69 : decode cX11_look 69 = .ok (.getfield 19, 3) := by decide +kernel
theorem dX11_look_72 : decode cX11_look 72 = .ok (.getfield 99, 3) := by decide +kernel
theorem dX11_look_75 : decode cX11_look 75 = .ok (.getfield 274, 3) := by decide +kernel
theorem dX11_look_78 : decode cX11_look 78 = .ok (.ireturn, 1) := by decide +kernel
theorem dX11_look_79 : decode cX11_look 79 = .ok (.aload_n 0, 1) := by decide +kernel
theorem dX11_look_80 : decode cX11_look 80 = .ok (.getfield 19, 3) := by decide +kernel
theorem dX11_look_83 : decode cX11_look 83 = .ok (.getfield 99, 3) := by decide +kernel
theorem dX11_look_86 : decode cX11_look 86 = .ok (.getfield 163, 3) := by decide +kernel
theorem dX11_look_89 : decode cX11_look 89 = .ok (.ireturn, 1) := by decide +kernel
theorem dX11_look_90 : decode cX11_look 90 = .ok (.aload_n 2, 1) := by decide +kernel
theorem dX11_look_91 : decode cX11_look 91 = .ok (.getfield 225, 3) := by decide +kernel
theorem dX11_look_94 : decode cX11_look 94 = .ok (.ireturn, 1) := by decide +kernel
theorem dX11_look_95 : decode cX11_look 95 = .ok (.aload_n 2, 1) := by decide +kernel
theorem dX11_look_96 : decode cX11_look 96 = .ok (.getfield 117, 3) := by decide +kernel
theorem dX11_look_99 : decode cX11_look 99 = .ok (.ireturn, 1) := by decide +kernel
theorem dX11_look_100 : decode cX11_look 100 = .ok (.aload_n 2, 1) := by decide +kernel
theorem dX11_look_101 : decode cX11_look 101 = .ok (.getfield 370, 3) := by decide +kernel
theorem dX11_look_104 : decode cX11_look 104 = .ok (.ireturn, 1) := by decide +kernel
theorem dX11_look_105 : decode cX11_look 105 = .ok (.aload_n 2, 1) := by decide +kernel
theorem dX11_look_106 : decode cX11_look 106 = .ok (.getfield 373, 3) := by decide +kernel
theorem dX11_look_109 : decode cX11_look 109 = .ok (.ireturn, 1) := by decide +kernel
theorem dX11_look_110 : decode cX11_look 110 = .ok (.aload_n 2, 1) := by decide +kernel
theorem dX11_look_111 : decode cX11_look 111 = .ok (.getfield 228, 3) := by decide +kernel
theorem dX11_look_114 : decode cX11_look 114 = .ok (.ireturn, 1) := by decide +kernel
theorem dX11_look_115 : decode cX11_look 115 = .ok (.aload_n 0, 1) := by decide +kernel
theorem dX11_look_116 : decode cX11_look 116 = .ok (.getfield 19, 3) := by decide +kernel
theorem dX11_look_119 : decode cX11_look 119 = .ok (.getfield 93, 3) := by decide +kernel
theorem dX11_look_122 : decode cX11_look 122 = .ok (.ireturn, 1) := by decide +kernel
theorem dX11_look_123 : decode cX11_look 123 = .ok (.iconst (-1), 1) := by decide +kernel
theorem dX11_look_124 : decode cX11_look 124 = .ok (.ireturn, 1) := by decide +kernel
theorem dX11_lookAtTold_0 : decode cX11_lookAtTold 0 = .ok (.iload_n 1, 1) := by decide +kernel
theorem dX11_lookAtTold_1 : decode cX11_lookAtTold 1 = .ok (.tableswitch 123 8 15 #[47, 55, 66, 77, 88, 99, 110, 118], 47) := by decide +kernel
theorem dX11_lookAtTold_48 : decode cX11_lookAtTold 48 = .ok (.aload_n 0, 1) := by decide +kernel
theorem dX11_lookAtTold_49 : decode cX11_lookAtTold 49 = .ok (.getfield 19, 3) := by decide +kernel
theorem dX11_lookAtTold_52 : decode cX11_lookAtTold 52 = .ok (.getfield 96, 3) := by decide +kernel
theorem dX11_lookAtTold_55 : decode cX11_lookAtTold 55 = .ok (.ireturn, 1) := by decide +kernel
theorem dX11_lookAtTold_56 : decode cX11_lookAtTold 56 = .ok (.aload_n 0, 1) := by decide +kernel
theorem dX11_lookAtTold_57 : decode cX11_lookAtTold 57 = .ok (.getfield 19, 3) := by decide +kernel
theorem dX11_lookAtTold_60 : decode cX11_lookAtTold 60 = .ok (.getfield 82, 3) := by decide +kernel
theorem dX11_lookAtTold_63 : decode cX11_lookAtTold 63 = .ok (.getfield 243, 3) := by decide +kernel
theorem dX11_lookAtTold_66 : decode cX11_lookAtTold 66 = .ok (.ireturn, 1) := by decide +kernel
theorem dX11_lookAtTold_67 : decode cX11_lookAtTold 67 = .ok (.aload_n 0, 1) := by decide +kernel
theorem dX11_lookAtTold_68 : decode cX11_lookAtTold 68 = .ok (.getfield 19, 3) := by decide +kernel
theorem dX11_lookAtTold_71 : decode cX11_lookAtTold 71 = .ok (.getfield 82, 3) := by decide +kernel
theorem dX11_lookAtTold_74 : decode cX11_lookAtTold 74 = .ok (.getfield 86, 3) := by decide +kernel
theorem dX11_lookAtTold_77 : decode cX11_lookAtTold 77 = .ok (.ireturn, 1) := by decide +kernel
theorem dX11_lookAtTold_78 : decode cX11_lookAtTold 78 = .ok (.aload_n 0, 1) := by decide +kernel
theorem dX11_lookAtTold_79 : decode cX11_lookAtTold 79 = .ok (.getfield 19, 3) := by decide +kernel
theorem dX11_lookAtTold_82 : decode cX11_lookAtTold 82 = .ok (.getfield 167, 3) := by decide +kernel
theorem dX11_lookAtTold_85 : decode cX11_lookAtTold 85 = .ok (.getfield 174, 3) := by decide +kernel
theorem dX11_lookAtTold_88 : decode cX11_lookAtTold 88 = .ok (.ireturn, 1) := by decide +kernel
theorem dX11_lookAtTold_89 : decode cX11_lookAtTold 89 = .ok (.aload_n 0, 1) := by decide +kernel
theorem dX11_lookAtTold_90 : decode cX11_lookAtTold 90 = .ok (.getfield 19, 3) := by decide +kernel
theorem dX11_lookAtTold_93 : decode cX11_lookAtTold 93 = .ok (.getfield 127, 3) := by decide +kernel
theorem dX11_lookAtTold_96 : decode cX11_lookAtTold 96 = .ok (.getfield 130, 3) := by decide +kernel
theorem dX11_lookAtTold_99 : decode cX11_lookAtTold 99 = .ok (.ireturn, 1) := by decide +kernel
theorem dX11_lookAtTold_100 : decode cX11_lookAtTold 100 = .ok (.aload_n 0, 1) := by decide +kernel
theorem dX11_lookAtTold_101 : decode cX11_lookAtTold 101 = .ok (.getfield 19, 3) := by decide +kernel
theorem dX11_lookAtTold_104 : decode cX11_lookAtTold 104 = .ok (.getfield 184, 3) := by decide +kernel
theorem dX11_lookAtTold_107 : decode cX11_lookAtTold 107 = .ok (.getfield 190, 3) := by decide +kernel
theorem dX11_lookAtTold_110 : decode cX11_lookAtTold 110 = .ok (.ireturn, 1) := by decide +kernel
theorem dX11_lookAtTold_111 : decode cX11_lookAtTold 111 = .ok (.aload_n 0, 1) := by decide +kernel
theorem dX11_lookAtTold_112 : decode cX11_lookAtTold 112 = .ok (.getfield 19, 3) := by decide +kernel
theorem dX11_lookAtTold_115 : decode cX11_lookAtTold 115 = .ok (.getfield 330, 3) := by decide +kernel
theorem dX11_lookAtTold_118 : decode cX11_lookAtTold 118 = .ok (.ireturn, 1) := by decide +kernel
theorem dX11_lookAtTold_119 : decode cX11_lookAtTold 119 = .ok (.aload_n 0, 1) := by decide +kernel
theorem dX11_lookAtTold_120 : decode cX11_lookAtTold 120 = .ok (.getfield 90, 3) := by decide +kernel
theorem dX11_lookAtTold_123 : decode cX11_lookAtTold 123 = .ok (.ireturn, 1) := by decide +kernel
theorem dX11_lookAtTold_124 : decode cX11_lookAtTold 124 = .ok (.iconst (-1), 1) := by decide +kernel
theorem dX11_lookAtTold_125 : decode cX11_lookAtTold 125 = .ok (.ireturn, 1) := by decide +kernel
theorem dX11_canHold_0 : decode cX11_canHold 0 = .ok (.iload_n 0, 1) := by decide +kernel
theorem dX11_canHold_1 : decode cX11_canHold 1 = .ok (.ifCond .lt 13, 3) := by decide +kernel
theorem dX11_canHold_4 : decode cX11_canHold 4 = .ok (.iload_n 0, 1) := by decide +kernel
theorem dX11_canHold_5 : decode cX11_canHold 5 = .ok (.bipush 65, 2) := by decide +kernel
theorem dX11_canHold_7 : decode cX11_canHold 7 = .ok (.if_icmp .ge 7, 3) := by decide +kernel
theorem dX11_canHold_10 : decode cX11_canHold 10 = .ok (.iconst 1, 1) := by decide +kernel
theorem dX11_canHold_11 : decode cX11_canHold 11 = .ok (.goto 4, 3) := by decide +kernel
theorem dX11_canHold_14 : decode cX11_canHold 14 = .ok (.iconst 0, 1) := by decide +kernel
theorem dX11_canHold_15 : decode cX11_canHold 15 = .ok (.ireturn, 1) := by decide +kernel
theorem dX11_remember_0 : decode cX11_remember 0 = .ok (.aload_n 0, 1) := by decide +kernel
theorem dX11_remember_1 : decode cX11_remember 1 = .ok (.getfield 90, 3) := by decide +kernel
theorem dX11_remember_4 : decode cX11_remember 4 = .ok (.bipush 6, 2) := by decide +kernel
theorem dX11_remember_6 : decode cX11_remember 6 = .ok (.if_icmp .lt 50, 3) := by decide +kernel
theorem dX11_remember_9 : decode cX11_remember 9 = .ok (.aload_n 0, 1) := by decide +kernel
theorem dX11_remember_10 : decode cX11_remember 10 = .ok (.getfield 77, 3) := by decide +kernel
theorem dX11_remember_13 : decode cX11_remember 13 = .ok (.iconst 0, 1) := by decide +kernel
theorem dX11_remember_14 : decode cX11_remember 14 = .ok (.aaload, 1) := by decide +kernel
theorem dX11_remember_15 : decode cX11_remember 15 = .ok (.astore_n 1, 1) := by decide +kernel
theorem dX11_remember_16 : decode cX11_remember 16 = .ok (.iconst 1, 1) := by decide +kernel
theorem dX11_remember_17 : decode cX11_remember 17 = .ok (.istore_n 2, 1) := by decide +kernel
theorem dX11_remember_18 : decode cX11_remember 18 = .ok (.iload_n 2, 1) := by decide +kernel
theorem dX11_remember_19 : decode cX11_remember 19 = .ok (.bipush 6, 2) := by decide +kernel
theorem dX11_remember_21 : decode cX11_remember 21 = .ok (.if_icmp .ge 23, 3) := by decide +kernel
theorem dX11_remember_24 : decode cX11_remember 24 = .ok (.aload_n 0, 1) := by decide +kernel
theorem dX11_remember_25 : decode cX11_remember 25 = .ok (.getfield 77, 3) := by decide +kernel
theorem dX11_remember_28 : decode cX11_remember 28 = .ok (.iload_n 2, 1) := by decide +kernel
theorem dX11_remember_29 : decode cX11_remember 29 = .ok (.iconst 1, 1) := by decide +kernel
theorem dX11_remember_30 : decode cX11_remember 30 = .ok (.isub, 1) := by decide +kernel
theorem dX11_remember_31 : decode cX11_remember 31 = .ok (.aload_n 0, 1) := by decide +kernel
theorem dX11_remember_32 : decode cX11_remember 32 = .ok (.getfield 77, 3) := by decide +kernel
theorem dX11_remember_35 : decode cX11_remember 35 = .ok (.iload_n 2, 1) := by decide +kernel
theorem dX11_remember_36 : decode cX11_remember 36 = .ok (.aaload, 1) := by decide +kernel
theorem dX11_remember_37 : decode cX11_remember 37 = .ok (.aastore, 1) := by decide +kernel
theorem dX11_remember_38 : decode cX11_remember 38 = .ok (.iinc 2 1, 3) := by decide +kernel
theorem dX11_remember_41 : decode cX11_remember 41 = .ok (.goto (-23), 3) := by decide +kernel
theorem dX11_remember_44 : decode cX11_remember 44 = .ok (.aload_n 0, 1) := by decide +kernel
theorem dX11_remember_45 : decode cX11_remember 45 = .ok (.getfield 77, 3) := by decide +kernel
theorem dX11_remember_48 : decode cX11_remember 48 = .ok (.iconst 5, 1) := by decide +kernel
theorem dX11_remember_49 : decode cX11_remember 49 = .ok (.aload_n 1, 1) := by decide +kernel
theorem dX11_remember_50 : decode cX11_remember 50 = .ok (.aastore, 1) := by decide +kernel
theorem dX11_remember_51 : decode cX11_remember 51 = .ok (.aload_n 0, 1) := by decide +kernel
theorem dX11_remember_52 : decode cX11_remember 52 = .ok (.iconst 5, 1) := by decide +kernel
theorem dX11_remember_53 : decode cX11_remember 53 = .ok (.putfield 90, 3) := by decide +kernel
theorem dX11_remember_56 : decode cX11_remember 56 = .ok (.aload_n 0, 1) := by decide +kernel
theorem dX11_remember_57 : decode cX11_remember 57 = .ok (.getfield 77, 3) := by decide +kernel
theorem dX11_remember_60 : decode cX11_remember 60 = .ok (.aload_n 0, 1) := by decide +kernel
theorem dX11_remember_61 : decode cX11_remember 61 = .ok (.getfield 90, 3) := by decide +kernel
theorem dX11_remember_64 : decode cX11_remember 64 = .ok (.aaload, 1) := by decide +kernel
theorem dX11_remember_65 : decode cX11_remember 65 = .ok (.aload_n 0, 1) := by decide +kernel
theorem dX11_remember_66 : decode cX11_remember 66 = .ok (.getfield 19, 3) := by decide +kernel
theorem dX11_remember_69 : decode cX11_remember 69 = .ok (.getfield 82, 3) := by decide +kernel
theorem dX11_remember_72 : decode cX11_remember 72 = .ok (.invokevirtual 358, 3) := by decide +kernel
theorem dX11_remember_75 : decode cX11_remember 75 = .ok (.aload_n 0, 1) := by decide +kernel
theorem dX11_remember_76 : decode cX11_remember 76 = .ok (.dup, 1) := by decide +kernel
theorem dX11_remember_77 : decode cX11_remember 77 = .ok (.getfield 90, 3) := by decide +kernel
theorem dX11_remember_80 : decode cX11_remember 80 = .ok (.iconst 1, 1) := by decide +kernel
theorem dX11_remember_81 : decode cX11_remember 81 = .ok (.iadd, 1) := by decide +kernel
theorem dX11_remember_82 : decode cX11_remember 82 = .ok (.putfield 90, 3) := by decide +kernel
theorem dX11_remember_85 : decode cX11_remember 85 = .ok (.return_, 1) := by decide +kernel
theorem dX12_init_0 : decode cX12_init 0 = .ok (.aload_n 0, 1) := by decide +kernel
theorem dX12_init_1 : decode cX12_init 1 = .ok (.invokespecial 1, 3) := by decide +kernel
theorem dX12_init_4 : decode cX12_init 4 = .ok (.aload_n 0, 1) := by decide +kernel
theorem dX12_init_5 : decode cX12_init 5 = .ok (.sipush 2440, 3) := by decide +kernel
theorem dX12_init_8 : decode cX12_init 8 = .ok (.newarray .int, 2) := by decide +kernel
theorem dX12_init_10 : decode cX12_init 10 = .ok (.putfield 7, 3) := by decide +kernel
theorem dX12_init_13 : decode cX12_init 13 = .ok (.aload_n 0, 1) := by decide +kernel
theorem dX12_init_14 : decode cX12_init 14 = .ok (.sipush 2440, 3) := by decide +kernel
theorem dX12_init_17 : decode cX12_init 17 = .ok (.newarray .int, 2) := by decide +kernel
theorem dX12_init_19 : decode cX12_init 19 = .ok (.putfield 13, 3) := by decide +kernel
theorem dX12_init_22 : decode cX12_init 22 = .ok (.aload_n 0, 1) := by decide +kernel
theorem dX12_init_23 : decode cX12_init 23 = .ok (.sipush 1248, 3) := by decide +kernel
theorem dX12_init_26 : decode cX12_init 26 = .ok (.newarray .int, 2) := by decide +kernel
theorem dX12_init_28 : decode cX12_init 28 = .ok (.putfield 16, 3) := by decide +kernel
theorem dX12_init_31 : decode cX12_init 31 = .ok (.aload_n 0, 1) := by decide +kernel
theorem dX12_init_32 : decode cX12_init 32 = .ok (.sipush 201, 3) := by decide +kernel
theorem dX12_init_35 : decode cX12_init 35 = .ok (.newarray .int, 2) := by decide +kernel
theorem dX12_init_37 : decode cX12_init 37 = .ok (.putfield 19, 3) := by decide +kernel
theorem dX12_init_40 : decode cX12_init 40 = .ok (.aload_n 0, 1) := by decide +kernel
theorem dX12_init_41 : decode cX12_init 41 = .ok (.bipush 64, 2) := by decide +kernel
theorem dX12_init_43 : decode cX12_init 43 = .ok (.newarray .int, 2) := by decide +kernel
theorem dX12_init_45 : decode cX12_init 45 = .ok (.putfield 22, 3) := by decide +kernel
theorem dX12_init_48 : decode cX12_init 48 = .ok (.aload_n 0, 1) := by decide +kernel
theorem dX12_init_49 : decode cX12_init 49 = .ok (.sipush 820, 3) := by decide +kernel
theorem dX12_init_52 : decode cX12_init 52 = .ok (.newarray .int, 2) := by decide +kernel
theorem dX12_init_54 : decode cX12_init 54 = .ok (.putfield 25, 3) := by decide +kernel
theorem dX12_init_57 : decode cX12_init 57 = .ok (.aload_n 0, 1) := by decide +kernel
theorem dX12_init_58 : decode cX12_init 58 = .ok (.bipush 56, 2) := by decide +kernel
theorem dX12_init_60 : decode cX12_init 60 = .ok (.newarray .int, 2) := by decide +kernel
theorem dX12_init_62 : decode cX12_init 62 = .ok (.putfield 28, 3) := by decide +kernel
theorem dX12_init_65 : decode cX12_init 65 = .ok (.aload_n 0, 1) := by decide +kernel
theorem dX12_init_66 : decode cX12_init 66 = .ok (.sipush 402, 3) := by decide +kernel
theorem dX12_init_69 : decode cX12_init 69 = .ok (.newarray .int, 2) := by decide +kernel
theorem dX12_init_71 : decode cX12_init 71 = .ok (.putfield 31, 3) := by decide +kernel
theorem dX12_init_74 : decode cX12_init 74 = .ok (.aload_n 0, 1) := by decide +kernel
theorem dX12_init_75 : decode cX12_init 75 = .ok (.bipush 60, 2) := by decide +kernel
theorem dX12_init_77 : decode cX12_init 77 = .ok (.newarray .int, 2) := by decide +kernel
theorem dX12_init_79 : decode cX12_init 79 = .ok (.putfield 34, 3) := by decide +kernel
theorem dX12_init_82 : decode cX12_init 82 = .ok (.aload_n 0, 1) := by decide +kernel
theorem dX12_init_83 : decode cX12_init 83 = .ok (.bipush 48, 2) := by decide +kernel
theorem dX12_init_85 : decode cX12_init 85 = .ok (.newarray .int, 2) := by decide +kernel
theorem dX12_init_87 : decode cX12_init 87 = .ok (.putfield 37, 3) := by decide +kernel
theorem dX12_init_90 : decode cX12_init 90 = .ok (.aload_n 0, 1) := by decide +kernel
theorem dX12_init_91 : decode cX12_init 91 = .ok (.sipush 400, 3) := by decide +kernel
theorem dX12_init_94 : decode cX12_init 94 = .ok (.newarray .int, 2) := by decide +kernel
theorem dX12_init_96 : decode cX12_init 96 = .ok (.putfield 40, 3) := by decide +kernel
theorem dX12_init_99 : decode cX12_init 99 = .ok (.aload_n 0, 1) := by decide +kernel
theorem dX12_init_100 : decode cX12_init 100 = .ok (.sipush 420, 3) := by decide +kernel
theorem dX12_init_103 : decode cX12_init 103 = .ok (.newarray .int, 2) := by decide +kernel
theorem dX12_init_105 : decode cX12_init 105 = .ok (.putfield 43, 3) := by decide +kernel
theorem dX12_init_108 : decode cX12_init 108 = .ok (.aload_n 0, 1) := by decide +kernel
theorem dX12_init_109 : decode cX12_init 109 = .ok (.bipush 8, 2) := by decide +kernel
theorem dX12_init_111 : decode cX12_init 111 = .ok (.newarray .int, 2) := by decide +kernel
theorem dX12_init_113 : decode cX12_init 113 = .ok (.putfield 46, 3) := by decide +kernel
theorem dX12_init_116 : decode cX12_init 116 = .ok (.aload_n 0, 1) := by decide +kernel
theorem dX12_init_117 : decode cX12_init 117 = .ok (.iconst (-1), 1) := by decide +kernel
theorem dX12_init_118 : decode cX12_init 118 = .ok (.putfield 49, 3) := by decide +kernel
theorem dX12_init_121 : decode cX12_init 121 = .ok (.aload_n 0, 1) := by decide +kernel
theorem dX12_init_122 : decode cX12_init 122 = .ok (.sipush 10050, 3) := by decide +kernel
theorem dX12_init_125 : decode cX12_init 125 = .ok (.newarray .int, 2) := by decide +kernel
theorem dX12_init_127 : decode cX12_init 127 = .ok (.putfield 53, 3) := by decide +kernel
theorem dX12_init_130 : decode cX12_init 130 = .ok (.aload_n 0, 1) := by decide +kernel
theorem dX12_init_131 : decode cX12_init 131 = .ok (.bipush 100, 2) := by decide +kernel
theorem dX12_init_133 : decode cX12_init 133 = .ok (.newarray .int, 2) := by decide +kernel
theorem dX12_init_135 : decode cX12_init 135 = .ok (.putfield 56, 3) := by decide +kernel
theorem dX12_init_138 : decode cX12_init 138 = .ok (.aload_n 0, 1) := by decide +kernel
theorem dX12_init_139 : decode cX12_init 139 = .ok (.bipush 8, 2) := by decide +kernel
theorem dX12_init_141 : decode cX12_init 141 = .ok (.newarray .int, 2) := by decide +kernel
theorem dX12_init_143 : decode cX12_init 143 = .ok (.putfield 59, 3) := by decide +kernel
theorem dX12_init_146 : decode cX12_init 146 = .ok (.aload_n 0, 1) := by decide +kernel
theorem dX12_init_147 : decode cX12_init 147 = .ok (.bipush 8, 2) := by decide +kernel
theorem dX12_init_149 : decode cX12_init 149 = .ok (.newarray .int, 2) := by decide +kernel
theorem dX12_init_151 : decode cX12_init 151 = .ok (.putfield 62, 3) := by decide +kernel
theorem dX12_init_154 : decode cX12_init 154 = .ok (.aload_n 0, 1) := by decide +kernel
theorem dX12_init_155 : decode cX12_init 155 = .ok (.bipush 14, 2) := by decide +kernel
theorem dX12_init_157 : decode cX12_init 157 = .ok (.newarray .int, 2) := by decide +kernel
theorem dX12_init_159 : decode cX12_init 159 = .ok (.putfield 65, 3) := by decide +kernel
theorem dX12_init_162 : decode cX12_init 162 = .ok (.aload_n 0, 1) := by decide +kernel
theorem dX12_init_163 : decode cX12_init 163 = .ok (.getfield 7, 3) := by decide +kernel
theorem dX12_init_166 : decode cX12_init 166 = .ok (.sipush 209, 3) := by decide +kernel
theorem dX12_init_169 : decode cX12_init 169 = .ok (.iconst 1, 1) := by decide +kernel
theorem dX12_init_170 : decode cX12_init 170 = .ok (.iastore, 1) := by decide +kernel
theorem dX12_init_171 : decode cX12_init 171 = .ok (.aload_n 0, 1) := by decide +kernel
theorem dX12_init_172 : decode cX12_init 172 = .ok (.getfield 7, 3) := by decide +kernel
theorem dX12_init_175 : decode cX12_init 175 = .ok (.sipush 210, 3) := by decide +kernel
theorem dX12_init_178 : decode cX12_init 178 = .ok (.bipush 10, 2) := by decide +kernel
theorem dX12_init_180 : decode cX12_init 180 = .ok (.iastore, 1) := by decide +kernel
theorem dX12_init_181 : decode cX12_init 181 = .ok (.aload_n 0, 1) := by decide +kernel
theorem dX12_init_182 : decode cX12_init 182 = .ok (.invokevirtual 68, 3) := by decide +kernel
theorem dX12_init_185 : decode cX12_init 185 = .ok (.iconst 0, 1) := by decide +kernel
theorem dX12_init_186 : decode cX12_init 186 = .ok (.istore_n 1, 1) := by decide +kernel
theorem dX12_init_187 : decode cX12_init 187 = .ok (.iload_n 1, 1) := by decide +kernel
theorem dX12_init_188 : decode cX12_init 188 = .ok (.sipush 402, 3) := by decide +kernel
theorem dX12_init_191 : decode cX12_init 191 = .ok (.if_icmp .ge 21, 3) := by decide +kernel
theorem dX12_init_194 : decode cX12_init 194 = .ok (.aload_n 0, 1) := by decide +kernel
theorem dX12_init_195 : decode cX12_init 195 = .ok (.getfield 7, 3) := by decide +kernel
theorem dX12_init_198 : decode cX12_init 198 = .ok (.sipush 272, 3) := by decide +kernel
theorem dX12_init_201 : decode cX12_init 201 = .ok (.iload_n 1, 1) := by decide +kernel
theorem dX12_init_202 : decode cX12_init 202 = .ok (.iadd, 1) := by decide +kernel
theorem dX12_init_203 : decode cX12_init 203 = .ok (.bipush 98, 2) := by decide +kernel
theorem dX12_init_205 : decode cX12_init 205 = .ok (.iastore, 1) := by decide +kernel
theorem dX12_init_206 : decode cX12_init 206 = .ok (.iinc 1 1, 3) := by decide +kernel
theorem dX12_init_209 : decode cX12_init 209 = .ok (.goto (-22), 3) := by decide +kernel
theorem dX12_init_212 : decode cX12_init 212 = .ok (.return_, 1) := by decide +kernel
theorem dX12_isIn_0 : decode cX12_isIn 0 = .ok (.iload_n 0, 1) := by decide +kernel
theorem dX12_isIn_1 : decode cX12_isIn 1 = .ok (.iload_n 1, 1) := by decide +kernel
theorem dX12_isIn_2 : decode cX12_isIn 2 = .ok (.if_icmp .lt 12, 3) := by decide +kernel
theorem dX12_isIn_5 : decode cX12_isIn 5 = .ok (.iload_n 0, 1) := by decide +kernel
theorem dX12_isIn_6 : decode cX12_isIn 6 = .ok (.iload_n 2, 1) := by decide +kernel
theorem dX12_isIn_7 : decode cX12_isIn 7 = .ok (.if_icmp .gt 7, 3) := by decide +kernel
theorem dX12_isIn_10 : decode cX12_isIn 10 = .ok (.iconst 1, 1) := by decide +kernel
theorem dX12_isIn_11 : decode cX12_isIn 11 = .ok (.goto 4, 3) := by decide +kernel
theorem dX12_isIn_14 : decode cX12_isIn 14 = .ok (.iconst 0, 1) := by decide +kernel
theorem dX12_isIn_15 : decode cX12_isIn 15 = .ok (.ireturn, 1) := by decide +kernel
theorem dX12_lesser_0 : decode cX12_lesser 0 = .ok (.iload_n 0, 1) := by decide +kernel
theorem dX12_lesser_1 : decode cX12_lesser 1 = .ok (.iload_n 1, 1) := by decide +kernel
theorem dX12_lesser_2 : decode cX12_lesser 2 = .ok (.if_icmp .ge 7, 3) := by decide +kernel
theorem dX12_lesser_5 : decode cX12_lesser 5 = .ok (.iload_n 0, 1) := by decide +kernel
theorem dX12_lesser_6 : decode cX12_lesser 6 = .ok (.goto 4, 3) := by decide +kernel
theorem dX12_lesser_9 : decode cX12_lesser 9 = .ok (.iload_n 1, 1) := by decide +kernel
theorem dX12_lesser_10 : decode cX12_lesser 10 = .ok (.ireturn, 1) := by decide +kernel
theorem dX12_greater_0 : decode cX12_greater 0 = .ok (.iload_n 0, 1) := by decide +kernel
theorem dX12_greater_1 : decode cX12_greater 1 = .ok (.iload_n 1, 1) := by decide +kernel
theorem dX12_greater_2 : decode cX12_greater 2 = .ok (.if_icmp .le 7, 3) := by decide +kernel
theorem dX12_greater_5 : decode cX12_greater 5 = .ok (.iload_n 0, 1) := by decide +kernel
theorem dX12_greater_6 : decode cX12_greater 6 = .ok (.goto 4, 3) := by decide +kernel
theorem dX12_greater_9 : decode cX12_greater 9 = .ok (.iload_n 1, 1) := by decide +kernel
theorem dX12_greater_10 : decode cX12_greater 10 = .ok (.ireturn, 1) := by decide +kernel
theorem dX12_isSong_0 : decode cX12_isSong 0 = .ok (.iload_n 1, 1) := by decide +kernel
theorem dX12_isSong_1 : decode cX12_isSong 1 = .ok (.iconst 0, 1) := by decide +kernel
theorem dX12_isSong_2 : decode cX12_isSong 2 = .ok (.aload_n 0, 1) := by decide +kernel
theorem dX12_isSong_3 : decode cX12_isSong 3 = .ok (.getfield 7, 3) := by decide +kernel
theorem dX12_isSong_6 : decode cX12_isSong 6 = .ok (.sipush 211, 3) := by decide +kernel
theorem dX12_isSong_9 : decode cX12_isSong 9 = .ok (.iaload, 1) := by decide +kernel
theorem dX12_isSong_10 : decode cX12_isSong 10 = .ok (.iconst 1, 1) := by decide +kernel
theorem dX12_isSong_11 : decode cX12_isSong 11 = .ok (.isub, 1) := by decide +kernel
theorem dX12_isSong_12 : decode cX12_isSong 12 = .ok (.invokestatic 71, 3) := by decide +kernel
theorem dX12_isSong_15 : decode cX12_isSong 15 = .ok (.ireturn, 1) := by decide +kernel
theorem dX12_isPlace_0 : decode cX12_isPlace 0 = .ok (.iload_n 1, 1) := by decide +kernel
theorem dX12_isPlace_1 : decode cX12_isPlace 1 = .ok (.iconst 0, 1) := by decide +kernel
theorem dX12_isPlace_2 : decode cX12_isPlace 2 = .ok (.aload_n 0, 1) := by decide +kernel
theorem dX12_isPlace_3 : decode cX12_isPlace 3 = .ok (.getfield 7, 3) := by decide +kernel
theorem dX12_isPlace_6 : decode cX12_isPlace 6 = .ok (.sipush 208, 3) := by decide +kernel
theorem dX12_isPlace_9 : decode cX12_isPlace 9 = .ok (.iaload, 1) := by decide +kernel
theorem dX12_isPlace_10 : decode cX12_isPlace 10 = .ok (.invokestatic 71, 3) := by decide +kernel
theorem dX12_isPlace_13 : decode cX12_isPlace 13 = .ok (.ireturn, 1) := by decide +kernel
theorem dX12_ofSong_0 : decode cX12_ofSong 0 = .ok (.aload_n 0, 1) := by decide +kernel
theorem dX12_ofSong_1 : decode cX12_ofSong 1 = .ok (.getfield 7, 3) := by decide +kernel
theorem dX12_ofSong_4 : decode cX12_ofSong 4 = .ok (.sipush 216, 3) := by decide +kernel
theorem dX12_ofSong_7 : decode cX12_ofSong 7 = .ok (.iconst 4, 1) := by decide +kernel
theorem dX12_ofSong_8 : decode cX12_ofSong 8 = .ok (.iload_n 1, 1) := by decide +kernel
theorem dX12_ofSong_9 : decode cX12_ofSong 9 = .ok (.imul, 1) := by decide +kernel
theorem dX12_ofSong_10 : decode cX12_ofSong 10 = .ok (.iadd, 1) := by decide +kernel
theorem dX12_ofSong_11 : decode cX12_ofSong 11 = .ok (.iload_n 2, 1) := by decide +kernel
theorem dX12_ofSong_12 : decode cX12_ofSong 12 = .ok (.iadd, 1) := by decide +kernel
theorem dX12_ofSong_13 : decode cX12_ofSong 13 = .ok (.iaload, 1) := by decide +kernel
theorem dX12_ofSong_14 : decode cX12_ofSong 14 = .ok (.ireturn, 1) := by decide +kernel
theorem dX12_isOn_0 : decode cX12_isOn 0 = .ok (.aload_n 0, 1) := by decide +kernel
theorem dX12_isOn_1 : decode cX12_isOn 1 = .ok (.iload_n 1, 1) := by decide +kernel
theorem dX12_isOn_2 : decode cX12_isOn 2 = .ok (.invokevirtual 75, 3) := by decide +kernel
theorem dX12_isOn_5 : decode cX12_isOn 5 = .ok (.ifCond .eq 17, 3) := by decide +kernel
theorem dX12_isOn_8 : decode cX12_isOn 8 = .ok (.aload_n 0, 1) := by decide +kernel
theorem dX12_isOn_9 : decode cX12_isOn 9 = .ok (.iload_n 1, 1) := by decide +kernel
theorem dX12_isOn_10 : decode cX12_isOn 10 = .ok (.iconst 0, 1) := by decide +kernel
theorem dX12_isOn_11 : decode cX12_isOn 11 = .ok (.invokevirtual 79, 3) := by decide +kernel
theorem dX12_isOn_14 : decode cX12_isOn 14 = .ok (.iload_n 2, 1) := by decide +kernel
theorem dX12_isOn_15 : decode cX12_isOn 15 = .ok (.if_icmp .ne 7, 3) := by decide +kernel
theorem dX12_isOn_18 : decode cX12_isOn 18 = .ok (.iconst 1, 1) := by decide +kernel
theorem dX12_isOn_19 : decode cX12_isOn 19 = .ok (.goto 4, 3) := by decide +kernel
theorem dX12_isOn_22 : decode cX12_isOn 22 = .ok (.iconst 0, 1) := by decide +kernel
theorem dX12_isOn_23 : decode cX12_isOn 23 = .ok (.ireturn, 1) := by decide +kernel
theorem dX12_heardAt_0 : decode cX12_heardAt 0 = .ok (.iload_n 2, 1) := by decide +kernel
theorem dX12_heardAt_1 : decode cX12_heardAt 1 = .ok (.aload_n 0, 1) := by decide +kernel
theorem dX12_heardAt_2 : decode cX12_heardAt 2 = .ok (.getfield 7, 3) := by decide +kernel
theorem dX12_heardAt_5 : decode cX12_heardAt 5 = .ok (.sipush 208, 3) := by decide +kernel
theorem dX12_heardAt_8 : decode cX12_heardAt 8 = .ok (.iaload, 1) := by decide +kernel
theorem dX12_heardAt_9 : decode cX12_heardAt 9 = .ok (.if_icmp .ne 8, 3) := by decide +kernel
theorem dX12_heardAt_12 : decode cX12_heardAt 12 = .ok (.bipush 99, 2) := by decide +kernel
theorem dX12_heardAt_14 : decode cX12_heardAt 14 = .ok (.goto 19, 3) := by decide +kernel
theorem dX12_heardAt_17 : decode cX12_heardAt 17 = .ok (.aload_n 0, 1) := by decide +kernel
theorem dX12_heardAt_18 : decode cX12_heardAt 18 = .ok (.getfield 7, 3) := by decide +kernel
theorem dX12_heardAt_21 : decode cX12_heardAt 21 = .ok (.sipush 272, 3) := by decide +kernel
theorem dX12_heardAt_24 : decode cX12_heardAt 24 = .ok (.sipush 201, 3) := by decide +kernel
theorem dX12_heardAt_27 : decode cX12_heardAt 27 = .ok (.iload_n 1, 1) := by decide +kernel
theorem dX12_heardAt_28 : decode cX12_heardAt 28 = .ok (.imul, 1) := by decide +kernel
theorem dX12_heardAt_29 : decode cX12_heardAt 29 = .ok (.iadd, 1) := by decide +kernel
theorem dX12_heardAt_30 : decode cX12_heardAt 30 = .ok (.iload_n 2, 1) := by decide +kernel
theorem dX12_heardAt_31 : decode cX12_heardAt 31 = .ok (.iadd, 1) := by decide +kernel
theorem dX12_heardAt_32 : decode cX12_heardAt 32 = .ok (.iaload, 1) := by decide +kernel
theorem dX12_heardAt_33 : decode cX12_heardAt 33 = .ok (.ireturn, 1) := by decide +kernel
theorem dX12_knowsAlone_0 : decode cX12_knowsAlone 0 = .ok (.iconst 0, 1) := by decide +kernel
theorem dX12_knowsAlone_1 : decode cX12_knowsAlone 1 = .ok (.istore_n 2, 1) := by decide +kernel
theorem dX12_knowsAlone_2 : decode cX12_knowsAlone 2 = .ok (.iload_n 2, 1) := by decide +kernel
theorem dX12_knowsAlone_3 : decode cX12_knowsAlone 3 = .ok (.sipush 201, 3) := by decide +kernel
theorem dX12_knowsAlone_6 : decode cX12_knowsAlone 6 = .ok (.if_icmp .ge 28, 3) := by decide +kernel
theorem dX12_knowsAlone_9 : decode cX12_knowsAlone 9 = .ok (.aload_n 0, 1) := by decide +kernel
theorem dX12_knowsAlone_10 : decode cX12_knowsAlone 10 = .ok (.getfield 7, 3) := by decide +kernel
theorem dX12_knowsAlone_13 : decode cX12_knowsAlone 13 = .ok (.bipush 7, 2) := by decide +kernel
theorem dX12_knowsAlone_15 : decode cX12_knowsAlone 15 = .ok (.iload_n 2, 1) := by decide +kernel
theorem dX12_knowsAlone_16 : decode cX12_knowsAlone 16 = .ok (.iadd, 1) := by decide +kernel
theorem dX12_knowsAlone_17 : decode cX12_knowsAlone 17 = .ok (.iload_n 2, 1) := by decide +kernel
theorem dX12_knowsAlone_18 : decode cX12_knowsAlone 18 = .ok (.iload_n 1, 1) := by decide +kernel
theorem dX12_knowsAlone_19 : decode cX12_knowsAlone 19 = .ok (.if_icmp .ne 7, 3) := by decide +kernel
theorem dX12_knowsAlone_22 : decode cX12_knowsAlone 22 = .ok (.iconst 1, 1) := by decide +kernel
theorem dX12_knowsAlone_23 : decode cX12_knowsAlone 23 = .ok (.goto 4, 3) := by decide +kernel
theorem dX12_knowsAlone_26 : decode cX12_knowsAlone 26 = .ok (.iconst 0, 1) := by decide +kernel
theorem dX12_knowsAlone_27 : decode cX12_knowsAlone 27 = .ok (.iastore, 1) := by decide +kernel
theorem dX12_knowsAlone_28 : decode cX12_knowsAlone 28 = .ok (.iinc 2 1, 3) := by decide +kernel
theorem dX12_knowsAlone_31 : decode cX12_knowsAlone 31 = .ok (.goto (-29), 3) := by decide +kernel
theorem dX12_knowsAlone_34 : decode cX12_knowsAlone 34 = .ok (.return_, 1) := by decide +kernel
theorem dX12_rewinds_0 : decode cX12_rewinds 0 = .ok (.aload_n 0, 1) := by decide +kernel
theorem dX12_rewinds_1 : decode cX12_rewinds 1 = .ok (.getfield 7, 3) := by decide +kernel
theorem dX12_rewinds_4 : decode cX12_rewinds 4 = .ok (.iconst 0, 1) := by decide +kernel
theorem dX12_rewinds_5 : decode cX12_rewinds 5 = .ok (.iconst 0, 1) := by decide +kernel
theorem dX12_rewinds_6 : decode cX12_rewinds 6 = .ok (.iastore, 1) := by decide +kernel
theorem dX12_rewinds_7 : decode cX12_rewinds 7 = .ok (.aload_n 0, 1) := by decide +kernel
theorem dX12_rewinds_8 : decode cX12_rewinds 8 = .ok (.getfield 7, 3) := by decide +kernel
theorem dX12_rewinds_11 : decode cX12_rewinds 11 = .ok (.iconst 1, 1) := by decide +kernel
theorem dX12_rewinds_12 : decode cX12_rewinds 12 = .ok (.iconst 0, 1) := by decide +kernel
theorem dX12_rewinds_13 : decode cX12_rewinds 13 = .ok (.iastore, 1) := by decide +kernel
