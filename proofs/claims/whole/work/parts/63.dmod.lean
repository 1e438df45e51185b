theorem dX8_init_0 : decode cX8_init 0 = .ok (.aload_n 0, 1) := by decide +kernel
theorem dX8_init_1 : decode cX8_init 1 = .ok (.invokespecial 1, 3) := by decide +kernel
theorem dX8_init_4 : decode cX8_init 4 = .ok (.aload_n 0, 1) := by decide +kernel
theorem dX8_init_5 : decode cX8_init 5 = .ok (.sipush 463, 3) := by decide +kernel
theorem dX8_init_8 : decode cX8_init 8 = .ok (.newarray .int, 2) := by decide +kernel
theorem dX8_init_10 : decode cX8_init 10 = .ok (.putfield 7, 3) := by decide +kernel
theorem dX8_init_13 : decode cX8_init 13 = .ok (.aload_n 0, 1) := by decide +kernel
theorem dX8_init_14 : decode cX8_init 14 = .ok (.sipush 1852, 3) := by decide +kernel
theorem dX8_init_17 : decode cX8_init 17 = .ok (.newarray .int, 2) := by decide +kernel
theorem dX8_init_19 : decode cX8_init 19 = .ok (.putfield 13, 3) := by decide +kernel
theorem dX8_init_22 : decode cX8_init 22 = .ok (.aload_n 0, 1) := by decide +kernel
theorem dX8_init_23 : decode cX8_init 23 = .ok (.sipush 463, 3) := by decide +kernel
theorem dX8_init_26 : decode cX8_init 26 = .ok (.newarray .int, 2) := by decide +kernel
theorem dX8_init_28 : decode cX8_init 28 = .ok (.putfield 16, 3) := by decide +kernel
theorem dX8_init_31 : decode cX8_init 31 = .ok (.aload_n 0, 1) := by decide +kernel
theorem dX8_init_32 : decode cX8_init 32 = .ok (.bipush 24, 2) := by decide +kernel
theorem dX8_init_34 : decode cX8_init 34 = .ok (.newarray .int, 2) := by decide +kernel
theorem dX8_init_36 : decode cX8_init 36 = .ok (.putfield 19, 3) := by decide +kernel
theorem dX8_init_39 : decode cX8_init 39 = .ok (.aload_n 0, 1) := by decide +kernel
theorem dX8_init_40 : decode cX8_init 40 = .ok (.bipush 24, 2) := by decide +kernel
theorem dX8_init_42 : decode cX8_init 42 = .ok (.newarray .int, 2) := by decide +kernel
theorem dX8_init_44 : decode cX8_init 44 = .ok (.putfield 22, 3) := by decide +kernel
theorem dX8_init_47 : decode cX8_init 47 = .ok (.aload_n 0, 1) := by decide +kernel
theorem dX8_init_48 : decode cX8_init 48 = .ok (.bipush 24, 2) := by decide +kernel
theorem dX8_init_50 : decode cX8_init 50 = .ok (.newarray .int, 2) := by decide +kernel
theorem dX8_init_52 : decode cX8_init 52 = .ok (.putfield 25, 3) := by decide +kernel
theorem dX8_init_55 : decode cX8_init 55 = .ok (.aload_n 0, 1) := by decide +kernel
theorem dX8_init_56 : decode cX8_init 56 = .ok (.bipush 24, 2) := by decide +kernel
theorem dX8_init_58 : decode cX8_init 58 = .ok (.newarray .int, 2) := by decide +kernel
theorem dX8_init_60 : decode cX8_init 60 = .ok (.putfield 28, 3) := by decide +kernel
theorem dX8_init_63 : decode cX8_init 63 = .ok (.aload_n 0, 1) := by decide +kernel
theorem dX8_init_64 : decode cX8_init 64 = .ok (.bipush 24, 2) := by decide +kernel
theorem dX8_init_66 : decode cX8_init 66 = .ok (.newarray .int, 2) := by decide +kernel
theorem dX8_init_68 : decode cX8_init 68 = .ok (.putfield 31, 3) := by decide +kernel
theorem dX8_init_71 : decode cX8_init 71 = .ok (.aload_n 0, 1) := by decide +kernel
theorem dX8_init_72 : decode cX8_init 72 = .ok (.sipush 200, 3) := by decide +kernel
theorem dX8_init_75 : decode cX8_init 75 = .ok (.newarray .int, 2) := by decide +kernel
theorem dX8_init_77 : decode cX8_init 77 = .ok (.putfield 34, 3) := by decide +kernel
theorem dX8_init_80 : decode cX8_init 80 = .ok (.aload_n 0, 1) := by decide +kernel
theorem dX8_init_81 : decode cX8_init 81 = .ok (.getfield 7, 3) := by decide +kernel
theorem dX8_init_84 : decode cX8_init 84 = .ok (.iconst 0, 1) := by decide +kernel
theorem dX8_init_85 : decode cX8_init 85 = .ok (.bipush 60, 2) := by decide +kernel
theorem dX8_init_87 : decode cX8_init 87 = .ok (.iastore, 1) := by decide +kernel
theorem dX8_init_88 : decode cX8_init 88 = .ok (.aload_n 0, 1) := by decide +kernel
theorem dX8_init_89 : decode cX8_init 89 = .ok (.getfield 7, 3) := by decide +kernel
theorem dX8_init_92 : decode cX8_init 92 = .ok (.iconst 1, 1) := by decide +kernel
theorem dX8_init_93 : decode cX8_init 93 = .ok (.bipush 40, 2) := by decide +kernel
theorem dX8_init_95 : decode cX8_init 95 = .ok (.iastore, 1) := by decide +kernel
theorem dX8_init_96 : decode cX8_init 96 = .ok (.aload_n 0, 1) := by decide +kernel
theorem dX8_init_97 : decode cX8_init 97 = .ok (.getfield 7, 3) := by decide +kernel
theorem dX8_init_100 : decode cX8_init 100 = .ok (.iconst 3, 1) := by decide +kernel
theorem dX8_init_101 : decode cX8_init 101 = .ok (.iconst 2, 1) := by decide +kernel
theorem dX8_init_102 : decode cX8_init 102 = .ok (.iastore, 1) := by decide +kernel
theorem dX8_init_103 : decode cX8_init 103 = .ok (.aload_n 0, 1) := by decide +kernel
theorem dX8_init_104 : decode cX8_init 104 = .ok (.getfield 7, 3) := by decide +kernel
theorem dX8_init_107 : decode cX8_init 107 = .ok (.iconst 4, 1) := by decide +kernel
theorem dX8_init_108 : decode cX8_init 108 = .ok (.iconst 5, 1) := by decide +kernel
theorem dX8_init_109 : decode cX8_init 109 = .ok (.iastore, 1) := by decide +kernel
theorem dX8_init_110 : decode cX8_init 110 = .ok (.return_, 1) := by decide +kernel
theorem dX8_thrown_0 : decode cX8_thrown 0 = .ok (.aload_n 0, 1) := by decide +kernel
theorem dX8_thrown_1 : decode cX8_thrown 1 = .ok (.getfield 37, 3) := by decide +kernel
theorem dX8_thrown_4 : decode cX8_thrown 4 = .ok (.ireturn, 1) := by decide +kernel
theorem dX8_in_0 : decode cX8_in 0 = .ok (.lload_n 0, 1) := by decide +kernel
theorem dX8_in_1 : decode cX8_in 1 = .ok (.lload_n 2, 1) := by decide +kernel
theorem dX8_in_2 : decode cX8_in 2 = .ok (.lcmp, 1) := by decide +kernel
theorem dX8_in_3 : decode cX8_in 3 = .ok (.ifCond .lt 14, 3) := by decide +kernel
theorem dX8_in_6 : decode cX8_in 6 = .ok (.lload_n 0, 1) := by decide +kernel
theorem dX8_in_7 : decode cX8_in 7 = .ok (.lload 4, 2) := by decide +kernel
theorem dX8_in_9 : decode cX8_in 9 = .ok (.lcmp, 1) := by decide +kernel
theorem dX8_in_10 : decode cX8_in 10 = .ok (.ifCond .gt 7, 3) := by decide +kernel
theorem dX8_in_13 : decode cX8_in 13 = .ok (.iconst 1, 1) := by decide +kernel
theorem dX8_in_14 : decode cX8_in 14 = .ok (.goto 4, 3) := by decide +kernel
theorem dX8_in_17 : decode cX8_in 17 = .ok (.iconst 0, 1) := by decide +kernel
theorem dX8_in_18 : decode cX8_in 18 = .ok (.ireturn, 1) := by decide +kernel
theorem dX8_goes_0 : decode cX8_goes 0 = .ok (.aload_n 0, 1) := by decide +kernel
theorem dX8_goes_1 : decode cX8_goes 1 = .ok (.iload_n 1, 1) := by decide +kernel
theorem dX8_goes_2 : decode cX8_goes 2 = .ok (.ifCond .ne 7, 3) := by decide +kernel
theorem dX8_goes_5 : decode cX8_goes 5 = .ok (.iconst 1, 1) := by decide +kernel
theorem dX8_goes_6 : decode cX8_goes 6 = .ok (.goto 12, 3) := by decide +kernel
theorem dX8_goes_9 : decode cX8_goes 9 = .ok (.iload_n 2, 1) := by decide +kernel
theorem dX8_goes_10 : decode cX8_goes 10 = .ok (.ifCond .ne 7, 3) := by decide +kernel
theorem dX8_goes_13 : decode cX8_goes 13 = .ok (.iconst 2, 1) := by decide +kernel
theorem dX8_goes_14 : decode cX8_goes 14 = .ok (.goto 4, 3) := by decide +kernel
theorem dX8_goes_17 : decode cX8_goes 17 = .ok (.iconst 0, 1) := by decide +kernel
theorem dX8_goes_18 : decode cX8_goes 18 = .ok (.putfield 37, 3) := by decide +kernel
theorem dX8_goes_21 : decode cX8_goes 21 = .ok (.aload_n 0, 1) := by decide +kernel
theorem dX8_goes_22 : decode cX8_goes 22 = .ok (.getfield 37, 3) := by decide +kernel
theorem dX8_goes_25 : decode cX8_goes 25 = .ok (.ifCond .ne 7, 3) := by decide +kernel
theorem dX8_goes_28 : decode cX8_goes 28 = .ok (.iconst 1, 1) := by decide +kernel
theorem dX8_goes_29 : decode cX8_goes 29 = .ok (.goto 4, 3) := by decide +kernel
theorem dX8_goes_32 : decode cX8_goes 32 = .ok (.iconst 0, 1) := by decide +kernel
theorem dX8_goes_33 : decode cX8_goes 33 = .ok (.ireturn, 1) := by decide +kernel
theorem dX8_save_0 : decode cX8_save 0 = .ok (.aload_n 0, 1) := by decide +kernel
theorem dX8_save_1 : decode cX8_save 1 = .ok (.getfield 41, 3) := by decide +kernel
theorem dX8_save_4 : decode cX8_save 4 = .ok (.iconst 4, 1) := by decide +kernel
theorem dX8_save_5 : decode cX8_save 5 = .ok (.if_icmp .ne 44, 3) := by decide +kernel
theorem dX8_save_8 : decode cX8_save 8 = .ok (.iconst 0, 1) := by decide +kernel
theorem dX8_save_9 : decode cX8_save 9 = .ok (.istore_n 1, 1) := by decide +kernel
theorem dX8_save_10 : decode cX8_save 10 = .ok (.iload_n 1, 1) := by decide +kernel
theorem dX8_save_11 : decode cX8_save 11 = .ok (.sipush 1389, 3) := by decide +kernel
theorem dX8_save_14 : decode cX8_save 14 = .ok (.if_icmp .ge 25, 3) := by decide +kernel
theorem dX8_save_17 : decode cX8_save 17 = .ok (.aload_n 0, 1) := by decide +kernel
theorem dX8_save_18 : decode cX8_save 18 = .ok (.getfield 13, 3) := by decide +kernel
theorem dX8_save_21 : decode cX8_save 21 = .ok (.iload_n 1, 1) := by decide +kernel
theorem dX8_save_22 : decode cX8_save 22 = .ok (.aload_n 0, 1) := by decide +kernel
theorem dX8_save_23 : decode cX8_save 23 = .ok (.getfield 13, 3) := by decide +kernel
theorem dX8_save_26 : decode cX8_save 26 = .ok (.iload_n 1, 1) := by decide +kernel
theorem dX8_save_27 : decode cX8_save 27 = .ok (.sipush 463, 3) := by decide +kernel
theorem dX8_save_30 : decode cX8_save 30 = .ok (.iadd, 1) := by decide +kernel
theorem dX8_save_31 : decode cX8_save 31 = .ok (.iaload, 1) := by decide +kernel
theorem dX8_save_32 : decode cX8_save 32 = .ok (.iastore, 1) := by decide +kernel
theorem dX8_save_33 : decode cX8_save 33 = .ok (.iinc 1 1, 3) := by decide +kernel
theorem dX8_save_36 : decode cX8_save 36 = .ok (.goto (-26), 3) := by decide +kernel
theorem dX8_save_39 : decode cX8_save 39 = .ok (.aload_n 0, 1) := by decide +kernel
theorem dX8_save_40 : decode cX8_save 40 = .ok (.dup, 1) := by decide +kernel
theorem dX8_save_41 : decode cX8_save 41 = .ok (.getfield 41, 3) := by decide +kernel
theorem dX8_save_44 : decode cX8_save 44 = .ok (.iconst 1, 1) := by decide +kernel
theorem dX8_save_45 : decode cX8_save 45 = .ok (.isub, 1) := by decide +kernel
theorem dX8_save_46 : decode cX8_save 46 = .ok (.putfield 41, 3) := by decide +kernel
theorem dX8_save_49 : decode cX8_save 49 = .ok (.iconst 0, 1) := by decide +kernel
theorem dX8_save_50 : decode cX8_save 50 = .ok (.istore_n 1, 1) := by decide +kernel
theorem dX8_save_51 : decode cX8_save 51 = .ok (.iload_n 1, 1) := by decide +kernel
theorem dX8_save_52 : decode cX8_save 52 = .ok (.sipush 463, 3) := by decide +kernel
theorem dX8_save_55 : decode cX8_save 55 = .ok (.if_icmp .ge 30, 3) := by decide +kernel
theorem dX8_save_58 : decode cX8_save 58 = .ok (.aload_n 0, 1) := by decide +kernel
theorem dX8_save_59 : decode cX8_save 59 = .ok (.getfield 13, 3) := by decide +kernel
theorem dX8_save_62 : decode cX8_save 62 = .ok (.sipush 463, 3) := by decide +kernel
theorem dX8_save_65 : decode cX8_save 65 = .ok (.aload_n 0, 1) := by decide +kernel
theorem dX8_save_66 : decode cX8_save 66 = .ok (.getfield 41, 3) := by decide +kernel
theorem dX8_save_69 : decode cX8_save 69 = .ok (.imul, 1) := by decide +kernel
theorem dX8_save_70 : decode cX8_save 70 = .ok (.iload_n 1, 1) := by decide +kernel
theorem dX8_save_71 : decode cX8_save 71 = .ok (.iadd, 1) := by decide +kernel
theorem dX8_save_72 : decode cX8_save 72 = .ok (.aload_n 0, 1) := by decide +kernel
theorem dX8_save_73 : decode cX8_save 73 = .ok (.getfield 7, 3) := by decide +kernel
theorem dX8_save_76 : decode cX8_save 76 = .ok (.iload_n 1, 1) := by decide +kernel
theorem dX8_save_77 : decode cX8_save 77 = .ok (.iaload, 1) := by decide +kernel
theorem dX8_save_78 : decode cX8_save 78 = .ok (.iastore, 1) := by decide +kernel
theorem dX8_save_79 : decode cX8_save 79 = .ok (.iinc 1 1, 3) := by decide +kernel
theorem dX8_save_82 : decode cX8_save 82 = .ok (.goto (-31), 3) := by decide +kernel
theorem dX8_save_85 : decode cX8_save 85 = .ok (.aload_n 0, 1) := by decide +kernel
theorem dX8_save_86 : decode cX8_save 86 = .ok (.dup, 1) := by decide +kernel
theorem dX8_save_87 : decode cX8_save 87 = .ok (.getfield 41, 3) := by decide +kernel
theorem dX8_save_90 : decode cX8_save 90 = .ok (.iconst 1, 1) := by decide +kernel
theorem dX8_save_91 : decode cX8_save 91 = .ok (.iadd, 1) := by decide +kernel
theorem dX8_save_92 : decode cX8_save 92 = .ok (.putfield 41, 3) := by decide +kernel
theorem dX8_save_95 : decode cX8_save 95 = .ok (.return_, 1) := by decide +kernel
theorem dX8_lays_0 : decode cX8_lays 0 = .ok (.iconst 0, 1) := by decide +kernel
theorem dX8_lays_1 : decode cX8_lays 1 = .ok (.istore_n 1, 1) := by decide +kernel
theorem dX8_lays_2 : decode cX8_lays 2 = .ok (.iload_n 1, 1) := by decide +kernel
theorem dX8_lays_3 : decode cX8_lays 3 = .ok (.sipush 463, 3) := by decide +kernel
theorem dX8_lays_6 : decode cX8_lays 6 = .ok (.if_icmp .ge 21, 3) := by decide +kernel
theorem dX8_lays_9 : decode cX8_lays 9 = .ok (.aload_n 0, 1) := by decide +kernel
theorem dX8_lays_10 : decode cX8_lays 10 = .ok (.getfield 16, 3) := by decide +kernel
theorem dX8_lays_13 : decode cX8_lays 13 = .ok (.iload_n 1, 1) := by decide +kernel
theorem dX8_lays_14 : decode cX8_lays 14 = .ok (.aload_n 0, 1) := by decide +kernel
theorem dX8_lays_15 : decode cX8_lays 15 = .ok (.getfield 7, 3) := by decide +kernel
theorem dX8_lays_18 : decode cX8_lays 18 = .ok (.iload_n 1, 1) := by decide +kernel
theorem dX8_lays_19 : decode cX8_lays 19 = .ok (.iaload, 1) := by decide +kernel
theorem dX8_lays_20 : decode cX8_lays 20 = .ok (.iastore, 1) := by decide +kernel
theorem dX8_lays_21 : decode cX8_lays 21 = .ok (.iinc 1 1, 3) := by decide +kernel
theorem dX8_lays_24 : decode cX8_lays 24 = .ok (.goto (-22), 3) := by decide +kernel
theorem dX8_lays_27 : decode cX8_lays 27 = .ok (.return_, 1) := by decide +kernel
theorem dX8_takesBack_0 : decode cX8_takesBack 0 = .ok (.iconst 0, 1) := by decide +kernel
theorem dX8_takesBack_1 : decode cX8_takesBack 1 = .ok (.istore_n 1, 1) := by decide +kernel
theorem dX8_takesBack_2 : decode cX8_takesBack 2 = .ok (.iload_n 1, 1) := by decide +kernel
theorem dX8_takesBack_3 : decode cX8_takesBack 3 = .ok (.sipush 463, 3) := by decide +kernel
theorem dX8_takesBack_6 : decode cX8_takesBack 6 = .ok (.if_icmp .ge 21, 3) := by decide +kernel
theorem dX8_takesBack_9 : decode cX8_takesBack 9 = .ok (.aload_n 0, 1) := by decide +kernel
theorem dX8_takesBack_10 : decode cX8_takesBack 10 = .ok (.getfield 7, 3) := by decide +kernel
theorem dX8_takesBack_13 : decode cX8_takesBack 13 = .ok (.iload_n 1, 1) := by decide +kernel
theorem dX8_takesBack_14 : decode cX8_takesBack 14 = .ok (.aload_n 0, 1) := by decide +kernel
theorem dX8_takesBack_15 : decode cX8_takesBack 15 = .ok (.getfield 16, 3) := by decide +kernel
theorem dX8_takesBack_18 : decode cX8_takesBack 18 = .ok (.iload_n 1, 1) := by decide +kernel
theorem dX8_takesBack_19 : decode cX8_takesBack 19 = .ok (.iaload, 1) := by decide +kernel
theorem dX8_takesBack_20 : decode cX8_takesBack 20 = .ok (.iastore, 1) := by decide +kernel
theorem dX8_takesBack_21 : decode cX8_takesBack 21 = .ok (.iinc 1 1, 3) := by decide +kernel
theorem dX8_takesBack_24 : decode cX8_takesBack 24 = .ok (.goto (-22), 3) := by decide +kernel
theorem dX8_takesBack_27 : decode cX8_takesBack 27 = .ok (.return_, 1) := by decide +kernel
theorem dX8_at_0 : decode cX8_at 0 = .ok (.bipush 7, 2) := by decide +kernel
theorem dX8_at_2 : decode cX8_at 2 = .ok (.bipush 19, 2) := by decide +kernel
theorem dX8_at_4 : decode cX8_at 4 = .ok (.iload_n 0, 1) := by decide +kernel
theorem dX8_at_5 : decode cX8_at 5 = .ok (.imul, 1) := by decide +kernel
theorem dX8_at_6 : decode cX8_at 6 = .ok (.iadd, 1) := by decide +kernel
theorem dX8_at_7 : decode cX8_at 7 = .ok (.iload_n 1, 1) := by decide +kernel
theorem dX8_at_8 : decode cX8_at 8 = .ok (.iadd, 1) := by decide +kernel
theorem dX8_at_9 : decode cX8_at 9 = .ok (.ireturn, 1) := by decide +kernel
theorem dX8_of_0 : decode cX8_of 0 = .ok (.aload_n 0, 1) := by decide +kernel
theorem dX8_of_1 : decode cX8_of 1 = .ok (.getfield 7, 3) := by decide +kernel
theorem dX8_of_4 : decode cX8_of 4 = .ok (.iload_n 1, 1) := by decide +kernel
theorem dX8_of_5 : decode cX8_of 5 = .ok (.iload_n 2, 1) := by decide +kernel
theorem dX8_of_6 : decode cX8_of 6 = .ok (.invokestatic 44, 3) := by decide +kernel
theorem dX8_of_9 : decode cX8_of 9 = .ok (.iaload, 1) := by decide +kernel
theorem dX8_of_10 : decode cX8_of 10 = .ok (.ireturn, 1) := by decide +kernel
theorem dX8_isWord_0 : decode cX8_isWord 0 = .ok (.iload_n 1, 1) := by decide +kernel
theorem dX8_isWord_1 : decode cX8_isWord 1 = .ok (.i2l, 1) := by decide +kernel
theorem dX8_isWord_2 : decode cX8_isWord 2 = .ok (.lconst 0, 1) := by decide +kernel
theorem dX8_isWord_3 : decode cX8_isWord 3 = .ok (.aload_n 0, 1) := by decide +kernel
theorem dX8_isWord_4 : decode cX8_isWord 4 = .ok (.getfield 7, 3) := by decide +kernel
theorem dX8_isWord_7 : decode cX8_isWord 7 = .ok (.iconst 5, 1) := by decide +kernel
theorem dX8_isWord_8 : decode cX8_isWord 8 = .ok (.iaload, 1) := by decide +kernel
theorem dX8_isWord_9 : decode cX8_isWord 9 = .ok (.i2l, 1) := by decide +kernel
theorem dX8_isWord_10 : decode cX8_isWord 10 = .ok (.lconst 1, 1) := by decide +kernel
theorem dX8_isWord_11 : decode cX8_isWord 11 = .ok (.lsub, 1) := by decide +kernel
theorem dX8_isWord_12 : decode cX8_isWord 12 = .ok (.invokestatic 48, 3) := by decide +kernel
theorem dX8_isWord_15 : decode cX8_isWord 15 = .ok (.ireturn, 1) := by decide +kernel
theorem dX8_hasPlace_0 : decode cX8_hasPlace 0 = .ok (.aload_n 0, 1) := by decide +kernel
theorem dX8_hasPlace_1 : decode cX8_hasPlace 1 = .ok (.iload_n 1, 1) := by decide +kernel
theorem dX8_hasPlace_2 : decode cX8_hasPlace 2 = .ok (.bipush 16, 2) := by decide +kernel
theorem dX8_hasPlace_4 : decode cX8_hasPlace 4 = .ok (.invokevirtual 52, 3) := by decide +kernel
theorem dX8_hasPlace_7 : decode cX8_hasPlace 7 = .ok (.ifCond .le 7, 3) := by decide +kernel
theorem dX8_hasPlace_10 : decode cX8_hasPlace 10 = .ok (.iconst 1, 1) := by decide +kernel
theorem dX8_hasPlace_11 : decode cX8_hasPlace 11 = .ok (.goto 4, 3) := by decide +kernel
theorem dX8_hasPlace_14 : decode cX8_hasPlace 14 = .ok (.iconst 0, 1) := by decide +kernel
theorem dX8_hasPlace_15 : decode cX8_hasPlace 15 = .ok (.ireturn, 1) := by decide +kernel
theorem dX8_setWeight_0 : decode cX8_setWeight 0 = .ok (.aload_n 0, 1) := by decide +kernel
theorem dX8_setWeight_1 : decode cX8_setWeight 1 = .ok (.aload_n 0, 1) := by decide +kernel
theorem dX8_setWeight_2 : decode cX8_setWeight 2 = .ok (.iload_n 1, 1) := by decide +kernel
theorem dX8_setWeight_3 : decode cX8_setWeight 3 = .ok (.invokevirtual 55, 3) := by decide +kernel
theorem dX8_setWeight_6 : decode cX8_setWeight 6 = .ok (.iload_n 2, 1) := by decide +kernel
theorem dX8_setWeight_7 : decode cX8_setWeight 7 = .ok (.i2l, 1) := by decide +kernel
theorem dX8_setWeight_8 : decode cX8_setWeight 8 = .ok (.lconst 1, 1) := by decide +kernel
theorem dX8_setWeight_9 : decode cX8_setWeight 9 = .ok (.ldc2_w 59, 3) := by decide +kernel
theorem dX8_setWeight_12 : decode cX8_setWeight 12 = .ok (.invokestatic 48, 3) := by decide +kernel
theorem dX8_setWeight_15 : decode cX8_setWeight 15 = .ok (.invokevirtual 61, 3) := by decide +kernel
theorem dX8_setWeight_18 : decode cX8_setWeight 18 = .ok (.ifCond .ne 5, 3) := by decide +kernel
theorem dX8_setWeight_21 : decode cX8_setWeight 21 = .ok (.iconst 0, 1) := by decide +kernel
theorem dX8_setWeight_22 : decode cX8_setWeight 22 = .ok (.ireturn, 1) := by decide +kernel
theorem dX8_setWeight_23 : decode cX8_setWeight 23 = .ok (.aload_n 0, 1) := by decide +kernel
theorem dX8_setWeight_24 : decode cX8_setWeight 24 = .ok (.invokevirtual 65, 3) := by decide +kernel
theorem dX8_setWeight_27 : decode cX8_setWeight 27 = .ok (.aload_n 0, 1) := by decide +kernel
theorem dX8_setWeight_28 : decode cX8_setWeight 28 = .ok (.iload_n 1, 1) := by decide +kernel
theorem dX8_setWeight_29 : decode cX8_setWeight 29 = .ok (.bipush 11, 2) := by decide +kernel
theorem dX8_setWeight_31 : decode cX8_setWeight 31 = .ok (.invokevirtual 52, 3) := by decide +kernel
theorem dX8_setWeight_34 : decode cX8_setWeight 34 = .ok (.istore_n 3, 1) := by decide +kernel
theorem dX8_setWeight_35 : decode cX8_setWeight 35 = .ok (.aload_n 0, 1) := by decide +kernel
theorem dX8_setWeight_36 : decode cX8_setWeight 36 = .ok (.getfield 7, 3) := by decide +kernel
theorem dX8_setWeight_39 : decode cX8_setWeight 39 = .ok (.iload_n 1, 1) := by decide +kernel
theorem dX8_setWeight_40 : decode cX8_setWeight 40 = .ok (.bipush 11, 2) := by decide +kernel
theorem dX8_setWeight_42 : decode cX8_setWeight 42 = .ok (.invokestatic 44, 3) := by decide +kernel
theorem dX8_setWeight_45 : decode cX8_setWeight 45 = .ok (.iload_n 2, 1) := by decide +kernel
theorem dX8_setWeight_46 : decode cX8_setWeight 46 = .ok (.iastore, 1) := by decide +kernel
theorem dX8_setWeight_47 : decode cX8_setWeight 47 = .ok (.iload_n 3, 1) := by decide +kernel
theorem dX8_setWeight_48 : decode cX8_setWeight 48 = .ok (.ireturn, 1) := by decide +kernel
theorem dX8_setKind_0 : decode cX8_setKind 0 = .ok (.aload_n 0, 1) := by decide +kernel
theorem dX8_setKind_1 : decode cX8_setKind 1 = .ok (.aload_n 0, 1) := by decide +kernel
theorem dX8_setKind_2 : decode cX8_setKind 2 = .ok (.iload_n 1, 1) := by decide +kernel
theorem dX8_setKind_3 : decode cX8_setKind 3 = .ok (.invokevirtual 55, 3) := by decide +kernel
theorem dX8_setKind_6 : decode cX8_setKind 6 = .ok (.iload_n 2, 1) := by decide +kernel
theorem dX8_setKind_7 : decode cX8_setKind 7 = .ok (.i2l, 1) := by decide +kernel
theorem dX8_setKind_8 : decode cX8_setKind 8 = .ok (.lconst 0, 1) := by decide +kernel
theorem dX8_setKind_9 : decode cX8_setKind 9 = .ok (.ldc2_w 68, 3) := by decide +kernel
theorem dX8_setKind_12 : decode cX8_setKind 12 = .ok (.invokestatic 48, 3) := by decide +kernel
theorem dX8_setKind_15 : decode cX8_setKind 15 = .ok (.ifCond .eq 19, 3) := by decide +kernel
theorem dX8_setKind_18 : decode cX8_setKind 18 = .ok (.iload_n 3, 1) := by decide +kernel
theorem dX8_setKind_19 : decode cX8_setKind 19 = .ok (.i2l, 1) := by decide +kernel
theorem dX8_setKind_20 : decode cX8_setKind 20 = .ok (.lconst 0, 1) := by decide +kernel
theorem dX8_setKind_21 : decode cX8_setKind 21 = .ok (.ldc2_w 70, 3) := by decide +kernel
theorem dX8_setKind_24 : decode cX8_setKind 24 = .ok (.invokestatic 48, 3) := by decide +kernel
theorem dX8_setKind_27 : decode cX8_setKind 27 = .ok (.ifCond .eq 7, 3) := by decide +kernel
theorem dX8_setKind_30 : decode cX8_setKind 30 = .ok (.iconst 1, 1) := by decide +kernel
theorem dX8_setKind_31 : decode cX8_setKind 31 = .ok (.goto 4, 3) := by decide +kernel
theorem dX8_setKind_34 : decode cX8_setKind 34 = .ok (.iconst 0, 1) := by decide +kernel
theorem dX8_setKind_35 : decode cX8_setKind 35 = .ok (.invokevirtual 61, 3) := by decide +kernel
theorem dX8_setKind_38 : decode cX8_setKind 38 = .ok (.ifCond .ne 5, 3) := by decide +kernel
theorem dX8_setKind_41 : decode cX8_setKind 41 = .ok (.iconst 0, 1) := by decide +kernel
theorem dX8_setKind_42 : decode cX8_setKind 42 = .ok (.ireturn, 1) := by decide +kernel
theorem dX8_setKind_43 : decode cX8_setKind 43 = .ok (.aload_n 0, 1) := by decide +kernel
theorem dX8_setKind_44 : decode cX8_setKind 44 = .ok (.invokevirtual 65, 3) := by decide +kernel
theorem dX8_setKind_47 : decode cX8_setKind 47 = .ok (.aload_n 0, 1) := by decide +kernel
theorem dX8_setKind_48 : decode cX8_setKind 48 = .ok (.iload_n 1, 1) := by decide +kernel
theorem dX8_setKind_49 : decode cX8_setKind 49 = .ok (.bipush 12, 2) := by decide +kernel
theorem dX8_setKind_51 : decode cX8_setKind 51 = .ok (.invokevirtual 52, 3) := by decide +kernel
theorem dX8_setKind_54 : decode cX8_setKind 54 = .ok (.istore 4, 2) := by decide +kernel
theorem dX8_setKind_56 : decode cX8_setKind 56 = .ok (.aload_n 0, 1) := by decide +kernel
theorem dX8_setKind_57 : decode cX8_setKind 57 = .ok (.getfield 7, 3) := by decide +kernel
theorem dX8_setKind_60 : decode cX8_setKind 60 = .ok (.iload_n 1, 1) := by decide +kernel
theorem dX8_setKind_61 : decode cX8_setKind 61 = .ok (.bipush 12, 2) := by decide +kernel
theorem dX8_setKind_63 : decode cX8_setKind 63 = .ok (.invokestatic 44, 3) := by decide +kernel
theorem dX8_setKind_66 : decode cX8_setKind 66 = .ok (.iload_n 2, 1) := by decide +kernel
theorem dX8_setKind_67 : decode cX8_setKind 67 = .ok (.iastore, 1) := by decide +kernel
theorem dX8_setKind_68 : decode cX8_setKind 68 = .ok (.aload_n 0, 1) := by decide +kernel
theorem dX8_setKind_69 : decode cX8_setKind 69 = .ok (.getfield 7, 3) := by decide +kernel
theorem dX8_setKind_72 : decode cX8_setKind 72 = .ok (.iload_n 1, 1) := by decide +kernel
theorem dX8_setKind_73 : decode cX8_setKind 73 = .ok (.bipush 13, 2) := by decide +kernel
theorem dX8_setKind_75 : decode cX8_setKind 75 = .ok (.invokestatic 44, 3) := by decide +kernel
theorem dX8_setKind_78 : decode cX8_setKind 78 = .ok (.iload_n 3, 1) := by decide +kernel
theorem dX8_setKind_79 : decode cX8_setKind 79 = .ok (.iastore, 1) := by decide +kernel
theorem dX8_setKind_80 : decode cX8_setKind 80 = .ok (.iload 4, 2) := by decide +kernel
theorem dX8_setKind_82 : decode cX8_setKind 82 = .ok (.ireturn, 1) := by decide +kernel
theorem dX8_remove_0 : decode cX8_remove 0 = .ok (.aload_n 0, 1) := by decide +kernel
theorem dX8_remove_1 : decode cX8_remove 1 = .ok (.aload_n 0, 1) := by decide +kernel
theorem dX8_remove_2 : decode cX8_remove 2 = .ok (.iload_n 1, 1) := by decide +kernel
theorem dX8_remove_3 : decode cX8_remove 3 = .ok (.invokevirtual 55, 3) := by decide +kernel
theorem dX8_remove_6 : decode cX8_remove 6 = .ok (.iconst 1, 1) := by decide +kernel
theorem dX8_remove_7 : decode cX8_remove 7 = .ok (.invokevirtual 61, 3) := by decide +kernel
theorem dX8_remove_10 : decode cX8_remove 10 = .ok (.ifCond .ne 5, 3) := by decide +kernel
theorem dX8_remove_13 : decode cX8_remove 13 = .ok (.iconst 0, 1) := by decide +kernel
theorem dX8_remove_14 : decode cX8_remove 14 = .ok (.ireturn, 1) := by decide +kernel
theorem dX8_remove_15 : decode cX8_remove 15 = .ok (.aload_n 0, 1) := by decide +kernel
theorem dX8_remove_16 : decode cX8_remove 16 = .ok (.invokevirtual 65, 3) := by decide +kernel
theorem dX8_remove_19 : decode cX8_remove 19 = .ok (.aload_n 0, 1) := by decide +kernel
theorem dX8_remove_20 : decode cX8_remove 20 = .ok (.getfield 7, 3) := by decide +kernel
theorem dX8_remove_23 : decode cX8_remove 23 = .ok (.iconst 5, 1) := by decide +kernel
theorem dX8_remove_24 : decode cX8_remove 24 = .ok (.dup2, 1) := by decide +kernel
theorem dX8_remove_25 : decode cX8_remove 25 = .ok (.iaload, 1) := by decide +kernel
theorem dX8_remove_26 : decode cX8_remove 26 = .ok (.iconst 1, 1) := by decide +kernel
theorem dX8_remove_27 : decode cX8_remove 27 = .ok (.isub, 1) := by decide +kernel
theorem dX8_remove_28 : decode cX8_remove 28 = .ok (.iastore, 1) := by decide +kernel
theorem dX8_remove_29 : decode cX8_remove 29 = .ok (.iload_n 1, 1) := by decide +kernel
theorem dX8_remove_30 : decode cX8_remove 30 = .ok (.iconst 0, 1) := by decide +kernel
theorem dX8_remove_31 : decode cX8_remove 31 = .ok (.invokestatic 44, 3) := by decide +kernel
theorem dX8_remove_34 : decode cX8_remove 34 = .ok (.istore_n 2, 1) := by decide +kernel
theorem dX8_remove_35 : decode cX8_remove 35 = .ok (.iload_n 2, 1) := by decide +kernel
theorem dX8_remove_36 : decode cX8_remove 36 = .ok (.aload_n 0, 1) := by decide +kernel
theorem dX8_remove_37 : decode cX8_remove 37 = .ok (.getfield 7, 3) := by decide +kernel
theorem dX8_remove_40 : decode cX8_remove 40 = .ok (.iconst 5, 1) := by decide +kernel
theorem dX8_remove_41 : decode cX8_remove 41 = .ok (.iaload, 1) := by decide +kernel
theorem dX8_remove_42 : decode cX8_remove 42 = .ok (.iconst 0, 1) := by decide +kernel
theorem dX8_remove_43 : decode cX8_remove 43 = .ok (.invokestatic 44, 3) := by decide +kernel
theorem dX8_remove_46 : decode cX8_remove 46 = .ok (.if_icmp .ge 24, 3) := by decide +kernel
theorem dX8_remove_49 : decode cX8_remove 49 = .ok (.aload_n 0, 1) := by decide +kernel
theorem dX8_remove_50 : decode cX8_remove 50 = .ok (.getfield 7, 3) := by decide +kernel
theorem dX8_remove_53 : decode cX8_remove 53 = .ok (.iload_n 2, 1) := by decide +kernel
theorem dX8_remove_54 : decode cX8_remove 54 = .ok (.aload_n 0, 1) := by decide +kernel
theorem dX8_remove_55 : decode cX8_remove 55 = .ok (.getfield 7, 3) := by decide +kernel
theorem dX8_remove_58 : decode cX8_remove 58 = .ok (.iload_n 2, 1) := by decide +kernel
theorem dX8_remove_59 : decode cX8_remove 59 = .ok (.bipush 19, 2) := by decide +kernel
theorem dX8_remove_61 : decode cX8_remove 61 = .ok (.iadd, 1) := by decide +kernel
theorem dX8_remove_62 : decode cX8_remove 62 = .ok (.iaload, 1) := by decide +kernel
theorem dX8_remove_63 : decode cX8_remove 63 = .ok (.iastore, 1) := by decide +kernel
theorem dX8_remove_64 : decode cX8_remove 64 = .ok (.iinc 2 1, 3) := by decide +kernel
theorem dX8_remove_67 : decode cX8_remove 67 = .ok (.goto (-32), 3) := by decide +kernel
theorem dX8_remove_70 : decode cX8_remove 70 = .ok (.aload_n 0, 1) := by decide +kernel
theorem dX8_remove_71 : decode cX8_remove 71 = .ok (.getfield 7, 3) := by decide +kernel
theorem dX8_remove_74 : decode cX8_remove 74 = .ok (.iconst 5, 1) := by decide +kernel
theorem dX8_remove_75 : decode cX8_remove 75 = .ok (.iaload, 1) := by decide +kernel
theorem dX8_remove_76 : decode cX8_remove 76 = .ok (.ireturn, 1) := by decide +kernel
theorem dX8_isCanvas_0 : decode cX8_isCanvas 0 = .ok (.iload_n 0, 1) := by decide +kernel
theorem dX8_isCanvas_1 : decode cX8_isCanvas 1 = .ok (.i2l, 1) := by decide +kernel
theorem dX8_isCanvas_2 : decode cX8_isCanvas 2 = .ok (.ldc2_w 72, 3) := by decide +kernel
theorem dX8_isCanvas_5 : decode cX8_isCanvas 5 = .ok (.ldc2_w 74, 3) := by decide +kernel
theorem dX8_isCanvas_8 : decode cX8_isCanvas 8 = .ok (.invokestatic 48, 3) := by decide +kernel
theorem dX8_isCanvas_11 : decode cX8_isCanvas 11 = .ok (.ifCond .eq 21, 3) := by decide +kernel
theorem dX8_isCanvas_14 : decode cX8_isCanvas 14 = .ok (.iload_n 1, 1) := by decide +kernel
theorem dX8_isCanvas_15 : decode cX8_isCanvas 15 = .ok (.i2l, 1) := by decide +kernel
theorem dX8_isCanvas_16 : decode cX8_isCanvas 16 = .ok (.ldc2_w 72, 3) := by decide +kernel
theorem dX8_isCanvas_19 : decode cX8_isCanvas 19 = .ok (.ldc2_w 76, 3) := by decide +kernel
theorem dX8_isCanvas_22 : decode cX8_isCanvas 22 = .ok (.invokestatic 48, 3) := by decide +kernel
theorem dX8_isCanvas_25 : decode cX8_isCanvas 25 = .ok (.ifCond .eq 7, 3) := by decide +kernel
theorem dX8_isCanvas_28 : decode cX8_isCanvas 28 = .ok (.iconst 1, 1) := by decide +kernel
theorem dX8_isCanvas_29 : decode cX8_isCanvas 29 = .ok (.goto 4, 3) := by decide +kernel
theorem dX8_isCanvas_32 : decode cX8_isCanvas 32 = .ok (.iconst 0, 1) := by decide +kernel
theorem dX8_isCanvas_33 : decode cX8_isCanvas 33 = .ok (.ireturn, 1) := by decide +kernel
theorem dX8_setCanvas_0 : decode cX8_setCanvas 0 = .ok (.aload_n 0, 1) := by decide +kernel
theorem dX8_setCanvas_1 : decode cX8_setCanvas 1 = .ok (.iload_n 1, 1) := by decide +kernel
theorem dX8_setCanvas_2 : decode cX8_setCanvas 2 = .ok (.iload_n 2, 1) := by decide +kernel
theorem dX8_setCanvas_3 : decode cX8_setCanvas 3 = .ok (.invokestatic 78, 3) := by decide +kernel
theorem dX8_setCanvas_6 : decode cX8_setCanvas 6 = .ok (.iconst 1, 1) := by decide +kernel
theorem dX8_setCanvas_7 : decode cX8_setCanvas 7 = .ok (.invokevirtual 61, 3) := by decide +kernel
theorem dX8_setCanvas_10 : decode cX8_setCanvas 10 = .ok (.ifCond .ne 5, 3) := by decide +kernel
theorem dX8_setCanvas_13 : decode cX8_setCanvas 13 = .ok (.iconst 0, 1) := by decide +kernel
theorem dX8_setCanvas_14 : decode cX8_setCanvas 14 = .ok (.ireturn, 1) := by decide +kernel
theorem dX8_setCanvas_15 : decode cX8_setCanvas 15 = .ok (.aload_n 0, 1) := by decide +kernel
theorem dX8_setCanvas_16 : decode cX8_setCanvas 16 = .ok (.invokevirtual 65, 3) := by decide +kernel
theorem dX8_setCanvas_19 : decode cX8_setCanvas 19 = .ok (.aload_n 0, 1) := by decide +kernel
theorem dX8_setCanvas_20 : decode cX8_setCanvas 20 = .ok (.getfield 7, 3) := by decide +kernel
theorem dX8_setCanvas_23 : decode cX8_setCanvas 23 = .ok (.iconst 0, 1) := by decide +kernel
theorem dX8_setCanvas_24 : decode cX8_setCanvas 24 = .ok (.iaload, 1) := by decide +kernel
theorem dX8_setCanvas_25 : decode cX8_setCanvas 25 = .ok (.istore_n 3, 1) := by decide +kernel
theorem dX8_setCanvas_26 : decode cX8_setCanvas 26 = .ok (.aload_n 0, 1) := by decide +kernel
theorem dX8_setCanvas_27 : decode cX8_setCanvas 27 = .ok (.getfield 7, 3) := by decide +kernel
theorem dX8_setCanvas_30 : decode cX8_setCanvas 30 = .ok (.iconst 0, 1) := by decide +kernel
theorem dX8_setCanvas_31 : decode cX8_setCanvas 31 = .ok (.iload_n 1, 1) := by decide +kernel
theorem dX8_setCanvas_32 : decode cX8_setCanvas 32 = .ok (.iastore, 1) := by decide +kernel
theorem dX8_setCanvas_33 : decode cX8_setCanvas 33 = .ok (.aload_n 0, 1) := by decide +kernel
theorem dX8_setCanvas_34 : decode cX8_setCanvas 34 = .ok (.getfield 7, 3) := by decide +kernel
theorem dX8_setCanvas_37 : decode cX8_setCanvas 37 = .ok (.iconst 1, 1) := by decide +kernel
theorem dX8_setCanvas_38 : decode cX8_setCanvas 38 = .ok (.iload_n 2, 1) := by decide +kernel
theorem dX8_setCanvas_39 : decode cX8_setCanvas 39 = .ok (.iastore, 1) := by decide +kernel
theorem dX8_setCanvas_40 : decode cX8_setCanvas 40 = .ok (.iload_n 3, 1) := by decide +kernel
theorem dX8_setCanvas_41 : decode cX8_setCanvas 41 = .ok (.ireturn, 1) := by decide +kernel
theorem dX8_setWays_0 : decode cX8_setWays 0 = .ok (.aload_n 0, 1) := by decide +kernel
theorem dX8_setWays_1 : decode cX8_setWays 1 = .ok (.iload_n 1, 1) := by decide +kernel
theorem dX8_setWays_2 : decode cX8_setWays 2 = .ok (.i2l, 1) := by decide +kernel
theorem dX8_setWays_3 : decode cX8_setWays 3 = .ok (.lconst 0, 1) := by decide +kernel
theorem dX8_setWays_4 : decode cX8_setWays 4 = .ok (.ldc2_w 70, 3) := by decide +kernel
theorem dX8_setWays_7 : decode cX8_setWays 7 = .ok (.invokestatic 48, 3) := by decide +kernel
theorem dX8_setWays_10 : decode cX8_setWays 10 = .ok (.ifCond .eq 31, 3) := by decide +kernel
theorem dX8_setWays_13 : decode cX8_setWays 13 = .ok (.iload_n 2, 1) := by decide +kernel
theorem dX8_setWays_14 : decode cX8_setWays 14 = .ok (.i2l, 1) := by decide +kernel
theorem dX8_setWays_15 : decode cX8_setWays 15 = .ok (.lconst 1, 1) := by decide +kernel
theorem dX8_setWays_16 : decode cX8_setWays 16 = .ok (.ldc2_w 82, 3) := by decide +kernel
theorem dX8_setWays_19 : decode cX8_setWays 19 = .ok (.invokestatic 48, 3) := by decide +kernel
theorem dX8_setWays_22 : decode cX8_setWays 22 = .ok (.ifCond .eq 19, 3) := by decide +kernel
theorem dX8_setWays_25 : decode cX8_setWays 25 = .ok (.iload_n 3, 1) := by decide +kernel
theorem dX8_setWays_26 : decode cX8_setWays 26 = .ok (.i2l, 1) := by decide +kernel
theorem dX8_setWays_27 : decode cX8_setWays 27 = .ok (.lconst 1, 1) := by decide +kernel
theorem dX8_setWays_28 : decode cX8_setWays 28 = .ok (.ldc2_w 84, 3) := by decide +kernel
theorem dX8_setWays_31 : decode cX8_setWays 31 = .ok (.invokestatic 48, 3) := by decide +kernel
theorem dX8_setWays_34 : decode cX8_setWays 34 = .ok (.ifCond .eq 7, 3) := by decide +kernel
theorem dX8_setWays_37 : decode cX8_setWays 37 = .ok (.iconst 1, 1) := by decide +kernel
theorem dX8_setWays_38 : decode cX8_setWays 38 = .ok (.goto 4, 3) := by decide +kernel
theorem dX8_setWays_41 : decode cX8_setWays 41 = .ok (.iconst 0, 1) := by decide +kernel
theorem dX8_setWays_42 : decode cX8_setWays 42 = .ok (.iconst 1, 1) := by decide +kernel
theorem dX8_setWays_43 : decode cX8_setWays 43 = .ok (.invokevirtual 61, 3) := by decide +kernel
theorem dX8_setWays_46 : decode cX8_setWays 46 = .ok (.ifCond .ne 5, 3) := by decide +kernel
theorem dX8_setWays_49 : decode cX8_setWays 49 = .ok (.iconst 0, 1) := by decide +kernel
theorem dX8_setWays_50 : decode cX8_setWays 50 = .ok (.ireturn, 1) := by decide +kernel
theorem dX8_setWays_51 : decode cX8_setWays 51 = .ok (.aload_n 0, 1) := by decide +kernel
theorem dX8_setWays_52 : decode cX8_setWays 52 = .ok (.invokevirtual 65, 3) := by decide +kernel
theorem dX8_setWays_55 : decode cX8_setWays 55 = .ok (.aload_n 0, 1) := by decide +kernel
theorem dX8_setWays_56 : decode cX8_setWays 56 = .ok (.getfield 7, 3) := by decide +kernel
theorem dX8_setWays_59 : decode cX8_setWays 59 = .ok (.iconst 2, 1) := by decide +kernel
theorem dX8_setWays_60 : decode cX8_setWays 60 = .ok (.iaload, 1) := by decide +kernel
theorem dX8_setWays_61 : decode cX8_setWays 61 = .ok (.istore 4, 2) := by decide +kernel
theorem dX8_setWays_63 : decode cX8_setWays 63 = .ok (.aload_n 0, 1) := by decide +kernel
theorem dX8_setWays_64 : decode cX8_setWays 64 = .ok (.getfield 7, 3) := by decide +kernel
theorem dX8_setWays_67 : decode cX8_setWays 67 = .ok (.iconst 2, 1) := by decide +kernel
theorem dX8_setWays_68 : decode cX8_setWays 68 = .ok (.iload_n 1, 1) := by decide +kernel
theorem dX8_setWays_69 : decode cX8_setWays 69 = .ok (.iastore, 1) := by decide +kernel
theorem dX8_setWays_70 : decode cX8_setWays 70 = .ok (.aload_n 0, 1) := by decide +kernel
theorem dX8_setWays_71 : decode cX8_setWays 71 = .ok (.getfield 7, 3) := by decide +kernel
theorem dX8_setWays_74 : decode cX8_setWays 74 = .ok (.iconst 3, 1) := by decide +kernel
theorem dX8_setWays_75 : decode cX8_setWays 75 = .ok (.iload_n 2, 1) := by decide +kernel
theorem dX8_setWays_76 : decode cX8_setWays 76 = .ok (.iastore, 1) := by decide +kernel
theorem dX8_setWays_77 : decode cX8_setWays 77 = .ok (.aload_n 0, 1) := by decide +kernel
theorem dX8_setWays_78 : decode cX8_setWays 78 = .ok (.getfield 7, 3) := by decide +kernel
theorem dX8_setWays_81 : decode cX8_setWays 81 = .ok (.iconst 4, 1) := by decide +kernel
theorem dX8_setWays_82 : decode cX8_setWays 82 = .ok (.iload_n 3, 1) := by decide +kernel
theorem dX8_setWays_83 : decode cX8_setWays 83 = .ok (.iastore, 1) := by decide +kernel
theorem dX8_setWays_84 : decode cX8_setWays 84 = .ok (.iload 4, 2) := by decide +kernel
theorem dX8_setWays_86 : decode cX8_setWays 86 = .ok (.ireturn, 1) := by decide +kernel
theorem dX8_rankOf_0 : decode cX8_rankOf 0 = .ok (.iconst 0, 1) := by decide +kernel
theorem dX8_rankOf_1 : decode cX8_rankOf 1 = .ok (.istore_n 2, 1) := by decide +kernel
theorem dX8_rankOf_2 : decode cX8_rankOf 2 = .ok (.iconst 0, 1) := by decide +kernel
theorem dX8_rankOf_3 : decode cX8_rankOf 3 = .ok (.istore_n 3, 1) := by decide +kernel
theorem dX8_rankOf_4 : decode cX8_rankOf 4 = .ok (.iload_n 3, 1) := by decide +kernel
theorem dX8_rankOf_5 : decode cX8_rankOf 5 = .ok (.aload_n 0, 1) := by decide +kernel
theorem dX8_rankOf_6 : decode cX8_rankOf 6 = .ok (.getfield 7, 3) := by decide +kernel
theorem dX8_rankOf_9 : decode cX8_rankOf 9 = .ok (.iconst 5, 1) := by decide +kernel
theorem dX8_rankOf_10 : decode cX8_rankOf 10 = .ok (.iaload, 1) := by decide +kernel
theorem dX8_rankOf_11 : decode cX8_rankOf 11 = .ok (.if_icmp .ge 68, 3) := by decide +kernel
theorem dX8_rankOf_14 : decode cX8_rankOf 14 = .ok (.aload_n 0, 1) := by decide +kernel
theorem dX8_rankOf_15 : decode cX8_rankOf 15 = .ok (.iload_n 3, 1) := by decide +kernel
theorem dX8_rankOf_16 : decode cX8_rankOf 16 = .ok (.bipush 11, 2) := by decide +kernel
theorem dX8_rankOf_18 : decode cX8_rankOf 18 = .ok (.invokevirtual 52, 3) := by decide +kernel
theorem dX8_rankOf_21 : decode cX8_rankOf 21 = .ok (.aload_n 0, 1) := by decide +kernel
theorem dX8_rankOf_22 : decode cX8_rankOf 22 = .ok (.iload_n 1, 1) := by decide +kernel
theorem dX8_rankOf_23 : decode cX8_rankOf 23 = .ok (.bipush 11, 2) := by decide +kernel
theorem dX8_rankOf_25 : decode cX8_rankOf 25 = .ok (.invokevirtual 52, 3) := by decide +kernel
theorem dX8_rankOf_28 : decode cX8_rankOf 28 = .ok (.if_icmp .le 7, 3) := by decide +kernel
theorem dX8_rankOf_31 : decode cX8_rankOf 31 = .ok (.iconst 1, 1) := by decide +kernel
theorem dX8_rankOf_32 : decode cX8_rankOf 32 = .ok (.goto 4, 3) := by decide +kernel
theorem dX8_rankOf_35 : decode cX8_rankOf 35 = .ok (.iconst 0, 1) := by decide +kernel
theorem dX8_rankOf_36 : decode cX8_rankOf 36 = .ok (.istore 4, 2) := by decide +kernel
theorem dX8_rankOf_38 : decode cX8_rankOf 38 = .ok (.iload_n 2, 1) := by decide +kernel
theorem dX8_rankOf_39 : decode cX8_rankOf 39 = .ok (.iload 4, 2) := by decide +kernel
theorem dX8_rankOf_41 : decode cX8_rankOf 41 = .ok (.ifCond .ne 25, 3) := by decide +kernel
theorem dX8_rankOf_44 : decode cX8_rankOf 44 = .ok (.aload_n 0, 1) := by decide +kernel
theorem dX8_rankOf_45 : decode cX8_rankOf 45 = .ok (.iload_n 3, 1) := by decide +kernel
theorem dX8_rankOf_46 : decode cX8_rankOf 46 = .ok (.bipush 11, 2) := by decide +kernel
theorem dX8_rankOf_48 : decode cX8_rankOf 48 = .ok (.invokevirtual 52, 3) := by decide +kernel
theorem dX8_rankOf_51 : decode cX8_rankOf 51 = .ok (.aload_n 0, 1) := by decide +kernel
theorem dX8_rankOf_52 : decode cX8_rankOf 52 = .ok (.iload_n 1, 1) := by decide +kernel
theorem dX8_rankOf_53 : decode cX8_rankOf 53 = .ok (.bipush 11, 2) := by decide +kernel
theorem dX8_rankOf_55 : decode cX8_rankOf 55 = .ok (.invokevirtual 52, 3) := by decide +kernel
theorem dX8_rankOf_58 : decode cX8_rankOf 58 = .ok (.if_icmp .ne 12, 3) := by decide +kernel
theorem dX8_rankOf_61 : decode cX8_rankOf 61 = .ok (.iload_n 3, 1) := by decide +kernel
theorem dX8_rankOf_62 : decode cX8_rankOf 62 = .ok (.iload_n 1, 1) := by decide +kernel
theorem dX8_rankOf_63 : decode cX8_rankOf 63 = .ok (.if_icmp .ge 7, 3) := by decide +kernel
theorem dX8_rankOf_66 : decode cX8_rankOf 66 = .ok (.iconst 1, 1) := by decide +kernel
theorem dX8_rankOf_67 : decode cX8_rankOf 67 = .ok (.goto 4, 3) := by decide +kernel
theorem dX8_rankOf_70 : decode cX8_rankOf 70 = .ok (.iconst 0, 1) := by decide +kernel
theorem dX8_rankOf_71 : decode cX8_rankOf 71 = .ok (.iadd, 1) := by decide +kernel
theorem dX8_rankOf_72 : decode cX8_rankOf 72 = .ok (.istore_n 2, 1) := by decide +kernel
theorem dX8_rankOf_73 : decode cX8_rankOf 73 = .ok (.iinc 3 1, 3) := by decide +kernel
theorem dX8_rankOf_76 : decode cX8_rankOf 76 = .ok (.goto (-72), 3) := by decide +kernel
theorem dX8_rankOf_79 : decode cX8_rankOf 79 = .ok (.iload_n 2, 1) := by decide +kernel
theorem dX8_rankOf_80 : decode cX8_rankOf 80 = .ok (.ireturn, 1) := by decide +kernel
theorem dX8_ranked_0 : decode cX8_ranked 0 = .ok (.iconst 0, 1) := by decide +kernel
theorem dX8_ranked_1 : decode cX8_ranked 1 = .ok (.istore_n 2, 1) := by decide +kernel
theorem dX8_ranked_2 : decode cX8_ranked 2 = .ok (.aload_n 0, 1) := by decide +kernel
theorem dX8_ranked_3 : decode cX8_ranked 3 = .ok (.iload_n 2, 1) := by decide +kernel
theorem dX8_ranked_4 : decode cX8_ranked 4 = .ok (.invokevirtual 86, 3) := by decide +kernel
theorem dX8_ranked_7 : decode cX8_ranked 7 = .ok (.iload_n 1, 1) := by decide +kernel
theorem dX8_ranked_8 : decode cX8_ranked 8 = .ok (.if_icmp .eq 9, 3) := by decide +kernel
theorem dX8_ranked_11 : decode cX8_ranked 11 = .ok (.iinc 2 1, 3) := by decide +kernel
theorem dX8_ranked_14 : decode cX8_ranked 14 = .ok (.goto (-12), 3) := by decide +kernel
theorem dX8_ranked_17 : decode cX8_ranked 17 = .ok (.iload_n 2, 1) := by decide +kernel
theorem dX8_ranked_18 : decode cX8_ranked 18 = .ok (.ireturn, 1) := by decide +kernel
theorem dX8_sizeOf_0 : decode cX8_sizeOf 0 = .ok (.aload_n 0, 1) := by decide +kernel
theorem dX8_sizeOf_1 : decode cX8_sizeOf 1 = .ok (.aload_n 0, 1) := by decide +kernel
theorem dX8_sizeOf_2 : decode cX8_sizeOf 2 = .ok (.aload_n 0, 1) := by decide +kernel
theorem dX8_sizeOf_3 : decode cX8_sizeOf 3 = .ok (.getfield 7, 3) := by decide +kernel
theorem dX8_sizeOf_6 : decode cX8_sizeOf 6 = .ok (.iconst 5, 1) := by decide +kernel
theorem dX8_sizeOf_7 : decode cX8_sizeOf 7 = .ok (.iaload, 1) := by decide +kernel
theorem dX8_sizeOf_8 : decode cX8_sizeOf 8 = .ok (.iconst 1, 1) := by decide +kernel
theorem dX8_sizeOf_9 : decode cX8_sizeOf 9 = .ok (.isub, 1) := by decide +kernel
theorem dX8_sizeOf_10 : decode cX8_sizeOf 10 = .ok (.invokevirtual 90, 3) := by decide +kernel
theorem dX8_sizeOf_13 : decode cX8_sizeOf 13 = .ok (.bipush 11, 2) := by decide +kernel
theorem dX8_sizeOf_15 : decode cX8_sizeOf 15 = .ok (.invokevirtual 52, 3) := by decide +kernel
theorem dX8_sizeOf_18 : decode cX8_sizeOf 18 = .ok (.istore_n 2, 1) := by decide +kernel
theorem dX8_sizeOf_19 : decode cX8_sizeOf 19 = .ok (.aload_n 0, 1) := by decide +kernel
theorem dX8_sizeOf_20 : decode cX8_sizeOf 20 = .ok (.aload_n 0, 1) := by decide +kernel
theorem dX8_sizeOf_21 : decode cX8_sizeOf 21 = .ok (.iconst 0, 1) := by decide +kernel
theorem dX8_sizeOf_22 : decode cX8_sizeOf 22 = .ok (.invokevirtual 90, 3) := by decide +kernel
theorem dX8_sizeOf_25 : decode cX8_sizeOf 25 = .ok (.bipush 11, 2) := by decide +kernel
theorem dX8_sizeOf_27 : decode cX8_sizeOf 27 = .ok (.invokevirtual 52, 3) := by decide +kernel
theorem dX8_sizeOf_30 : decode cX8_sizeOf 30 = .ok (.istore_n 3, 1) := by decide +kernel
theorem dX8_sizeOf_31 : decode cX8_sizeOf 31 = .ok (.iload_n 2, 1) := by decide +kernel
theorem dX8_sizeOf_32 : decode cX8_sizeOf 32 = .ok (.iload_n 3, 1) := by decide +kernel
theorem dX8_sizeOf_33 : decode cX8_sizeOf 33 = .ok (.if_icmp .ne 12, 3) := by decide +kernel
theorem dX8_sizeOf_36 : decode cX8_sizeOf 36 = .ok (.aload_n 0, 1) := by decide +kernel
theorem dX8_sizeOf_37 : decode cX8_sizeOf 37 = .ok (.getfield 7, 3) := by decide +kernel
theorem dX8_sizeOf_40 : decode cX8_sizeOf 40 = .ok (.iconst 4, 1) := by decide +kernel
theorem dX8_sizeOf_41 : decode cX8_sizeOf 41 = .ok (.iaload, 1) := by decide +kernel
theorem dX8_sizeOf_42 : decode cX8_sizeOf 42 = .ok (.goto 27, 3) := by decide +kernel
theorem dX8_sizeOf_45 : decode cX8_sizeOf 45 = .ok (.iconst 1, 1) := by decide +kernel
theorem dX8_sizeOf_46 : decode cX8_sizeOf 46 = .ok (.aload_n 0, 1) := by decide +kernel
theorem dX8_sizeOf_47 : decode cX8_sizeOf 47 = .ok (.iload_n 1, 1) := by decide +kernel
theorem dX8_sizeOf_48 : decode cX8_sizeOf 48 = .ok (.bipush 11, 2) := by decide +kernel
theorem dX8_sizeOf_50 : decode cX8_sizeOf 50 = .ok (.invokevirtual 52, 3) := by decide +kernel
theorem dX8_sizeOf_53 : decode cX8_sizeOf 53 = .ok (.iload_n 2, 1) := by decide +kernel
theorem dX8_sizeOf_54 : decode cX8_sizeOf 54 = .ok (.isub, 1) := by decide +kernel
theorem dX8_sizeOf_55 : decode cX8_sizeOf 55 = .ok (.aload_n 0, 1) := by decide +kernel
theorem dX8_sizeOf_56 : decode cX8_sizeOf 56 = .ok (.getfield 7, 3) := by decide +kernel
theorem dX8_sizeOf_59 : decode cX8_sizeOf 59 = .ok (.iconst 4, 1) := by decide +kernel
theorem dX8_sizeOf_60 : decode cX8_sizeOf 60 = .ok (.iaload, 1) := by decide +kernel
theorem dX8_sizeOf_61 : decode cX8_sizeOf 61 = .ok (.iconst 1, 1) := by decide +kernel
theorem dX8_sizeOf_62 : decode cX8_sizeOf 62 = .ok (.isub, 1) := by decide +kernel
theorem dX8_sizeOf_63 : decode cX8_sizeOf 63 = .ok (.imul, 1) := by decide +kernel
theorem dX8_sizeOf_64 : decode cX8_sizeOf 64 = .ok (.iload_n 3, 1) := by decide +kernel
theorem dX8_sizeOf_65 : decode cX8_sizeOf 65 = .ok (.iload_n 2, 1) := by decide +kernel
theorem dX8_sizeOf_66 : decode cX8_sizeOf 66 = .ok (.isub, 1) := by decide +kernel
theorem dX8_sizeOf_67 : decode cX8_sizeOf 67 = .ok (.idiv, 1) := by decide +kernel
theorem dX8_sizeOf_68 : decode cX8_sizeOf 68 = .ok (.iadd, 1) := by decide +kernel
theorem dX8_sizeOf_69 : decode cX8_sizeOf 69 = .ok (.ireturn, 1) := by decide +kernel
theorem dX8_wordValue_0 : decode cX8_wordValue 0 = .ok (.iload_n 2, 1) := by decide +kernel
theorem dX8_wordValue_1 : decode cX8_wordValue 1 = .ok (.lookupswitch 54 #[(0, 35), (4, 42), (5, 48)], 35) := by decide +kernel
theorem dX8_wordValue_36 : decode cX8_wordValue 36 = .ok (.aload_n 0, 1) := by decide +kernel
theorem dX8_wordValue_37 : decode cX8_wordValue 37 = .ok (.iload_n 1, 1) := by decide +kernel
theorem dX8_wordValue_38 : decode cX8_wordValue 38 = .ok (.iconst 0, 1) := by decide +kernel
theorem dX8_wordValue_39 : decode cX8_wordValue 39 = .ok (.invokevirtual 52, 3) := by decide +kernel
theorem dX8_wordValue_42 : decode cX8_wordValue 42 = .ok (.ireturn, 1) := by decide +kernel
theorem dX8_wordValue_43 : decode cX8_wordValue 43 = .ok (.aload_n 0, 1) := by decide +kernel
theorem dX8_wordValue_44 : decode cX8_wordValue 44 = .ok (.iload_n 1, 1) := by decide +kernel
theorem dX8_wordValue_45 : decode cX8_wordValue 45 = .ok (.invokevirtual 86, 3) := by decide +kernel
theorem dX8_wordValue_48 : decode cX8_wordValue 48 = .ok (.ireturn, 1) := by decide +kernel
theorem dX8_wordValue_49 : decode cX8_wordValue 49 = .ok (.aload_n 0, 1) := by decide +kernel
theorem dX8_wordValue_50 : decode cX8_wordValue 50 = .ok (.iload_n 1, 1) := by decide +kernel
theorem dX8_wordValue_51 : decode cX8_wordValue 51 = .ok (.invokevirtual 93, 3) := by decide +kernel
theorem dX8_wordValue_54 : decode cX8_wordValue 54 = .ok (.ireturn, 1) := by decide +kernel
theorem dX8_wordValue_55 : decode cX8_wordValue 55 = .ok (.aload_n 0, 1) := by decide +kernel
theorem dX8_wordValue_56 : decode cX8_wordValue 56 = .ok (.iload_n 1, 1) := by decide +kernel
theorem dX8_wordValue_57 : decode cX8_wordValue 57 = .ok (.bipush 11, 2) := by decide +kernel
theorem dX8_wordValue_59 : decode cX8_wordValue 59 = .ok (.iload_n 2, 1) := by decide +kernel
theorem dX8_wordValue_60 : decode cX8_wordValue 60 = .ok (.iadd, 1) := by decide +kernel
theorem dX8_wordValue_61 : decode cX8_wordValue 61 = .ok (.iconst 1, 1) := by decide +kernel
theorem dX8_wordValue_62 : decode cX8_wordValue 62 = .ok (.isub, 1) := by decide +kernel
theorem dX8_wordValue_63 : decode cX8_wordValue 63 = .ok (.invokevirtual 52, 3) := by decide +kernel
theorem dX8_wordValue_66 : decode cX8_wordValue 66 = .ok (.ireturn, 1) := by decide +kernel
theorem dX8_word_0 : decode cX8_word 0 = .ok (.aload_n 0, 1) := by decide +kernel
theorem dX8_word_1 : decode cX8_word 1 = .ok (.aload_n 0, 1) := by decide +kernel
theorem dX8_word_2 : decode cX8_word 2 = .ok (.iload_n 1, 1) := by decide +kernel
theorem dX8_word_3 : decode cX8_word 3 = .ok (.invokevirtual 55, 3) := by decide +kernel
theorem dX8_word_6 : decode cX8_word 6 = .ok (.iload_n 2, 1) := by decide +kernel
theorem dX8_word_7 : decode cX8_word 7 = .ok (.i2l, 1) := by decide +kernel
theorem dX8_word_8 : decode cX8_word 8 = .ok (.lconst 0, 1) := by decide +kernel
theorem dX8_word_9 : decode cX8_word 9 = .ok (.ldc2_w 96, 3) := by decide +kernel
theorem dX8_word_12 : decode cX8_word 12 = .ok (.invokestatic 48, 3) := by decide +kernel
theorem dX8_word_15 : decode cX8_word 15 = .ok (.invokevirtual 61, 3) := by decide +kernel
theorem dX8_word_18 : decode cX8_word 18 = .ok (.ifCond .eq 12, 3) := by decide +kernel
theorem dX8_word_21 : decode cX8_word 21 = .ok (.aload_n 0, 1) := by decide +kernel
theorem dX8_word_22 : decode cX8_word 22 = .ok (.iload_n 1, 1) := by decide +kernel
theorem dX8_word_23 : decode cX8_word 23 = .ok (.iload_n 2, 1) := by decide +kernel
theorem dX8_word_24 : decode cX8_word 24 = .ok (.invokevirtual 98, 3) := by decide +kernel
theorem dX8_word_27 : decode cX8_word 27 = .ok (.goto 4, 3) := by decide +kernel
theorem dX8_word_30 : decode cX8_word 30 = .ok (.iconst 0, 1) := by decide +kernel
theorem dX8_word_31 : decode cX8_word 31 = .ok (.ireturn, 1) := by decide +kernel
theorem dX8_letter_0 : decode cX8_letter 0 = .ok (.aload_n 0, 1) := by decide +kernel
theorem dX8_letter_1 : decode cX8_letter 1 = .ok (.aload_n 0, 1) := by decide +kernel
theorem dX8_letter_2 : decode cX8_letter 2 = .ok (.iload_n 1, 1) := by decide +kernel
theorem dX8_letter_3 : decode cX8_letter 3 = .ok (.invokevirtual 55, 3) := by decide +kernel
theorem dX8_letter_6 : decode cX8_letter 6 = .ok (.ifCond .eq 25, 3) := by decide +kernel
theorem dX8_letter_9 : decode cX8_letter 9 = .ok (.iload_n 2, 1) := by decide +kernel
theorem dX8_letter_10 : decode cX8_letter 10 = .ok (.i2l, 1) := by decide +kernel
theorem dX8_letter_11 : decode cX8_letter 11 = .ok (.lconst 0, 1) := by decide +kernel
theorem dX8_letter_12 : decode cX8_letter 12 = .ok (.aload_n 0, 1) := by decide +kernel
theorem dX8_letter_13 : decode cX8_letter 13 = .ok (.iload_n 1, 1) := by decide +kernel
theorem dX8_letter_14 : decode cX8_letter 14 = .ok (.iconst 0, 1) := by decide +kernel
theorem dX8_letter_15 : decode cX8_letter 15 = .ok (.invokevirtual 52, 3) := by decide +kernel
theorem dX8_letter_18 : decode cX8_letter 18 = .ok (.i2l, 1) := by decide +kernel
theorem dX8_letter_19 : decode cX8_letter 19 = .ok (.lconst 1, 1) := by decide +kernel
theorem dX8_letter_20 : decode cX8_letter 20 = .ok (.lsub, 1) := by decide +kernel
theorem dX8_letter_21 : decode cX8_letter 21 = .ok (.invokestatic 48, 3) := by decide +kernel
theorem dX8_letter_24 : decode cX8_letter 24 = .ok (.ifCond .eq 7, 3) := by decide +kernel
theorem dX8_letter_27 : decode cX8_letter 27 = .ok (.iconst 1, 1) := by decide +kernel
theorem dX8_letter_28 : decode cX8_letter 28 = .ok (.goto 4, 3) := by decide +kernel
theorem dX8_letter_31 : decode cX8_letter 31 = .ok (.iconst 0, 1) := by decide +kernel
theorem dX8_letter_32 : decode cX8_letter 32 = .ok (.iconst 1, 1) := by decide +kernel
theorem dX8_letter_33 : decode cX8_letter 33 = .ok (.invokevirtual 61, 3) := by decide +kernel
theorem dX8_letter_36 : decode cX8_letter 36 = .ok (.ifCond .eq 14, 3) := by decide +kernel
theorem dX8_letter_39 : decode cX8_letter 39 = .ok (.aload_n 0, 1) := by decide +kernel
theorem dX8_letter_40 : decode cX8_letter 40 = .ok (.iload_n 1, 1) := by decide +kernel
theorem dX8_letter_41 : decode cX8_letter 41 = .ok (.iconst 1, 1) := by decide +kernel
theorem dX8_letter_42 : decode cX8_letter 42 = .ok (.iload_n 2, 1) := by decide +kernel
theorem dX8_letter_43 : decode cX8_letter 43 = .ok (.iadd, 1) := by decide +kernel
theorem dX8_letter_44 : decode cX8_letter 44 = .ok (.invokevirtual 52, 3) := by decide +kernel
theorem dX8_letter_47 : decode cX8_letter 47 = .ok (.goto 4, 3) := by decide +kernel
theorem dX8_letter_50 : decode cX8_letter 50 = .ok (.iconst 0, 1) := by decide +kernel
theorem dX8_letter_51 : decode cX8_letter 51 = .ok (.ireturn, 1) := by decide +kernel
theorem dX8_placed_0 : decode cX8_placed 0 = .ok (.iconst 0, 1) := by decide +kernel
theorem dX8_placed_1 : decode cX8_placed 1 = .ok (.istore_n 1, 1) := by decide +kernel
theorem dX8_placed_2 : decode cX8_placed 2 = .ok (.iconst 0, 1) := by decide +kernel
theorem dX8_placed_3 : decode cX8_placed 3 = .ok (.istore_n 2, 1) := by decide +kernel
theorem dX8_placed_4 : decode cX8_placed 4 = .ok (.iload_n 2, 1) := by decide +kernel
theorem dX8_placed_5 : decode cX8_placed 5 = .ok (.aload_n 0, 1) := by decide +kernel
theorem dX8_placed_6 : decode cX8_placed 6 = .ok (.getfield 7, 3) := by decide +kernel
theorem dX8_placed_9 : decode cX8_placed 9 = .ok (.iconst 5, 1) := by decide +kernel
theorem dX8_placed_10 : decode cX8_placed 10 = .ok (.iaload, 1) := by decide +kernel
theorem dX8_placed_11 : decode cX8_placed 11 = .ok (.if_icmp .ge 25, 3) := by decide +kernel
theorem dX8_placed_14 : decode cX8_placed 14 = .ok (.iload_n 1, 1) := by decide +kernel
theorem dX8_placed_15 : decode cX8_placed 15 = .ok (.aload_n 0, 1) := by decide +kernel
theorem dX8_placed_16 : decode cX8_placed 16 = .ok (.iload_n 2, 1) := by decide +kernel
theorem dX8_placed_17 : decode cX8_placed 17 = .ok (.invokevirtual 101, 3) := by decide +kernel
theorem dX8_placed_20 : decode cX8_placed 20 = .ok (.ifCond .eq 7, 3) := by decide +kernel
theorem dX8_placed_23 : decode cX8_placed 23 = .ok (.iconst 1, 1) := by decide +kernel
theorem dX8_placed_24 : decode cX8_placed 24 = .ok (.goto 4, 3) := by decide +kernel
theorem dX8_placed_27 : decode cX8_placed 27 = .ok (.iconst 0, 1) := by decide +kernel
theorem dX8_placed_28 : decode cX8_placed 28 = .ok (.iadd, 1) := by decide +kernel
theorem dX8_placed_29 : decode cX8_placed 29 = .ok (.istore_n 1, 1) := by decide +kernel
theorem dX8_placed_30 : decode cX8_placed 30 = .ok (.iinc 2 1, 3) := by decide +kernel
theorem dX8_placed_33 : decode cX8_placed 33 = .ok (.goto (-29), 3) := by decide +kernel
theorem dX8_placed_36 : decode cX8_placed 36 = .ok (.iload_n 1, 1) := by decide +kernel
theorem dX8_placed_37 : decode cX8_placed 37 = .ok (.ireturn, 1) := by decide +kernel
theorem dX8_valueOf_0 : decode cX8_valueOf 0 = .ok (.iload_n 1, 1) := by decide +kernel
theorem dX8_valueOf_1 : decode cX8_valueOf 1 = .ok (.bipush 6, 2) := by decide +kernel
theorem dX8_valueOf_3 : decode cX8_valueOf 3 = .ok (.if_icmp .ne 10, 3) := by decide +kernel
theorem dX8_valueOf_6 : decode cX8_valueOf 6 = .ok (.aload_n 0, 1) := by decide +kernel
theorem dX8_valueOf_7 : decode cX8_valueOf 7 = .ok (.invokevirtual 104, 3) := by decide +kernel
theorem dX8_valueOf_10 : decode cX8_valueOf 10 = .ok (.goto 25, 3) := by decide +kernel
theorem dX8_valueOf_13 : decode cX8_valueOf 13 = .ok (.iload_n 1, 1) := by decide +kernel
theorem dX8_valueOf_14 : decode cX8_valueOf 14 = .ok (.bipush 7, 2) := by decide +kernel
theorem dX8_valueOf_16 : decode cX8_valueOf 16 = .ok (.if_icmp .ne 13, 3) := by decide +kernel
theorem dX8_valueOf_19 : decode cX8_valueOf 19 = .ok (.aload_n 0, 1) := by decide +kernel
theorem dX8_valueOf_20 : decode cX8_valueOf 20 = .ok (.getfield 7, 3) := by decide +kernel
theorem dX8_valueOf_23 : decode cX8_valueOf 23 = .ok (.bipush 6, 2) := by decide +kernel
theorem dX8_valueOf_25 : decode cX8_valueOf 25 = .ok (.iaload, 1) := by decide +kernel
theorem dX8_valueOf_26 : decode cX8_valueOf 26 = .ok (.goto 9, 3) := by decide +kernel
theorem dX8_valueOf_29 : decode cX8_valueOf 29 = .ok (.aload_n 0, 1) := by decide +kernel
theorem dX8_valueOf_30 : decode cX8_valueOf 30 = .ok (.getfield 7, 3) := by decide +kernel
theorem dX8_valueOf_33 : decode cX8_valueOf 33 = .ok (.iload_n 1, 1) := by decide +kernel
theorem dX8_valueOf_34 : decode cX8_valueOf 34 = .ok (.iaload, 1) := by decide +kernel
theorem dX8_valueOf_35 : decode cX8_valueOf 35 = .ok (.ireturn, 1) := by decide +kernel
theorem dX8_value_0 : decode cX8_value 0 = .ok (.aload_n 0, 1) := by decide +kernel
theorem dX8_value_1 : decode cX8_value 1 = .ok (.iload_n 1, 1) := by decide +kernel
theorem dX8_value_2 : decode cX8_value 2 = .ok (.i2l, 1) := by decide +kernel
theorem dX8_value_3 : decode cX8_value 3 = .ok (.lconst 0, 1) := by decide +kernel
theorem dX8_value_4 : decode cX8_value 4 = .ok (.ldc2_w 108, 3) := by decide +kernel
theorem dX8_value_7 : decode cX8_value 7 = .ok (.invokestatic 48, 3) := by decide +kernel
theorem dX8_value_10 : decode cX8_value 10 = .ok (.iconst 1, 1) := by decide +kernel
theorem dX8_value_11 : decode cX8_value 11 = .ok (.invokevirtual 61, 3) := by decide +kernel
theorem dX8_value_14 : decode cX8_value 14 = .ok (.ifCond .eq 11, 3) := by decide +kernel
theorem dX8_value_17 : decode cX8_value 17 = .ok (.aload_n 0, 1) := by decide +kernel
theorem dX8_value_18 : decode cX8_value 18 = .ok (.iload_n 1, 1) := by decide +kernel
theorem dX8_value_19 : decode cX8_value 19 = .ok (.invokevirtual 110, 3) := by decide +kernel
theorem dX8_value_22 : decode cX8_value 22 = .ok (.goto 4, 3) := by decide +kernel
theorem dX8_value_25 : decode cX8_value 25 = .ok (.iconst 0, 1) := by decide +kernel
theorem dX8_value_26 : decode cX8_value 26 = .ok (.ireturn, 1) := by decide +kernel
theorem dX8_isFree_0 : decode cX8_isFree 0 = .ok (.aload_n 0, 1) := by decide +kernel
theorem dX8_isFree_1 : decode cX8_isFree 1 = .ok (.getfield 7, 3) := by decide +kernel
theorem dX8_isFree_4 : decode cX8_isFree 4 = .ok (.iconst 2, 1) := by decide +kernel
theorem dX8_isFree_5 : decode cX8_isFree 5 = .ok (.iaload, 1) := by decide +kernel
theorem dX8_isFree_6 : decode cX8_isFree 6 = .ok (.istore_n 3, 1) := by decide +kernel
theorem dX8_isFree_7 : decode cX8_isFree 7 = .ok (.aload_n 0, 1) := by decide +kernel
theorem dX8_isFree_8 : decode cX8_isFree 8 = .ok (.getfield 19, 3) := by decide +kernel
theorem dX8_isFree_11 : decode cX8_isFree 11 = .ok (.iload_n 1, 1) := by decide +kernel
theorem dX8_isFree_12 : decode cX8_isFree 12 = .ok (.iaload, 1) := by decide +kernel
theorem dX8_isFree_13 : decode cX8_isFree 13 = .ok (.aload_n 0, 1) := by decide +kernel
theorem dX8_isFree_14 : decode cX8_isFree 14 = .ok (.getfield 19, 3) := by decide +kernel
theorem dX8_isFree_17 : decode cX8_isFree 17 = .ok (.iload_n 2, 1) := by decide +kernel
theorem dX8_isFree_18 : decode cX8_isFree 18 = .ok (.iaload, 1) := by decide +kernel
theorem dX8_isFree_19 : decode cX8_isFree 19 = .ok (.aload_n 0, 1) := by decide +kernel
theorem dX8_isFree_20 : decode cX8_isFree 20 = .ok (.getfield 25, 3) := by decide +kernel
theorem dX8_isFree_23 : decode cX8_isFree 23 = .ok (.iload_n 2, 1) := by decide +kernel
theorem dX8_isFree_24 : decode cX8_isFree 24 = .ok (.iaload, 1) := by decide +kernel
theorem dX8_isFree_25 : decode cX8_isFree 25 = .ok (.iadd, 1) := by decide +kernel
theorem dX8_isFree_26 : decode cX8_isFree 26 = .ok (.iload_n 3, 1) := by decide +kernel
theorem dX8_isFree_27 : decode cX8_isFree 27 = .ok (.iadd, 1) := by decide +kernel
theorem dX8_isFree_28 : decode cX8_isFree 28 = .ok (.if_icmp .ge 27, 3) := by decide +kernel
theorem dX8_isFree_31 : decode cX8_isFree 31 = .ok (.aload_n 0, 1) := by decide +kernel
theorem dX8_isFree_32 : decode cX8_isFree 32 = .ok (.getfield 19, 3) := by decide +kernel
theorem dX8_isFree_35 : decode cX8_isFree 35 = .ok (.iload_n 2, 1) := by decide +kernel
theorem dX8_isFree_36 : decode cX8_isFree 36 = .ok (.iaload, 1) := by decide +kernel
theorem dX8_isFree_37 : decode cX8_isFree 37 = .ok (.aload_n 0, 1) := by decide +kernel
theorem dX8_isFree_38 : decode cX8_isFree 38 = .ok (.getfield 19, 3) := by decide +kernel
theorem dX8_isFree_41 : decode cX8_isFree 41 = .ok (.iload_n 1, 1) := by decide +kernel
theorem dX8_isFree_42 : decode cX8_isFree 42 = .ok (.iaload, 1) := by decide +kernel
theorem dX8_isFree_43 : decode cX8_isFree 43 = .ok (.aload_n 0, 1) := by decide +kernel
theorem dX8_isFree_44 : decode cX8_isFree 44 = .ok (.getfield 25, 3) := by decide +kernel
theorem dX8_isFree_47 : decode cX8_isFree 47 = .ok (.iload_n 1, 1) := by decide +kernel
theorem dX8_isFree_48 : decode cX8_isFree 48 = .ok (.iaload, 1) := by decide +kernel
theorem dX8_isFree_49 : decode cX8_isFree 49 = .ok (.iadd, 1) := by decide +kernel
theorem dX8_isFree_50 : decode cX8_isFree 50 = .ok (.iload_n 3, 1) := by decide +kernel
theorem dX8_isFree_51 : decode cX8_isFree 51 = .ok (.iadd, 1) := by decide +kernel
theorem dX8_isFree_52 : decode cX8_isFree 52 = .ok (.if_icmp .lt 7, 3) := by decide +kernel
theorem dX8_isFree_55 : decode cX8_isFree 55 = .ok (.iconst 1, 1) := by decide +kernel
theorem dX8_isFree_56 : decode cX8_isFree 56 = .ok (.goto 4, 3) := by decide +kernel
theorem dX8_isFree_59 : decode cX8_isFree 59 = .ok (.iconst 0, 1) := by decide +kernel
theorem dX8_isFree_60 : decode cX8_isFree 60 = .ok (.istore 4, 2) := by decide +kernel
theorem dX8_isFree_62 : decode cX8_isFree 62 = .ok (.aload_n 0, 1) := by decide +kernel
theorem dX8_isFree_63 : decode cX8_isFree 63 = .ok (.getfield 22, 3) := by decide +kernel
theorem dX8_isFree_66 : decode cX8_isFree 66 = .ok (.iload_n 1, 1) := by decide +kernel
theorem dX8_isFree_67 : decode cX8_isFree 67 = .ok (.iaload, 1) := by decide +kernel
theorem dX8_isFree_68 : decode cX8_isFree 68 = .ok (.aload_n 0, 1) := by decide +kernel
theorem dX8_isFree_69 : decode cX8_isFree 69 = .ok (.getfield 22, 3) := by decide +kernel
theorem dX8_isFree_72 : decode cX8_isFree 72 = .ok (.iload_n 2, 1) := by decide +kernel
theorem dX8_isFree_73 : decode cX8_isFree 73 = .ok (.iaload, 1) := by decide +kernel
theorem dX8_isFree_74 : decode cX8_isFree 74 = .ok (.aload_n 0, 1) := by decide +kernel
theorem dX8_isFree_75 : decode cX8_isFree 75 = .ok (.getfield 28, 3) := by decide +kernel
theorem dX8_isFree_78 : decode cX8_isFree 78 = .ok (.iload_n 2, 1) := by decide +kernel
theorem dX8_isFree_79 : decode cX8_isFree 79 = .ok (.iaload, 1) := by decide +kernel
theorem dX8_isFree_80 : decode cX8_isFree 80 = .ok (.iadd, 1) := by decide +kernel
theorem dX8_isFree_81 : decode cX8_isFree 81 = .ok (.iload_n 3, 1) := by decide +kernel
theorem dX8_isFree_82 : decode cX8_isFree 82 = .ok (.iadd, 1) := by decide +kernel
theorem dX8_isFree_83 : decode cX8_isFree 83 = .ok (.if_icmp .ge 27, 3) := by decide +kernel
theorem dX8_isFree_86 : decode cX8_isFree 86 = .ok (.aload_n 0, 1) := by decide +kernel
theorem dX8_isFree_87 : decode cX8_isFree 87 = .ok (.getfield 22, 3) := by decide +kernel
theorem dX8_isFree_90 : decode cX8_isFree 90 = .ok (.iload_n 2, 1) := by decide +kernel
theorem dX8_isFree_91 : decode cX8_isFree 91 = .ok (.iaload, 1) := by decide +kernel
theorem dX8_isFree_92 : decode cX8_isFree 92 = .ok (.aload_n 0, 1) := by decide +kernel
theorem dX8_isFree_93 : decode cX8_isFree 93 = .ok (.getfield 22, 3) := by decide +kernel
theorem dX8_isFree_96 : decode cX8_isFree 96 = .ok (.iload_n 1, 1) := by decide +kernel
theorem dX8_isFree_97 : decode cX8_isFree 97 = .ok (.iaload, 1) := by decide +kernel
theorem dX8_isFree_98 : decode cX8_isFree 98 = .ok (.aload_n 0, 1) := by decide +kernel
theorem dX8_isFree_99 : decode cX8_isFree 99 = .ok (.getfield 28, 3) := by decide +kernel
theorem dX8_isFree_102 : decode cX8_isFree 102 = .ok (.iload_n 1, 1) := by decide +kernel
theorem dX8_isFree_103 : decode cX8_isFree 103 = .ok (.iaload, 1) := by decide +kernel
theorem dX8_isFree_104 : decode cX8_isFree 104 = .ok (.iadd, 1) := by decide +kernel
theorem dX8_isFree_105 : decode cX8_isFree 105 = .ok (.iload_n 3, 1) := by decide +kernel
theorem dX8_isFree_106 : decode cX8_isFree 106 = .ok (.iadd, 1) := by decide +kernel
theorem dX8_isFree_107 : decode cX8_isFree 107 = .ok (.if_icmp .lt 7, 3) := by decide +kernel
theorem dX8_isFree_110 : decode cX8_isFree 110 = .ok (.iconst 1, 1) := by decide +kernel
theorem dX8_isFree_111 : decode cX8_isFree 111 = .ok (.goto 4, 3) := by decide +kernel
theorem dX8_isFree_114 : decode cX8_isFree 114 = .ok (.iconst 0, 1) := by decide +kernel
theorem dX8_isFree_115 : decode cX8_isFree 115 = .ok (.istore 5, 2) := by decide +kernel
theorem dX8_isFree_117 : decode cX8_isFree 117 = .ok (.iload 4, 2) := by decide +kernel
theorem dX8_isFree_119 : decode cX8_isFree 119 = .ok (.ifCond .ne 8, 3) := by decide +kernel
theorem dX8_isFree_122 : decode cX8_isFree 122 = .ok (.iload 5, 2) := by decide +kernel
theorem dX8_isFree_124 : decode cX8_isFree 124 = .ok (.ifCond .eq 7, 3) := by decide +kernel
theorem dX8_isFree_127 : decode cX8_isFree 127 = .ok (.iconst 1, 1) := by decide +kernel
theorem dX8_isFree_128 : decode cX8_isFree 128 = .ok (.goto 4, 3) := by decide +kernel
theorem dX8_isFree_131 : decode cX8_isFree 131 = .ok (.iconst 0, 1) := by decide +kernel
theorem dX8_isFree_132 : decode cX8_isFree 132 = .ok (.ireturn, 1) := by decide +kernel
theorem dX8_tries_0 : decode cX8_tries 0 = .ok (.aload_n 0, 1) := by decide +kernel
theorem dX8_tries_1 : decode cX8_tries 1 = .ok (.iload_n 1, 1) := by decide +kernel
theorem dX8_tries_2 : decode cX8_tries 2 = .ok (.iconst 0, 1) := by decide +kernel
theorem dX8_tries_3 : decode cX8_tries 3 = .ok (.invokevirtual 52, 3) := by decide +kernel
theorem dX8_tries_6 : decode cX8_tries 6 = .ok (.istore 5, 2) := by decide +kernel
theorem dX8_tries_8 : decode cX8_tries 8 = .ok (.aload_n 0, 1) := by decide +kernel
theorem dX8_tries_9 : decode cX8_tries 9 = .ok (.getfield 113, 3) := by decide +kernel
theorem dX8_tries_12 : decode cX8_tries 12 = .ok (.istore 6, 2) := by decide +kernel
theorem dX8_tries_14 : decode cX8_tries 14 = .ok (.aload_n 0, 1) := by decide +kernel
theorem dX8_tries_15 : decode cX8_tries 15 = .ok (.getfield 25, 3) := by decide +kernel
theorem dX8_tries_18 : decode cX8_tries 18 = .ok (.iload_n 1, 1) := by decide +kernel
theorem dX8_tries_19 : decode cX8_tries 19 = .ok (.iload 4, 2) := by decide +kernel
theorem dX8_tries_21 : decode cX8_tries 21 = .ok (.iconst 1, 1) := by decide +kernel
theorem dX8_tries_22 : decode cX8_tries 22 = .ok (.if_icmp .ne 10, 3) := by decide +kernel
theorem dX8_tries_25 : decode cX8_tries 25 = .ok (.iconst 2, 1) := by decide +kernel
theorem dX8_tries_26 : decode cX8_tries 26 = .ok (.iload 6, 2) := by decide +kernel
theorem dX8_tries_28 : decode cX8_tries 28 = .ok (.imul, 1) := by decide +kernel
theorem dX8_tries_29 : decode cX8_tries 29 = .ok (.goto 8, 3) := by decide +kernel
theorem dX8_tries_32 : decode cX8_tries 32 = .ok (.iload 5, 2) := by decide +kernel
theorem dX8_tries_34 : decode cX8_tries 34 = .ok (.iload 6, 2) := by decide +kernel
theorem dX8_tries_36 : decode cX8_tries 36 = .ok (.imul, 1) := by decide +kernel
theorem dX8_tries_37 : decode cX8_tries 37 = .ok (.iastore, 1) := by decide +kernel
theorem dX8_tries_38 : decode cX8_tries 38 = .ok (.aload_n 0, 1) := by decide +kernel
theorem dX8_tries_39 : decode cX8_tries 39 = .ok (.getfield 28, 3) := by decide +kernel
theorem dX8_tries_42 : decode cX8_tries 42 = .ok (.iload_n 1, 1) := by decide +kernel
theorem dX8_tries_43 : decode cX8_tries 43 = .ok (.iload 4, 2) := by decide +kernel
theorem dX8_tries_45 : decode cX8_tries 45 = .ok (.iconst 1, 1) := by decide +kernel
theorem dX8_tries_46 : decode cX8_tries 46 = .ok (.if_icmp .ne 11, 3) := by decide +kernel
theorem dX8_tries_49 : decode cX8_tries 49 = .ok (.iload 5, 2) := by decide +kernel
theorem dX8_tries_51 : decode cX8_tries 51 = .ok (.iload 6, 2) := by decide +kernel
theorem dX8_tries_53 : decode cX8_tries 53 = .ok (.imul, 1) := by decide +kernel
theorem dX8_tries_54 : decode cX8_tries 54 = .ok (.goto 7, 3) := by decide +kernel
theorem dX8_tries_57 : decode cX8_tries 57 = .ok (.iconst 2, 1) := by decide +kernel
theorem dX8_tries_58 : decode cX8_tries 58 = .ok (.iload 6, 2) := by decide +kernel
theorem dX8_tries_60 : decode cX8_tries 60 = .ok (.imul, 1) := by decide +kernel
theorem dX8_tries_61 : decode cX8_tries 61 = .ok (.iastore, 1) := by decide +kernel
theorem dX8_tries_62 : decode cX8_tries 62 = .ok (.aload_n 0, 1) := by decide +kernel
theorem dX8_tries_63 : decode cX8_tries 63 = .ok (.getfield 31, 3) := by decide +kernel
theorem dX8_tries_66 : decode cX8_tries 66 = .ok (.iload_n 1, 1) := by decide +kernel
theorem dX8_tries_67 : decode cX8_tries 67 = .ok (.iload 4, 2) := by decide +kernel
theorem dX8_tries_69 : decode cX8_tries 69 = .ok (.iastore, 1) := by decide +kernel
theorem dX8_tries_70 : decode cX8_tries 70 = .ok (.aload_n 0, 1) := by decide +kernel
theorem dX8_tries_71 : decode cX8_tries 71 = .ok (.getfield 19, 3) := by decide +kernel
theorem dX8_tries_74 : decode cX8_tries 74 = .ok (.iload_n 1, 1) := by decide +kernel
theorem dX8_tries_75 : decode cX8_tries 75 = .ok (.iload_n 2, 1) := by decide +kernel
theorem dX8_tries_76 : decode cX8_tries 76 = .ok (.aload_n 0, 1) := by decide +kernel
theorem dX8_tries_77 : decode cX8_tries 77 = .ok (.getfield 25, 3) := by decide +kernel
theorem dX8_tries_80 : decode cX8_tries 80 = .ok (.iload_n 1, 1) := by decide +kernel
theorem dX8_tries_81 : decode cX8_tries 81 = .ok (.iaload, 1) := by decide +kernel
theorem dX8_tries_82 : decode cX8_tries 82 = .ok (.iconst 2, 1) := by decide +kernel
theorem dX8_tries_83 : decode cX8_tries 83 = .ok (.idiv, 1) := by decide +kernel
theorem dX8_tries_84 : decode cX8_tries 84 = .ok (.isub, 1) := by decide +kernel
theorem dX8_tries_85 : decode cX8_tries 85 = .ok (.iastore, 1) := by decide +kernel
theorem dX8_tries_86 : decode cX8_tries 86 = .ok (.aload_n 0, 1) := by decide +kernel
theorem dX8_tries_87 : decode cX8_tries 87 = .ok (.getfield 22, 3) := by decide +kernel
theorem dX8_tries_90 : decode cX8_tries 90 = .ok (.iload_n 1, 1) := by decide +kernel
theorem dX8_tries_91 : decode cX8_tries 91 = .ok (.iload_n 3, 1) := by decide +kernel
theorem dX8_tries_92 : decode cX8_tries 92 = .ok (.aload_n 0, 1) := by decide +kernel
theorem dX8_tries_93 : decode cX8_tries 93 = .ok (.getfield 28, 3) := by decide +kernel
theorem dX8_tries_96 : decode cX8_tries 96 = .ok (.iload_n 1, 1) := by decide +kernel
theorem dX8_tries_97 : decode cX8_tries 97 = .ok (.iaload, 1) := by decide +kernel
theorem dX8_tries_98 : decode cX8_tries 98 = .ok (.iconst 2, 1) := by decide +kernel
theorem dX8_tries_99 : decode cX8_tries 99 = .ok (.idiv, 1) := by decide +kernel
theorem dX8_tries_100 : decode cX8_tries 100 = .ok (.isub, 1) := by decide +kernel
theorem dX8_tries_101 : decode cX8_tries 101 = .ok (.iastore, 1) := by decide +kernel
theorem dX8_tries_102 : decode cX8_tries 102 = .ok (.aload_n 0, 1) := by decide +kernel
theorem dX8_tries_103 : decode cX8_tries 103 = .ok (.getfield 19, 3) := by decide +kernel
theorem dX8_tries_106 : decode cX8_tries 106 = .ok (.iload_n 1, 1) := by decide +kernel
theorem dX8_tries_107 : decode cX8_tries 107 = .ok (.iaload, 1) := by decide +kernel
theorem dX8_tries_108 : decode cX8_tries 108 = .ok (.ifCond .lt 60, 3) := by decide +kernel
theorem dX8_tries_111 : decode cX8_tries 111 = .ok (.aload_n 0, 1) := by decide +kernel
theorem dX8_tries_112 : decode cX8_tries 112 = .ok (.getfield 22, 3) := by decide +kernel
theorem dX8_tries_115 : decode cX8_tries 115 = .ok (.iload_n 1, 1) := by decide +kernel
theorem dX8_tries_116 : decode cX8_tries 116 = .ok (.iaload, 1) := by decide +kernel
theorem dX8_tries_117 : decode cX8_tries 117 = .ok (.ifCond .lt 51, 3) := by decide +kernel
theorem dX8_tries_120 : decode cX8_tries 120 = .ok (.aload_n 0, 1) := by decide +kernel
theorem dX8_tries_121 : decode cX8_tries 121 = .ok (.getfield 19, 3) := by decide +kernel
theorem dX8_tries_124 : decode cX8_tries 124 = .ok (.iload_n 1, 1) := by decide +kernel
theorem dX8_tries_125 : decode cX8_tries 125 = .ok (.iaload, 1) := by decide +kernel
theorem dX8_tries_126 : decode cX8_tries 126 = .ok (.aload_n 0, 1) := by decide +kernel
theorem dX8_tries_127 : decode cX8_tries 127 = .ok (.getfield 25, 3) := by decide +kernel
theorem dX8_tries_130 : decode cX8_tries 130 = .ok (.iload_n 1, 1) := by decide +kernel
theorem dX8_tries_131 : decode cX8_tries 131 = .ok (.iaload, 1) := by decide +kernel
theorem dX8_tries_132 : decode cX8_tries 132 = .ok (.iadd, 1) := by decide +kernel
theorem dX8_tries_133 : decode cX8_tries 133 = .ok (.aload_n 0, 1) := by decide +kernel
theorem dX8_tries_134 : decode cX8_tries 134 = .ok (.getfield 7, 3) := by decide +kernel
theorem dX8_tries_137 : decode cX8_tries 137 = .ok (.iconst 0, 1) := by decide +kernel
theorem dX8_tries_138 : decode cX8_tries 138 = .ok (.iaload, 1) := by decide +kernel
theorem dX8_tries_139 : decode cX8_tries 139 = .ok (.if_icmp .gt 29, 3) := by decide +kernel
theorem dX8_tries_142 : decode cX8_tries 142 = .ok (.aload_n 0, 1) := by decide +kernel
theorem dX8_tries_143 : decode cX8_tries 143 = .ok (.getfield 22, 3) := by decide +kernel
theorem dX8_tries_146 : decode cX8_tries 146 = .ok (.iload_n 1, 1) := by decide +kernel
theorem dX8_tries_147 : decode cX8_tries 147 = .ok (.iaload, 1) := by decide +kernel
theorem dX8_tries_148 : decode cX8_tries 148 = .ok (.aload_n 0, 1) := by decide +kernel
theorem dX8_tries_149 : decode cX8_tries 149 = .ok (.getfield 28, 3) := by decide +kernel
theorem dX8_tries_152 : decode cX8_tries 152 = .ok (.iload_n 1, 1) := by decide +kernel
theorem dX8_tries_153 : decode cX8_tries 153 = .ok (.iaload, 1) := by decide +kernel
theorem dX8_tries_154 : decode cX8_tries 154 = .ok (.iadd, 1) := by decide +kernel
theorem dX8_tries_155 : decode cX8_tries 155 = .ok (.aload_n 0, 1) := by decide +kernel
theorem dX8_tries_156 : decode cX8_tries 156 = .ok (.getfield 7, 3) := by decide +kernel
theorem dX8_tries_159 : decode cX8_tries 159 = .ok (.iconst 1, 1) := by decide +kernel
theorem dX8_tries_160 : decode cX8_tries 160 = .ok (.iaload, 1) := by decide +kernel
theorem dX8_tries_161 : decode cX8_tries 161 = .ok (.if_icmp .gt 7, 3) := by decide +kernel
theorem dX8_tries_164 : decode cX8_tries 164 = .ok (.iconst 1, 1) := by decide +kernel
theorem dX8_tries_165 : decode cX8_tries 165 = .ok (.goto 4, 3) := by decide +kernel
theorem dX8_tries_168 : decode cX8_tries 168 = .ok (.iconst 0, 1) := by decide +kernel
theorem dX8_tries_169 : decode cX8_tries 169 = .ok (.istore 7, 2) := by decide +kernel
theorem dX8_tries_171 : decode cX8_tries 171 = .ok (.iconst 0, 1) := by decide +kernel
theorem dX8_tries_172 : decode cX8_tries 172 = .ok (.istore 8, 2) := by decide +kernel
theorem dX8_tries_174 : decode cX8_tries 174 = .ok (.iload 8, 2) := by decide +kernel
theorem dX8_tries_176 : decode cX8_tries 176 = .ok (.aload_n 0, 1) := by decide +kernel
theorem dX8_tries_177 : decode cX8_tries 177 = .ok (.getfield 7, 3) := by decide +kernel
theorem dX8_tries_180 : decode cX8_tries 180 = .ok (.iconst 5, 1) := by decide +kernel
theorem dX8_tries_181 : decode cX8_tries 181 = .ok (.iaload, 1) := by decide +kernel
theorem dX8_tries_182 : decode cX8_tries 182 = .ok (.if_icmp .ge 47, 3) := by decide +kernel
theorem dX8_tries_185 : decode cX8_tries 185 = .ok (.iload 7, 2) := by decide +kernel
theorem dX8_tries_187 : decode cX8_tries 187 = .ok (.ifCond .eq 42, 3) := by decide +kernel
theorem dX8_tries_190 : decode cX8_tries 190 = .ok (.iload 8, 2) := by decide +kernel
theorem dX8_tries_192 : decode cX8_tries 192 = .ok (.iload_n 1, 1) := by decide +kernel
theorem dX8_tries_193 : decode cX8_tries 193 = .ok (.if_icmp .eq 23, 3) := by decide +kernel
theorem dX8_tries_196 : decode cX8_tries 196 = .ok (.aload_n 0, 1) := by decide +kernel
theorem dX8_tries_197 : decode cX8_tries 197 = .ok (.getfield 25, 3) := by decide +kernel
theorem dX8_tries_200 : decode cX8_tries 200 = .ok (.iload 8, 2) := by decide +kernel
theorem dX8_tries_202 : decode cX8_tries 202 = .ok (.iaload, 1) := by decide +kernel
theorem dX8_tries_203 : decode cX8_tries 203 = .ok (.ifCond .eq 13, 3) := by decide +kernel
theorem dX8_tries_206 : decode cX8_tries 206 = .ok (.aload_n 0, 1) := by decide +kernel
theorem dX8_tries_207 : decode cX8_tries 207 = .ok (.iload_n 1, 1) := by decide +kernel
theorem dX8_tries_208 : decode cX8_tries 208 = .ok (.iload 8, 2) := by decide +kernel
theorem dX8_tries_210 : decode cX8_tries 210 = .ok (.invokevirtual 116, 3) := by decide +kernel
theorem dX8_tries_213 : decode cX8_tries 213 = .ok (.ifCond .eq 7, 3) := by decide +kernel
theorem dX8_tries_216 : decode cX8_tries 216 = .ok (.iconst 1, 1) := by decide +kernel
theorem dX8_tries_217 : decode cX8_tries 217 = .ok (.goto 4, 3) := by decide +kernel
theorem dX8_tries_220 : decode cX8_tries 220 = .ok (.iconst 0, 1) := by decide +kernel
theorem dX8_tries_221 : decode cX8_tries 221 = .ok (.istore 7, 2) := by decide +kernel
theorem dX8_tries_223 : decode cX8_tries 223 = .ok (.iinc 8 1, 3) := by decide +kernel
theorem dX8_tries_226 : decode cX8_tries 226 = .ok (.goto (-52), 3) := by decide +kernel
theorem dX8_tries_229 : decode cX8_tries 229 = .ok (.aload_n 0, 1) := by decide +kernel
theorem dX8_tries_230 : decode cX8_tries 230 = .ok (.getfield 25, 3) := by decide +kernel
theorem dX8_tries_233 : decode cX8_tries 233 = .ok (.iload_n 1, 1) := by decide +kernel
theorem dX8_tries_234 : decode cX8_tries 234 = .ok (.iload 7, 2) := by decide +kernel
theorem dX8_tries_236 : decode cX8_tries 236 = .ok (.ifCond .eq 12, 3) := by decide +kernel
theorem dX8_tries_239 : decode cX8_tries 239 = .ok (.aload_n 0, 1) := by decide +kernel
theorem dX8_tries_240 : decode cX8_tries 240 = .ok (.getfield 25, 3) := by decide +kernel
theorem dX8_tries_243 : decode cX8_tries 243 = .ok (.iload_n 1, 1) := by decide +kernel
theorem dX8_tries_244 : decode cX8_tries 244 = .ok (.iaload, 1) := by decide +kernel
theorem dX8_tries_245 : decode cX8_tries 245 = .ok (.goto 4, 3) := by decide +kernel
theorem dX8_tries_248 : decode cX8_tries 248 = .ok (.iconst 0, 1) := by decide +kernel
theorem dX8_tries_249 : decode cX8_tries 249 = .ok (.iastore, 1) := by decide +kernel
theorem dX8_tries_250 : decode cX8_tries 250 = .ok (.iload 7, 2) := by decide +kernel
theorem dX8_tries_252 : decode cX8_tries 252 = .ok (.ireturn, 1) := by decide +kernel
theorem dX8_allows_0 : decode cX8_allows 0 = .ok (.aload_n 0, 1) := by decide +kernel
theorem dX8_allows_1 : decode cX8_allows 1 = .ok (.iload_n 1, 1) := by decide +kernel
theorem dX8_allows_2 : decode cX8_allows 2 = .ok (.bipush 12, 2) := by decide +kernel
theorem dX8_allows_4 : decode cX8_allows 4 = .ok (.invokevirtual 52, 3) := by decide +kernel
theorem dX8_allows_7 : decode cX8_allows 7 = .ok (.iconst 2, 1) := by decide +kernel
theorem dX8_allows_8 : decode cX8_allows 8 = .ok (.if_icmp .eq 14, 3) := by decide +kernel
theorem dX8_allows_11 : decode cX8_allows 11 = .ok (.aload_n 0, 1) := by decide +kernel
theorem dX8_allows_12 : decode cX8_allows 12 = .ok (.iload_n 1, 1) := by decide +kernel
theorem dX8_allows_13 : decode cX8_allows 13 = .ok (.bipush 12, 2) := by decide +kernel
theorem dX8_allows_15 : decode cX8_allows 15 = .ok (.invokevirtual 52, 3) := by decide +kernel
theorem dX8_allows_18 : decode cX8_allows 18 = .ok (.iload_n 2, 1) := by decide +kernel
theorem dX8_allows_19 : decode cX8_allows 19 = .ok (.if_icmp .ne 7, 3) := by decide +kernel
theorem dX8_allows_22 : decode cX8_allows 22 = .ok (.iconst 1, 1) := by decide +kernel
theorem dX8_allows_23 : decode cX8_allows 23 = .ok (.goto 4, 3) := by decide +kernel
theorem dX8_allows_26 : decode cX8_allows 26 = .ok (.iconst 0, 1) := by decide +kernel
theorem dX8_allows_27 : decode cX8_allows 27 = .ok (.ireturn, 1) := by decide +kernel
theorem dX8_triesBoth_0 : decode cX8_triesBoth 0 = .ok (.aload_n 0, 1) := by decide +kernel
theorem dX8_triesBoth_1 : decode cX8_triesBoth 1 = .ok (.iload_n 1, 1) := by decide +kernel
theorem dX8_triesBoth_2 : decode cX8_triesBoth 2 = .ok (.iconst 0, 1) := by decide +kernel
theorem dX8_triesBoth_3 : decode cX8_triesBoth 3 = .ok (.invokevirtual 119, 3) := by decide +kernel
theorem dX8_triesBoth_6 : decode cX8_triesBoth 6 = .ok (.ifCond .eq 14, 3) := by decide +kernel
theorem dX8_triesBoth_9 : decode cX8_triesBoth 9 = .ok (.aload_n 0, 1) := by decide +kernel
theorem dX8_triesBoth_10 : decode cX8_triesBoth 10 = .ok (.iload_n 1, 1) := by decide +kernel
theorem dX8_triesBoth_11 : decode cX8_triesBoth 11 = .ok (.iload_n 2, 1) := by decide +kernel
theorem dX8_triesBoth_12 : decode cX8_triesBoth 12 = .ok (.iload_n 3, 1) := by decide +kernel
theorem dX8_triesBoth_13 : decode cX8_triesBoth 13 = .ok (.iconst 0, 1) := by decide +kernel
theorem dX8_triesBoth_14 : decode cX8_triesBoth 14 = .ok (.invokevirtual 122, 3) := by decide +kernel
theorem dX8_triesBoth_17 : decode cX8_triesBoth 17 = .ok (.ifCond .ne 23, 3) := by decide +kernel
theorem dX8_triesBoth_20 : decode cX8_triesBoth 20 = .ok (.aload_n 0, 1) := by decide +kernel
theorem dX8_triesBoth_21 : decode cX8_triesBoth 21 = .ok (.iload_n 1, 1) := by decide +kernel
theorem dX8_triesBoth_22 : decode cX8_triesBoth 22 = .ok (.iconst 1, 1) := by decide +kernel
theorem dX8_triesBoth_23 : decode cX8_triesBoth 23 = .ok (.invokevirtual 119, 3) := by decide +kernel
theorem dX8_triesBoth_26 : decode cX8_triesBoth 26 = .ok (.ifCond .eq 18, 3) := by decide +kernel
theorem dX8_triesBoth_29 : decode cX8_triesBoth 29 = .ok (.aload_n 0, 1) := by decide +kernel
theorem dX8_triesBoth_30 : decode cX8_triesBoth 30 = .ok (.iload_n 1, 1) := by decide +kernel
theorem dX8_triesBoth_31 : decode cX8_triesBoth 31 = .ok (.iload_n 2, 1) := by decide +kernel
theorem dX8_triesBoth_32 : decode cX8_triesBoth 32 = .ok (.iload_n 3, 1) := by decide +kernel
theorem dX8_triesBoth_33 : decode cX8_triesBoth 33 = .ok (.iconst 1, 1) := by decide +kernel
theorem dX8_triesBoth_34 : decode cX8_triesBoth 34 = .ok (.invokevirtual 122, 3) := by decide +kernel
theorem dX8_triesBoth_37 : decode cX8_triesBoth 37 = .ok (.ifCond .eq 7, 3) := by decide +kernel
theorem dX8_triesBoth_40 : decode cX8_triesBoth 40 = .ok (.iconst 1, 1) := by decide +kernel
theorem dX8_triesBoth_41 : decode cX8_triesBoth 41 = .ok (.goto 4, 3) := by decide +kernel
theorem dX8_triesBoth_44 : decode cX8_triesBoth 44 = .ok (.iconst 0, 1) := by decide +kernel
theorem dX8_triesBoth_45 : decode cX8_triesBoth 45 = .ok (.ireturn, 1) := by decide +kernel
theorem dX8_keeps_0 : decode cX8_keeps 0 = .ok (.aload_n 0, 1) := by decide +kernel
theorem dX8_keeps_1 : decode cX8_keeps 1 = .ok (.iload_n 1, 1) := by decide +kernel
theorem dX8_keeps_2 : decode cX8_keeps 2 = .ok (.bipush 18, 2) := by decide +kernel
theorem dX8_keeps_4 : decode cX8_keeps 4 = .ok (.invokevirtual 52, 3) := by decide +kernel
theorem dX8_keeps_7 : decode cX8_keeps 7 = .ok (.istore_n 2, 1) := by decide +kernel
theorem dX8_keeps_8 : decode cX8_keeps 8 = .ok (.aload_n 0, 1) := by decide +kernel
theorem dX8_keeps_9 : decode cX8_keeps 9 = .ok (.iload_n 1, 1) := by decide +kernel
theorem dX8_keeps_10 : decode cX8_keeps 10 = .ok (.bipush 14, 2) := by decide +kernel
theorem dX8_keeps_12 : decode cX8_keeps 12 = .ok (.invokevirtual 52, 3) := by decide +kernel
theorem dX8_keeps_15 : decode cX8_keeps 15 = .ok (.aload_n 0, 1) := by decide +kernel
theorem dX8_keeps_16 : decode cX8_keeps 16 = .ok (.iload_n 1, 1) := by decide +kernel
theorem dX8_keeps_17 : decode cX8_keeps 17 = .ok (.bipush 16, 2) := by decide +kernel
theorem dX8_keeps_19 : decode cX8_keeps 19 = .ok (.invokevirtual 52, 3) := by decide +kernel
theorem dX8_keeps_22 : decode cX8_keeps 22 = .ok (.iconst 2, 1) := by decide +kernel
theorem dX8_keeps_23 : decode cX8_keeps 23 = .ok (.idiv, 1) := by decide +kernel
theorem dX8_keeps_24 : decode cX8_keeps 24 = .ok (.iadd, 1) := by decide +kernel
theorem dX8_keeps_25 : decode cX8_keeps 25 = .ok (.istore_n 3, 1) := by decide +kernel
theorem dX8_keeps_26 : decode cX8_keeps 26 = .ok (.aload_n 0, 1) := by decide +kernel
theorem dX8_keeps_27 : decode cX8_keeps 27 = .ok (.iload_n 1, 1) := by decide +kernel
theorem dX8_keeps_28 : decode cX8_keeps 28 = .ok (.bipush 15, 2) := by decide +kernel
theorem dX8_keeps_30 : decode cX8_keeps 30 = .ok (.invokevirtual 52, 3) := by decide +kernel
theorem dX8_keeps_33 : decode cX8_keeps 33 = .ok (.aload_n 0, 1) := by decide +kernel
theorem dX8_keeps_34 : decode cX8_keeps 34 = .ok (.iload_n 1, 1) := by decide +kernel
theorem dX8_keeps_35 : decode cX8_keeps 35 = .ok (.bipush 17, 2) := by decide +kernel
theorem dX8_keeps_37 : decode cX8_keeps 37 = .ok (.invokevirtual 52, 3) := by decide +kernel
theorem dX8_keeps_40 : decode cX8_keeps 40 = .ok (.iconst 2, 1) := by decide +kernel
theorem dX8_keeps_41 : decode cX8_keeps 41 = .ok (.idiv, 1) := by decide +kernel
theorem dX8_keeps_42 : decode cX8_keeps 42 = .ok (.iadd, 1) := by decide +kernel
theorem dX8_keeps_43 : decode cX8_keeps 43 = .ok (.istore 4, 2) := by decide +kernel
theorem dX8_keeps_45 : decode cX8_keeps 45 = .ok (.aload_n 0, 1) := by decide +kernel
theorem dX8_keeps_46 : decode cX8_keeps 46 = .ok (.iload_n 1, 1) := by decide +kernel
theorem dX8_keeps_47 : decode cX8_keeps 47 = .ok (.invokevirtual 101, 3) := by decide +kernel
theorem dX8_keeps_50 : decode cX8_keeps 50 = .ok (.ifCond .eq 28, 3) := by decide +kernel
theorem dX8_keeps_53 : decode cX8_keeps 53 = .ok (.aload_n 0, 1) := by decide +kernel
theorem dX8_keeps_54 : decode cX8_keeps 54 = .ok (.iload_n 1, 1) := by decide +kernel
theorem dX8_keeps_55 : decode cX8_keeps 55 = .ok (.iload_n 2, 1) := by decide +kernel
theorem dX8_keeps_56 : decode cX8_keeps 56 = .ok (.invokevirtual 119, 3) := by decide +kernel
theorem dX8_keeps_59 : decode cX8_keeps 59 = .ok (.ifCond .eq 19, 3) := by decide +kernel
theorem dX8_keeps_62 : decode cX8_keeps 62 = .ok (.aload_n 0, 1) := by decide +kernel
theorem dX8_keeps_63 : decode cX8_keeps 63 = .ok (.iload_n 1, 1) := by decide +kernel
theorem dX8_keeps_64 : decode cX8_keeps 64 = .ok (.iload_n 3, 1) := by decide +kernel
theorem dX8_keeps_65 : decode cX8_keeps 65 = .ok (.iload 4, 2) := by decide +kernel
theorem dX8_keeps_67 : decode cX8_keeps 67 = .ok (.iload_n 2, 1) := by decide +kernel
theorem dX8_keeps_68 : decode cX8_keeps 68 = .ok (.invokevirtual 122, 3) := by decide +kernel
theorem dX8_keeps_71 : decode cX8_keeps 71 = .ok (.ifCond .eq 7, 3) := by decide +kernel
theorem dX8_keeps_74 : decode cX8_keeps 74 = .ok (.iconst 1, 1) := by decide +kernel
theorem dX8_keeps_75 : decode cX8_keeps 75 = .ok (.goto 4, 3) := by decide +kernel
theorem dX8_keeps_78 : decode cX8_keeps 78 = .ok (.iconst 0, 1) := by decide +kernel
theorem dX8_keeps_79 : decode cX8_keeps 79 = .ok (.ireturn, 1) := by decide +kernel
theorem dX8_leader_0 : decode cX8_leader 0 = .ok (.iconst (-1), 1) := by decide +kernel
theorem dX8_leader_1 : decode cX8_leader 1 = .ok (.istore_n 2, 1) := by decide +kernel
theorem dX8_leader_2 : decode cX8_leader 2 = .ok (.iconst 0, 1) := by decide +kernel
theorem dX8_leader_3 : decode cX8_leader 3 = .ok (.istore_n 3, 1) := by decide +kernel
theorem dX8_leader_4 : decode cX8_leader 4 = .ok (.iload_n 3, 1) := by decide +kernel
theorem dX8_leader_5 : decode cX8_leader 5 = .ok (.aload_n 0, 1) := by decide +kernel
theorem dX8_leader_6 : decode cX8_leader 6 = .ok (.getfield 7, 3) := by decide +kernel
theorem dX8_leader_9 : decode cX8_leader 9 = .ok (.iconst 5, 1) := by decide +kernel
theorem dX8_leader_10 : decode cX8_leader 10 = .ok (.iaload, 1) := by decide +kernel
theorem dX8_leader_11 : decode cX8_leader 11 = .ok (.if_icmp .ge 76, 3) := by decide +kernel
theorem dX8_leader_14 : decode cX8_leader 14 = .ok (.iload_n 3, 1) := by decide +kernel
theorem dX8_leader_15 : decode cX8_leader 15 = .ok (.iload_n 1, 1) := by decide +kernel
theorem dX8_leader_16 : decode cX8_leader 16 = .ok (.if_icmp .eq 33, 3) := by decide +kernel
theorem dX8_leader_19 : decode cX8_leader 19 = .ok (.aload_n 0, 1) := by decide +kernel
theorem dX8_leader_20 : decode cX8_leader 20 = .ok (.getfield 25, 3) := by decide +kernel
theorem dX8_leader_23 : decode cX8_leader 23 = .ok (.iload_n 3, 1) := by decide +kernel
theorem dX8_leader_24 : decode cX8_leader 24 = .ok (.iaload, 1) := by decide +kernel
theorem dX8_leader_25 : decode cX8_leader 25 = .ok (.ifCond .le 24, 3) := by decide +kernel
theorem dX8_leader_28 : decode cX8_leader 28 = .ok (.aload_n 0, 1) := by decide +kernel
theorem dX8_leader_29 : decode cX8_leader 29 = .ok (.iload_n 3, 1) := by decide +kernel
theorem dX8_leader_30 : decode cX8_leader 30 = .ok (.bipush 13, 2) := by decide +kernel
theorem dX8_leader_32 : decode cX8_leader 32 = .ok (.invokevirtual 52, 3) := by decide +kernel
theorem dX8_leader_35 : decode cX8_leader 35 = .ok (.aload_n 0, 1) := by decide +kernel
theorem dX8_leader_36 : decode cX8_leader 36 = .ok (.iload_n 1, 1) := by decide +kernel
theorem dX8_leader_37 : decode cX8_leader 37 = .ok (.bipush 13, 2) := by decide +kernel
theorem dX8_leader_39 : decode cX8_leader 39 = .ok (.invokevirtual 52, 3) := by decide +kernel
theorem dX8_leader_42 : decode cX8_leader 42 = .ok (.if_icmp .ne 7, 3) := by decide +kernel
theorem dX8_leader_45 : decode cX8_leader 45 = .ok (.iconst 1, 1) := by decide +kernel
theorem dX8_leader_46 : decode cX8_leader 46 = .ok (.goto 4, 3) := by decide +kernel
theorem dX8_leader_49 : decode cX8_leader 49 = .ok (.iconst 0, 1) := by decide +kernel
theorem dX8_leader_50 : decode cX8_leader 50 = .ok (.istore 4, 2) := by decide +kernel
theorem dX8_leader_52 : decode cX8_leader 52 = .ok (.iload 4, 2) := by decide +kernel
theorem dX8_leader_54 : decode cX8_leader 54 = .ok (.ifCond .eq 25, 3) := by decide +kernel
theorem dX8_leader_57 : decode cX8_leader 57 = .ok (.iload_n 2, 1) := by decide +kernel
theorem dX8_leader_58 : decode cX8_leader 58 = .ok (.iconst (-1), 1) := by decide +kernel
theorem dX8_leader_59 : decode cX8_leader 59 = .ok (.if_icmp .eq 16, 3) := by decide +kernel
theorem dX8_leader_62 : decode cX8_leader 62 = .ok (.aload_n 0, 1) := by decide +kernel
theorem dX8_leader_63 : decode cX8_leader 63 = .ok (.iload_n 3, 1) := by decide +kernel
theorem dX8_leader_64 : decode cX8_leader 64 = .ok (.invokevirtual 86, 3) := by decide +kernel
theorem dX8_leader_67 : decode cX8_leader 67 = .ok (.aload_n 0, 1) := by decide +kernel
theorem dX8_leader_68 : decode cX8_leader 68 = .ok (.iload_n 2, 1) := by decide +kernel
theorem dX8_leader_69 : decode cX8_leader 69 = .ok (.invokevirtual 86, 3) := by decide +kernel
theorem dX8_leader_72 : decode cX8_leader 72 = .ok (.if_icmp .ge 7, 3) := by decide +kernel
theorem dX8_leader_75 : decode cX8_leader 75 = .ok (.iload_n 3, 1) := by decide +kernel
theorem dX8_leader_76 : decode cX8_leader 76 = .ok (.goto 4, 3) := by decide +kernel
theorem dX8_leader_79 : decode cX8_leader 79 = .ok (.iload_n 2, 1) := by decide +kernel
theorem dX8_leader_80 : decode cX8_leader 80 = .ok (.istore_n 2, 1) := by decide +kernel
theorem dX8_leader_81 : decode cX8_leader 81 = .ok (.iinc 3 1, 3) := by decide +kernel
theorem dX8_leader_84 : decode cX8_leader 84 = .ok (.goto (-80), 3) := by decide +kernel
theorem dX8_leader_87 : decode cX8_leader 87 = .ok (.iload_n 2, 1) := by decide +kernel
theorem dX8_leader_88 : decode cX8_leader 88 = .ok (.ireturn, 1) := by decide +kernel
theorem dX8_spirals_0 : decode cX8_spirals 0 = .ok (.aload_n 0, 1) := by decide +kernel
theorem dX8_spirals_1 : decode cX8_spirals 1 = .ok (.iload_n 1, 1) := by decide +kernel
theorem dX8_spirals_2 : decode cX8_spirals 2 = .ok (.invokevirtual 126, 3) := by decide +kernel
theorem dX8_spirals_5 : decode cX8_spirals 5 = .ok (.istore_n 2, 1) := by decide +kernel
theorem dX8_spirals_6 : decode cX8_spirals 6 = .ok (.iload_n 2, 1) := by decide +kernel
theorem dX8_spirals_7 : decode cX8_spirals 7 = .ok (.iconst (-1), 1) := by decide +kernel
theorem dX8_spirals_8 : decode cX8_spirals 8 = .ok (.if_icmp .ne 14, 3) := by decide +kernel
theorem dX8_spirals_11 : decode cX8_spirals 11 = .ok (.aload_n 0, 1) := by decide +kernel
theorem dX8_spirals_12 : decode cX8_spirals 12 = .ok (.getfield 7, 3) := by decide +kernel
theorem dX8_spirals_15 : decode cX8_spirals 15 = .ok (.iconst 0, 1) := by decide +kernel
theorem dX8_spirals_16 : decode cX8_spirals 16 = .ok (.iaload, 1) := by decide +kernel
theorem dX8_spirals_17 : decode cX8_spirals 17 = .ok (.iconst 2, 1) := by decide +kernel
theorem dX8_spirals_18 : decode cX8_spirals 18 = .ok (.idiv, 1) := by decide +kernel
theorem dX8_spirals_19 : decode cX8_spirals 19 = .ok (.goto 18, 3) := by decide +kernel
theorem dX8_spirals_22 : decode cX8_spirals 22 = .ok (.aload_n 0, 1) := by decide +kernel
theorem dX8_spirals_23 : decode cX8_spirals 23 = .ok (.getfield 19, 3) := by decide +kernel
theorem dX8_spirals_26 : decode cX8_spirals 26 = .ok (.iload_n 2, 1) := by decide +kernel
theorem dX8_spirals_27 : decode cX8_spirals 27 = .ok (.iaload, 1) := by decide +kernel
theorem dX8_spirals_28 : decode cX8_spirals 28 = .ok (.aload_n 0, 1) := by decide +kernel
theorem dX8_spirals_29 : decode cX8_spirals 29 = .ok (.getfield 25, 3) := by decide +kernel
theorem dX8_spirals_32 : decode cX8_spirals 32 = .ok (.iload_n 2, 1) := by decide +kernel
theorem dX8_spirals_33 : decode cX8_spirals 33 = .ok (.iaload, 1) := by decide +kernel
theorem dX8_spirals_34 : decode cX8_spirals 34 = .ok (.iconst 2, 1) := by decide +kernel
theorem dX8_spirals_35 : decode cX8_spirals 35 = .ok (.idiv, 1) := by decide +kernel
theorem dX8_spirals_36 : decode cX8_spirals 36 = .ok (.iadd, 1) := by decide +kernel
theorem dX8_spirals_37 : decode cX8_spirals 37 = .ok (.istore_n 3, 1) := by decide +kernel
theorem dX8_spirals_38 : decode cX8_spirals 38 = .ok (.iload_n 2, 1) := by decide +kernel
theorem dX8_spirals_39 : decode cX8_spirals 39 = .ok (.iconst (-1), 1) := by decide +kernel
theorem dX8_spirals_40 : decode cX8_spirals 40 = .ok (.if_icmp .ne 14, 3) := by decide +kernel
theorem dX8_spirals_43 : decode cX8_spirals 43 = .ok (.aload_n 0, 1) := by decide +kernel
theorem dX8_spirals_44 : decode cX8_spirals 44 = .ok (.getfield 7, 3) := by decide +kernel
theorem dX8_spirals_47 : decode cX8_spirals 47 = .ok (.iconst 1, 1) := by decide +kernel
theorem dX8_spirals_48 : decode cX8_spirals 48 = .ok (.iaload, 1) := by decide +kernel
theorem dX8_spirals_49 : decode cX8_spirals 49 = .ok (.iconst 2, 1) := by decide +kernel
theorem dX8_spirals_50 : decode cX8_spirals 50 = .ok (.idiv, 1) := by decide +kernel
theorem dX8_spirals_51 : decode cX8_spirals 51 = .ok (.goto 18, 3) := by decide +kernel
theorem dX8_spirals_54 : decode cX8_spirals 54 = .ok (.aload_n 0, 1) := by decide +kernel
theorem dX8_spirals_55 : decode cX8_spirals 55 = .ok (.getfield 22, 3) := by decide +kernel
theorem dX8_spirals_58 : decode cX8_spirals 58 = .ok (.iload_n 2, 1) := by decide +kernel
theorem dX8_spirals_59 : decode cX8_spirals 59 = .ok (.iaload, 1) := by decide +kernel
theorem dX8_spirals_60 : decode cX8_spirals 60 = .ok (.aload_n 0, 1) := by decide +kernel
theorem dX8_spirals_61 : decode cX8_spirals 61 = .ok (.getfield 28, 3) := by decide +kernel
theorem dX8_spirals_64 : decode cX8_spirals 64 = .ok (.iload_n 2, 1) := by decide +kernel
theorem dX8_spirals_65 : decode cX8_spirals 65 = .ok (.iaload, 1) := by decide +kernel
theorem dX8_spirals_66 : decode cX8_spirals 66 = .ok (.iconst 2, 1) := by decide +kernel
theorem dX8_spirals_67 : decode cX8_spirals 67 = .ok (.idiv, 1) := by decide +kernel
theorem dX8_spirals_68 : decode cX8_spirals 68 = .ok (.iadd, 1) := by decide +kernel
theorem dX8_spirals_69 : decode cX8_spirals 69 = .ok (.istore 4, 2) := by decide +kernel
theorem dX8_spirals_71 : decode cX8_spirals 71 = .ok (.aload_n 0, 1) := by decide +kernel
theorem dX8_spirals_72 : decode cX8_spirals 72 = .ok (.iload_n 1, 1) := by decide +kernel
theorem dX8_spirals_73 : decode cX8_spirals 73 = .ok (.iload_n 3, 1) := by decide +kernel
theorem dX8_spirals_74 : decode cX8_spirals 74 = .ok (.iload 4, 2) := by decide +kernel
theorem dX8_spirals_76 : decode cX8_spirals 76 = .ok (.invokevirtual 129, 3) := by decide +kernel
theorem dX8_spirals_79 : decode cX8_spirals 79 = .ok (.istore 5, 2) := by decide +kernel
theorem dX8_spirals_81 : decode cX8_spirals 81 = .ok (.iconst 1, 1) := by decide +kernel
theorem dX8_spirals_82 : decode cX8_spirals 82 = .ok (.istore 6, 2) := by decide +kernel
theorem dX8_spirals_84 : decode cX8_spirals 84 = .ok (.iconst 0, 1) := by decide +kernel
theorem dX8_spirals_85 : decode cX8_spirals 85 = .ok (.istore 7, 2) := by decide +kernel
theorem dX8_spirals_87 : decode cX8_spirals 87 = .ok (.iload 5, 2) := by decide +kernel
theorem dX8_spirals_89 : decode cX8_spirals 89 = .ok (.ifCond .ne 142, 3) := by decide +kernel
theorem dX8_spirals_92 : decode cX8_spirals 92 = .ok (.iload 6, 2) := by decide +kernel
theorem dX8_spirals_94 : decode cX8_spirals 94 = .ok (.sipush 1500, 3) := by decide +kernel
theorem dX8_spirals_97 : decode cX8_spirals 97 = .ok (.if_icmp .ge 134, 3) := by decide +kernel
theorem dX8_spirals_100 : decode cX8_spirals 100 = .ok (.iconst 0, 1) := by decide +kernel
theorem dX8_spirals_101 : decode cX8_spirals 101 = .ok (.istore 8, 2) := by decide +kernel
theorem dX8_spirals_103 : decode cX8_spirals 103 = .ok (.iload 8, 2) := by decide +kernel
theorem dX8_spirals_105 : decode cX8_spirals 105 = .ok (.iload 7, 2) := by decide +kernel
theorem dX8_spirals_107 : decode cX8_spirals 107 = .ok (.iconst 2, 1) := by decide +kernel
theorem dX8_spirals_108 : decode cX8_spirals 108 = .ok (.idiv, 1) := by decide +kernel
theorem dX8_spirals_109 : decode cX8_spirals 109 = .ok (.iconst 1, 1) := by decide +kernel
theorem dX8_spirals_110 : decode cX8_spirals 110 = .ok (.iadd, 1) := by decide +kernel
theorem dX8_spirals_111 : decode cX8_spirals 111 = .ok (.if_icmp .ge 114, 3) := by decide +kernel
theorem dX8_spirals_114 : decode cX8_spirals 114 = .ok (.iload 5, 2) := by decide +kernel
theorem dX8_spirals_116 : decode cX8_spirals 116 = .ok (.ifCond .ne 109, 3) := by decide +kernel
theorem dX8_spirals_119 : decode cX8_spirals 119 = .ok (.iload 6, 2) := by decide +kernel
theorem dX8_spirals_121 : decode cX8_spirals 121 = .ok (.sipush 1500, 3) := by decide +kernel
theorem dX8_spirals_124 : decode cX8_spirals 124 = .ok (.if_icmp .ge 101, 3) := by decide +kernel
theorem dX8_spirals_127 : decode cX8_spirals 127 = .ok (.iload_n 3, 1) := by decide +kernel
theorem dX8_spirals_128 : decode cX8_spirals 128 = .ok (.iload 7, 2) := by decide +kernel
theorem dX8_spirals_130 : decode cX8_spirals 130 = .ok (.iconst 4, 1) := by decide +kernel
theorem dX8_spirals_131 : decode cX8_spirals 131 = .ok (.irem, 1) := by decide +kernel
theorem dX8_spirals_132 : decode cX8_spirals 132 = .ok (.ifCond .ne 12, 3) := by decide +kernel
theorem dX8_spirals_135 : decode cX8_spirals 135 = .ok (.aload_n 0, 1) := by decide +kernel
theorem dX8_spirals_136 : decode cX8_spirals 136 = .ok (.getfield 7, 3) := by decide +kernel
theorem dX8_spirals_139 : decode cX8_spirals 139 = .ok (.iconst 3, 1) := by decide +kernel
theorem dX8_spirals_140 : decode cX8_spirals 140 = .ok (.iaload, 1) := by decide +kernel
theorem dX8_spirals_141 : decode cX8_spirals 141 = .ok (.goto 22, 3) := by decide +kernel
theorem dX8_spirals_144 : decode cX8_spirals 144 = .ok (.iload 7, 2) := by decide +kernel
theorem dX8_spirals_146 : decode cX8_spirals 146 = .ok (.iconst 4, 1) := by decide +kernel
theorem dX8_spirals_147 : decode cX8_spirals 147 = .ok (.irem, 1) := by decide +kernel
theorem dX8_spirals_148 : decode cX8_spirals 148 = .ok (.iconst 2, 1) := by decide +kernel
theorem dX8_spirals_149 : decode cX8_spirals 149 = .ok (.if_icmp .ne 13, 3) := by decide +kernel
theorem dX8_spirals_152 : decode cX8_spirals 152 = .ok (.aload_n 0, 1) := by decide +kernel
theorem dX8_spirals_153 : decode cX8_spirals 153 = .ok (.getfield 7, 3) := by decide +kernel
theorem dX8_spirals_156 : decode cX8_spirals 156 = .ok (.iconst 3, 1) := by decide +kernel
theorem dX8_spirals_157 : decode cX8_spirals 157 = .ok (.iaload, 1) := by decide +kernel
theorem dX8_spirals_158 : decode cX8_spirals 158 = .ok (.ineg, 1) := by decide +kernel
theorem dX8_spirals_159 : decode cX8_spirals 159 = .ok (.goto 4, 3) := by decide +kernel
theorem dX8_spirals_162 : decode cX8_spirals 162 = .ok (.iconst 0, 1) := by decide +kernel
theorem dX8_spirals_163 : decode cX8_spirals 163 = .ok (.iadd, 1) := by decide +kernel
theorem dX8_spirals_164 : decode cX8_spirals 164 = .ok (.istore_n 3, 1) := by decide +kernel
theorem dX8_spirals_165 : decode cX8_spirals 165 = .ok (.iload 4, 2) := by decide +kernel
theorem dX8_spirals_167 : decode cX8_spirals 167 = .ok (.iload 7, 2) := by decide +kernel
theorem dX8_spirals_169 : decode cX8_spirals 169 = .ok (.iconst 4, 1) := by decide +kernel
theorem dX8_spirals_170 : decode cX8_spirals 170 = .ok (.irem, 1) := by decide +kernel
theorem dX8_spirals_171 : decode cX8_spirals 171 = .ok (.iconst 1, 1) := by decide +kernel
theorem dX8_spirals_172 : decode cX8_spirals 172 = .ok (.if_icmp .ne 12, 3) := by decide +kernel
theorem dX8_spirals_175 : decode cX8_spirals 175 = .ok (.aload_n 0, 1) := by decide +kernel
theorem dX8_spirals_176 : decode cX8_spirals 176 = .ok (.getfield 7, 3) := by decide +kernel
theorem dX8_spirals_179 : decode cX8_spirals 179 = .ok (.iconst 3, 1) := by decide +kernel
theorem dX8_spirals_180 : decode cX8_spirals 180 = .ok (.iaload, 1) := by decide +kernel
theorem dX8_spirals_181 : decode cX8_spirals 181 = .ok (.goto 22, 3) := by decide +kernel
theorem dX8_spirals_184 : decode cX8_spirals 184 = .ok (.iload 7, 2) := by decide +kernel
theorem dX8_spirals_186 : decode cX8_spirals 186 = .ok (.iconst 4, 1) := by decide +kernel
theorem dX8_spirals_187 : decode cX8_spirals 187 = .ok (.irem, 1) := by decide +kernel
theorem dX8_spirals_188 : decode cX8_spirals 188 = .ok (.iconst 3, 1) := by decide +kernel
theorem dX8_spirals_189 : decode cX8_spirals 189 = .ok (.if_icmp .ne 13, 3) := by decide +kernel
theorem dX8_spirals_192 : decode cX8_spirals 192 = .ok (.aload_n 0, 1) := by decide +kernel
theorem dX8_spirals_193 : decode cX8_spirals 193 = .ok (.getfield 7, 3) := by decide +kernel
theorem dX8_spirals_196 : decode cX8_spirals 196 = .ok (.iconst 3, 1) := by decide +kernel
theorem dX8_spirals_197 : decode cX8_spirals 197 = .ok (.iaload, 1) := by decide +kernel
theorem dX8_spirals_198 : decode cX8_spirals 198 = .ok (.ineg, 1) := by decide +kernel
theorem dX8_spirals_199 : decode cX8_spirals 199 = .ok (.goto 4, 3) := by decide +kernel
theorem dX8_spirals_202 : decode cX8_spirals 202 = .ok (.iconst 0, 1) := by decide +kernel
theorem dX8_spirals_203 : decode cX8_spirals 203 = .ok (.iadd, 1) := by decide +kernel
theorem dX8_spirals_204 : decode cX8_spirals 204 = .ok (.istore 4, 2) := by decide +kernel
theorem dX8_spirals_206 : decode cX8_spirals 206 = .ok (.iinc 6 1, 3) := by decide +kernel
theorem dX8_spirals_209 : decode cX8_spirals 209 = .ok (.aload_n 0, 1) := by decide +kernel
theorem dX8_spirals_210 : decode cX8_spirals 210 = .ok (.iload_n 1, 1) := by decide +kernel
theorem dX8_spirals_211 : decode cX8_spirals 211 = .ok (.iload_n 3, 1) := by decide +kernel
theorem dX8_spirals_212 : decode cX8_spirals 212 = .ok (.iload 4, 2) := by decide +kernel
theorem dX8_spirals_214 : decode cX8_spirals 214 = .ok (.invokevirtual 129, 3) := by decide +kernel
theorem dX8_spirals_217 : decode cX8_spirals 217 = .ok (.istore 5, 2) := by decide +kernel
theorem dX8_spirals_219 : decode cX8_spirals 219 = .ok (.iinc 8 1, 3) := by decide +kernel
theorem dX8_spirals_222 : decode cX8_spirals 222 = .ok (.goto (-119), 3) := by decide +kernel
theorem dX8_spirals_225 : decode cX8_spirals 225 = .ok (.iinc 7 1, 3) := by decide +kernel
theorem dX8_spirals_228 : decode cX8_spirals 228 = .ok (.goto (-141), 3) := by decide +kernel
theorem dX8_spirals_231 : decode cX8_spirals 231 = .ok (.return_, 1) := by decide +kernel
theorem dX8_hasMoved_0 : decode cX8_hasMoved 0 = .ok (.aload_n 0, 1) := by decide +kernel
theorem dX8_hasMoved_1 : decode cX8_hasMoved 1 = .ok (.getfield 25, 3) := by decide +kernel
theorem dX8_hasMoved_4 : decode cX8_hasMoved 4 = .ok (.iload_n 1, 1) := by decide +kernel
theorem dX8_hasMoved_5 : decode cX8_hasMoved 5 = .ok (.iaload, 1) := by decide +kernel
theorem dX8_hasMoved_6 : decode cX8_hasMoved 6 = .ok (.aload_n 0, 1) := by decide +kernel
theorem dX8_hasMoved_7 : decode cX8_hasMoved 7 = .ok (.iload_n 1, 1) := by decide +kernel
theorem dX8_hasMoved_8 : decode cX8_hasMoved 8 = .ok (.bipush 16, 2) := by decide +kernel
theorem dX8_hasMoved_10 : decode cX8_hasMoved 10 = .ok (.invokevirtual 52, 3) := by decide +kernel
theorem dX8_hasMoved_13 : decode cX8_hasMoved 13 = .ok (.if_icmp .ne 55, 3) := by decide +kernel
theorem dX8_hasMoved_16 : decode cX8_hasMoved 16 = .ok (.aload_n 0, 1) := by decide +kernel
theorem dX8_hasMoved_17 : decode cX8_hasMoved 17 = .ok (.getfield 28, 3) := by decide +kernel
theorem dX8_hasMoved_20 : decode cX8_hasMoved 20 = .ok (.iload_n 1, 1) := by decide +kernel
theorem dX8_hasMoved_21 : decode cX8_hasMoved 21 = .ok (.iaload, 1) := by decide +kernel
theorem dX8_hasMoved_22 : decode cX8_hasMoved 22 = .ok (.aload_n 0, 1) := by decide +kernel
theorem dX8_hasMoved_23 : decode cX8_hasMoved 23 = .ok (.iload_n 1, 1) := by decide +kernel
theorem dX8_hasMoved_24 : decode cX8_hasMoved 24 = .ok (.bipush 17, 2) := by decide +kernel
theorem dX8_hasMoved_26 : decode cX8_hasMoved 26 = .ok (.invokevirtual 52, 3) := by decide +kernel
theorem dX8_hasMoved_29 : decode cX8_hasMoved 29 = .ok (.if_icmp .ne 39, 3) := by decide +kernel
theorem dX8_hasMoved_32 : decode cX8_hasMoved 32 = .ok (.aload_n 0, 1) := by decide +kernel
theorem dX8_hasMoved_33 : decode cX8_hasMoved 33 = .ok (.getfield 19, 3) := by decide +kernel
theorem dX8_hasMoved_36 : decode cX8_hasMoved 36 = .ok (.iload_n 1, 1) := by decide +kernel
theorem dX8_hasMoved_37 : decode cX8_hasMoved 37 = .ok (.iaload, 1) := by decide +kernel
theorem dX8_hasMoved_38 : decode cX8_hasMoved 38 = .ok (.aload_n 0, 1) := by decide +kernel
theorem dX8_hasMoved_39 : decode cX8_hasMoved 39 = .ok (.iload_n 1, 1) := by decide +kernel
theorem dX8_hasMoved_40 : decode cX8_hasMoved 40 = .ok (.bipush 14, 2) := by decide +kernel
theorem dX8_hasMoved_42 : decode cX8_hasMoved 42 = .ok (.invokevirtual 52, 3) := by decide +kernel
theorem dX8_hasMoved_45 : decode cX8_hasMoved 45 = .ok (.if_icmp .ne 23, 3) := by decide +kernel
theorem dX8_hasMoved_48 : decode cX8_hasMoved 48 = .ok (.aload_n 0, 1) := by decide +kernel
theorem dX8_hasMoved_49 : decode cX8_hasMoved 49 = .ok (.getfield 22, 3) := by decide +kernel
theorem dX8_hasMoved_52 : decode cX8_hasMoved 52 = .ok (.iload_n 1, 1) := by decide +kernel
theorem dX8_hasMoved_53 : decode cX8_hasMoved 53 = .ok (.iaload, 1) := by decide +kernel
theorem dX8_hasMoved_54 : decode cX8_hasMoved 54 = .ok (.aload_n 0, 1) := by decide +kernel
theorem dX8_hasMoved_55 : decode cX8_hasMoved 55 = .ok (.iload_n 1, 1) := by decide +kernel
theorem dX8_hasMoved_56 : decode cX8_hasMoved 56 = .ok (.bipush 15, 2) := by decide +kernel
theorem dX8_hasMoved_58 : decode cX8_hasMoved 58 = .ok (.invokevirtual 52, 3) := by decide +kernel
theorem dX8_hasMoved_61 : decode cX8_hasMoved 61 = .ok (.if_icmp .ne 7, 3) := by decide +kernel
theorem dX8_hasMoved_64 : decode cX8_hasMoved 64 = .ok (.iconst 1, 1) := by decide +kernel
theorem dX8_hasMoved_65 : decode cX8_hasMoved 65 = .ok (.goto 4, 3) := by decide +kernel
theorem dX8_hasMoved_68 : decode cX8_hasMoved 68 = .ok (.iconst 0, 1) := by decide +kernel
theorem dX8_hasMoved_69 : decode cX8_hasMoved 69 = .ok (.istore_n 2, 1) := by decide +kernel
theorem dX8_hasMoved_70 : decode cX8_hasMoved 70 = .ok (.aload_n 0, 1) := by decide +kernel
theorem dX8_hasMoved_71 : decode cX8_hasMoved 71 = .ok (.iload_n 1, 1) := by decide +kernel
theorem dX8_hasMoved_72 : decode cX8_hasMoved 72 = .ok (.invokevirtual 101, 3) := by decide +kernel
theorem dX8_hasMoved_75 : decode cX8_hasMoved 75 = .ok (.ifCond .eq 11, 3) := by decide +kernel
theorem dX8_hasMoved_78 : decode cX8_hasMoved 78 = .ok (.iload_n 2, 1) := by decide +kernel
theorem dX8_hasMoved_79 : decode cX8_hasMoved 79 = .ok (.ifCond .ne 7, 3) := by decide +kernel
theorem dX8_hasMoved_82 : decode cX8_hasMoved 82 = .ok (.iconst 1, 1) := by decide +kernel
theorem dX8_hasMoved_83 : decode cX8_hasMoved 83 = .ok (.goto 4, 3) := by decide +kernel
theorem dX8_hasMoved_86 : decode cX8_hasMoved 86 = .ok (.iconst 0, 1) := by decide +kernel
theorem dX8_hasMoved_87 : decode cX8_hasMoved 87 = .ok (.ireturn, 1) := by decide +kernel
theorem dX8_takesOver_0 : decode cX8_takesOver 0 = .ok (.aload_n 0, 1) := by decide +kernel
theorem dX8_takesOver_1 : decode cX8_takesOver 1 = .ok (.getfield 7, 3) := by decide +kernel
theorem dX8_takesOver_4 : decode cX8_takesOver 4 = .ok (.bipush 6, 2) := by decide +kernel
theorem dX8_takesOver_6 : decode cX8_takesOver 6 = .ok (.iconst 0, 1) := by decide +kernel
theorem dX8_takesOver_7 : decode cX8_takesOver 7 = .ok (.iastore, 1) := by decide +kernel
theorem dX8_takesOver_8 : decode cX8_takesOver 8 = .ok (.iconst 0, 1) := by decide +kernel
theorem dX8_takesOver_9 : decode cX8_takesOver 9 = .ok (.istore_n 1, 1) := by decide +kernel
theorem dX8_takesOver_10 : decode cX8_takesOver 10 = .ok (.iload_n 1, 1) := by decide +kernel
theorem dX8_takesOver_11 : decode cX8_takesOver 11 = .ok (.aload_n 0, 1) := by decide +kernel
theorem dX8_takesOver_12 : decode cX8_takesOver 12 = .ok (.getfield 7, 3) := by decide +kernel
theorem dX8_takesOver_15 : decode cX8_takesOver 15 = .ok (.iconst 5, 1) := by decide +kernel
theorem dX8_takesOver_16 : decode cX8_takesOver 16 = .ok (.iaload, 1) := by decide +kernel
theorem dX8_takesOver_17 : decode cX8_takesOver 17 = .ok (.if_icmp .ge 164, 3) := by decide +kernel
theorem dX8_takesOver_20 : decode cX8_takesOver 20 = .ok (.aload_n 0, 1) := by decide +kernel
theorem dX8_takesOver_21 : decode cX8_takesOver 21 = .ok (.getfield 7, 3) := by decide +kernel
theorem dX8_takesOver_24 : decode cX8_takesOver 24 = .ok (.bipush 6, 2) := by decide +kernel
theorem dX8_takesOver_26 : decode cX8_takesOver 26 = .ok (.dup2, 1) := by decide +kernel
theorem dX8_takesOver_27 : decode cX8_takesOver 27 = .ok (.iaload, 1) := by decide +kernel
theorem dX8_takesOver_28 : decode cX8_takesOver 28 = .ok (.aload_n 0, 1) := by decide +kernel
theorem dX8_takesOver_29 : decode cX8_takesOver 29 = .ok (.iload_n 1, 1) := by decide +kernel
theorem dX8_takesOver_30 : decode cX8_takesOver 30 = .ok (.invokevirtual 133, 3) := by decide +kernel
theorem dX8_takesOver_33 : decode cX8_takesOver 33 = .ok (.ifCond .eq 7, 3) := by decide +kernel
theorem dX8_takesOver_36 : decode cX8_takesOver 36 = .ok (.iconst 1, 1) := by decide +kernel
theorem dX8_takesOver_37 : decode cX8_takesOver 37 = .ok (.goto 4, 3) := by decide +kernel
theorem dX8_takesOver_40 : decode cX8_takesOver 40 = .ok (.iconst 0, 1) := by decide +kernel
theorem dX8_takesOver_41 : decode cX8_takesOver 41 = .ok (.iadd, 1) := by decide +kernel
theorem dX8_takesOver_42 : decode cX8_takesOver 42 = .ok (.iastore, 1) := by decide +kernel
theorem dX8_takesOver_43 : decode cX8_takesOver 43 = .ok (.aload_n 0, 1) := by decide +kernel
theorem dX8_takesOver_44 : decode cX8_takesOver 44 = .ok (.getfield 25, 3) := by decide +kernel
theorem dX8_takesOver_47 : decode cX8_takesOver 47 = .ok (.iload_n 1, 1) := by decide +kernel
theorem dX8_takesOver_48 : decode cX8_takesOver 48 = .ok (.iaload, 1) := by decide +kernel
theorem dX8_takesOver_49 : decode cX8_takesOver 49 = .ok (.ifCond .le 7, 3) := by decide +kernel
theorem dX8_takesOver_52 : decode cX8_takesOver 52 = .ok (.iconst 1, 1) := by decide +kernel
theorem dX8_takesOver_53 : decode cX8_takesOver 53 = .ok (.goto 4, 3) := by decide +kernel
theorem dX8_takesOver_56 : decode cX8_takesOver 56 = .ok (.iconst 0, 1) := by decide +kernel
theorem dX8_takesOver_57 : decode cX8_takesOver 57 = .ok (.istore_n 2, 1) := by decide +kernel
theorem dX8_takesOver_58 : decode cX8_takesOver 58 = .ok (.aload_n 0, 1) := by decide +kernel
theorem dX8_takesOver_59 : decode cX8_takesOver 59 = .ok (.getfield 7, 3) := by decide +kernel
theorem dX8_takesOver_62 : decode cX8_takesOver 62 = .ok (.iload_n 1, 1) := by decide +kernel
theorem dX8_takesOver_63 : decode cX8_takesOver 63 = .ok (.bipush 14, 2) := by decide +kernel
theorem dX8_takesOver_65 : decode cX8_takesOver 65 = .ok (.invokestatic 44, 3) := by decide +kernel
theorem dX8_takesOver_68 : decode cX8_takesOver 68 = .ok (.iload_n 2, 1) := by decide +kernel
theorem dX8_takesOver_69 : decode cX8_takesOver 69 = .ok (.ifCond .eq 12, 3) := by decide +kernel
theorem dX8_takesOver_72 : decode cX8_takesOver 72 = .ok (.aload_n 0, 1) := by decide +kernel
theorem dX8_takesOver_73 : decode cX8_takesOver 73 = .ok (.getfield 19, 3) := by decide +kernel
theorem dX8_takesOver_76 : decode cX8_takesOver 76 = .ok (.iload_n 1, 1) := by decide +kernel
theorem dX8_takesOver_77 : decode cX8_takesOver 77 = .ok (.iaload, 1) := by decide +kernel
theorem dX8_takesOver_78 : decode cX8_takesOver 78 = .ok (.goto 4, 3) := by decide +kernel
theorem dX8_takesOver_81 : decode cX8_takesOver 81 = .ok (.iconst 0, 1) := by decide +kernel
theorem dX8_takesOver_82 : decode cX8_takesOver 82 = .ok (.iastore, 1) := by decide +kernel
theorem dX8_takesOver_83 : decode cX8_takesOver 83 = .ok (.aload_n 0, 1) := by decide +kernel
theorem dX8_takesOver_84 : decode cX8_takesOver 84 = .ok (.getfield 7, 3) := by decide +kernel
theorem dX8_takesOver_87 : decode cX8_takesOver 87 = .ok (.iload_n 1, 1) := by decide +kernel
theorem dX8_takesOver_88 : decode cX8_takesOver 88 = .ok (.bipush 15, 2) := by decide +kernel
theorem dX8_takesOver_90 : decode cX8_takesOver 90 = .ok (.invokestatic 44, 3) := by decide +kernel
theorem dX8_takesOver_93 : decode cX8_takesOver 93 = .ok (.iload_n 2, 1) := by decide +kernel
theorem dX8_takesOver_94 : decode cX8_takesOver 94 = .ok (.ifCond .eq 12, 3) := by decide +kernel
theorem dX8_takesOver_97 : decode cX8_takesOver 97 = .ok (.aload_n 0, 1) := by decide +kernel
theorem dX8_takesOver_98 : decode cX8_takesOver 98 = .ok (.getfield 22, 3) := by decide +kernel
theorem dX8_takesOver_101 : decode cX8_takesOver 101 = .ok (.iload_n 1, 1) := by decide +kernel
theorem dX8_takesOver_102 : decode cX8_takesOver 102 = .ok (.iaload, 1) := by decide +kernel
theorem dX8_takesOver_103 : decode cX8_takesOver 103 = .ok (.goto 4, 3) := by decide +kernel
theorem dX8_takesOver_106 : decode cX8_takesOver 106 = .ok (.iconst 0, 1) := by decide +kernel
theorem dX8_takesOver_107 : decode cX8_takesOver 107 = .ok (.iastore, 1) := by decide +kernel
theorem dX8_takesOver_108 : decode cX8_takesOver 108 = .ok (.aload_n 0, 1) := by decide +kernel
theorem dX8_takesOver_109 : decode cX8_takesOver 109 = .ok (.getfield 7, 3) := by decide +kernel
theorem dX8_takesOver_112 : decode cX8_takesOver 112 = .ok (.iload_n 1, 1) := by decide +kernel
theorem dX8_takesOver_113 : decode cX8_takesOver 113 = .ok (.bipush 16, 2) := by decide +kernel
theorem dX8_takesOver_115 : decode cX8_takesOver 115 = .ok (.invokestatic 44, 3) := by decide +kernel
theorem dX8_takesOver_118 : decode cX8_takesOver 118 = .ok (.aload_n 0, 1) := by decide +kernel
theorem dX8_takesOver_119 : decode cX8_takesOver 119 = .ok (.getfield 25, 3) := by decide +kernel
theorem dX8_takesOver_122 : decode cX8_takesOver 122 = .ok (.iload_n 1, 1) := by decide +kernel
theorem dX8_takesOver_123 : decode cX8_takesOver 123 = .ok (.iaload, 1) := by decide +kernel
theorem dX8_takesOver_124 : decode cX8_takesOver 124 = .ok (.iastore, 1) := by decide +kernel
theorem dX8_takesOver_125 : decode cX8_takesOver 125 = .ok (.aload_n 0, 1) := by decide +kernel
theorem dX8_takesOver_126 : decode cX8_takesOver 126 = .ok (.getfield 7, 3) := by decide +kernel
theorem dX8_takesOver_129 : decode cX8_takesOver 129 = .ok (.iload_n 1, 1) := by decide +kernel
theorem dX8_takesOver_130 : decode cX8_takesOver 130 = .ok (.bipush 17, 2) := by decide +kernel
theorem dX8_takesOver_132 : decode cX8_takesOver 132 = .ok (.invokestatic 44, 3) := by decide +kernel
theorem dX8_takesOver_135 : decode cX8_takesOver 135 = .ok (.iload_n 2, 1) := by decide +kernel
theorem dX8_takesOver_136 : decode cX8_takesOver 136 = .ok (.ifCond .eq 12, 3) := by decide +kernel
theorem dX8_takesOver_139 : decode cX8_takesOver 139 = .ok (.aload_n 0, 1) := by decide +kernel
theorem dX8_takesOver_140 : decode cX8_takesOver 140 = .ok (.getfield 28, 3) := by decide +kernel
theorem dX8_takesOver_143 : decode cX8_takesOver 143 = .ok (.iload_n 1, 1) := by decide +kernel
theorem dX8_takesOver_144 : decode cX8_takesOver 144 = .ok (.iaload, 1) := by decide +kernel
theorem dX8_takesOver_145 : decode cX8_takesOver 145 = .ok (.goto 4, 3) := by decide +kernel
theorem dX8_takesOver_148 : decode cX8_takesOver 148 = .ok (.iconst 0, 1) := by decide +kernel
theorem dX8_takesOver_149 : decode cX8_takesOver 149 = .ok (.iastore, 1) := by decide +kernel
theorem dX8_takesOver_150 : decode cX8_takesOver 150 = .ok (.aload_n 0, 1) := by decide +kernel
theorem dX8_takesOver_151 : decode cX8_takesOver 151 = .ok (.getfield 7, 3) := by decide +kernel
theorem dX8_takesOver_154 : decode cX8_takesOver 154 = .ok (.iload_n 1, 1) := by decide +kernel
theorem dX8_takesOver_155 : decode cX8_takesOver 155 = .ok (.bipush 18, 2) := by decide +kernel
theorem dX8_takesOver_157 : decode cX8_takesOver 157 = .ok (.invokestatic 44, 3) := by decide +kernel
theorem dX8_takesOver_160 : decode cX8_takesOver 160 = .ok (.iload_n 2, 1) := by decide +kernel
theorem dX8_takesOver_161 : decode cX8_takesOver 161 = .ok (.ifCond .eq 12, 3) := by decide +kernel
theorem dX8_takesOver_164 : decode cX8_takesOver 164 = .ok (.aload_n 0, 1) := by decide +kernel
theorem dX8_takesOver_165 : decode cX8_takesOver 165 = .ok (.getfield 31, 3) := by decide +kernel
theorem dX8_takesOver_168 : decode cX8_takesOver 168 = .ok (.iload_n 1, 1) := by decide +kernel
theorem dX8_takesOver_169 : decode cX8_takesOver 169 = .ok (.iaload, 1) := by decide +kernel
theorem dX8_takesOver_170 : decode cX8_takesOver 170 = .ok (.goto 4, 3) := by decide +kernel
theorem dX8_takesOver_173 : decode cX8_takesOver 173 = .ok (.iconst 0, 1) := by decide +kernel
theorem dX8_takesOver_174 : decode cX8_takesOver 174 = .ok (.iastore, 1) := by decide +kernel
theorem dX8_takesOver_175 : decode cX8_takesOver 175 = .ok (.iinc 1 1, 3) := by decide +kernel
theorem dX8_takesOver_178 : decode cX8_takesOver 178 = .ok (.goto (-168), 3) := by decide +kernel
theorem dX8_takesOver_181 : decode cX8_takesOver 181 = .ok (.return_, 1) := by decide +kernel
theorem dX8_laysAll_0 : decode cX8_laysAll 0 = .ok (.iconst 0, 1) := by decide +kernel
theorem dX8_laysAll_1 : decode cX8_laysAll 1 = .ok (.istore_n 2, 1) := by decide +kernel
theorem dX8_laysAll_2 : decode cX8_laysAll 2 = .ok (.iload_n 2, 1) := by decide +kernel
theorem dX8_laysAll_3 : decode cX8_laysAll 3 = .ok (.bipush 24, 2) := by decide +kernel
theorem dX8_laysAll_5 : decode cX8_laysAll 5 = .ok (.if_icmp .ge 16, 3) := by decide +kernel
theorem dX8_laysAll_8 : decode cX8_laysAll 8 = .ok (.aload_n 0, 1) := by decide +kernel
theorem dX8_laysAll_9 : decode cX8_laysAll 9 = .ok (.getfield 25, 3) := by decide +kernel
theorem dX8_laysAll_12 : decode cX8_laysAll 12 = .ok (.iload_n 2, 1) := by decide +kernel
theorem dX8_laysAll_13 : decode cX8_laysAll 13 = .ok (.iconst 0, 1) := by decide +kernel
theorem dX8_laysAll_14 : decode cX8_laysAll 14 = .ok (.iastore, 1) := by decide +kernel
theorem dX8_laysAll_15 : decode cX8_laysAll 15 = .ok (.iinc 2 1, 3) := by decide +kernel
theorem dX8_laysAll_18 : decode cX8_laysAll 18 = .ok (.goto (-16), 3) := by decide +kernel
theorem dX8_laysAll_21 : decode cX8_laysAll 21 = .ok (.iconst 0, 1) := by decide +kernel
theorem dX8_laysAll_22 : decode cX8_laysAll 22 = .ok (.istore_n 2, 1) := by decide +kernel
theorem dX8_laysAll_23 : decode cX8_laysAll 23 = .ok (.iload_n 2, 1) := by decide +kernel
theorem dX8_laysAll_24 : decode cX8_laysAll 24 = .ok (.aload_n 0, 1) := by decide +kernel
theorem dX8_laysAll_25 : decode cX8_laysAll 25 = .ok (.getfield 7, 3) := by decide +kernel
theorem dX8_laysAll_28 : decode cX8_laysAll 28 = .ok (.iconst 5, 1) := by decide +kernel
theorem dX8_laysAll_29 : decode cX8_laysAll 29 = .ok (.iaload, 1) := by decide +kernel
theorem dX8_laysAll_30 : decode cX8_laysAll 30 = .ok (.if_icmp .ge 41, 3) := by decide +kernel
theorem dX8_laysAll_33 : decode cX8_laysAll 33 = .ok (.aload_n 0, 1) := by decide +kernel
theorem dX8_laysAll_34 : decode cX8_laysAll 34 = .ok (.iload_n 2, 1) := by decide +kernel
theorem dX8_laysAll_35 : decode cX8_laysAll 35 = .ok (.invokevirtual 90, 3) := by decide +kernel
theorem dX8_laysAll_38 : decode cX8_laysAll 38 = .ok (.istore_n 3, 1) := by decide +kernel
theorem dX8_laysAll_39 : decode cX8_laysAll 39 = .ok (.aload_n 0, 1) := by decide +kernel
theorem dX8_laysAll_40 : decode cX8_laysAll 40 = .ok (.aload_n 0, 1) := by decide +kernel
theorem dX8_laysAll_41 : decode cX8_laysAll 41 = .ok (.iload_n 3, 1) := by decide +kernel
theorem dX8_laysAll_42 : decode cX8_laysAll 42 = .ok (.invokevirtual 93, 3) := by decide +kernel
theorem dX8_laysAll_45 : decode cX8_laysAll 45 = .ok (.putfield 113, 3) := by decide +kernel
theorem dX8_laysAll_48 : decode cX8_laysAll 48 = .ok (.iload_n 1, 1) := by decide +kernel
theorem dX8_laysAll_49 : decode cX8_laysAll 49 = .ok (.ifCond .eq 11, 3) := by decide +kernel
theorem dX8_laysAll_52 : decode cX8_laysAll 52 = .ok (.aload_n 0, 1) := by decide +kernel
theorem dX8_laysAll_53 : decode cX8_laysAll 53 = .ok (.iload_n 3, 1) := by decide +kernel
theorem dX8_laysAll_54 : decode cX8_laysAll 54 = .ok (.invokevirtual 136, 3) := by decide +kernel
theorem dX8_laysAll_57 : decode cX8_laysAll 57 = .ok (.ifCond .ne 8, 3) := by decide +kernel
theorem dX8_laysAll_60 : decode cX8_laysAll 60 = .ok (.aload_n 0, 1) := by decide +kernel
theorem dX8_laysAll_61 : decode cX8_laysAll 61 = .ok (.iload_n 3, 1) := by decide +kernel
theorem dX8_laysAll_62 : decode cX8_laysAll 62 = .ok (.invokevirtual 139, 3) := by decide +kernel
theorem dX8_laysAll_65 : decode cX8_laysAll 65 = .ok (.iinc 2 1, 3) := by decide +kernel
theorem dX8_laysAll_68 : decode cX8_laysAll 68 = .ok (.goto (-45), 3) := by decide +kernel
theorem dX8_laysAll_71 : decode cX8_laysAll 71 = .ok (.aload_n 0, 1) := by decide +kernel
theorem dX8_laysAll_72 : decode cX8_laysAll 72 = .ok (.invokevirtual 143, 3) := by decide +kernel
theorem dX8_laysAll_75 : decode cX8_laysAll 75 = .ok (.aload_n 0, 1) := by decide +kernel
theorem dX8_laysAll_76 : decode cX8_laysAll 76 = .ok (.invokevirtual 104, 3) := by decide +kernel
theorem dX8_laysAll_79 : decode cX8_laysAll 79 = .ok (.ireturn, 1) := by decide +kernel
theorem dX8_lay_0 : decode cX8_lay 0 = .ok (.aload_n 0, 1) := by decide +kernel
theorem dX8_lay_1 : decode cX8_lay 1 = .ok (.iconst 0, 1) := by decide +kernel
theorem dX8_lay_2 : decode cX8_lay 2 = .ok (.putfield 37, 3) := by decide +kernel
theorem dX8_lay_5 : decode cX8_lay 5 = .ok (.aload_n 0, 1) := by decide +kernel
theorem dX8_lay_6 : decode cX8_lay 6 = .ok (.invokevirtual 65, 3) := by decide +kernel
theorem dX8_lay_9 : decode cX8_lay 9 = .ok (.aload_n 0, 1) := by decide +kernel
theorem dX8_lay_10 : decode cX8_lay 10 = .ok (.iload_n 1, 1) := by decide +kernel
theorem dX8_lay_11 : decode cX8_lay 11 = .ok (.invokevirtual 146, 3) := by decide +kernel
theorem dX8_lay_14 : decode cX8_lay 14 = .ok (.ireturn, 1) := by decide +kernel
theorem dX8_place_0 : decode cX8_place 0 = .ok (.aload_n 0, 1) := by decide +kernel
theorem dX8_place_1 : decode cX8_place 1 = .ok (.aload_n 0, 1) := by decide +kernel
theorem dX8_place_2 : decode cX8_place 2 = .ok (.iload_n 1, 1) := by decide +kernel
theorem dX8_place_3 : decode cX8_place 3 = .ok (.invokevirtual 55, 3) := by decide +kernel
theorem dX8_place_6 : decode cX8_place 6 = .ok (.iload_n 2, 1) := by decide +kernel
theorem dX8_place_7 : decode cX8_place 7 = .ok (.i2l, 1) := by decide +kernel
theorem dX8_place_8 : decode cX8_place 8 = .ok (.lconst 0, 1) := by decide +kernel
theorem dX8_place_9 : decode cX8_place 9 = .ok (.ldc2_w 82, 3) := by decide +kernel
theorem dX8_place_12 : decode cX8_place 12 = .ok (.invokestatic 48, 3) := by decide +kernel
theorem dX8_place_15 : decode cX8_place 15 = .ok (.invokevirtual 61, 3) := by decide +kernel
theorem dX8_place_18 : decode cX8_place 18 = .ok (.ifCond .ne 5, 3) := by decide +kernel
theorem dX8_place_21 : decode cX8_place 21 = .ok (.iconst 0, 1) := by decide +kernel
theorem dX8_place_22 : decode cX8_place 22 = .ok (.ireturn, 1) := by decide +kernel
theorem dX8_place_23 : decode cX8_place 23 = .ok (.aload_n 0, 1) := by decide +kernel
theorem dX8_place_24 : decode cX8_place 24 = .ok (.iload_n 1, 1) := by decide +kernel
theorem dX8_place_25 : decode cX8_place 25 = .ok (.invokevirtual 101, 3) := by decide +kernel
theorem dX8_place_28 : decode cX8_place 28 = .ok (.ifCond .eq 15, 3) := by decide +kernel
theorem dX8_place_31 : decode cX8_place 31 = .ok (.aload_n 0, 1) := by decide +kernel
theorem dX8_place_32 : decode cX8_place 32 = .ok (.iload_n 1, 1) := by decide +kernel
theorem dX8_place_33 : decode cX8_place 33 = .ok (.bipush 14, 2) := by decide +kernel
theorem dX8_place_35 : decode cX8_place 35 = .ok (.iload_n 2, 1) := by decide +kernel
theorem dX8_place_36 : decode cX8_place 36 = .ok (.iadd, 1) := by decide +kernel
theorem dX8_place_37 : decode cX8_place 37 = .ok (.invokevirtual 52, 3) := by decide +kernel
theorem dX8_place_40 : decode cX8_place 40 = .ok (.goto 4, 3) := by decide +kernel
theorem dX8_place_43 : decode cX8_place 43 = .ok (.iconst (-1), 1) := by decide +kernel
theorem dX8_place_44 : decode cX8_place 44 = .ok (.ireturn, 1) := by decide +kernel
theorem dX8_covers_0 : decode cX8_covers 0 = .ok (.iload_n 2, 1) := by decide +kernel
theorem dX8_covers_1 : decode cX8_covers 1 = .ok (.aload_n 0, 1) := by decide +kernel
theorem dX8_covers_2 : decode cX8_covers 2 = .ok (.iload_n 1, 1) := by decide +kernel
theorem dX8_covers_3 : decode cX8_covers 3 = .ok (.bipush 14, 2) := by decide +kernel
theorem dX8_covers_5 : decode cX8_covers 5 = .ok (.invokevirtual 52, 3) := by decide +kernel
theorem dX8_covers_8 : decode cX8_covers 8 = .ok (.if_icmp .lt 26, 3) := by decide +kernel
theorem dX8_covers_11 : decode cX8_covers 11 = .ok (.iload_n 2, 1) := by decide +kernel
theorem dX8_covers_12 : decode cX8_covers 12 = .ok (.aload_n 0, 1) := by decide +kernel
theorem dX8_covers_13 : decode cX8_covers 13 = .ok (.iload_n 1, 1) := by decide +kernel
theorem dX8_covers_14 : decode cX8_covers 14 = .ok (.bipush 14, 2) := by decide +kernel
theorem dX8_covers_16 : decode cX8_covers 16 = .ok (.invokevirtual 52, 3) := by decide +kernel
theorem dX8_covers_19 : decode cX8_covers 19 = .ok (.aload_n 0, 1) := by decide +kernel
theorem dX8_covers_20 : decode cX8_covers 20 = .ok (.iload_n 1, 1) := by decide +kernel
theorem dX8_covers_21 : decode cX8_covers 21 = .ok (.bipush 16, 2) := by decide +kernel
theorem dX8_covers_23 : decode cX8_covers 23 = .ok (.invokevirtual 52, 3) := by decide +kernel
theorem dX8_covers_26 : decode cX8_covers 26 = .ok (.iadd, 1) := by decide +kernel
theorem dX8_covers_27 : decode cX8_covers 27 = .ok (.if_icmp .ge 7, 3) := by decide +kernel
theorem dX8_covers_30 : decode cX8_covers 30 = .ok (.iconst 1, 1) := by decide +kernel
theorem dX8_covers_31 : decode cX8_covers 31 = .ok (.goto 4, 3) := by decide +kernel
theorem dX8_covers_34 : decode cX8_covers 34 = .ok (.iconst 0, 1) := by decide +kernel
theorem dX8_covers_35 : decode cX8_covers 35 = .ok (.istore 4, 2) := by decide +kernel
theorem dX8_covers_37 : decode cX8_covers 37 = .ok (.aload_n 0, 1) := by decide +kernel
theorem dX8_covers_38 : decode cX8_covers 38 = .ok (.iload_n 1, 1) := by decide +kernel
theorem dX8_covers_39 : decode cX8_covers 39 = .ok (.invokevirtual 101, 3) := by decide +kernel
theorem dX8_covers_42 : decode cX8_covers 42 = .ok (.ifCond .eq 42, 3) := by decide +kernel
theorem dX8_covers_45 : decode cX8_covers 45 = .ok (.iload 4, 2) := by decide +kernel
theorem dX8_covers_47 : decode cX8_covers 47 = .ok (.ifCond .eq 37, 3) := by decide +kernel
theorem dX8_covers_50 : decode cX8_covers 50 = .ok (.iload_n 3, 1) := by decide +kernel
theorem dX8_covers_51 : decode cX8_covers 51 = .ok (.aload_n 0, 1) := by decide +kernel
theorem dX8_covers_52 : decode cX8_covers 52 = .ok (.iload_n 1, 1) := by decide +kernel
theorem dX8_covers_53 : decode cX8_covers 53 = .ok (.bipush 15, 2) := by decide +kernel
theorem dX8_covers_55 : decode cX8_covers 55 = .ok (.invokevirtual 52, 3) := by decide +kernel
theorem dX8_covers_58 : decode cX8_covers 58 = .ok (.if_icmp .lt 26, 3) := by decide +kernel
theorem dX8_covers_61 : decode cX8_covers 61 = .ok (.iload_n 3, 1) := by decide +kernel
theorem dX8_covers_62 : decode cX8_covers 62 = .ok (.aload_n 0, 1) := by decide +kernel
theorem dX8_covers_63 : decode cX8_covers 63 = .ok (.iload_n 1, 1) := by decide +kernel
theorem dX8_covers_64 : decode cX8_covers 64 = .ok (.bipush 15, 2) := by decide +kernel
theorem dX8_covers_66 : decode cX8_covers 66 = .ok (.invokevirtual 52, 3) := by decide +kernel
theorem dX8_covers_69 : decode cX8_covers 69 = .ok (.aload_n 0, 1) := by decide +kernel
theorem dX8_covers_70 : decode cX8_covers 70 = .ok (.iload_n 1, 1) := by decide +kernel
theorem dX8_covers_71 : decode cX8_covers 71 = .ok (.bipush 17, 2) := by decide +kernel
theorem dX8_covers_73 : decode cX8_covers 73 = .ok (.invokevirtual 52, 3) := by decide +kernel
theorem dX8_covers_76 : decode cX8_covers 76 = .ok (.iadd, 1) := by decide +kernel
theorem dX8_covers_77 : decode cX8_covers 77 = .ok (.if_icmp .ge 7, 3) := by decide +kernel
theorem dX8_covers_80 : decode cX8_covers 80 = .ok (.iconst 1, 1) := by decide +kernel
theorem dX8_covers_81 : decode cX8_covers 81 = .ok (.goto 4, 3) := by decide +kernel
theorem dX8_covers_84 : decode cX8_covers 84 = .ok (.iconst 0, 1) := by decide +kernel
theorem dX8_covers_85 : decode cX8_covers 85 = .ok (.ireturn, 1) := by decide +kernel
theorem dX8_coverer_0 : decode cX8_coverer 0 = .ok (.iconst 0, 1) := by decide +kernel
theorem dX8_coverer_1 : decode cX8_coverer 1 = .ok (.istore_n 3, 1) := by decide +kernel
theorem dX8_coverer_2 : decode cX8_coverer 2 = .ok (.iload_n 3, 1) := by decide +kernel
theorem dX8_coverer_3 : decode cX8_coverer 3 = .ok (.aload_n 0, 1) := by decide +kernel
theorem dX8_coverer_4 : decode cX8_coverer 4 = .ok (.getfield 7, 3) := by decide +kernel
theorem dX8_coverer_7 : decode cX8_coverer 7 = .ok (.iconst 5, 1) := by decide +kernel
theorem dX8_coverer_8 : decode cX8_coverer 8 = .ok (.iaload, 1) := by decide +kernel
theorem dX8_coverer_9 : decode cX8_coverer 9 = .ok (.if_icmp .ge 19, 3) := by decide +kernel
theorem dX8_coverer_12 : decode cX8_coverer 12 = .ok (.aload_n 0, 1) := by decide +kernel
theorem dX8_coverer_13 : decode cX8_coverer 13 = .ok (.iload_n 3, 1) := by decide +kernel
theorem dX8_coverer_14 : decode cX8_coverer 14 = .ok (.iload_n 1, 1) := by decide +kernel
theorem dX8_coverer_15 : decode cX8_coverer 15 = .ok (.iload_n 2, 1) := by decide +kernel
theorem dX8_coverer_16 : decode cX8_coverer 16 = .ok (.invokevirtual 150, 3) := by decide +kernel
theorem dX8_coverer_19 : decode cX8_coverer 19 = .ok (.ifCond .ne 9, 3) := by decide +kernel
theorem dX8_coverer_22 : decode cX8_coverer 22 = .ok (.iinc 3 1, 3) := by decide +kernel
theorem dX8_coverer_25 : decode cX8_coverer 25 = .ok (.goto (-23), 3) := by decide +kernel
theorem dX8_coverer_28 : decode cX8_coverer 28 = .ok (.iload_n 3, 1) := by decide +kernel
theorem dX8_coverer_29 : decode cX8_coverer 29 = .ok (.aload_n 0, 1) := by decide +kernel
theorem dX8_coverer_30 : decode cX8_coverer 30 = .ok (.getfield 7, 3) := by decide +kernel
theorem dX8_coverer_33 : decode cX8_coverer 33 = .ok (.iconst 5, 1) := by decide +kernel
theorem dX8_coverer_34 : decode cX8_coverer 34 = .ok (.iaload, 1) := by decide +kernel
theorem dX8_coverer_35 : decode cX8_coverer 35 = .ok (.if_icmp .ge 7, 3) := by decide +kernel
theorem dX8_coverer_38 : decode cX8_coverer 38 = .ok (.iload_n 3, 1) := by decide +kernel
theorem dX8_coverer_39 : decode cX8_coverer 39 = .ok (.goto 4, 3) := by decide +kernel
theorem dX8_coverer_42 : decode cX8_coverer 42 = .ok (.iconst (-1), 1) := by decide +kernel
theorem dX8_coverer_43 : decode cX8_coverer 43 = .ok (.ireturn, 1) := by decide +kernel
theorem dX8_wordAt_0 : decode cX8_wordAt 0 = .ok (.aload_n 0, 1) := by decide +kernel
theorem dX8_wordAt_1 : decode cX8_wordAt 1 = .ok (.iload_n 1, 1) := by decide +kernel
theorem dX8_wordAt_2 : decode cX8_wordAt 2 = .ok (.i2l, 1) := by decide +kernel
theorem dX8_wordAt_3 : decode cX8_wordAt 3 = .ok (.lconst 0, 1) := by decide +kernel
theorem dX8_wordAt_4 : decode cX8_wordAt 4 = .ok (.ldc2_w 153, 3) := by decide +kernel
theorem dX8_wordAt_7 : decode cX8_wordAt 7 = .ok (.invokestatic 48, 3) := by decide +kernel
theorem dX8_wordAt_10 : decode cX8_wordAt 10 = .ok (.ifCond .eq 19, 3) := by decide +kernel
theorem dX8_wordAt_13 : decode cX8_wordAt 13 = .ok (.iload_n 2, 1) := by decide +kernel
theorem dX8_wordAt_14 : decode cX8_wordAt 14 = .ok (.i2l, 1) := by decide +kernel
theorem dX8_wordAt_15 : decode cX8_wordAt 15 = .ok (.lconst 0, 1) := by decide +kernel
theorem dX8_wordAt_16 : decode cX8_wordAt 16 = .ok (.ldc2_w 155, 3) := by decide +kernel
theorem dX8_wordAt_19 : decode cX8_wordAt 19 = .ok (.invokestatic 48, 3) := by decide +kernel
theorem dX8_wordAt_22 : decode cX8_wordAt 22 = .ok (.ifCond .eq 7, 3) := by decide +kernel
theorem dX8_wordAt_25 : decode cX8_wordAt 25 = .ok (.iconst 1, 1) := by decide +kernel
theorem dX8_wordAt_26 : decode cX8_wordAt 26 = .ok (.goto 4, 3) := by decide +kernel
theorem dX8_wordAt_29 : decode cX8_wordAt 29 = .ok (.iconst 0, 1) := by decide +kernel
theorem dX8_wordAt_30 : decode cX8_wordAt 30 = .ok (.iconst 1, 1) := by decide +kernel
theorem dX8_wordAt_31 : decode cX8_wordAt 31 = .ok (.invokevirtual 61, 3) := by decide +kernel
theorem dX8_wordAt_34 : decode cX8_wordAt 34 = .ok (.ifCond .eq 12, 3) := by decide +kernel
theorem dX8_wordAt_37 : decode cX8_wordAt 37 = .ok (.aload_n 0, 1) := by decide +kernel
theorem dX8_wordAt_38 : decode cX8_wordAt 38 = .ok (.iload_n 1, 1) := by decide +kernel
theorem dX8_wordAt_39 : decode cX8_wordAt 39 = .ok (.iload_n 2, 1) := by decide +kernel
theorem dX8_wordAt_40 : decode cX8_wordAt 40 = .ok (.invokevirtual 157, 3) := by decide +kernel
theorem dX8_wordAt_43 : decode cX8_wordAt 43 = .ok (.goto 4, 3) := by decide +kernel
theorem dX8_wordAt_46 : decode cX8_wordAt 46 = .ok (.iconst 0, 1) := by decide +kernel
theorem dX8_wordAt_47 : decode cX8_wordAt 47 = .ok (.ireturn, 1) := by decide +kernel
theorem dX8_meet_0 : decode cX8_meet 0 = .ok (.aload_n 0, 1) := by decide +kernel
theorem dX8_meet_1 : decode cX8_meet 1 = .ok (.iload_n 1, 1) := by decide +kernel
theorem dX8_meet_2 : decode cX8_meet 2 = .ok (.bipush 14, 2) := by decide +kernel
theorem dX8_meet_4 : decode cX8_meet 4 = .ok (.invokevirtual 52, 3) := by decide +kernel
theorem dX8_meet_7 : decode cX8_meet 7 = .ok (.aload_n 0, 1) := by decide +kernel
theorem dX8_meet_8 : decode cX8_meet 8 = .ok (.iload_n 2, 1) := by decide +kernel
theorem dX8_meet_9 : decode cX8_meet 9 = .ok (.bipush 14, 2) := by decide +kernel
theorem dX8_meet_11 : decode cX8_meet 11 = .ok (.invokevirtual 52, 3) := by decide +kernel
theorem dX8_meet_14 : decode cX8_meet 14 = .ok (.aload_n 0, 1) := by decide +kernel
theorem dX8_meet_15 : decode cX8_meet 15 = .ok (.iload_n 2, 1) := by decide +kernel
theorem dX8_meet_16 : decode cX8_meet 16 = .ok (.bipush 16, 2) := by decide +kernel
theorem dX8_meet_18 : decode cX8_meet 18 = .ok (.invokevirtual 52, 3) := by decide +kernel
theorem dX8_meet_21 : decode cX8_meet 21 = .ok (.iadd, 1) := by decide +kernel
theorem dX8_meet_22 : decode cX8_meet 22 = .ok (.if_icmp .ge 32, 3) := by decide +kernel
theorem dX8_meet_25 : decode cX8_meet 25 = .ok (.aload_n 0, 1) := by decide +kernel
theorem dX8_meet_26 : decode cX8_meet 26 = .ok (.iload_n 2, 1) := by decide +kernel
theorem dX8_meet_27 : decode cX8_meet 27 = .ok (.bipush 14, 2) := by decide +kernel
theorem dX8_meet_29 : decode cX8_meet 29 = .ok (.invokevirtual 52, 3) := by decide +kernel
theorem dX8_meet_32 : decode cX8_meet 32 = .ok (.aload_n 0, 1) := by decide +kernel
theorem dX8_meet_33 : decode cX8_meet 33 = .ok (.iload_n 1, 1) := by decide +kernel
theorem dX8_meet_34 : decode cX8_meet 34 = .ok (.bipush 14, 2) := by decide +kernel
theorem dX8_meet_36 : decode cX8_meet 36 = .ok (.invokevirtual 52, 3) := by decide +kernel
theorem dX8_meet_39 : decode cX8_meet 39 = .ok (.aload_n 0, 1) := by decide +kernel
theorem dX8_meet_40 : decode cX8_meet 40 = .ok (.iload_n 1, 1) := by decide +kernel
theorem dX8_meet_41 : decode cX8_meet 41 = .ok (.bipush 16, 2) := by decide +kernel
theorem dX8_meet_43 : decode cX8_meet 43 = .ok (.invokevirtual 52, 3) := by decide +kernel
theorem dX8_meet_46 : decode cX8_meet 46 = .ok (.iadd, 1) := by decide +kernel
theorem dX8_meet_47 : decode cX8_meet 47 = .ok (.if_icmp .ge 7, 3) := by decide +kernel
theorem dX8_meet_50 : decode cX8_meet 50 = .ok (.iconst 1, 1) := by decide +kernel
theorem dX8_meet_51 : decode cX8_meet 51 = .ok (.goto 4, 3) := by decide +kernel
theorem dX8_meet_54 : decode cX8_meet 54 = .ok (.iconst 0, 1) := by decide +kernel
theorem dX8_meet_55 : decode cX8_meet 55 = .ok (.istore_n 3, 1) := by decide +kernel
theorem dX8_meet_56 : decode cX8_meet 56 = .ok (.aload_n 0, 1) := by decide +kernel
theorem dX8_meet_57 : decode cX8_meet 57 = .ok (.iload_n 1, 1) := by decide +kernel
theorem dX8_meet_58 : decode cX8_meet 58 = .ok (.bipush 15, 2) := by decide +kernel
theorem dX8_meet_60 : decode cX8_meet 60 = .ok (.invokevirtual 52, 3) := by decide +kernel
theorem dX8_meet_63 : decode cX8_meet 63 = .ok (.aload_n 0, 1) := by decide +kernel
theorem dX8_meet_64 : decode cX8_meet 64 = .ok (.iload_n 2, 1) := by decide +kernel
theorem dX8_meet_65 : decode cX8_meet 65 = .ok (.bipush 15, 2) := by decide +kernel
theorem dX8_meet_67 : decode cX8_meet 67 = .ok (.invokevirtual 52, 3) := by decide +kernel
theorem dX8_meet_70 : decode cX8_meet 70 = .ok (.aload_n 0, 1) := by decide +kernel
theorem dX8_meet_71 : decode cX8_meet 71 = .ok (.iload_n 2, 1) := by decide +kernel
theorem dX8_meet_72 : decode cX8_meet 72 = .ok (.bipush 17, 2) := by decide +kernel
theorem dX8_meet_74 : decode cX8_meet 74 = .ok (.invokevirtual 52, 3) := by decide +kernel
theorem dX8_meet_77 : decode cX8_meet 77 = .ok (.iadd, 1) := by decide +kernel
theorem dX8_meet_78 : decode cX8_meet 78 = .ok (.if_icmp .ge 32, 3) := by decide +kernel
theorem dX8_meet_81 : decode cX8_meet 81 = .ok (.aload_n 0, 1) := by decide +kernel
theorem dX8_meet_82 : decode cX8_meet 82 = .ok (.iload_n 2, 1) := by decide +kernel
theorem dX8_meet_83 : decode cX8_meet 83 = .ok (.bipush 15, 2) := by decide +kernel
theorem dX8_meet_85 : decode cX8_meet 85 = .ok (.invokevirtual 52, 3) := by decide +kernel
theorem dX8_meet_88 : decode cX8_meet 88 = .ok (.aload_n 0, 1) := by decide +kernel
theorem dX8_meet_89 : decode cX8_meet 89 = .ok (.iload_n 1, 1) := by decide +kernel
theorem dX8_meet_90 : decode cX8_meet 90 = .ok (.bipush 15, 2) := by decide +kernel
theorem dX8_meet_92 : decode cX8_meet 92 = .ok (.invokevirtual 52, 3) := by decide +kernel
theorem dX8_meet_95 : decode cX8_meet 95 = .ok (.aload_n 0, 1) := by decide +kernel
theorem dX8_meet_96 : decode cX8_meet 96 = .ok (.iload_n 1, 1) := by decide +kernel
theorem dX8_meet_97 : decode cX8_meet 97 = .ok (.bipush 17, 2) := by decide +kernel
theorem dX8_meet_99 : decode cX8_meet 99 = .ok (.invokevirtual 52, 3) := by decide +kernel
theorem dX8_meet_102 : decode cX8_meet 102 = .ok (.iadd, 1) := by decide +kernel
theorem dX8_meet_103 : decode cX8_meet 103 = .ok (.if_icmp .ge 7, 3) := by decide +kernel
theorem dX8_meet_106 : decode cX8_meet 106 = .ok (.iconst 1, 1) := by decide +kernel
theorem dX8_meet_107 : decode cX8_meet 107 = .ok (.goto 4, 3) := by decide +kernel
theorem dX8_meet_110 : decode cX8_meet 110 = .ok (.iconst 0, 1) := by decide +kernel
theorem dX8_meet_111 : decode cX8_meet 111 = .ok (.istore 4, 2) := by decide +kernel
theorem dX8_meet_113 : decode cX8_meet 113 = .ok (.aload_n 0, 1) := by decide +kernel
theorem dX8_meet_114 : decode cX8_meet 114 = .ok (.iload_n 1, 1) := by decide +kernel
theorem dX8_meet_115 : decode cX8_meet 115 = .ok (.invokevirtual 101, 3) := by decide +kernel
theorem dX8_meet_118 : decode cX8_meet 118 = .ok (.ifCond .eq 24, 3) := by decide +kernel
theorem dX8_meet_121 : decode cX8_meet 121 = .ok (.aload_n 0, 1) := by decide +kernel
theorem dX8_meet_122 : decode cX8_meet 122 = .ok (.iload_n 2, 1) := by decide +kernel
theorem dX8_meet_123 : decode cX8_meet 123 = .ok (.invokevirtual 101, 3) := by decide +kernel
theorem dX8_meet_126 : decode cX8_meet 126 = .ok (.ifCond .eq 16, 3) := by decide +kernel
theorem dX8_meet_129 : decode cX8_meet 129 = .ok (.iload_n 3, 1) := by decide +kernel
theorem dX8_meet_130 : decode cX8_meet 130 = .ok (.ifCond .eq 12, 3) := by decide +kernel
theorem dX8_meet_133 : decode cX8_meet 133 = .ok (.iload 4, 2) := by decide +kernel
theorem dX8_meet_135 : decode cX8_meet 135 = .ok (.ifCond .eq 7, 3) := by decide +kernel
theorem dX8_meet_138 : decode cX8_meet 138 = .ok (.iconst 1, 1) := by decide +kernel
theorem dX8_meet_139 : decode cX8_meet 139 = .ok (.goto 4, 3) := by decide +kernel
theorem dX8_meet_142 : decode cX8_meet 142 = .ok (.iconst 0, 1) := by decide +kernel
theorem dX8_meet_143 : decode cX8_meet 143 = .ok (.ireturn, 1) := by decide +kernel
theorem dX8_meetings_0 : decode cX8_meetings 0 = .ok (.aload_n 0, 1) := by decide +kernel
theorem dX8_meetings_1 : decode cX8_meetings 1 = .ok (.iconst 0, 1) := by decide +kernel
theorem dX8_meetings_2 : decode cX8_meetings 2 = .ok (.putfield 37, 3) := by decide +kernel
theorem dX8_meetings_5 : decode cX8_meetings 5 = .ok (.iconst 0, 1) := by decide +kernel
theorem dX8_meetings_6 : decode cX8_meetings 6 = .ok (.istore_n 1, 1) := by decide +kernel
theorem dX8_meetings_7 : decode cX8_meetings 7 = .ok (.iconst 0, 1) := by decide +kernel
theorem dX8_meetings_8 : decode cX8_meetings 8 = .ok (.istore_n 2, 1) := by decide +kernel
theorem dX8_meetings_9 : decode cX8_meetings 9 = .ok (.iload_n 2, 1) := by decide +kernel
theorem dX8_meetings_10 : decode cX8_meetings 10 = .ok (.aload_n 0, 1) := by decide +kernel
theorem dX8_meetings_11 : decode cX8_meetings 11 = .ok (.getfield 7, 3) := by decide +kernel
theorem dX8_meetings_14 : decode cX8_meetings 14 = .ok (.iconst 5, 1) := by decide +kernel
theorem dX8_meetings_15 : decode cX8_meetings 15 = .ok (.iaload, 1) := by decide +kernel
theorem dX8_meetings_16 : decode cX8_meetings 16 = .ok (.if_icmp .ge 46, 3) := by decide +kernel
theorem dX8_meetings_19 : decode cX8_meetings 19 = .ok (.iload_n 2, 1) := by decide +kernel
theorem dX8_meetings_20 : decode cX8_meetings 20 = .ok (.iconst 1, 1) := by decide +kernel
theorem dX8_meetings_21 : decode cX8_meetings 21 = .ok (.iadd, 1) := by decide +kernel
theorem dX8_meetings_22 : decode cX8_meetings 22 = .ok (.istore_n 3, 1) := by decide +kernel
theorem dX8_meetings_23 : decode cX8_meetings 23 = .ok (.iload_n 3, 1) := by decide +kernel
theorem dX8_meetings_24 : decode cX8_meetings 24 = .ok (.aload_n 0, 1) := by decide +kernel
theorem dX8_meetings_25 : decode cX8_meetings 25 = .ok (.getfield 7, 3) := by decide +kernel
theorem dX8_meetings_28 : decode cX8_meetings 28 = .ok (.iconst 5, 1) := by decide +kernel
theorem dX8_meetings_29 : decode cX8_meetings 29 = .ok (.iaload, 1) := by decide +kernel
theorem dX8_meetings_30 : decode cX8_meetings 30 = .ok (.if_icmp .ge 26, 3) := by decide +kernel
theorem dX8_meetings_33 : decode cX8_meetings 33 = .ok (.iload_n 1, 1) := by decide +kernel
theorem dX8_meetings_34 : decode cX8_meetings 34 = .ok (.aload_n 0, 1) := by decide +kernel
theorem dX8_meetings_35 : decode cX8_meetings 35 = .ok (.iload_n 2, 1) := by decide +kernel
theorem dX8_meetings_36 : decode cX8_meetings 36 = .ok (.iload_n 3, 1) := by decide +kernel
theorem dX8_meetings_37 : decode cX8_meetings 37 = .ok (.invokevirtual 160, 3) := by decide +kernel
theorem dX8_meetings_40 : decode cX8_meetings 40 = .ok (.ifCond .eq 7, 3) := by decide +kernel
theorem dX8_meetings_43 : decode cX8_meetings 43 = .ok (.iconst 1, 1) := by decide +kernel
theorem dX8_meetings_44 : decode cX8_meetings 44 = .ok (.goto 4, 3) := by decide +kernel
theorem dX8_meetings_47 : decode cX8_meetings 47 = .ok (.iconst 0, 1) := by decide +kernel
theorem dX8_meetings_48 : decode cX8_meetings 48 = .ok (.iadd, 1) := by decide +kernel
theorem dX8_meetings_49 : decode cX8_meetings 49 = .ok (.istore_n 1, 1) := by decide +kernel
theorem dX8_meetings_50 : decode cX8_meetings 50 = .ok (.iinc 3 1, 3) := by decide +kernel
theorem dX8_meetings_53 : decode cX8_meetings 53 = .ok (.goto (-30), 3) := by decide +kernel
theorem dX8_meetings_56 : decode cX8_meetings 56 = .ok (.iinc 2 1, 3) := by decide +kernel
theorem dX8_meetings_59 : decode cX8_meetings 59 = .ok (.goto (-50), 3) := by decide +kernel
theorem dX8_meetings_62 : decode cX8_meetings 62 = .ok (.iload_n 1, 1) := by decide +kernel
theorem dX8_meetings_63 : decode cX8_meetings 63 = .ok (.ireturn, 1) := by decide +kernel
theorem dX8_coveredCells_0 : decode cX8_coveredCells 0 = .ok (.iconst 0, 1) := by decide +kernel
theorem dX8_coveredCells_1 : decode cX8_coveredCells 1 = .ok (.istore_n 1, 1) := by decide +kernel
theorem dX8_coveredCells_2 : decode cX8_coveredCells 2 = .ok (.iconst 0, 1) := by decide +kernel
theorem dX8_coveredCells_3 : decode cX8_coveredCells 3 = .ok (.istore_n 2, 1) := by decide +kernel
theorem dX8_coveredCells_4 : decode cX8_coveredCells 4 = .ok (.iload_n 2, 1) := by decide +kernel
theorem dX8_coveredCells_5 : decode cX8_coveredCells 5 = .ok (.aload_n 0, 1) := by decide +kernel
theorem dX8_coveredCells_6 : decode cX8_coveredCells 6 = .ok (.getfield 7, 3) := by decide +kernel
theorem dX8_coveredCells_9 : decode cX8_coveredCells 9 = .ok (.iconst 0, 1) := by decide +kernel
theorem dX8_coveredCells_10 : decode cX8_coveredCells 10 = .ok (.iaload, 1) := by decide +kernel
theorem dX8_coveredCells_11 : decode cX8_coveredCells 11 = .ok (.aload_n 0, 1) := by decide +kernel
theorem dX8_coveredCells_12 : decode cX8_coveredCells 12 = .ok (.getfield 7, 3) := by decide +kernel
theorem dX8_coveredCells_15 : decode cX8_coveredCells 15 = .ok (.iconst 1, 1) := by decide +kernel
theorem dX8_coveredCells_16 : decode cX8_coveredCells 16 = .ok (.iaload, 1) := by decide +kernel
theorem dX8_coveredCells_17 : decode cX8_coveredCells 17 = .ok (.imul, 1) := by decide +kernel
theorem dX8_coveredCells_18 : decode cX8_coveredCells 18 = .ok (.if_icmp .ge 41, 3) := by decide +kernel
theorem dX8_coveredCells_21 : decode cX8_coveredCells 21 = .ok (.iload_n 1, 1) := by decide +kernel
theorem dX8_coveredCells_22 : decode cX8_coveredCells 22 = .ok (.aload_n 0, 1) := by decide +kernel
theorem dX8_coveredCells_23 : decode cX8_coveredCells 23 = .ok (.iload_n 2, 1) := by decide +kernel
theorem dX8_coveredCells_24 : decode cX8_coveredCells 24 = .ok (.aload_n 0, 1) := by decide +kernel
theorem dX8_coveredCells_25 : decode cX8_coveredCells 25 = .ok (.getfield 7, 3) := by decide +kernel
theorem dX8_coveredCells_28 : decode cX8_coveredCells 28 = .ok (.iconst 0, 1) := by decide +kernel
theorem dX8_coveredCells_29 : decode cX8_coveredCells 29 = .ok (.iaload, 1) := by decide +kernel
theorem dX8_coveredCells_30 : decode cX8_coveredCells 30 = .ok (.irem, 1) := by decide +kernel
theorem dX8_coveredCells_31 : decode cX8_coveredCells 31 = .ok (.iload_n 2, 1) := by decide +kernel
theorem dX8_coveredCells_32 : decode cX8_coveredCells 32 = .ok (.aload_n 0, 1) := by decide +kernel
theorem dX8_coveredCells_33 : decode cX8_coveredCells 33 = .ok (.getfield 7, 3) := by decide +kernel
theorem dX8_coveredCells_36 : decode cX8_coveredCells 36 = .ok (.iconst 0, 1) := by decide +kernel
theorem dX8_coveredCells_37 : decode cX8_coveredCells 37 = .ok (.iaload, 1) := by decide +kernel
theorem dX8_coveredCells_38 : decode cX8_coveredCells 38 = .ok (.idiv, 1) := by decide +kernel
theorem dX8_coveredCells_39 : decode cX8_coveredCells 39 = .ok (.invokevirtual 157, 3) := by decide +kernel
theorem dX8_coveredCells_42 : decode cX8_coveredCells 42 = .ok (.iconst (-1), 1) := by decide +kernel
theorem dX8_coveredCells_43 : decode cX8_coveredCells 43 = .ok (.if_icmp .eq 7, 3) := by decide +kernel
theorem dX8_coveredCells_46 : decode cX8_coveredCells 46 = .ok (.iconst 1, 1) := by decide +kernel
theorem dX8_coveredCells_47 : decode cX8_coveredCells 47 = .ok (.goto 4, 3) := by decide +kernel
theorem dX8_coveredCells_50 : decode cX8_coveredCells 50 = .ok (.iconst 0, 1) := by decide +kernel
theorem dX8_coveredCells_51 : decode cX8_coveredCells 51 = .ok (.iadd, 1) := by decide +kernel
theorem dX8_coveredCells_52 : decode cX8_coveredCells 52 = .ok (.istore_n 1, 1) := by decide +kernel
theorem dX8_coveredCells_53 : decode cX8_coveredCells 53 = .ok (.iinc 2 1, 3) := by decide +kernel
theorem dX8_coveredCells_56 : decode cX8_coveredCells 56 = .ok (.goto (-52), 3) := by decide +kernel
theorem dX8_coveredCells_59 : decode cX8_coveredCells 59 = .ok (.iload_n 1, 1) := by decide +kernel
theorem dX8_coveredCells_60 : decode cX8_coveredCells 60 = .ok (.ireturn, 1) := by decide +kernel
theorem dX8_extentOf_0 : decode cX8_extentOf 0 = .ok (.iload_n 1, 1) := by decide +kernel
theorem dX8_extentOf_1 : decode cX8_extentOf 1 = .ok (.ifCond .ne 8, 3) := by decide +kernel
theorem dX8_extentOf_4 : decode cX8_extentOf 4 = .ok (.aload_n 0, 1) := by decide +kernel
theorem dX8_extentOf_5 : decode cX8_extentOf 5 = .ok (.invokevirtual 163, 3) := by decide +kernel
theorem dX8_extentOf_8 : decode cX8_extentOf 8 = .ok (.ireturn, 1) := by decide +kernel
theorem dX8_extentOf_9 : decode cX8_extentOf 9 = .ok (.iconst (-1), 1) := by decide +kernel
theorem dX8_extentOf_10 : decode cX8_extentOf 10 = .ok (.istore_n 2, 1) := by decide +kernel
theorem dX8_extentOf_11 : decode cX8_extentOf 11 = .ok (.iconst 0, 1) := by decide +kernel
theorem dX8_extentOf_12 : decode cX8_extentOf 12 = .ok (.istore_n 3, 1) := by decide +kernel
theorem dX8_extentOf_13 : decode cX8_extentOf 13 = .ok (.iload_n 3, 1) := by decide +kernel
theorem dX8_extentOf_14 : decode cX8_extentOf 14 = .ok (.aload_n 0, 1) := by decide +kernel
theorem dX8_extentOf_15 : decode cX8_extentOf 15 = .ok (.getfield 7, 3) := by decide +kernel
theorem dX8_extentOf_18 : decode cX8_extentOf 18 = .ok (.iconst 5, 1) := by decide +kernel
theorem dX8_extentOf_19 : decode cX8_extentOf 19 = .ok (.iaload, 1) := by decide +kernel
theorem dX8_extentOf_20 : decode cX8_extentOf 20 = .ok (.if_icmp .ge 116, 3) := by decide +kernel
theorem dX8_extentOf_23 : decode cX8_extentOf 23 = .ok (.aload_n 0, 1) := by decide +kernel
theorem dX8_extentOf_24 : decode cX8_extentOf 24 = .ok (.iload_n 3, 1) := by decide +kernel
theorem dX8_extentOf_25 : decode cX8_extentOf 25 = .ok (.invokevirtual 101, 3) := by decide +kernel
theorem dX8_extentOf_28 : decode cX8_extentOf 28 = .ok (.ifCond .eq 102, 3) := by decide +kernel
theorem dX8_extentOf_31 : decode cX8_extentOf 31 = .ok (.aload_n 0, 1) := by decide +kernel
theorem dX8_extentOf_32 : decode cX8_extentOf 32 = .ok (.iload_n 3, 1) := by decide +kernel
theorem dX8_extentOf_33 : decode cX8_extentOf 33 = .ok (.iload_n 1, 1) := by decide +kernel
theorem dX8_extentOf_34 : decode cX8_extentOf 34 = .ok (.iconst 2, 1) := by decide +kernel
theorem dX8_extentOf_35 : decode cX8_extentOf 35 = .ok (.irem, 1) := by decide +kernel
theorem dX8_extentOf_36 : decode cX8_extentOf 36 = .ok (.iconst 1, 1) := by decide +kernel
theorem dX8_extentOf_37 : decode cX8_extentOf 37 = .ok (.if_icmp .ne 8, 3) := by decide +kernel
theorem dX8_extentOf_40 : decode cX8_extentOf 40 = .ok (.bipush 14, 2) := by decide +kernel
theorem dX8_extentOf_42 : decode cX8_extentOf 42 = .ok (.goto 5, 3) := by decide +kernel
theorem dX8_extentOf_45 : decode cX8_extentOf 45 = .ok (.bipush 15, 2) := by decide +kernel
theorem dX8_extentOf_47 : decode cX8_extentOf 47 = .ok (.invokevirtual 52, 3) := by decide +kernel
theorem dX8_extentOf_50 : decode cX8_extentOf 50 = .ok (.istore 4, 2) := by decide +kernel
theorem dX8_extentOf_52 : decode cX8_extentOf 52 = .ok (.iload_n 1, 1) := by decide +kernel
theorem dX8_extentOf_53 : decode cX8_extentOf 53 = .ok (.iconst 3, 1) := by decide +kernel
theorem dX8_extentOf_54 : decode cX8_extentOf 54 = .ok (.if_icmp .ge 8, 3) := by decide +kernel
theorem dX8_extentOf_57 : decode cX8_extentOf 57 = .ok (.iload 4, 2) := by decide +kernel
theorem dX8_extentOf_59 : decode cX8_extentOf 59 = .ok (.goto 25, 3) := by decide +kernel
theorem dX8_extentOf_62 : decode cX8_extentOf 62 = .ok (.iload 4, 2) := by decide +kernel
theorem dX8_extentOf_64 : decode cX8_extentOf 64 = .ok (.aload_n 0, 1) := by decide +kernel
theorem dX8_extentOf_65 : decode cX8_extentOf 65 = .ok (.iload_n 3, 1) := by decide +kernel
theorem dX8_extentOf_66 : decode cX8_extentOf 66 = .ok (.iload_n 1, 1) := by decide +kernel
theorem dX8_extentOf_67 : decode cX8_extentOf 67 = .ok (.iconst 3, 1) := by decide +kernel
theorem dX8_extentOf_68 : decode cX8_extentOf 68 = .ok (.if_icmp .ne 8, 3) := by decide +kernel
theorem dX8_extentOf_71 : decode cX8_extentOf 71 = .ok (.bipush 16, 2) := by decide +kernel
theorem dX8_extentOf_73 : decode cX8_extentOf 73 = .ok (.goto 5, 3) := by decide +kernel
theorem dX8_extentOf_76 : decode cX8_extentOf 76 = .ok (.bipush 17, 2) := by decide +kernel
theorem dX8_extentOf_78 : decode cX8_extentOf 78 = .ok (.invokevirtual 52, 3) := by decide +kernel
theorem dX8_extentOf_81 : decode cX8_extentOf 81 = .ok (.iadd, 1) := by decide +kernel
theorem dX8_extentOf_82 : decode cX8_extentOf 82 = .ok (.iconst 1, 1) := by decide +kernel
theorem dX8_extentOf_83 : decode cX8_extentOf 83 = .ok (.isub, 1) := by decide +kernel
theorem dX8_extentOf_84 : decode cX8_extentOf 84 = .ok (.istore 5, 2) := by decide +kernel
theorem dX8_extentOf_86 : decode cX8_extentOf 86 = .ok (.iload_n 2, 1) := by decide +kernel
theorem dX8_extentOf_87 : decode cX8_extentOf 87 = .ok (.iconst (-1), 1) := by decide +kernel
theorem dX8_extentOf_88 : decode cX8_extentOf 88 = .ok (.if_icmp .eq 23, 3) := by decide +kernel
theorem dX8_extentOf_91 : decode cX8_extentOf 91 = .ok (.iload_n 1, 1) := by decide +kernel
theorem dX8_extentOf_92 : decode cX8_extentOf 92 = .ok (.iconst 3, 1) := by decide +kernel
theorem dX8_extentOf_93 : decode cX8_extentOf 93 = .ok (.if_icmp .ge 12, 3) := by decide +kernel
theorem dX8_extentOf_96 : decode cX8_extentOf 96 = .ok (.iload 5, 2) := by decide +kernel
theorem dX8_extentOf_98 : decode cX8_extentOf 98 = .ok (.iload_n 2, 1) := by decide +kernel
theorem dX8_extentOf_99 : decode cX8_extentOf 99 = .ok (.if_icmp .ge 16, 3) := by decide +kernel
theorem dX8_extentOf_102 : decode cX8_extentOf 102 = .ok (.goto 9, 3) := by decide +kernel
theorem dX8_extentOf_105 : decode cX8_extentOf 105 = .ok (.iload 5, 2) := by decide +kernel
theorem dX8_extentOf_107 : decode cX8_extentOf 107 = .ok (.iload_n 2, 1) := by decide +kernel
theorem dX8_extentOf_108 : decode cX8_extentOf 108 = .ok (.if_icmp .le 7, 3) := by decide +kernel
theorem dX8_extentOf_111 : decode cX8_extentOf 111 = .ok (.iconst 1, 1) := by decide +kernel
theorem dX8_extentOf_112 : decode cX8_extentOf 112 = .ok (.goto 4, 3) := by decide +kernel
theorem dX8_extentOf_115 : decode cX8_extentOf 115 = .ok (.iconst 0, 1) := by decide +kernel
theorem dX8_extentOf_116 : decode cX8_extentOf 116 = .ok (.istore 6, 2) := by decide +kernel
theorem dX8_extentOf_118 : decode cX8_extentOf 118 = .ok (.iload 6, 2) := by decide +kernel
theorem dX8_extentOf_120 : decode cX8_extentOf 120 = .ok (.ifCond .eq 8, 3) := by decide +kernel
theorem dX8_extentOf_123 : decode cX8_extentOf 123 = .ok (.iload 5, 2) := by decide +kernel
theorem dX8_extentOf_125 : decode cX8_extentOf 125 = .ok (.goto 4, 3) := by decide +kernel
theorem dX8_extentOf_128 : decode cX8_extentOf 128 = .ok (.iload_n 2, 1) := by decide +kernel
theorem dX8_extentOf_129 : decode cX8_extentOf 129 = .ok (.istore_n 2, 1) := by decide +kernel
theorem dX8_extentOf_130 : decode cX8_extentOf 130 = .ok (.iinc 3 1, 3) := by decide +kernel
theorem dX8_extentOf_133 : decode cX8_extentOf 133 = .ok (.goto (-120), 3) := by decide +kernel
theorem dX8_extentOf_136 : decode cX8_extentOf 136 = .ok (.iload_n 2, 1) := by decide +kernel
theorem dX8_extentOf_137 : decode cX8_extentOf 137 = .ok (.ireturn, 1) := by decide +kernel
theorem dX8_extent_0 : decode cX8_extent 0 = .ok (.aload_n 0, 1) := by decide +kernel
theorem dX8_extent_1 : decode cX8_extent 1 = .ok (.iload_n 1, 1) := by decide +kernel
theorem dX8_extent_2 : decode cX8_extent 2 = .ok (.i2l, 1) := by decide +kernel
theorem dX8_extent_3 : decode cX8_extent 3 = .ok (.lconst 0, 1) := by decide +kernel
theorem dX8_extent_4 : decode cX8_extent 4 = .ok (.ldc2_w 82, 3) := by decide +kernel
theorem dX8_extent_7 : decode cX8_extent 7 = .ok (.invokestatic 48, 3) := by decide +kernel
theorem dX8_extent_10 : decode cX8_extent 10 = .ok (.iconst 1, 1) := by decide +kernel
theorem dX8_extent_11 : decode cX8_extent 11 = .ok (.invokevirtual 61, 3) := by decide +kernel
theorem dX8_extent_14 : decode cX8_extent 14 = .ok (.ifCond .eq 11, 3) := by decide +kernel
theorem dX8_extent_17 : decode cX8_extent 17 = .ok (.aload_n 0, 1) := by decide +kernel
theorem dX8_extent_18 : decode cX8_extent 18 = .ok (.iload_n 1, 1) := by decide +kernel
theorem dX8_extent_19 : decode cX8_extent 19 = .ok (.invokevirtual 166, 3) := by decide +kernel
theorem dX8_extent_22 : decode cX8_extent 22 = .ok (.goto 4, 3) := by decide +kernel
theorem dX8_extent_25 : decode cX8_extent 25 = .ok (.iconst 0, 1) := by decide +kernel
theorem dX8_extent_26 : decode cX8_extent 26 = .ok (.ireturn, 1) := by decide +kernel
theorem dX8_covered_0 : decode cX8_covered 0 = .ok (.aload_n 0, 1) := by decide +kernel
theorem dX8_covered_1 : decode cX8_covered 1 = .ok (.iconst 0, 1) := by decide +kernel
theorem dX8_covered_2 : decode cX8_covered 2 = .ok (.putfield 37, 3) := by decide +kernel
theorem dX8_covered_5 : decode cX8_covered 5 = .ok (.aload_n 0, 1) := by decide +kernel
theorem dX8_covered_6 : decode cX8_covered 6 = .ok (.invokevirtual 163, 3) := by decide +kernel
theorem dX8_covered_9 : decode cX8_covered 9 = .ok (.i2d, 1) := by decide +kernel
theorem dX8_covered_10 : decode cX8_covered 10 = .ok (.aload_n 0, 1) := by decide +kernel
theorem dX8_covered_11 : decode cX8_covered 11 = .ok (.getfield 7, 3) := by decide +kernel
theorem dX8_covered_14 : decode cX8_covered 14 = .ok (.iconst 0, 1) := by decide +kernel
theorem dX8_covered_15 : decode cX8_covered 15 = .ok (.iaload, 1) := by decide +kernel
theorem dX8_covered_16 : decode cX8_covered 16 = .ok (.aload_n 0, 1) := by decide +kernel
theorem dX8_covered_17 : decode cX8_covered 17 = .ok (.getfield 7, 3) := by decide +kernel
theorem dX8_covered_20 : decode cX8_covered 20 = .ok (.iconst 1, 1) := by decide +kernel
theorem dX8_covered_21 : decode cX8_covered 21 = .ok (.iaload, 1) := by decide +kernel
theorem dX8_covered_22 : decode cX8_covered 22 = .ok (.imul, 1) := by decide +kernel
theorem dX8_covered_23 : decode cX8_covered 23 = .ok (.i2d, 1) := by decide +kernel
theorem dX8_covered_24 : decode cX8_covered 24 = .ok (.ddiv, 1) := by decide +kernel
theorem dX8_covered_25 : decode cX8_covered 25 = .ok (.dreturn, 1) := by decide +kernel
theorem dX8_size_0 : decode cX8_size 0 = .ok (.iload_n 0, 1) := by decide +kernel
theorem dX8_size_1 : decode cX8_size 1 = .ok (.ifCond .ge 8, 3) := by decide +kernel
theorem dX8_size_4 : decode cX8_size 4 = .ok (.iload_n 0, 1) := by decide +kernel
theorem dX8_size_5 : decode cX8_size 5 = .ok (.ineg, 1) := by decide +kernel
theorem dX8_size_6 : decode cX8_size 6 = .ok (.goto 4, 3) := by decide +kernel
theorem dX8_size_9 : decode cX8_size 9 = .ok (.iload_n 0, 1) := by decide +kernel
theorem dX8_size_10 : decode cX8_size 10 = .ok (.ireturn, 1) := by decide +kernel
theorem dX8_spread_0 : decode cX8_spread 0 = .ok (.aload_n 0, 1) := by decide +kernel
theorem dX8_spread_1 : decode cX8_spread 1 = .ok (.iload_n 1, 1) := by decide +kernel
theorem dX8_spread_2 : decode cX8_spread 2 = .ok (.i2l, 1) := by decide +kernel
theorem dX8_spread_3 : decode cX8_spread 3 = .ok (.lconst 0, 1) := by decide +kernel
theorem dX8_spread_4 : decode cX8_spread 4 = .ok (.ldc2_w 70, 3) := by decide +kernel
theorem dX8_spread_7 : decode cX8_spread 7 = .ok (.invokestatic 48, 3) := by decide +kernel
theorem dX8_spread_10 : decode cX8_spread 10 = .ok (.iconst 1, 1) := by decide +kernel
theorem dX8_spread_11 : decode cX8_spread 11 = .ok (.invokevirtual 61, 3) := by decide +kernel
theorem dX8_spread_14 : decode cX8_spread 14 = .ok (.ifCond .ne 5, 3) := by decide +kernel
theorem dX8_spread_17 : decode cX8_spread 17 = .ok (.iconst 0, 1) := by decide +kernel
theorem dX8_spread_18 : decode cX8_spread 18 = .ok (.ireturn, 1) := by decide +kernel
theorem dX8_spread_19 : decode cX8_spread 19 = .ok (.iconst 0, 1) := by decide +kernel
theorem dX8_spread_20 : decode cX8_spread 20 = .ok (.istore_n 2, 1) := by decide +kernel
theorem dX8_spread_21 : decode cX8_spread 21 = .ok (.iconst 0, 1) := by decide +kernel
theorem dX8_spread_22 : decode cX8_spread 22 = .ok (.istore_n 3, 1) := by decide +kernel
theorem dX8_spread_23 : decode cX8_spread 23 = .ok (.iload_n 3, 1) := by decide +kernel
theorem dX8_spread_24 : decode cX8_spread 24 = .ok (.aload_n 0, 1) := by decide +kernel
theorem dX8_spread_25 : decode cX8_spread 25 = .ok (.getfield 7, 3) := by decide +kernel
theorem dX8_spread_28 : decode cX8_spread 28 = .ok (.iconst 5, 1) := by decide +kernel
theorem dX8_spread_29 : decode cX8_spread 29 = .ok (.iaload, 1) := by decide +kernel
theorem dX8_spread_30 : decode cX8_spread 30 = .ok (.if_icmp .ge 184, 3) := by decide +kernel
theorem dX8_spread_33 : decode cX8_spread 33 = .ok (.iconst 0, 1) := by decide +kernel
theorem dX8_spread_34 : decode cX8_spread 34 = .ok (.istore 4, 2) := by decide +kernel
theorem dX8_spread_36 : decode cX8_spread 36 = .ok (.iload 4, 2) := by decide +kernel
theorem dX8_spread_38 : decode cX8_spread 38 = .ok (.iload_n 3, 1) := by decide +kernel
theorem dX8_spread_39 : decode cX8_spread 39 = .ok (.if_icmp .ge 169, 3) := by decide +kernel
theorem dX8_spread_42 : decode cX8_spread 42 = .ok (.aload_n 0, 1) := by decide +kernel
theorem dX8_spread_43 : decode cX8_spread 43 = .ok (.iload_n 3, 1) := by decide +kernel
theorem dX8_spread_44 : decode cX8_spread 44 = .ok (.invokevirtual 101, 3) := by decide +kernel
theorem dX8_spread_47 : decode cX8_spread 47 = .ok (.ifCond .eq 39, 3) := by decide +kernel
theorem dX8_spread_50 : decode cX8_spread 50 = .ok (.aload_n 0, 1) := by decide +kernel
theorem dX8_spread_51 : decode cX8_spread 51 = .ok (.iload 4, 2) := by decide +kernel
theorem dX8_spread_53 : decode cX8_spread 53 = .ok (.invokevirtual 101, 3) := by decide +kernel
theorem dX8_spread_56 : decode cX8_spread 56 = .ok (.ifCond .eq 30, 3) := by decide +kernel
theorem dX8_spread_59 : decode cX8_spread 59 = .ok (.aload_n 0, 1) := by decide +kernel
theorem dX8_spread_60 : decode cX8_spread 60 = .ok (.iload_n 3, 1) := by decide +kernel
theorem dX8_spread_61 : decode cX8_spread 61 = .ok (.bipush 13, 2) := by decide +kernel
theorem dX8_spread_63 : decode cX8_spread 63 = .ok (.invokevirtual 52, 3) := by decide +kernel
theorem dX8_spread_66 : decode cX8_spread 66 = .ok (.iload_n 1, 1) := by decide +kernel
theorem dX8_spread_67 : decode cX8_spread 67 = .ok (.if_icmp .ne 19, 3) := by decide +kernel
theorem dX8_spread_70 : decode cX8_spread 70 = .ok (.aload_n 0, 1) := by decide +kernel
theorem dX8_spread_71 : decode cX8_spread 71 = .ok (.iload 4, 2) := by decide +kernel
theorem dX8_spread_73 : decode cX8_spread 73 = .ok (.bipush 13, 2) := by decide +kernel
theorem dX8_spread_75 : decode cX8_spread 75 = .ok (.invokevirtual 52, 3) := by decide +kernel
theorem dX8_spread_78 : decode cX8_spread 78 = .ok (.iload_n 1, 1) := by decide +kernel
theorem dX8_spread_79 : decode cX8_spread 79 = .ok (.if_icmp .ne 7, 3) := by decide +kernel
theorem dX8_spread_82 : decode cX8_spread 82 = .ok (.iconst 1, 1) := by decide +kernel
theorem dX8_spread_83 : decode cX8_spread 83 = .ok (.goto 4, 3) := by decide +kernel
theorem dX8_spread_86 : decode cX8_spread 86 = .ok (.iconst 0, 1) := by decide +kernel
theorem dX8_spread_87 : decode cX8_spread 87 = .ok (.istore 5, 2) := by decide +kernel
theorem dX8_spread_89 : decode cX8_spread 89 = .ok (.aload_n 0, 1) := by decide +kernel
theorem dX8_spread_90 : decode cX8_spread 90 = .ok (.iload_n 3, 1) := by decide +kernel
theorem dX8_spread_91 : decode cX8_spread 91 = .ok (.bipush 14, 2) := by decide +kernel
theorem dX8_spread_93 : decode cX8_spread 93 = .ok (.invokevirtual 52, 3) := by decide +kernel
theorem dX8_spread_96 : decode cX8_spread 96 = .ok (.aload_n 0, 1) := by decide +kernel
theorem dX8_spread_97 : decode cX8_spread 97 = .ok (.iload_n 3, 1) := by decide +kernel
theorem dX8_spread_98 : decode cX8_spread 98 = .ok (.bipush 16, 2) := by decide +kernel
theorem dX8_spread_100 : decode cX8_spread 100 = .ok (.invokevirtual 52, 3) := by decide +kernel
theorem dX8_spread_103 : decode cX8_spread 103 = .ok (.iconst 2, 1) := by decide +kernel
theorem dX8_spread_104 : decode cX8_spread 104 = .ok (.idiv, 1) := by decide +kernel
theorem dX8_spread_105 : decode cX8_spread 105 = .ok (.iadd, 1) := by decide +kernel
theorem dX8_spread_106 : decode cX8_spread 106 = .ok (.aload_n 0, 1) := by decide +kernel
theorem dX8_spread_107 : decode cX8_spread 107 = .ok (.iload 4, 2) := by decide +kernel
theorem dX8_spread_109 : decode cX8_spread 109 = .ok (.bipush 14, 2) := by decide +kernel
theorem dX8_spread_111 : decode cX8_spread 111 = .ok (.invokevirtual 52, 3) := by decide +kernel
theorem dX8_spread_114 : decode cX8_spread 114 = .ok (.isub, 1) := by decide +kernel
theorem dX8_spread_115 : decode cX8_spread 115 = .ok (.aload_n 0, 1) := by decide +kernel
theorem dX8_spread_116 : decode cX8_spread 116 = .ok (.iload 4, 2) := by decide +kernel
theorem dX8_spread_118 : decode cX8_spread 118 = .ok (.bipush 16, 2) := by decide +kernel
theorem dX8_spread_120 : decode cX8_spread 120 = .ok (.invokevirtual 52, 3) := by decide +kernel
theorem dX8_spread_123 : decode cX8_spread 123 = .ok (.iconst 2, 1) := by decide +kernel
theorem dX8_spread_124 : decode cX8_spread 124 = .ok (.idiv, 1) := by decide +kernel
theorem dX8_spread_125 : decode cX8_spread 125 = .ok (.isub, 1) := by decide +kernel
theorem dX8_spread_126 : decode cX8_spread 126 = .ok (.istore 6, 2) := by decide +kernel
theorem dX8_spread_128 : decode cX8_spread 128 = .ok (.aload_n 0, 1) := by decide +kernel
theorem dX8_spread_129 : decode cX8_spread 129 = .ok (.iload_n 3, 1) := by decide +kernel
theorem dX8_spread_130 : decode cX8_spread 130 = .ok (.bipush 15, 2) := by decide +kernel
theorem dX8_spread_132 : decode cX8_spread 132 = .ok (.invokevirtual 52, 3) := by decide +kernel
theorem dX8_spread_135 : decode cX8_spread 135 = .ok (.aload_n 0, 1) := by decide +kernel
theorem dX8_spread_136 : decode cX8_spread 136 = .ok (.iload_n 3, 1) := by decide +kernel
theorem dX8_spread_137 : decode cX8_spread 137 = .ok (.bipush 17, 2) := by decide +kernel
theorem dX8_spread_139 : decode cX8_spread 139 = .ok (.invokevirtual 52, 3) := by decide +kernel
theorem dX8_spread_142 : decode cX8_spread 142 = .ok (.iconst 2, 1) := by decide +kernel
theorem dX8_spread_143 : decode cX8_spread 143 = .ok (.idiv, 1) := by decide +kernel
theorem dX8_spread_144 : decode cX8_spread 144 = .ok (.iadd, 1) := by decide +kernel
theorem dX8_spread_145 : decode cX8_spread 145 = .ok (.aload_n 0, 1) := by decide +kernel
theorem dX8_spread_146 : decode cX8_spread 146 = .ok (.iload 4, 2) := by decide +kernel
theorem dX8_spread_148 : decode cX8_spread 148 = .ok (.bipush 15, 2) := by decide +kernel
theorem dX8_spread_150 : decode cX8_spread 150 = .ok (.invokevirtual 52, 3) := by decide +kernel
theorem dX8_spread_153 : decode cX8_spread 153 = .ok (.isub, 1) := by decide +kernel
theorem dX8_spread_154 : decode cX8_spread 154 = .ok (.aload_n 0, 1) := by decide +kernel
theorem dX8_spread_155 : decode cX8_spread 155 = .ok (.iload 4, 2) := by decide +kernel
theorem dX8_spread_157 : decode cX8_spread 157 = .ok (.bipush 17, 2) := by decide +kernel
theorem dX8_spread_159 : decode cX8_spread 159 = .ok (.invokevirtual 52, 3) := by decide +kernel
theorem dX8_spread_162 : decode cX8_spread 162 = .ok (.iconst 2, 1) := by decide +kernel
theorem dX8_spread_163 : decode cX8_spread 163 = .ok (.idiv, 1) := by decide +kernel
theorem dX8_spread_164 : decode cX8_spread 164 = .ok (.isub, 1) := by decide +kernel
theorem dX8_spread_165 : decode cX8_spread 165 = .ok (.istore 7, 2) := by decide +kernel
theorem dX8_spread_167 : decode cX8_spread 167 = .ok (.iload 5, 2) := by decide +kernel
theorem dX8_spread_169 : decode cX8_spread 169 = .ok (.ifCond .eq 17, 3) := by decide +kernel
theorem dX8_spread_172 : decode cX8_spread 172 = .ok (.iload 6, 2) := by decide +kernel
theorem dX8_spread_174 : decode cX8_spread 174 = .ok (.invokestatic 169, 3) := by decide +kernel
theorem dX8_spread_177 : decode cX8_spread 177 = .ok (.iload 7, 2) := by decide +kernel
theorem dX8_spread_179 : decode cX8_spread 179 = .ok (.invokestatic 169, 3) := by decide +kernel
theorem dX8_spread_182 : decode cX8_spread 182 = .ok (.iadd, 1) := by decide +kernel
theorem dX8_spread_183 : decode cX8_spread 183 = .ok (.goto 4, 3) := by decide +kernel
theorem dX8_spread_186 : decode cX8_spread 186 = .ok (.iconst 0, 1) := by decide +kernel
theorem dX8_spread_187 : decode cX8_spread 187 = .ok (.istore 8, 2) := by decide +kernel
theorem dX8_spread_189 : decode cX8_spread 189 = .ok (.iload 8, 2) := by decide +kernel
theorem dX8_spread_191 : decode cX8_spread 191 = .ok (.iload_n 2, 1) := by decide +kernel
theorem dX8_spread_192 : decode cX8_spread 192 = .ok (.if_icmp .le 8, 3) := by decide +kernel
theorem dX8_spread_195 : decode cX8_spread 195 = .ok (.iload 8, 2) := by decide +kernel
theorem dX8_spread_197 : decode cX8_spread 197 = .ok (.goto 4, 3) := by decide +kernel
theorem dX8_spread_200 : decode cX8_spread 200 = .ok (.iload_n 2, 1) := by decide +kernel
theorem dX8_spread_201 : decode cX8_spread 201 = .ok (.istore_n 2, 1) := by decide +kernel
theorem dX8_spread_202 : decode cX8_spread 202 = .ok (.iinc 4 1, 3) := by decide +kernel
theorem dX8_spread_205 : decode cX8_spread 205 = .ok (.goto (-169), 3) := by decide +kernel
theorem dX8_spread_208 : decode cX8_spread 208 = .ok (.iinc 3 1, 3) := by decide +kernel
theorem dX8_spread_211 : decode cX8_spread 211 = .ok (.goto (-188), 3) := by decide +kernel
theorem dX8_spread_214 : decode cX8_spread 214 = .ok (.iload_n 2, 1) := by decide +kernel
theorem dX8_spread_215 : decode cX8_spread 215 = .ok (.ireturn, 1) := by decide +kernel
theorem dX8_placedOn_0 : decode cX8_placedOn 0 = .ok (.aload_n 0, 1) := by decide +kernel
theorem dX8_placedOn_1 : decode cX8_placedOn 1 = .ok (.iload_n 1, 1) := by decide +kernel
theorem dX8_placedOn_2 : decode cX8_placedOn 2 = .ok (.iload_n 2, 1) := by decide +kernel
theorem dX8_placedOn_3 : decode cX8_placedOn 3 = .ok (.invokestatic 78, 3) := by decide +kernel
theorem dX8_placedOn_6 : decode cX8_placedOn 6 = .ok (.iconst 1, 1) := by decide +kernel
theorem dX8_placedOn_7 : decode cX8_placedOn 7 = .ok (.invokevirtual 61, 3) := by decide +kernel
theorem dX8_placedOn_10 : decode cX8_placedOn 10 = .ok (.ifCond .ne 5, 3) := by decide +kernel
theorem dX8_placedOn_13 : decode cX8_placedOn 13 = .ok (.iconst 0, 1) := by decide +kernel
theorem dX8_placedOn_14 : decode cX8_placedOn 14 = .ok (.ireturn, 1) := by decide +kernel
theorem dX8_placedOn_15 : decode cX8_placedOn 15 = .ok (.aload_n 0, 1) := by decide +kernel
theorem dX8_placedOn_16 : decode cX8_placedOn 16 = .ok (.invokevirtual 172, 3) := by decide +kernel
theorem dX8_placedOn_19 : decode cX8_placedOn 19 = .ok (.aload_n 0, 1) := by decide +kernel
theorem dX8_placedOn_20 : decode cX8_placedOn 20 = .ok (.getfield 7, 3) := by decide +kernel
theorem dX8_placedOn_23 : decode cX8_placedOn 23 = .ok (.iconst 0, 1) := by decide +kernel
theorem dX8_placedOn_24 : decode cX8_placedOn 24 = .ok (.iload_n 1, 1) := by decide +kernel
theorem dX8_placedOn_25 : decode cX8_placedOn 25 = .ok (.iastore, 1) := by decide +kernel
theorem dX8_placedOn_26 : decode cX8_placedOn 26 = .ok (.aload_n 0, 1) := by decide +kernel
theorem dX8_placedOn_27 : decode cX8_placedOn 27 = .ok (.getfield 7, 3) := by decide +kernel
theorem dX8_placedOn_30 : decode cX8_placedOn 30 = .ok (.iconst 1, 1) := by decide +kernel
theorem dX8_placedOn_31 : decode cX8_placedOn 31 = .ok (.iload_n 2, 1) := by decide +kernel
theorem dX8_placedOn_32 : decode cX8_placedOn 32 = .ok (.iastore, 1) := by decide +kernel
theorem dX8_placedOn_33 : decode cX8_placedOn 33 = .ok (.aload_n 0, 1) := by decide +kernel
theorem dX8_placedOn_34 : decode cX8_placedOn 34 = .ok (.iload_n 3, 1) := by decide +kernel
theorem dX8_placedOn_35 : decode cX8_placedOn 35 = .ok (.invokevirtual 146, 3) := by decide +kernel
theorem dX8_placedOn_38 : decode cX8_placedOn 38 = .ok (.istore 4, 2) := by decide +kernel
theorem dX8_placedOn_40 : decode cX8_placedOn 40 = .ok (.aload_n 0, 1) := by decide +kernel
theorem dX8_placedOn_41 : decode cX8_placedOn 41 = .ok (.invokevirtual 175, 3) := by decide +kernel
theorem dX8_placedOn_44 : decode cX8_placedOn 44 = .ok (.iload 4, 2) := by decide +kernel
theorem dX8_placedOn_46 : decode cX8_placedOn 46 = .ok (.ireturn, 1) := by decide +kernel
theorem dX8_narrowest_0 : decode cX8_narrowest 0 = .ok (.aload_n 0, 1) := by decide +kernel
theorem dX8_narrowest_1 : decode cX8_narrowest 1 = .ok (.iconst 0, 1) := by decide +kernel
theorem dX8_narrowest_2 : decode cX8_narrowest 2 = .ok (.putfield 37, 3) := by decide +kernel
theorem dX8_narrowest_5 : decode cX8_narrowest 5 = .ok (.aload_n 0, 1) := by decide +kernel
theorem dX8_narrowest_6 : decode cX8_narrowest 6 = .ok (.invokevirtual 172, 3) := by decide +kernel
theorem dX8_narrowest_9 : decode cX8_narrowest 9 = .ok (.iconst (-1), 1) := by decide +kernel
theorem dX8_narrowest_10 : decode cX8_narrowest 10 = .ok (.istore_n 1, 1) := by decide +kernel
theorem dX8_narrowest_11 : decode cX8_narrowest 11 = .ok (.bipush 10, 2) := by decide +kernel
theorem dX8_narrowest_13 : decode cX8_narrowest 13 = .ok (.istore_n 2, 1) := by decide +kernel
theorem dX8_narrowest_14 : decode cX8_narrowest 14 = .ok (.iload_n 2, 1) := by decide +kernel
theorem dX8_narrowest_15 : decode cX8_narrowest 15 = .ok (.bipush 80, 2) := by decide +kernel
theorem dX8_narrowest_17 : decode cX8_narrowest 17 = .ok (.if_icmp .gt 45, 3) := by decide +kernel
theorem dX8_narrowest_20 : decode cX8_narrowest 20 = .ok (.iload_n 1, 1) := by decide +kernel
theorem dX8_narrowest_21 : decode cX8_narrowest 21 = .ok (.iconst (-1), 1) := by decide +kernel
theorem dX8_narrowest_22 : decode cX8_narrowest 22 = .ok (.if_icmp .ne 40, 3) := by decide +kernel
theorem dX8_narrowest_25 : decode cX8_narrowest 25 = .ok (.aload_n 0, 1) := by decide +kernel
theorem dX8_narrowest_26 : decode cX8_narrowest 26 = .ok (.getfield 7, 3) := by decide +kernel
theorem dX8_narrowest_29 : decode cX8_narrowest 29 = .ok (.iconst 0, 1) := by decide +kernel
theorem dX8_narrowest_30 : decode cX8_narrowest 30 = .ok (.iload_n 2, 1) := by decide +kernel
theorem dX8_narrowest_31 : decode cX8_narrowest 31 = .ok (.iastore, 1) := by decide +kernel
theorem dX8_narrowest_32 : decode cX8_narrowest 32 = .ok (.aload_n 0, 1) := by decide +kernel
theorem dX8_narrowest_33 : decode cX8_narrowest 33 = .ok (.iconst 0, 1) := by decide +kernel
theorem dX8_narrowest_34 : decode cX8_narrowest 34 = .ok (.invokevirtual 146, 3) := by decide +kernel
theorem dX8_narrowest_37 : decode cX8_narrowest 37 = .ok (.aload_n 0, 1) := by decide +kernel
theorem dX8_narrowest_38 : decode cX8_narrowest 38 = .ok (.getfield 7, 3) := by decide +kernel
theorem dX8_narrowest_41 : decode cX8_narrowest 41 = .ok (.iconst 5, 1) := by decide +kernel
theorem dX8_narrowest_42 : decode cX8_narrowest 42 = .ok (.iaload, 1) := by decide +kernel
theorem dX8_narrowest_43 : decode cX8_narrowest 43 = .ok (.if_icmp .ne 7, 3) := by decide +kernel
theorem dX8_narrowest_46 : decode cX8_narrowest 46 = .ok (.iload_n 2, 1) := by decide +kernel
theorem dX8_narrowest_47 : decode cX8_narrowest 47 = .ok (.goto 4, 3) := by decide +kernel
theorem dX8_narrowest_50 : decode cX8_narrowest 50 = .ok (.iconst (-1), 1) := by decide +kernel
theorem dX8_narrowest_51 : decode cX8_narrowest 51 = .ok (.istore_n 1, 1) := by decide +kernel
theorem dX8_narrowest_52 : decode cX8_narrowest 52 = .ok (.aload_n 0, 1) := by decide +kernel
theorem dX8_narrowest_53 : decode cX8_narrowest 53 = .ok (.invokevirtual 175, 3) := by decide +kernel
theorem dX8_narrowest_56 : decode cX8_narrowest 56 = .ok (.iinc 2 5, 3) := by decide +kernel
theorem dX8_narrowest_59 : decode cX8_narrowest 59 = .ok (.goto (-45), 3) := by decide +kernel
theorem dX8_narrowest_62 : decode cX8_narrowest 62 = .ok (.iload_n 1, 1) := by decide +kernel
theorem dX8_narrowest_63 : decode cX8_narrowest 63 = .ok (.ireturn, 1) := by decide +kernel
theorem dX8_movedBy_0 : decode cX8_movedBy 0 = .ok (.aload_n 0, 1) := by decide +kernel
theorem dX8_movedBy_1 : decode cX8_movedBy 1 = .ok (.aload_n 0, 1) := by decide +kernel
theorem dX8_movedBy_2 : decode cX8_movedBy 2 = .ok (.iload_n 1, 1) := by decide +kernel
theorem dX8_movedBy_3 : decode cX8_movedBy 3 = .ok (.invokevirtual 55, 3) := by decide +kernel
theorem dX8_movedBy_6 : decode cX8_movedBy 6 = .ok (.iload_n 2, 1) := by decide +kernel
theorem dX8_movedBy_7 : decode cX8_movedBy 7 = .ok (.i2l, 1) := by decide +kernel
theorem dX8_movedBy_8 : decode cX8_movedBy 8 = .ok (.lconst 1, 1) := by decide +kernel
theorem dX8_movedBy_9 : decode cX8_movedBy 9 = .ok (.ldc2_w 59, 3) := by decide +kernel
theorem dX8_movedBy_12 : decode cX8_movedBy 12 = .ok (.invokestatic 48, 3) := by decide +kernel
theorem dX8_movedBy_15 : decode cX8_movedBy 15 = .ok (.invokevirtual 61, 3) := by decide +kernel
theorem dX8_movedBy_18 : decode cX8_movedBy 18 = .ok (.ifCond .ne 5, 3) := by decide +kernel
theorem dX8_movedBy_21 : decode cX8_movedBy 21 = .ok (.iconst 0, 1) := by decide +kernel
theorem dX8_movedBy_22 : decode cX8_movedBy 22 = .ok (.ireturn, 1) := by decide +kernel
theorem dX8_movedBy_23 : decode cX8_movedBy 23 = .ok (.aload_n 0, 1) := by decide +kernel
theorem dX8_movedBy_24 : decode cX8_movedBy 24 = .ok (.invokevirtual 172, 3) := by decide +kernel
theorem dX8_movedBy_27 : decode cX8_movedBy 27 = .ok (.aload_n 0, 1) := by decide +kernel
theorem dX8_movedBy_28 : decode cX8_movedBy 28 = .ok (.getfield 7, 3) := by decide +kernel
theorem dX8_movedBy_31 : decode cX8_movedBy 31 = .ok (.iload_n 1, 1) := by decide +kernel
theorem dX8_movedBy_32 : decode cX8_movedBy 32 = .ok (.bipush 11, 2) := by decide +kernel
theorem dX8_movedBy_34 : decode cX8_movedBy 34 = .ok (.invokestatic 44, 3) := by decide +kernel
theorem dX8_movedBy_37 : decode cX8_movedBy 37 = .ok (.iload_n 2, 1) := by decide +kernel
theorem dX8_movedBy_38 : decode cX8_movedBy 38 = .ok (.iastore, 1) := by decide +kernel
theorem dX8_movedBy_39 : decode cX8_movedBy 39 = .ok (.aload_n 0, 1) := by decide +kernel
theorem dX8_movedBy_40 : decode cX8_movedBy 40 = .ok (.iconst 1, 1) := by decide +kernel
theorem dX8_movedBy_41 : decode cX8_movedBy 41 = .ok (.invokevirtual 146, 3) := by decide +kernel
theorem dX8_movedBy_44 : decode cX8_movedBy 44 = .ok (.istore_n 3, 1) := by decide +kernel
theorem dX8_movedBy_45 : decode cX8_movedBy 45 = .ok (.iload_n 3, 1) := by decide +kernel
theorem dX8_movedBy_46 : decode cX8_movedBy 46 = .ok (.ifCond .ge 7, 3) := by decide +kernel
theorem dX8_movedBy_49 : decode cX8_movedBy 49 = .ok (.iconst 0, 1) := by decide +kernel
theorem dX8_movedBy_50 : decode cX8_movedBy 50 = .ok (.goto 10, 3) := by decide +kernel
theorem dX8_movedBy_53 : decode cX8_movedBy 53 = .ok (.aload_n 0, 1) := by decide +kernel
theorem dX8_movedBy_54 : decode cX8_movedBy 54 = .ok (.getfield 7, 3) := by decide +kernel
theorem dX8_movedBy_57 : decode cX8_movedBy 57 = .ok (.bipush 6, 2) := by decide +kernel
theorem dX8_movedBy_59 : decode cX8_movedBy 59 = .ok (.iaload, 1) := by decide +kernel
theorem dX8_movedBy_60 : decode cX8_movedBy 60 = .ok (.istore 4, 2) := by decide +kernel
theorem dX8_movedBy_62 : decode cX8_movedBy 62 = .ok (.aload_n 0, 1) := by decide +kernel
theorem dX8_movedBy_63 : decode cX8_movedBy 63 = .ok (.invokevirtual 175, 3) := by decide +kernel
theorem dX8_movedBy_66 : decode cX8_movedBy 66 = .ok (.iload 4, 2) := by decide +kernel
theorem dX8_movedBy_68 : decode cX8_movedBy 68 = .ok (.ireturn, 1) := by decide +kernel
theorem dX8_bestStride_0 : decode cX8_bestStride 0 = .ok (.aload_n 0, 1) := by decide +kernel
theorem dX8_bestStride_1 : decode cX8_bestStride 1 = .ok (.iconst 0, 1) := by decide +kernel
theorem dX8_bestStride_2 : decode cX8_bestStride 2 = .ok (.putfield 37, 3) := by decide +kernel
theorem dX8_bestStride_5 : decode cX8_bestStride 5 = .ok (.aload_n 0, 1) := by decide +kernel
theorem dX8_bestStride_6 : decode cX8_bestStride 6 = .ok (.invokevirtual 172, 3) := by decide +kernel
theorem dX8_bestStride_9 : decode cX8_bestStride 9 = .ok (.iconst (-1), 1) := by decide +kernel
theorem dX8_bestStride_10 : decode cX8_bestStride 10 = .ok (.istore_n 1, 1) := by decide +kernel
theorem dX8_bestStride_11 : decode cX8_bestStride 11 = .ok (.iconst (-1), 1) := by decide +kernel
theorem dX8_bestStride_12 : decode cX8_bestStride 12 = .ok (.istore_n 2, 1) := by decide +kernel
theorem dX8_bestStride_13 : decode cX8_bestStride 13 = .ok (.iconst 1, 1) := by decide +kernel
theorem dX8_bestStride_14 : decode cX8_bestStride 14 = .ok (.istore_n 3, 1) := by decide +kernel
theorem dX8_bestStride_15 : decode cX8_bestStride 15 = .ok (.iload_n 3, 1) := by decide +kernel
theorem dX8_bestStride_16 : decode cX8_bestStride 16 = .ok (.iconst 5, 1) := by decide +kernel
theorem dX8_bestStride_17 : decode cX8_bestStride 17 = .ok (.if_icmp .ge 52, 3) := by decide +kernel
theorem dX8_bestStride_20 : decode cX8_bestStride 20 = .ok (.aload_n 0, 1) := by decide +kernel
theorem dX8_bestStride_21 : decode cX8_bestStride 21 = .ok (.getfield 7, 3) := by decide +kernel
theorem dX8_bestStride_24 : decode cX8_bestStride 24 = .ok (.iconst 3, 1) := by decide +kernel
theorem dX8_bestStride_25 : decode cX8_bestStride 25 = .ok (.iload_n 3, 1) := by decide +kernel
theorem dX8_bestStride_26 : decode cX8_bestStride 26 = .ok (.iastore, 1) := by decide +kernel
theorem dX8_bestStride_27 : decode cX8_bestStride 27 = .ok (.aload_n 0, 1) := by decide +kernel
theorem dX8_bestStride_28 : decode cX8_bestStride 28 = .ok (.iconst 0, 1) := by decide +kernel
theorem dX8_bestStride_29 : decode cX8_bestStride 29 = .ok (.invokevirtual 146, 3) := by decide +kernel
theorem dX8_bestStride_32 : decode cX8_bestStride 32 = .ok (.istore 4, 2) := by decide +kernel
theorem dX8_bestStride_34 : decode cX8_bestStride 34 = .ok (.aload_n 0, 1) := by decide +kernel
theorem dX8_bestStride_35 : decode cX8_bestStride 35 = .ok (.invokevirtual 175, 3) := by decide +kernel
theorem dX8_bestStride_38 : decode cX8_bestStride 38 = .ok (.iload 4, 2) := by decide +kernel
theorem dX8_bestStride_40 : decode cX8_bestStride 40 = .ok (.iload_n 2, 1) := by decide +kernel
theorem dX8_bestStride_41 : decode cX8_bestStride 41 = .ok (.if_icmp .le 7, 3) := by decide +kernel
theorem dX8_bestStride_44 : decode cX8_bestStride 44 = .ok (.iload_n 3, 1) := by decide +kernel
theorem dX8_bestStride_45 : decode cX8_bestStride 45 = .ok (.goto 4, 3) := by decide +kernel
theorem dX8_bestStride_48 : decode cX8_bestStride 48 = .ok (.iload_n 1, 1) := by decide +kernel
theorem dX8_bestStride_49 : decode cX8_bestStride 49 = .ok (.istore_n 1, 1) := by decide +kernel
theorem dX8_bestStride_50 : decode cX8_bestStride 50 = .ok (.iload 4, 2) := by decide +kernel
theorem dX8_bestStride_52 : decode cX8_bestStride 52 = .ok (.iload_n 2, 1) := by decide +kernel
theorem dX8_bestStride_53 : decode cX8_bestStride 53 = .ok (.if_icmp .le 8, 3) := by decide +kernel
theorem dX8_bestStride_56 : decode cX8_bestStride 56 = .ok (.iload 4, 2) := by decide +kernel
theorem dX8_bestStride_58 : decode cX8_bestStride 58 = .ok (.goto 4, 3) := by decide +kernel
theorem dX8_bestStride_61 : decode cX8_bestStride 61 = .ok (.iload_n 2, 1) := by decide +kernel
theorem dX8_bestStride_62 : decode cX8_bestStride 62 = .ok (.istore_n 2, 1) := by decide +kernel
theorem dX8_bestStride_63 : decode cX8_bestStride 63 = .ok (.iinc 3 1, 3) := by decide +kernel
theorem dX8_bestStride_66 : decode cX8_bestStride 66 = .ok (.goto (-51), 3) := by decide +kernel
theorem dX8_bestStride_69 : decode cX8_bestStride 69 = .ok (.iload_n 1, 1) := by decide +kernel
theorem dX8_bestStride_70 : decode cX8_bestStride 70 = .ok (.ireturn, 1) := by decide +kernel
theorem dX8_append_0 : decode cX8_append 0 = .ok (.aload_n 0, 1) := by decide +kernel
theorem dX8_append_1 : decode cX8_append 1 = .ok (.iload_n 1, 1) := by decide +kernel
theorem dX8_append_2 : decode cX8_append 2 = .ok (.i2l, 1) := by decide +kernel
theorem dX8_append_3 : decode cX8_append 3 = .ok (.lconst 0, 1) := by decide +kernel
theorem dX8_append_4 : decode cX8_append 4 = .ok (.ldc2_w 178, 3) := by decide +kernel
theorem dX8_append_7 : decode cX8_append 7 = .ok (.invokestatic 48, 3) := by decide +kernel
theorem dX8_append_10 : decode cX8_append 10 = .ok (.aload_n 0, 1) := by decide +kernel
theorem dX8_append_11 : decode cX8_append 11 = .ok (.getfield 180, 3) := by decide +kernel
theorem dX8_append_14 : decode cX8_append 14 = .ok (.sipush 200, 3) := by decide +kernel
theorem dX8_append_17 : decode cX8_append 17 = .ok (.if_icmp .ge 7, 3) := by decide +kernel
theorem dX8_append_20 : decode cX8_append 20 = .ok (.iconst 1, 1) := by decide +kernel
theorem dX8_append_21 : decode cX8_append 21 = .ok (.goto 4, 3) := by decide +kernel
theorem dX8_append_24 : decode cX8_append 24 = .ok (.iconst 0, 1) := by decide +kernel
theorem dX8_append_25 : decode cX8_append 25 = .ok (.invokevirtual 61, 3) := by decide +kernel
theorem dX8_append_28 : decode cX8_append 28 = .ok (.ifCond .ne 5, 3) := by decide +kernel
theorem dX8_append_31 : decode cX8_append 31 = .ok (.iconst 0, 1) := by decide +kernel
theorem dX8_append_32 : decode cX8_append 32 = .ok (.ireturn, 1) := by decide +kernel
theorem dX8_append_33 : decode cX8_append 33 = .ok (.aload_n 0, 1) := by decide +kernel
theorem dX8_append_34 : decode cX8_append 34 = .ok (.getfield 34, 3) := by decide +kernel
theorem dX8_append_37 : decode cX8_append 37 = .ok (.aload_n 0, 1) := by decide +kernel
theorem dX8_append_38 : decode cX8_append 38 = .ok (.getfield 180, 3) := by decide +kernel
theorem dX8_append_41 : decode cX8_append 41 = .ok (.iload_n 1, 1) := by decide +kernel
theorem dX8_append_42 : decode cX8_append 42 = .ok (.iastore, 1) := by decide +kernel
theorem dX8_append_43 : decode cX8_append 43 = .ok (.aload_n 0, 1) := by decide +kernel
theorem dX8_append_44 : decode cX8_append 44 = .ok (.dup, 1) := by decide +kernel
theorem dX8_append_45 : decode cX8_append 45 = .ok (.getfield 180, 3) := by decide +kernel
theorem dX8_append_48 : decode cX8_append 48 = .ok (.iconst 1, 1) := by decide +kernel
theorem dX8_append_49 : decode cX8_append 49 = .ok (.iadd, 1) := by decide +kernel
theorem dX8_append_50 : decode cX8_append 50 = .ok (.putfield 180, 3) := by decide +kernel
theorem dX8_append_53 : decode cX8_append 53 = .ok (.aload_n 0, 1) := by decide +kernel
theorem dX8_append_54 : decode cX8_append 54 = .ok (.getfield 180, 3) := by decide +kernel
theorem dX8_append_57 : decode cX8_append 57 = .ok (.ireturn, 1) := by decide +kernel
theorem dX8_clearText_0 : decode cX8_clearText 0 = .ok (.aload_n 0, 1) := by decide +kernel
theorem dX8_clearText_1 : decode cX8_clearText 1 = .ok (.iconst 0, 1) := by decide +kernel
theorem dX8_clearText_2 : decode cX8_clearText 2 = .ok (.putfield 37, 3) := by decide +kernel
theorem dX8_clearText_5 : decode cX8_clearText 5 = .ok (.aload_n 0, 1) := by decide +kernel
theorem dX8_clearText_6 : decode cX8_clearText 6 = .ok (.getfield 180, 3) := by decide +kernel
theorem dX8_clearText_9 : decode cX8_clearText 9 = .ok (.istore_n 1, 1) := by decide +kernel
theorem dX8_clearText_10 : decode cX8_clearText 10 = .ok (.aload_n 0, 1) := by decide +kernel
theorem dX8_clearText_11 : decode cX8_clearText 11 = .ok (.iconst 0, 1) := by decide +kernel
theorem dX8_clearText_12 : decode cX8_clearText 12 = .ok (.putfield 180, 3) := by decide +kernel
theorem dX8_clearText_15 : decode cX8_clearText 15 = .ok (.iload_n 1, 1) := by decide +kernel
theorem dX8_clearText_16 : decode cX8_clearText 16 = .ok (.ireturn, 1) := by decide +kernel
theorem dX8_here_0 : decode cX8_here 0 = .ok (.aload_n 0, 1) := by decide +kernel
theorem dX8_here_1 : decode cX8_here 1 = .ok (.getfield 183, 3) := by decide +kernel
theorem dX8_here_4 : decode cX8_here 4 = .ok (.aload_n 0, 1) := by decide +kernel
theorem dX8_here_5 : decode cX8_here 5 = .ok (.getfield 180, 3) := by decide +kernel
theorem dX8_here_8 : decode cX8_here 8 = .ok (.if_icmp .ge 15, 3) := by decide +kernel
theorem dX8_here_11 : decode cX8_here 11 = .ok (.aload_n 0, 1) := by decide +kernel
theorem dX8_here_12 : decode cX8_here 12 = .ok (.getfield 34, 3) := by decide +kernel
theorem dX8_here_15 : decode cX8_here 15 = .ok (.aload_n 0, 1) := by decide +kernel
theorem dX8_here_16 : decode cX8_here 16 = .ok (.getfield 183, 3) := by decide +kernel
theorem dX8_here_19 : decode cX8_here 19 = .ok (.iaload, 1) := by decide +kernel
theorem dX8_here_20 : decode cX8_here 20 = .ok (.goto 4, 3) := by decide +kernel
theorem dX8_here_23 : decode cX8_here 23 = .ok (.iconst (-1), 1) := by decide +kernel
theorem dX8_here_24 : decode cX8_here 24 = .ok (.ireturn, 1) := by decide +kernel
theorem dX8_passesByte_0 : decode cX8_passesByte 0 = .ok (.aload_n 0, 1) := by decide +kernel
theorem dX8_passesByte_1 : decode cX8_passesByte 1 = .ok (.invokevirtual 186, 3) := by decide +kernel
theorem dX8_passesByte_4 : decode cX8_passesByte 4 = .ok (.iload_n 1, 1) := by decide +kernel
theorem dX8_passesByte_5 : decode cX8_passesByte 5 = .ok (.if_icmp .ne 7, 3) := by decide +kernel
theorem dX8_passesByte_8 : decode cX8_passesByte 8 = .ok (.iconst 1, 1) := by decide +kernel
theorem dX8_passesByte_9 : decode cX8_passesByte 9 = .ok (.goto 4, 3) := by decide +kernel
theorem dX8_passesByte_12 : decode cX8_passesByte 12 = .ok (.iconst 0, 1) := by decide +kernel
theorem dX8_passesByte_13 : decode cX8_passesByte 13 = .ok (.istore_n 2, 1) := by decide +kernel
theorem dX8_passesByte_14 : decode cX8_passesByte 14 = .ok (.aload_n 0, 1) := by decide +kernel
theorem dX8_passesByte_15 : decode cX8_passesByte 15 = .ok (.dup, 1) := by decide +kernel
theorem dX8_passesByte_16 : decode cX8_passesByte 16 = .ok (.getfield 183, 3) := by decide +kernel
theorem dX8_passesByte_19 : decode cX8_passesByte 19 = .ok (.iload_n 2, 1) := by decide +kernel
theorem dX8_passesByte_20 : decode cX8_passesByte 20 = .ok (.ifCond .eq 7, 3) := by decide +kernel
theorem dX8_passesByte_23 : decode cX8_passesByte 23 = .ok (.iconst 1, 1) := by decide +kernel
theorem dX8_passesByte_24 : decode cX8_passesByte 24 = .ok (.goto 4, 3) := by decide +kernel
theorem dX8_passesByte_27 : decode cX8_passesByte 27 = .ok (.iconst 0, 1) := by decide +kernel
theorem dX8_passesByte_28 : decode cX8_passesByte 28 = .ok (.iadd, 1) := by decide +kernel
theorem dX8_passesByte_29 : decode cX8_passesByte 29 = .ok (.putfield 183, 3) := by decide +kernel
theorem dX8_passesByte_32 : decode cX8_passesByte 32 = .ok (.iload_n 2, 1) := by decide +kernel
theorem dX8_passesByte_33 : decode cX8_passesByte 33 = .ok (.ireturn, 1) := by decide +kernel
theorem dX8_areOne_0 : decode cX8_areOne 0 = .ok (.iconst 1, 1) := by decide +kernel
theorem dX8_areOne_1 : decode cX8_areOne 1 = .ok (.istore 5, 2) := by decide +kernel
theorem dX8_areOne_3 : decode cX8_areOne 3 = .ok (.iconst 0, 1) := by decide +kernel
theorem dX8_areOne_4 : decode cX8_areOne 4 = .ok (.istore 6, 2) := by decide +kernel
theorem dX8_areOne_6 : decode cX8_areOne 6 = .ok (.iload 6, 2) := by decide +kernel
theorem dX8_areOne_8 : decode cX8_areOne 8 = .ok (.bipush 11, 2) := by decide +kernel
theorem dX8_areOne_10 : decode cX8_areOne 10 = .ok (.if_icmp .ge 65, 3) := by decide +kernel
theorem dX8_areOne_13 : decode cX8_areOne 13 = .ok (.iload 5, 2) := by decide +kernel
theorem dX8_areOne_15 : decode cX8_areOne 15 = .ok (.ifCond .eq 60, 3) := by decide +kernel
theorem dX8_areOne_18 : decode cX8_areOne 18 = .ok (.iload 6, 2) := by decide +kernel
theorem dX8_areOne_20 : decode cX8_areOne 20 = .ok (.aload_n 1, 1) := by decide +kernel
theorem dX8_areOne_21 : decode cX8_areOne 21 = .ok (.iload_n 2, 1) := by decide +kernel
theorem dX8_areOne_22 : decode cX8_areOne 22 = .ok (.iconst 0, 1) := by decide +kernel
theorem dX8_areOne_23 : decode cX8_areOne 23 = .ok (.invokestatic 44, 3) := by decide +kernel
theorem dX8_areOne_26 : decode cX8_areOne 26 = .ok (.iaload, 1) := by decide +kernel
theorem dX8_areOne_27 : decode cX8_areOne 27 = .ok (.if_icmp .gt 7, 3) := by decide +kernel
theorem dX8_areOne_30 : decode cX8_areOne 30 = .ok (.iconst 1, 1) := by decide +kernel
theorem dX8_areOne_31 : decode cX8_areOne 31 = .ok (.goto 4, 3) := by decide +kernel
theorem dX8_areOne_34 : decode cX8_areOne 34 = .ok (.iconst 0, 1) := by decide +kernel
theorem dX8_areOne_35 : decode cX8_areOne 35 = .ok (.istore 7, 2) := by decide +kernel
theorem dX8_areOne_37 : decode cX8_areOne 37 = .ok (.iload 7, 2) := by decide +kernel
theorem dX8_areOne_39 : decode cX8_areOne 39 = .ok (.ifCond .eq 23, 3) := by decide +kernel
theorem dX8_areOne_42 : decode cX8_areOne 42 = .ok (.aload_n 1, 1) := by decide +kernel
theorem dX8_areOne_43 : decode cX8_areOne 43 = .ok (.iload_n 2, 1) := by decide +kernel
theorem dX8_areOne_44 : decode cX8_areOne 44 = .ok (.iload 6, 2) := by decide +kernel
theorem dX8_areOne_46 : decode cX8_areOne 46 = .ok (.invokestatic 44, 3) := by decide +kernel
theorem dX8_areOne_49 : decode cX8_areOne 49 = .ok (.iaload, 1) := by decide +kernel
theorem dX8_areOne_50 : decode cX8_areOne 50 = .ok (.aload_n 3, 1) := by decide +kernel
theorem dX8_areOne_51 : decode cX8_areOne 51 = .ok (.iload 4, 2) := by decide +kernel
theorem dX8_areOne_53 : decode cX8_areOne 53 = .ok (.iload 6, 2) := by decide +kernel
theorem dX8_areOne_55 : decode cX8_areOne 55 = .ok (.invokestatic 44, 3) := by decide +kernel
theorem dX8_areOne_58 : decode cX8_areOne 58 = .ok (.iaload, 1) := by decide +kernel
theorem dX8_areOne_59 : decode cX8_areOne 59 = .ok (.if_icmp .ne 7, 3) := by decide +kernel
theorem dX8_areOne_62 : decode cX8_areOne 62 = .ok (.iconst 1, 1) := by decide +kernel
theorem dX8_areOne_63 : decode cX8_areOne 63 = .ok (.goto 4, 3) := by decide +kernel
theorem dX8_areOne_66 : decode cX8_areOne 66 = .ok (.iconst 0, 1) := by decide +kernel
theorem dX8_areOne_67 : decode cX8_areOne 67 = .ok (.istore 5, 2) := by decide +kernel
theorem dX8_areOne_69 : decode cX8_areOne 69 = .ok (.iinc 6 1, 3) := by decide +kernel
theorem dX8_areOne_72 : decode cX8_areOne 72 = .ok (.goto (-66), 3) := by decide +kernel
theorem dX8_areOne_75 : decode cX8_areOne 75 = .ok (.iload 5, 2) := by decide +kernel
theorem dX8_areOne_77 : decode cX8_areOne 77 = .ok (.ireturn, 1) := by decide +kernel
theorem dX8_readsWord_0 : decode cX8_readsWord 0 = .ok (.aload_n 0, 1) := by decide +kernel
theorem dX8_readsWord_1 : decode cX8_readsWord 1 = .ok (.getfield 7, 3) := by decide +kernel
theorem dX8_readsWord_4 : decode cX8_readsWord 4 = .ok (.iconst 5, 1) := by decide +kernel
theorem dX8_readsWord_5 : decode cX8_readsWord 5 = .ok (.iaload, 1) := by decide +kernel
theorem dX8_readsWord_6 : decode cX8_readsWord 6 = .ok (.istore_n 1, 1) := by decide +kernel
theorem dX8_readsWord_7 : decode cX8_readsWord 7 = .ok (.aload_n 0, 1) := by decide +kernel
theorem dX8_readsWord_8 : decode cX8_readsWord 8 = .ok (.getfield 183, 3) := by decide +kernel
theorem dX8_readsWord_11 : decode cX8_readsWord 11 = .ok (.istore_n 2, 1) := by decide +kernel
theorem dX8_readsWord_12 : decode cX8_readsWord 12 = .ok (.iconst 0, 1) := by decide +kernel
theorem dX8_readsWord_13 : decode cX8_readsWord 13 = .ok (.istore_n 3, 1) := by decide +kernel
theorem dX8_readsWord_14 : decode cX8_readsWord 14 = .ok (.aload_n 0, 1) := by decide +kernel
theorem dX8_readsWord_15 : decode cX8_readsWord 15 = .ok (.invokevirtual 186, 3) := by decide +kernel
theorem dX8_readsWord_18 : decode cX8_readsWord 18 = .ok (.i2l, 1) := by decide +kernel
theorem dX8_readsWord_19 : decode cX8_readsWord 19 = .ok (.ldc2_w 189, 3) := by decide +kernel
theorem dX8_readsWord_22 : decode cX8_readsWord 22 = .ok (.ldc2_w 191, 3) := by decide +kernel
theorem dX8_readsWord_25 : decode cX8_readsWord 25 = .ok (.invokestatic 48, 3) := by decide +kernel
theorem dX8_readsWord_28 : decode cX8_readsWord 28 = .ok (.ifCond .eq 44, 3) := by decide +kernel
theorem dX8_readsWord_31 : decode cX8_readsWord 31 = .ok (.iload_n 3, 1) := by decide +kernel
theorem dX8_readsWord_32 : decode cX8_readsWord 32 = .ok (.bipush 10, 2) := by decide +kernel
theorem dX8_readsWord_34 : decode cX8_readsWord 34 = .ok (.if_icmp .ge 38, 3) := by decide +kernel
theorem dX8_readsWord_37 : decode cX8_readsWord 37 = .ok (.aload_n 0, 1) := by decide +kernel
theorem dX8_readsWord_38 : decode cX8_readsWord 38 = .ok (.getfield 7, 3) := by decide +kernel
theorem dX8_readsWord_41 : decode cX8_readsWord 41 = .ok (.iload_n 1, 1) := by decide +kernel
theorem dX8_readsWord_42 : decode cX8_readsWord 42 = .ok (.iconst 1, 1) := by decide +kernel
theorem dX8_readsWord_43 : decode cX8_readsWord 43 = .ok (.iload_n 3, 1) := by decide +kernel
theorem dX8_readsWord_44 : decode cX8_readsWord 44 = .ok (.iadd, 1) := by decide +kernel
theorem dX8_readsWord_45 : decode cX8_readsWord 45 = .ok (.invokestatic 44, 3) := by decide +kernel
theorem dX8_readsWord_48 : decode cX8_readsWord 48 = .ok (.aload_n 0, 1) := by decide +kernel
theorem dX8_readsWord_49 : decode cX8_readsWord 49 = .ok (.invokevirtual 186, 3) := by decide +kernel
theorem dX8_readsWord_52 : decode cX8_readsWord 52 = .ok (.bipush 97, 2) := by decide +kernel
theorem dX8_readsWord_54 : decode cX8_readsWord 54 = .ok (.isub, 1) := by decide +kernel
theorem dX8_readsWord_55 : decode cX8_readsWord 55 = .ok (.iastore, 1) := by decide +kernel
theorem dX8_readsWord_56 : decode cX8_readsWord 56 = .ok (.iinc 3 1, 3) := by decide +kernel
theorem dX8_readsWord_59 : decode cX8_readsWord 59 = .ok (.aload_n 0, 1) := by decide +kernel
theorem dX8_readsWord_60 : decode cX8_readsWord 60 = .ok (.dup, 1) := by decide +kernel
theorem dX8_readsWord_61 : decode cX8_readsWord 61 = .ok (.getfield 183, 3) := by decide +kernel
theorem dX8_readsWord_64 : decode cX8_readsWord 64 = .ok (.iconst 1, 1) := by decide +kernel
theorem dX8_readsWord_65 : decode cX8_readsWord 65 = .ok (.iadd, 1) := by decide +kernel
theorem dX8_readsWord_66 : decode cX8_readsWord 66 = .ok (.putfield 183, 3) := by decide +kernel
theorem dX8_readsWord_69 : decode cX8_readsWord 69 = .ok (.goto (-55), 3) := by decide +kernel
theorem dX8_readsWord_72 : decode cX8_readsWord 72 = .ok (.iload_n 3, 1) := by decide +kernel
theorem dX8_readsWord_73 : decode cX8_readsWord 73 = .ok (.ifCond .eq 12, 3) := by decide +kernel
theorem dX8_readsWord_76 : decode cX8_readsWord 76 = .ok (.aload_n 0, 1) := by decide +kernel
theorem dX8_readsWord_77 : decode cX8_readsWord 77 = .ok (.invokevirtual 186, 3) := by decide +kernel
theorem dX8_readsWord_80 : decode cX8_readsWord 80 = .ok (.bipush 44, 2) := by decide +kernel
theorem dX8_readsWord_82 : decode cX8_readsWord 82 = .ok (.if_icmp .eq 5, 3) := by decide +kernel
theorem dX8_readsWord_85 : decode cX8_readsWord 85 = .ok (.iconst 0, 1) := by decide +kernel
theorem dX8_readsWord_86 : decode cX8_readsWord 86 = .ok (.ireturn, 1) := by decide +kernel
theorem dX8_readsWord_87 : decode cX8_readsWord 87 = .ok (.aload_n 0, 1) := by decide +kernel
theorem dX8_readsWord_88 : decode cX8_readsWord 88 = .ok (.getfield 7, 3) := by decide +kernel
theorem dX8_readsWord_91 : decode cX8_readsWord 91 = .ok (.iload_n 1, 1) := by decide +kernel
theorem dX8_readsWord_92 : decode cX8_readsWord 92 = .ok (.iconst 0, 1) := by decide +kernel
theorem dX8_readsWord_93 : decode cX8_readsWord 93 = .ok (.invokestatic 44, 3) := by decide +kernel
theorem dX8_readsWord_96 : decode cX8_readsWord 96 = .ok (.iload_n 3, 1) := by decide +kernel
theorem dX8_readsWord_97 : decode cX8_readsWord 97 = .ok (.iastore, 1) := by decide +kernel
theorem dX8_readsWord_98 : decode cX8_readsWord 98 = .ok (.iconst 0, 1) := by decide +kernel
theorem dX8_readsWord_99 : decode cX8_readsWord 99 = .ok (.istore 4, 2) := by decide +kernel
theorem dX8_readsWord_101 : decode cX8_readsWord 101 = .ok (.iconst 0, 1) := by decide +kernel
theorem dX8_readsWord_102 : decode cX8_readsWord 102 = .ok (.istore 5, 2) := by decide +kernel
theorem dX8_readsWord_104 : decode cX8_readsWord 104 = .ok (.iload 5, 2) := by decide +kernel
theorem dX8_readsWord_106 : decode cX8_readsWord 106 = .ok (.iload_n 1, 1) := by decide +kernel
theorem dX8_readsWord_107 : decode cX8_readsWord 107 = .ok (.if_icmp .ge 39, 3) := by decide +kernel
theorem dX8_readsWord_110 : decode cX8_readsWord 110 = .ok (.iload 4, 2) := by decide +kernel
theorem dX8_readsWord_112 : decode cX8_readsWord 112 = .ok (.ifCond .ne 21, 3) := by decide +kernel
theorem dX8_readsWord_115 : decode cX8_readsWord 115 = .ok (.aload_n 0, 1) := by decide +kernel
theorem dX8_readsWord_116 : decode cX8_readsWord 116 = .ok (.aload_n 0, 1) := by decide +kernel
theorem dX8_readsWord_117 : decode cX8_readsWord 117 = .ok (.getfield 7, 3) := by decide +kernel
theorem dX8_readsWord_120 : decode cX8_readsWord 120 = .ok (.iload_n 1, 1) := by decide +kernel
theorem dX8_readsWord_121 : decode cX8_readsWord 121 = .ok (.aload_n 0, 1) := by decide +kernel
theorem dX8_readsWord_122 : decode cX8_readsWord 122 = .ok (.getfield 7, 3) := by decide +kernel
theorem dX8_readsWord_125 : decode cX8_readsWord 125 = .ok (.iload 5, 2) := by decide +kernel
theorem dX8_readsWord_127 : decode cX8_readsWord 127 = .ok (.invokevirtual 193, 3) := by decide +kernel
theorem dX8_readsWord_130 : decode cX8_readsWord 130 = .ok (.ifCond .eq 7, 3) := by decide +kernel
theorem dX8_readsWord_133 : decode cX8_readsWord 133 = .ok (.iconst 1, 1) := by decide +kernel
theorem dX8_readsWord_134 : decode cX8_readsWord 134 = .ok (.goto 4, 3) := by decide +kernel
theorem dX8_readsWord_137 : decode cX8_readsWord 137 = .ok (.iconst 0, 1) := by decide +kernel
theorem dX8_readsWord_138 : decode cX8_readsWord 138 = .ok (.istore 4, 2) := by decide +kernel
theorem dX8_readsWord_140 : decode cX8_readsWord 140 = .ok (.iinc 5 1, 3) := by decide +kernel
theorem dX8_readsWord_143 : decode cX8_readsWord 143 = .ok (.goto (-39), 3) := by decide +kernel
theorem dX8_readsWord_146 : decode cX8_readsWord 146 = .ok (.aload_n 0, 1) := by decide +kernel
theorem dX8_readsWord_147 : decode cX8_readsWord 147 = .ok (.iload 4, 2) := by decide +kernel
theorem dX8_readsWord_149 : decode cX8_readsWord 149 = .ok (.ifCond .eq 7, 3) := by decide +kernel
theorem dX8_readsWord_152 : decode cX8_readsWord 152 = .ok (.iload_n 2, 1) := by decide +kernel
theorem dX8_readsWord_153 : decode cX8_readsWord 153 = .ok (.goto 9, 3) := by decide +kernel
theorem dX8_readsWord_156 : decode cX8_readsWord 156 = .ok (.aload_n 0, 1) := by decide +kernel
theorem dX8_readsWord_157 : decode cX8_readsWord 157 = .ok (.getfield 183, 3) := by decide +kernel
theorem dX8_readsWord_160 : decode cX8_readsWord 160 = .ok (.iconst 1, 1) := by decide +kernel
theorem dX8_readsWord_161 : decode cX8_readsWord 161 = .ok (.iadd, 1) := by decide +kernel
theorem dX8_readsWord_162 : decode cX8_readsWord 162 = .ok (.putfield 183, 3) := by decide +kernel
theorem dX8_readsWord_165 : decode cX8_readsWord 165 = .ok (.iload 4, 2) := by decide +kernel
theorem dX8_readsWord_167 : decode cX8_readsWord 167 = .ok (.ifCond .ne 7, 3) := by decide +kernel
theorem dX8_readsWord_170 : decode cX8_readsWord 170 = .ok (.iconst 1, 1) := by decide +kernel
theorem dX8_readsWord_171 : decode cX8_readsWord 171 = .ok (.goto 4, 3) := by decide +kernel
theorem dX8_readsWord_174 : decode cX8_readsWord 174 = .ok (.iconst 0, 1) := by decide +kernel
theorem dX8_readsWord_175 : decode cX8_readsWord 175 = .ok (.ireturn, 1) := by decide +kernel
theorem dX8_readsWeight_0 : decode cX8_readsWeight 0 = .ok (.aload_n 0, 1) := by decide +kernel
theorem dX8_readsWeight_1 : decode cX8_readsWeight 1 = .ok (.getfield 183, 3) := by decide +kernel
theorem dX8_readsWeight_4 : decode cX8_readsWeight 4 = .ok (.istore_n 1, 1) := by decide +kernel
theorem dX8_readsWeight_5 : decode cX8_readsWeight 5 = .ok (.iconst 0, 1) := by decide +kernel
theorem dX8_readsWeight_6 : decode cX8_readsWeight 6 = .ok (.istore_n 2, 1) := by decide +kernel
theorem dX8_readsWeight_7 : decode cX8_readsWeight 7 = .ok (.aload_n 0, 1) := by decide +kernel
theorem dX8_readsWeight_8 : decode cX8_readsWeight 8 = .ok (.invokevirtual 186, 3) := by decide +kernel
theorem dX8_readsWeight_11 : decode cX8_readsWeight 11 = .ok (.i2l, 1) := by decide +kernel
theorem dX8_readsWeight_12 : decode cX8_readsWeight 12 = .ok (.ldc2_w 197, 3) := by decide +kernel
theorem dX8_readsWeight_15 : decode cX8_readsWeight 15 = .ok (.ldc2_w 199, 3) := by decide +kernel
theorem dX8_readsWeight_18 : decode cX8_readsWeight 18 = .ok (.invokestatic 48, 3) := by decide +kernel
theorem dX8_readsWeight_21 : decode cX8_readsWeight 21 = .ok (.ifCond .eq 39, 3) := by decide +kernel
theorem dX8_readsWeight_24 : decode cX8_readsWeight 24 = .ok (.aload_n 0, 1) := by decide +kernel
theorem dX8_readsWeight_25 : decode cX8_readsWeight 25 = .ok (.getfield 183, 3) := by decide +kernel
theorem dX8_readsWeight_28 : decode cX8_readsWeight 28 = .ok (.iload_n 1, 1) := by decide +kernel
theorem dX8_readsWeight_29 : decode cX8_readsWeight 29 = .ok (.iconst 4, 1) := by decide +kernel
theorem dX8_readsWeight_30 : decode cX8_readsWeight 30 = .ok (.iadd, 1) := by decide +kernel
theorem dX8_readsWeight_31 : decode cX8_readsWeight 31 = .ok (.if_icmp .ge 29, 3) := by decide +kernel
theorem dX8_readsWeight_34 : decode cX8_readsWeight 34 = .ok (.bipush 10, 2) := by decide +kernel
theorem dX8_readsWeight_36 : decode cX8_readsWeight 36 = .ok (.iload_n 2, 1) := by decide +kernel
theorem dX8_readsWeight_37 : decode cX8_readsWeight 37 = .ok (.imul, 1) := by decide +kernel
theorem dX8_readsWeight_38 : decode cX8_readsWeight 38 = .ok (.aload_n 0, 1) := by decide +kernel
theorem dX8_readsWeight_39 : decode cX8_readsWeight 39 = .ok (.invokevirtual 186, 3) := by decide +kernel
theorem dX8_readsWeight_42 : decode cX8_readsWeight 42 = .ok (.iadd, 1) := by decide +kernel
theorem dX8_readsWeight_43 : decode cX8_readsWeight 43 = .ok (.bipush 48, 2) := by decide +kernel
theorem dX8_readsWeight_45 : decode cX8_readsWeight 45 = .ok (.isub, 1) := by decide +kernel
theorem dX8_readsWeight_46 : decode cX8_readsWeight 46 = .ok (.istore_n 2, 1) := by decide +kernel
theorem dX8_readsWeight_47 : decode cX8_readsWeight 47 = .ok (.aload_n 0, 1) := by decide +kernel
theorem dX8_readsWeight_48 : decode cX8_readsWeight 48 = .ok (.dup, 1) := by decide +kernel
theorem dX8_readsWeight_49 : decode cX8_readsWeight 49 = .ok (.getfield 183, 3) := by decide +kernel
theorem dX8_readsWeight_52 : decode cX8_readsWeight 52 = .ok (.iconst 1, 1) := by decide +kernel
theorem dX8_readsWeight_53 : decode cX8_readsWeight 53 = .ok (.iadd, 1) := by decide +kernel
theorem dX8_readsWeight_54 : decode cX8_readsWeight 54 = .ok (.putfield 183, 3) := by decide +kernel
theorem dX8_readsWeight_57 : decode cX8_readsWeight 57 = .ok (.goto (-50), 3) := by decide +kernel
theorem dX8_readsWeight_60 : decode cX8_readsWeight 60 = .ok (.aload_n 0, 1) := by decide +kernel
theorem dX8_readsWeight_61 : decode cX8_readsWeight 61 = .ok (.getfield 183, 3) := by decide +kernel
theorem dX8_readsWeight_64 : decode cX8_readsWeight 64 = .ok (.iload_n 1, 1) := by decide +kernel
theorem dX8_readsWeight_65 : decode cX8_readsWeight 65 = .ok (.if_icmp .eq 20, 3) := by decide +kernel
theorem dX8_readsWeight_68 : decode cX8_readsWeight 68 = .ok (.aload_n 0, 1) := by decide +kernel
theorem dX8_readsWeight_69 : decode cX8_readsWeight 69 = .ok (.invokevirtual 186, 3) := by decide +kernel
theorem dX8_readsWeight_72 : decode cX8_readsWeight 72 = .ok (.i2l, 1) := by decide +kernel
theorem dX8_readsWeight_73 : decode cX8_readsWeight 73 = .ok (.ldc2_w 197, 3) := by decide +kernel
theorem dX8_readsWeight_76 : decode cX8_readsWeight 76 = .ok (.ldc2_w 199, 3) := by decide +kernel
theorem dX8_readsWeight_79 : decode cX8_readsWeight 79 = .ok (.invokestatic 48, 3) := by decide +kernel
theorem dX8_readsWeight_82 : decode cX8_readsWeight 82 = .ok (.ifCond .eq 5, 3) := by decide +kernel
theorem dX8_readsWeight_85 : decode cX8_readsWeight 85 = .ok (.iconst 0, 1) := by decide +kernel
theorem dX8_readsWeight_86 : decode cX8_readsWeight 86 = .ok (.ireturn, 1) := by decide +kernel
theorem dX8_readsWeight_87 : decode cX8_readsWeight 87 = .ok (.iload_n 2, 1) := by decide +kernel
theorem dX8_readsWeight_88 : decode cX8_readsWeight 88 = .ok (.i2l, 1) := by decide +kernel
theorem dX8_readsWeight_89 : decode cX8_readsWeight 89 = .ok (.lconst 1, 1) := by decide +kernel
theorem dX8_readsWeight_90 : decode cX8_readsWeight 90 = .ok (.ldc2_w 59, 3) := by decide +kernel
theorem dX8_readsWeight_93 : decode cX8_readsWeight 93 = .ok (.invokestatic 48, 3) := by decide +kernel
theorem dX8_readsWeight_96 : decode cX8_readsWeight 96 = .ok (.istore_n 3, 1) := by decide +kernel
theorem dX8_readsWeight_97 : decode cX8_readsWeight 97 = .ok (.aload_n 0, 1) := by decide +kernel
theorem dX8_readsWeight_98 : decode cX8_readsWeight 98 = .ok (.iload_n 3, 1) := by decide +kernel
theorem dX8_readsWeight_99 : decode cX8_readsWeight 99 = .ok (.ifCond .eq 10, 3) := by decide +kernel
theorem dX8_readsWeight_102 : decode cX8_readsWeight 102 = .ok (.aload_n 0, 1) := by decide +kernel
theorem dX8_readsWeight_103 : decode cX8_readsWeight 103 = .ok (.getfield 183, 3) := by decide +kernel
theorem dX8_readsWeight_106 : decode cX8_readsWeight 106 = .ok (.goto 4, 3) := by decide +kernel
theorem dX8_readsWeight_109 : decode cX8_readsWeight 109 = .ok (.iload_n 1, 1) := by decide +kernel
theorem dX8_readsWeight_110 : decode cX8_readsWeight 110 = .ok (.putfield 183, 3) := by decide +kernel
theorem dX8_readsWeight_113 : decode cX8_readsWeight 113 = .ok (.aload_n 0, 1) := by decide +kernel
theorem dX8_readsWeight_114 : decode cX8_readsWeight 114 = .ok (.getfield 7, 3) := by decide +kernel
theorem dX8_readsWeight_117 : decode cX8_readsWeight 117 = .ok (.aload_n 0, 1) := by decide +kernel
theorem dX8_readsWeight_118 : decode cX8_readsWeight 118 = .ok (.getfield 7, 3) := by decide +kernel
theorem dX8_readsWeight_121 : decode cX8_readsWeight 121 = .ok (.iconst 5, 1) := by decide +kernel
theorem dX8_readsWeight_122 : decode cX8_readsWeight 122 = .ok (.iaload, 1) := by decide +kernel
theorem dX8_readsWeight_123 : decode cX8_readsWeight 123 = .ok (.bipush 11, 2) := by decide +kernel
theorem dX8_readsWeight_125 : decode cX8_readsWeight 125 = .ok (.invokestatic 44, 3) := by decide +kernel
theorem dX8_readsWeight_128 : decode cX8_readsWeight 128 = .ok (.iload_n 2, 1) := by decide +kernel
theorem dX8_readsWeight_129 : decode cX8_readsWeight 129 = .ok (.iastore, 1) := by decide +kernel
theorem dX8_readsWeight_130 : decode cX8_readsWeight 130 = .ok (.iload_n 3, 1) := by decide +kernel
theorem dX8_readsWeight_131 : decode cX8_readsWeight 131 = .ok (.ifCond .eq 16, 3) := by decide +kernel
theorem dX8_readsWeight_134 : decode cX8_readsWeight 134 = .ok (.aload_n 0, 1) := by decide +kernel
theorem dX8_readsWeight_135 : decode cX8_readsWeight 135 = .ok (.bipush 44, 2) := by decide +kernel
theorem dX8_readsWeight_137 : decode cX8_readsWeight 137 = .ok (.invokevirtual 201, 3) := by decide +kernel
theorem dX8_readsWeight_140 : decode cX8_readsWeight 140 = .ok (.ifCond .eq 7, 3) := by decide +kernel
theorem dX8_readsWeight_143 : decode cX8_readsWeight 143 = .ok (.iconst 1, 1) := by decide +kernel
theorem dX8_readsWeight_144 : decode cX8_readsWeight 144 = .ok (.goto 4, 3) := by decide +kernel
theorem dX8_readsWeight_147 : decode cX8_readsWeight 147 = .ok (.iconst 0, 1) := by decide +kernel
theorem dX8_readsWeight_148 : decode cX8_readsWeight 148 = .ok (.ireturn, 1) := by decide +kernel
theorem dX8_readsFigure_0 : decode cX8_readsFigure 0 = .ok (.aload_n 0, 1) := by decide +kernel
theorem dX8_readsFigure_1 : decode cX8_readsFigure 1 = .ok (.invokevirtual 186, 3) := by decide +kernel
theorem dX8_readsFigure_4 : decode cX8_readsFigure 4 = .ok (.i2l, 1) := by decide +kernel
theorem dX8_readsFigure_5 : decode cX8_readsFigure 5 = .ok (.ldc2_w 197, 3) := by decide +kernel
theorem dX8_readsFigure_8 : decode cX8_readsFigure 8 = .ok (.bipush 48, 2) := by decide +kernel
theorem dX8_readsFigure_10 : decode cX8_readsFigure 10 = .ok (.iload_n 2, 1) := by decide +kernel
theorem dX8_readsFigure_11 : decode cX8_readsFigure 11 = .ok (.iadd, 1) := by decide +kernel
theorem dX8_readsFigure_12 : decode cX8_readsFigure 12 = .ok (.i2l, 1) := by decide +kernel
theorem dX8_readsFigure_13 : decode cX8_readsFigure 13 = .ok (.invokestatic 48, 3) := by decide +kernel
theorem dX8_readsFigure_16 : decode cX8_readsFigure 16 = .ok (.istore_n 3, 1) := by decide +kernel
theorem dX8_readsFigure_17 : decode cX8_readsFigure 17 = .ok (.aload_n 0, 1) := by decide +kernel
theorem dX8_readsFigure_18 : decode cX8_readsFigure 18 = .ok (.getfield 7, 3) := by decide +kernel
theorem dX8_readsFigure_21 : decode cX8_readsFigure 21 = .ok (.aload_n 0, 1) := by decide +kernel
theorem dX8_readsFigure_22 : decode cX8_readsFigure 22 = .ok (.getfield 7, 3) := by decide +kernel
theorem dX8_readsFigure_25 : decode cX8_readsFigure 25 = .ok (.iconst 5, 1) := by decide +kernel
theorem dX8_readsFigure_26 : decode cX8_readsFigure 26 = .ok (.iaload, 1) := by decide +kernel
theorem dX8_readsFigure_27 : decode cX8_readsFigure 27 = .ok (.iload_n 1, 1) := by decide +kernel
theorem dX8_readsFigure_28 : decode cX8_readsFigure 28 = .ok (.invokestatic 44, 3) := by decide +kernel
theorem dX8_readsFigure_31 : decode cX8_readsFigure 31 = .ok (.iload_n 3, 1) := by decide +kernel
theorem dX8_readsFigure_32 : decode cX8_readsFigure 32 = .ok (.ifCond .eq 13, 3) := by decide +kernel
theorem dX8_readsFigure_35 : decode cX8_readsFigure 35 = .ok (.aload_n 0, 1) := by decide +kernel
theorem dX8_readsFigure_36 : decode cX8_readsFigure 36 = .ok (.invokevirtual 186, 3) := by decide +kernel
theorem dX8_readsFigure_39 : decode cX8_readsFigure 39 = .ok (.bipush 48, 2) := by decide +kernel
theorem dX8_readsFigure_41 : decode cX8_readsFigure 41 = .ok (.isub, 1) := by decide +kernel
theorem dX8_readsFigure_42 : decode cX8_readsFigure 42 = .ok (.goto 4, 3) := by decide +kernel
theorem dX8_readsFigure_45 : decode cX8_readsFigure 45 = .ok (.iconst 0, 1) := by decide +kernel
theorem dX8_readsFigure_46 : decode cX8_readsFigure 46 = .ok (.iastore, 1) := by decide +kernel
theorem dX8_readsFigure_47 : decode cX8_readsFigure 47 = .ok (.aload_n 0, 1) := by decide +kernel
theorem dX8_readsFigure_48 : decode cX8_readsFigure 48 = .ok (.dup, 1) := by decide +kernel
theorem dX8_readsFigure_49 : decode cX8_readsFigure 49 = .ok (.getfield 183, 3) := by decide +kernel
theorem dX8_readsFigure_52 : decode cX8_readsFigure 52 = .ok (.iload_n 3, 1) := by decide +kernel
theorem dX8_readsFigure_53 : decode cX8_readsFigure 53 = .ok (.ifCond .eq 7, 3) := by decide +kernel
theorem dX8_readsFigure_56 : decode cX8_readsFigure 56 = .ok (.iconst 1, 1) := by decide +kernel
theorem dX8_readsFigure_57 : decode cX8_readsFigure 57 = .ok (.goto 4, 3) := by decide +kernel
theorem dX8_readsFigure_60 : decode cX8_readsFigure 60 = .ok (.iconst 0, 1) := by decide +kernel
theorem dX8_readsFigure_61 : decode cX8_readsFigure 61 = .ok (.iadd, 1) := by decide +kernel
theorem dX8_readsFigure_62 : decode cX8_readsFigure 62 = .ok (.putfield 183, 3) := by decide +kernel
theorem dX8_readsFigure_65 : decode cX8_readsFigure 65 = .ok (.iload_n 3, 1) := by decide +kernel
theorem dX8_readsFigure_66 : decode cX8_readsFigure 66 = .ok (.ireturn, 1) := by decide +kernel
theorem dX8_readsItem_0 : decode cX8_readsItem 0 = .ok (.aload_n 0, 1) := by decide +kernel
theorem dX8_readsItem_1 : decode cX8_readsItem 1 = .ok (.getfield 7, 3) := by decide +kernel
theorem dX8_readsItem_4 : decode cX8_readsItem 4 = .ok (.iconst 5, 1) := by decide +kernel
theorem dX8_readsItem_5 : decode cX8_readsItem 5 = .ok (.iaload, 1) := by decide +kernel
theorem dX8_readsItem_6 : decode cX8_readsItem 6 = .ok (.bipush 24, 2) := by decide +kernel
theorem dX8_readsItem_8 : decode cX8_readsItem 8 = .ok (.if_icmp .ge 50, 3) := by decide +kernel
theorem dX8_readsItem_11 : decode cX8_readsItem 11 = .ok (.aload_n 0, 1) := by decide +kernel
theorem dX8_readsItem_12 : decode cX8_readsItem 12 = .ok (.invokevirtual 204, 3) := by decide +kernel
theorem dX8_readsItem_15 : decode cX8_readsItem 15 = .ok (.ifCond .eq 43, 3) := by decide +kernel
theorem dX8_readsItem_18 : decode cX8_readsItem 18 = .ok (.aload_n 0, 1) := by decide +kernel
theorem dX8_readsItem_19 : decode cX8_readsItem 19 = .ok (.invokevirtual 208, 3) := by decide +kernel
theorem dX8_readsItem_22 : decode cX8_readsItem 22 = .ok (.ifCond .eq 36, 3) := by decide +kernel
theorem dX8_readsItem_25 : decode cX8_readsItem 25 = .ok (.aload_n 0, 1) := by decide +kernel
theorem dX8_readsItem_26 : decode cX8_readsItem 26 = .ok (.bipush 12, 2) := by decide +kernel
theorem dX8_readsItem_28 : decode cX8_readsItem 28 = .ok (.iconst 2, 1) := by decide +kernel
theorem dX8_readsItem_29 : decode cX8_readsItem 29 = .ok (.invokevirtual 211, 3) := by decide +kernel
theorem dX8_readsItem_32 : decode cX8_readsItem 32 = .ok (.ifCond .eq 26, 3) := by decide +kernel
theorem dX8_readsItem_35 : decode cX8_readsItem 35 = .ok (.aload_n 0, 1) := by decide +kernel
theorem dX8_readsItem_36 : decode cX8_readsItem 36 = .ok (.bipush 13, 2) := by decide +kernel
theorem dX8_readsItem_38 : decode cX8_readsItem 38 = .ok (.iconst 3, 1) := by decide +kernel
theorem dX8_readsItem_39 : decode cX8_readsItem 39 = .ok (.invokevirtual 211, 3) := by decide +kernel
theorem dX8_readsItem_42 : decode cX8_readsItem 42 = .ok (.ifCond .eq 16, 3) := by decide +kernel
theorem dX8_readsItem_45 : decode cX8_readsItem 45 = .ok (.aload_n 0, 1) := by decide +kernel
theorem dX8_readsItem_46 : decode cX8_readsItem 46 = .ok (.bipush 59, 2) := by decide +kernel
theorem dX8_readsItem_48 : decode cX8_readsItem 48 = .ok (.invokevirtual 201, 3) := by decide +kernel
theorem dX8_readsItem_51 : decode cX8_readsItem 51 = .ok (.ifCond .eq 7, 3) := by decide +kernel
theorem dX8_readsItem_54 : decode cX8_readsItem 54 = .ok (.iconst 1, 1) := by decide +kernel
theorem dX8_readsItem_55 : decode cX8_readsItem 55 = .ok (.goto 4, 3) := by decide +kernel
theorem dX8_readsItem_58 : decode cX8_readsItem 58 = .ok (.iconst 0, 1) := by decide +kernel
theorem dX8_readsItem_59 : decode cX8_readsItem 59 = .ok (.istore_n 1, 1) := by decide +kernel
theorem dX8_readsItem_60 : decode cX8_readsItem 60 = .ok (.aload_n 0, 1) := by decide +kernel
theorem dX8_readsItem_61 : decode cX8_readsItem 61 = .ok (.getfield 7, 3) := by decide +kernel
theorem dX8_readsItem_64 : decode cX8_readsItem 64 = .ok (.iconst 5, 1) := by decide +kernel
theorem dX8_readsItem_65 : decode cX8_readsItem 65 = .ok (.dup2, 1) := by decide +kernel
theorem dX8_readsItem_66 : decode cX8_readsItem 66 = .ok (.iaload, 1) := by decide +kernel
theorem dX8_readsItem_67 : decode cX8_readsItem 67 = .ok (.iload_n 1, 1) := by decide +kernel
theorem dX8_readsItem_68 : decode cX8_readsItem 68 = .ok (.ifCond .eq 7, 3) := by decide +kernel
theorem dX8_readsItem_71 : decode cX8_readsItem 71 = .ok (.iconst 1, 1) := by decide +kernel
theorem dX8_readsItem_72 : decode cX8_readsItem 72 = .ok (.goto 4, 3) := by decide +kernel
theorem dX8_readsItem_75 : decode cX8_readsItem 75 = .ok (.iconst 0, 1) := by decide +kernel
theorem dX8_readsItem_76 : decode cX8_readsItem 76 = .ok (.iadd, 1) := by decide +kernel
theorem dX8_readsItem_77 : decode cX8_readsItem 77 = .ok (.iastore, 1) := by decide +kernel
theorem dX8_readsItem_78 : decode cX8_readsItem 78 = .ok (.iload_n 1, 1) := by decide +kernel
theorem dX8_readsItem_79 : decode cX8_readsItem 79 = .ok (.ireturn, 1) := by decide +kernel
theorem dX8_findsPlaces_0 : decode cX8_findsPlaces 0 = .ok (.iconst 0, 1) := by decide +kernel
theorem dX8_findsPlaces_1 : decode cX8_findsPlaces 1 = .ok (.istore_n 1, 1) := by decide +kernel
theorem dX8_findsPlaces_2 : decode cX8_findsPlaces 2 = .ok (.iload_n 1, 1) := by decide +kernel
theorem dX8_findsPlaces_3 : decode cX8_findsPlaces 3 = .ok (.aload_n 0, 1) := by decide +kernel
theorem dX8_findsPlaces_4 : decode cX8_findsPlaces 4 = .ok (.getfield 7, 3) := by decide +kernel
theorem dX8_findsPlaces_7 : decode cX8_findsPlaces 7 = .ok (.iconst 5, 1) := by decide +kernel
theorem dX8_findsPlaces_8 : decode cX8_findsPlaces 8 = .ok (.iaload, 1) := by decide +kernel
theorem dX8_findsPlaces_9 : decode cX8_findsPlaces 9 = .ok (.if_icmp .ge 111, 3) := by decide +kernel
theorem dX8_findsPlaces_12 : decode cX8_findsPlaces 12 = .ok (.bipush 14, 2) := by decide +kernel
theorem dX8_findsPlaces_14 : decode cX8_findsPlaces 14 = .ok (.istore_n 2, 1) := by decide +kernel
theorem dX8_findsPlaces_15 : decode cX8_findsPlaces 15 = .ok (.iload_n 2, 1) := by decide +kernel
theorem dX8_findsPlaces_16 : decode cX8_findsPlaces 16 = .ok (.bipush 18, 2) := by decide +kernel
theorem dX8_findsPlaces_18 : decode cX8_findsPlaces 18 = .ok (.if_icmp .gt 20, 3) := by decide +kernel
theorem dX8_findsPlaces_21 : decode cX8_findsPlaces 21 = .ok (.aload_n 0, 1) := by decide +kernel
theorem dX8_findsPlaces_22 : decode cX8_findsPlaces 22 = .ok (.getfield 7, 3) := by decide +kernel
theorem dX8_findsPlaces_25 : decode cX8_findsPlaces 25 = .ok (.iload_n 1, 1) := by decide +kernel
theorem dX8_findsPlaces_26 : decode cX8_findsPlaces 26 = .ok (.iload_n 2, 1) := by decide +kernel
theorem dX8_findsPlaces_27 : decode cX8_findsPlaces 27 = .ok (.invokestatic 44, 3) := by decide +kernel
theorem dX8_findsPlaces_30 : decode cX8_findsPlaces 30 = .ok (.iconst 0, 1) := by decide +kernel
theorem dX8_findsPlaces_31 : decode cX8_findsPlaces 31 = .ok (.iastore, 1) := by decide +kernel
theorem dX8_findsPlaces_32 : decode cX8_findsPlaces 32 = .ok (.iinc 2 1, 3) := by decide +kernel
theorem dX8_findsPlaces_35 : decode cX8_findsPlaces 35 = .ok (.goto (-20), 3) := by decide +kernel
theorem dX8_findsPlaces_38 : decode cX8_findsPlaces 38 = .ok (.iconst 0, 1) := by decide +kernel
theorem dX8_findsPlaces_39 : decode cX8_findsPlaces 39 = .ok (.istore_n 2, 1) := by decide +kernel
theorem dX8_findsPlaces_40 : decode cX8_findsPlaces 40 = .ok (.iload_n 2, 1) := by decide +kernel
theorem dX8_findsPlaces_41 : decode cX8_findsPlaces 41 = .ok (.aload_n 0, 1) := by decide +kernel
theorem dX8_findsPlaces_42 : decode cX8_findsPlaces 42 = .ok (.getfield 16, 3) := by decide +kernel
theorem dX8_findsPlaces_45 : decode cX8_findsPlaces 45 = .ok (.iconst 5, 1) := by decide +kernel
theorem dX8_findsPlaces_46 : decode cX8_findsPlaces 46 = .ok (.iaload, 1) := by decide +kernel
theorem dX8_findsPlaces_47 : decode cX8_findsPlaces 47 = .ok (.if_icmp .ge 67, 3) := by decide +kernel
theorem dX8_findsPlaces_50 : decode cX8_findsPlaces 50 = .ok (.aload_n 0, 1) := by decide +kernel
theorem dX8_findsPlaces_51 : decode cX8_findsPlaces 51 = .ok (.aload_n 0, 1) := by decide +kernel
theorem dX8_findsPlaces_52 : decode cX8_findsPlaces 52 = .ok (.getfield 7, 3) := by decide +kernel
theorem dX8_findsPlaces_55 : decode cX8_findsPlaces 55 = .ok (.iload_n 1, 1) := by decide +kernel
theorem dX8_findsPlaces_56 : decode cX8_findsPlaces 56 = .ok (.aload_n 0, 1) := by decide +kernel
theorem dX8_findsPlaces_57 : decode cX8_findsPlaces 57 = .ok (.getfield 16, 3) := by decide +kernel
theorem dX8_findsPlaces_60 : decode cX8_findsPlaces 60 = .ok (.iload_n 2, 1) := by decide +kernel
theorem dX8_findsPlaces_61 : decode cX8_findsPlaces 61 = .ok (.invokevirtual 193, 3) := by decide +kernel
theorem dX8_findsPlaces_64 : decode cX8_findsPlaces 64 = .ok (.istore_n 3, 1) := by decide +kernel
theorem dX8_findsPlaces_65 : decode cX8_findsPlaces 65 = .ok (.bipush 14, 2) := by decide +kernel
theorem dX8_findsPlaces_67 : decode cX8_findsPlaces 67 = .ok (.istore 4, 2) := by decide +kernel
theorem dX8_findsPlaces_69 : decode cX8_findsPlaces 69 = .ok (.iload 4, 2) := by decide +kernel
theorem dX8_findsPlaces_71 : decode cX8_findsPlaces 71 = .ok (.bipush 18, 2) := by decide +kernel
theorem dX8_findsPlaces_73 : decode cX8_findsPlaces 73 = .ok (.if_icmp .gt 35, 3) := by decide +kernel
theorem dX8_findsPlaces_76 : decode cX8_findsPlaces 76 = .ok (.iload_n 3, 1) := by decide +kernel
theorem dX8_findsPlaces_77 : decode cX8_findsPlaces 77 = .ok (.ifCond .eq 31, 3) := by decide +kernel
theorem dX8_findsPlaces_80 : decode cX8_findsPlaces 80 = .ok (.aload_n 0, 1) := by decide +kernel
theorem dX8_findsPlaces_81 : decode cX8_findsPlaces 81 = .ok (.getfield 7, 3) := by decide +kernel
theorem dX8_findsPlaces_84 : decode cX8_findsPlaces 84 = .ok (.iload_n 1, 1) := by decide +kernel
theorem dX8_findsPlaces_85 : decode cX8_findsPlaces 85 = .ok (.iload 4, 2) := by decide +kernel
theorem dX8_findsPlaces_87 : decode cX8_findsPlaces 87 = .ok (.invokestatic 44, 3) := by decide +kernel
theorem dX8_findsPlaces_90 : decode cX8_findsPlaces 90 = .ok (.aload_n 0, 1) := by decide +kernel
theorem dX8_findsPlaces_91 : decode cX8_findsPlaces 91 = .ok (.getfield 16, 3) := by decide +kernel
theorem dX8_findsPlaces_94 : decode cX8_findsPlaces 94 = .ok (.iload_n 2, 1) := by decide +kernel
theorem dX8_findsPlaces_95 : decode cX8_findsPlaces 95 = .ok (.iload 4, 2) := by decide +kernel
theorem dX8_findsPlaces_97 : decode cX8_findsPlaces 97 = .ok (.invokestatic 44, 3) := by decide +kernel
theorem dX8_findsPlaces_100 : decode cX8_findsPlaces 100 = .ok (.iaload, 1) := by decide +kernel
theorem dX8_findsPlaces_101 : decode cX8_findsPlaces 101 = .ok (.iastore, 1) := by decide +kernel
theorem dX8_findsPlaces_102 : decode cX8_findsPlaces 102 = .ok (.iinc 4 1, 3) := by decide +kernel
theorem dX8_findsPlaces_105 : decode cX8_findsPlaces 105 = .ok (.goto (-36), 3) := by decide +kernel
theorem dX8_findsPlaces_108 : decode cX8_findsPlaces 108 = .ok (.iinc 2 1, 3) := by decide +kernel
theorem dX8_findsPlaces_111 : decode cX8_findsPlaces 111 = .ok (.goto (-71), 3) := by decide +kernel
theorem dX8_findsPlaces_114 : decode cX8_findsPlaces 114 = .ok (.iinc 1 1, 3) := by decide +kernel
theorem dX8_findsPlaces_117 : decode cX8_findsPlaces 117 = .ok (.goto (-115), 3) := by decide +kernel
theorem dX8_findsPlaces_120 : decode cX8_findsPlaces 120 = .ok (.return_, 1) := by decide +kernel
theorem dX8_parse_0 : decode cX8_parse 0 = .ok (.aload_n 0, 1) := by decide +kernel
theorem dX8_parse_1 : decode cX8_parse 1 = .ok (.iconst 0, 1) := by decide +kernel
theorem dX8_parse_2 : decode cX8_parse 2 = .ok (.putfield 37, 3) := by decide +kernel
theorem dX8_parse_5 : decode cX8_parse 5 = .ok (.aload_n 0, 1) := by decide +kernel
theorem dX8_parse_6 : decode cX8_parse 6 = .ok (.invokevirtual 172, 3) := by decide +kernel
theorem dX8_parse_9 : decode cX8_parse 9 = .ok (.aload_n 0, 1) := by decide +kernel
theorem dX8_parse_10 : decode cX8_parse 10 = .ok (.getfield 7, 3) := by decide +kernel
theorem dX8_parse_13 : decode cX8_parse 13 = .ok (.iconst 5, 1) := by decide +kernel
theorem dX8_parse_14 : decode cX8_parse 14 = .ok (.iconst 0, 1) := by decide +kernel
theorem dX8_parse_15 : decode cX8_parse 15 = .ok (.iastore, 1) := by decide +kernel
theorem dX8_parse_16 : decode cX8_parse 16 = .ok (.aload_n 0, 1) := by decide +kernel
theorem dX8_parse_17 : decode cX8_parse 17 = .ok (.iconst 0, 1) := by decide +kernel
theorem dX8_parse_18 : decode cX8_parse 18 = .ok (.putfield 183, 3) := by decide +kernel
theorem dX8_parse_21 : decode cX8_parse 21 = .ok (.aload_n 0, 1) := by decide +kernel
theorem dX8_parse_22 : decode cX8_parse 22 = .ok (.getfield 183, 3) := by decide +kernel
theorem dX8_parse_25 : decode cX8_parse 25 = .ok (.aload_n 0, 1) := by decide +kernel
theorem dX8_parse_26 : decode cX8_parse 26 = .ok (.getfield 180, 3) := by decide +kernel
theorem dX8_parse_29 : decode cX8_parse 29 = .ok (.if_icmp .ge 22, 3) := by decide +kernel
theorem dX8_parse_32 : decode cX8_parse 32 = .ok (.aload_n 0, 1) := by decide +kernel
theorem dX8_parse_33 : decode cX8_parse 33 = .ok (.invokevirtual 214, 3) := by decide +kernel
theorem dX8_parse_36 : decode cX8_parse 36 = .ok (.ifCond .ne (-15), 3) := by decide +kernel
theorem dX8_parse_39 : decode cX8_parse 39 = .ok (.aload_n 0, 1) := by decide +kernel
theorem dX8_parse_40 : decode cX8_parse 40 = .ok (.invokevirtual 175, 3) := by decide +kernel
theorem dX8_parse_43 : decode cX8_parse 43 = .ok (.bipush (-10), 2) := by decide +kernel
theorem dX8_parse_45 : decode cX8_parse 45 = .ok (.aload_n 0, 1) := by decide +kernel
theorem dX8_parse_46 : decode cX8_parse 46 = .ok (.getfield 183, 3) := by decide +kernel
theorem dX8_parse_49 : decode cX8_parse 49 = .ok (.isub, 1) := by decide +kernel
theorem dX8_parse_50 : decode cX8_parse 50 = .ok (.ireturn, 1) := by decide +kernel
theorem dX8_parse_51 : decode cX8_parse 51 = .ok (.aload_n 0, 1) := by decide +kernel
theorem dX8_parse_52 : decode cX8_parse 52 = .ok (.invokevirtual 217, 3) := by decide +kernel
theorem dX8_parse_55 : decode cX8_parse 55 = .ok (.iconst 0, 1) := by decide +kernel
theorem dX8_parse_56 : decode cX8_parse 56 = .ok (.istore_n 1, 1) := by decide +kernel
theorem dX8_parse_57 : decode cX8_parse 57 = .ok (.iload_n 1, 1) := by decide +kernel
theorem dX8_parse_58 : decode cX8_parse 58 = .ok (.sipush 463, 3) := by decide +kernel
theorem dX8_parse_61 : decode cX8_parse 61 = .ok (.if_icmp .ge 35, 3) := by decide +kernel
theorem dX8_parse_64 : decode cX8_parse 64 = .ok (.aload_n 0, 1) := by decide +kernel
theorem dX8_parse_65 : decode cX8_parse 65 = .ok (.getfield 7, 3) := by decide +kernel
theorem dX8_parse_68 : decode cX8_parse 68 = .ok (.iload_n 1, 1) := by decide +kernel
theorem dX8_parse_69 : decode cX8_parse 69 = .ok (.iaload, 1) := by decide +kernel
theorem dX8_parse_70 : decode cX8_parse 70 = .ok (.istore_n 2, 1) := by decide +kernel
theorem dX8_parse_71 : decode cX8_parse 71 = .ok (.aload_n 0, 1) := by decide +kernel
theorem dX8_parse_72 : decode cX8_parse 72 = .ok (.getfield 7, 3) := by decide +kernel
theorem dX8_parse_75 : decode cX8_parse 75 = .ok (.iload_n 1, 1) := by decide +kernel
theorem dX8_parse_76 : decode cX8_parse 76 = .ok (.aload_n 0, 1) := by decide +kernel
theorem dX8_parse_77 : decode cX8_parse 77 = .ok (.getfield 16, 3) := by decide +kernel
theorem dX8_parse_80 : decode cX8_parse 80 = .ok (.iload_n 1, 1) := by decide +kernel
theorem dX8_parse_81 : decode cX8_parse 81 = .ok (.iaload, 1) := by decide +kernel
theorem dX8_parse_82 : decode cX8_parse 82 = .ok (.iastore, 1) := by decide +kernel
theorem dX8_parse_83 : decode cX8_parse 83 = .ok (.aload_n 0, 1) := by decide +kernel
theorem dX8_parse_84 : decode cX8_parse 84 = .ok (.getfield 16, 3) := by decide +kernel
theorem dX8_parse_87 : decode cX8_parse 87 = .ok (.iload_n 1, 1) := by decide +kernel
theorem dX8_parse_88 : decode cX8_parse 88 = .ok (.iload_n 2, 1) := by decide +kernel
theorem dX8_parse_89 : decode cX8_parse 89 = .ok (.iastore, 1) := by decide +kernel
theorem dX8_parse_90 : decode cX8_parse 90 = .ok (.iinc 1 1, 3) := by decide +kernel
theorem dX8_parse_93 : decode cX8_parse 93 = .ok (.goto (-36), 3) := by decide +kernel
theorem dX8_parse_96 : decode cX8_parse 96 = .ok (.aload_n 0, 1) := by decide +kernel
theorem dX8_parse_97 : decode cX8_parse 97 = .ok (.invokevirtual 65, 3) := by decide +kernel
theorem dX8_parse_100 : decode cX8_parse 100 = .ok (.aload_n 0, 1) := by decide +kernel
theorem dX8_parse_101 : decode cX8_parse 101 = .ok (.invokevirtual 175, 3) := by decide +kernel
theorem dX8_parse_104 : decode cX8_parse 104 = .ok (.aload_n 0, 1) := by decide +kernel
theorem dX8_parse_105 : decode cX8_parse 105 = .ok (.getfield 7, 3) := by decide +kernel
theorem dX8_parse_108 : decode cX8_parse 108 = .ok (.iconst 5, 1) := by decide +kernel
theorem dX8_parse_109 : decode cX8_parse 109 = .ok (.iaload, 1) := by decide +kernel
theorem dX8_parse_110 : decode cX8_parse 110 = .ok (.ireturn, 1) := by decide +kernel
theorem dX8_undo_0 : decode cX8_undo 0 = .ok (.aload_n 0, 1) := by decide +kernel
theorem dX8_undo_1 : decode cX8_undo 1 = .ok (.aload_n 0, 1) := by decide +kernel
theorem dX8_undo_2 : decode cX8_undo 2 = .ok (.getfield 41, 3) := by decide +kernel
theorem dX8_undo_5 : decode cX8_undo 5 = .ok (.ifCond .le 7, 3) := by decide +kernel
theorem dX8_undo_8 : decode cX8_undo 8 = .ok (.iconst 1, 1) := by decide +kernel
theorem dX8_undo_9 : decode cX8_undo 9 = .ok (.goto 4, 3) := by decide +kernel
theorem dX8_undo_12 : decode cX8_undo 12 = .ok (.iconst 0, 1) := by decide +kernel
theorem dX8_undo_13 : decode cX8_undo 13 = .ok (.iconst 1, 1) := by decide +kernel
theorem dX8_undo_14 : decode cX8_undo 14 = .ok (.invokevirtual 61, 3) := by decide +kernel
theorem dX8_undo_17 : decode cX8_undo 17 = .ok (.ifCond .ne 5, 3) := by decide +kernel
theorem dX8_undo_20 : decode cX8_undo 20 = .ok (.iconst 0, 1) := by decide +kernel
theorem dX8_undo_21 : decode cX8_undo 21 = .ok (.ireturn, 1) := by decide +kernel
theorem dX8_undo_22 : decode cX8_undo 22 = .ok (.aload_n 0, 1) := by decide +kernel
theorem dX8_undo_23 : decode cX8_undo 23 = .ok (.dup, 1) := by decide +kernel
theorem dX8_undo_24 : decode cX8_undo 24 = .ok (.getfield 41, 3) := by decide +kernel
theorem dX8_undo_27 : decode cX8_undo 27 = .ok (.iconst 1, 1) := by decide +kernel
theorem dX8_undo_28 : decode cX8_undo 28 = .ok (.isub, 1) := by decide +kernel
theorem dX8_undo_29 : decode cX8_undo 29 = .ok (.putfield 41, 3) := by decide +kernel
theorem dX8_undo_32 : decode cX8_undo 32 = .ok (.iconst 0, 1) := by decide +kernel
theorem dX8_undo_33 : decode cX8_undo 33 = .ok (.istore_n 1, 1) := by decide +kernel
theorem dX8_undo_34 : decode cX8_undo 34 = .ok (.iload_n 1, 1) := by decide +kernel
theorem dX8_undo_35 : decode cX8_undo 35 = .ok (.sipush 463, 3) := by decide +kernel
theorem dX8_undo_38 : decode cX8_undo 38 = .ok (.if_icmp .ge 30, 3) := by decide +kernel
theorem dX8_undo_41 : decode cX8_undo 41 = .ok (.aload_n 0, 1) := by decide +kernel
theorem dX8_undo_42 : decode cX8_undo 42 = .ok (.getfield 7, 3) := by decide +kernel
theorem dX8_undo_45 : decode cX8_undo 45 = .ok (.iload_n 1, 1) := by decide +kernel
theorem dX8_undo_46 : decode cX8_undo 46 = .ok (.aload_n 0, 1) := by decide +kernel
theorem dX8_undo_47 : decode cX8_undo 47 = .ok (.getfield 13, 3) := by decide +kernel
theorem dX8_undo_50 : decode cX8_undo 50 = .ok (.sipush 463, 3) := by decide +kernel
theorem dX8_undo_53 : decode cX8_undo 53 = .ok (.aload_n 0, 1) := by decide +kernel
theorem dX8_undo_54 : decode cX8_undo 54 = .ok (.getfield 41, 3) := by decide +kernel
theorem dX8_undo_57 : decode cX8_undo 57 = .ok (.imul, 1) := by decide +kernel
theorem dX8_undo_58 : decode cX8_undo 58 = .ok (.iload_n 1, 1) := by decide +kernel
theorem dX8_undo_59 : decode cX8_undo 59 = .ok (.iadd, 1) := by decide +kernel
theorem dX8_undo_60 : decode cX8_undo 60 = .ok (.iaload, 1) := by decide +kernel
theorem dX8_undo_61 : decode cX8_undo 61 = .ok (.iastore, 1) := by decide +kernel
theorem dX8_undo_62 : decode cX8_undo 62 = .ok (.iinc 1 1, 3) := by decide +kernel
theorem dX8_undo_65 : decode cX8_undo 65 = .ok (.goto (-31), 3) := by decide +kernel
theorem dX8_undo_68 : decode cX8_undo 68 = .ok (.aload_n 0, 1) := by decide +kernel
theorem dX8_undo_69 : decode cX8_undo 69 = .ok (.getfield 41, 3) := by decide +kernel
theorem dX8_undo_72 : decode cX8_undo 72 = .ok (.ireturn, 1) := by decide +kernel
theorem dX8_sums_0 : decode cX8_sums 0 = .ok (.ldc2_w 220, 3) := by decide +kernel
theorem dX8_sums_3 : decode cX8_sums 3 = .ok (.lload_n 0, 1) := by decide +kernel
theorem dX8_sums_4 : decode cX8_sums 4 = .ok (.lmul, 1) := by decide +kernel
theorem dX8_sums_5 : decode cX8_sums 5 = .ok (.lload_n 2, 1) := by decide +kernel
theorem dX8_sums_6 : decode cX8_sums 6 = .ok (.ladd, 1) := by decide +kernel
theorem dX8_sums_7 : decode cX8_sums 7 = .ok (.lreturn, 1) := by decide +kernel
theorem dX8_withWord_0 : decode cX8_withWord 0 = .ok (.lload_n 1, 1) := by decide +kernel
theorem dX8_withWord_1 : decode cX8_withWord 1 = .ok (.lstore 4, 2) := by decide +kernel
theorem dX8_withWord_3 : decode cX8_withWord 3 = .ok (.iconst 0, 1) := by decide +kernel
theorem dX8_withWord_4 : decode cX8_withWord 4 = .ok (.istore 6, 2) := by decide +kernel
theorem dX8_withWord_6 : decode cX8_withWord 6 = .ok (.iload 6, 2) := by decide +kernel
theorem dX8_withWord_8 : decode cX8_withWord 8 = .ok (.bipush 6, 2) := by decide +kernel
theorem dX8_withWord_10 : decode cX8_withWord 10 = .ok (.if_icmp .ge 24, 3) := by decide +kernel
theorem dX8_withWord_13 : decode cX8_withWord 13 = .ok (.lload 4, 2) := by decide +kernel
theorem dX8_withWord_15 : decode cX8_withWord 15 = .ok (.aload_n 0, 1) := by decide +kernel
theorem dX8_withWord_16 : decode cX8_withWord 16 = .ok (.iload_n 3, 1) := by decide +kernel
theorem dX8_withWord_17 : decode cX8_withWord 17 = .ok (.iload 6, 2) := by decide +kernel
theorem dX8_withWord_19 : decode cX8_withWord 19 = .ok (.invokevirtual 98, 3) := by decide +kernel
theorem dX8_withWord_22 : decode cX8_withWord 22 = .ok (.i2l, 1) := by decide +kernel
theorem dX8_withWord_23 : decode cX8_withWord 23 = .ok (.invokestatic 222, 3) := by decide +kernel
theorem dX8_withWord_26 : decode cX8_withWord 26 = .ok (.lstore 4, 2) := by decide +kernel
theorem dX8_withWord_28 : decode cX8_withWord 28 = .ok (.iinc 6 1, 3) := by decide +kernel
theorem dX8_withWord_31 : decode cX8_withWord 31 = .ok (.goto (-25), 3) := by decide +kernel
theorem dX8_withWord_34 : decode cX8_withWord 34 = .ok (.iconst 0, 1) := by decide +kernel
theorem dX8_withWord_35 : decode cX8_withWord 35 = .ok (.istore 6, 2) := by decide +kernel
theorem dX8_withWord_37 : decode cX8_withWord 37 = .ok (.iload 6, 2) := by decide +kernel
theorem dX8_withWord_39 : decode cX8_withWord 39 = .ok (.aload_n 0, 1) := by decide +kernel
theorem dX8_withWord_40 : decode cX8_withWord 40 = .ok (.iload_n 3, 1) := by decide +kernel
theorem dX8_withWord_41 : decode cX8_withWord 41 = .ok (.iconst 0, 1) := by decide +kernel
theorem dX8_withWord_42 : decode cX8_withWord 42 = .ok (.invokevirtual 52, 3) := by decide +kernel
theorem dX8_withWord_45 : decode cX8_withWord 45 = .ok (.if_icmp .ge 26, 3) := by decide +kernel
theorem dX8_withWord_48 : decode cX8_withWord 48 = .ok (.lload 4, 2) := by decide +kernel
theorem dX8_withWord_50 : decode cX8_withWord 50 = .ok (.aload_n 0, 1) := by decide +kernel
theorem dX8_withWord_51 : decode cX8_withWord 51 = .ok (.iload_n 3, 1) := by decide +kernel
theorem dX8_withWord_52 : decode cX8_withWord 52 = .ok (.iconst 1, 1) := by decide +kernel
theorem dX8_withWord_53 : decode cX8_withWord 53 = .ok (.iload 6, 2) := by decide +kernel
theorem dX8_withWord_55 : decode cX8_withWord 55 = .ok (.iadd, 1) := by decide +kernel
theorem dX8_withWord_56 : decode cX8_withWord 56 = .ok (.invokevirtual 52, 3) := by decide +kernel
theorem dX8_withWord_59 : decode cX8_withWord 59 = .ok (.i2l, 1) := by decide +kernel
theorem dX8_withWord_60 : decode cX8_withWord 60 = .ok (.invokestatic 222, 3) := by decide +kernel
theorem dX8_withWord_63 : decode cX8_withWord 63 = .ok (.lstore 4, 2) := by decide +kernel
theorem dX8_withWord_65 : decode cX8_withWord 65 = .ok (.iinc 6 1, 3) := by decide +kernel
theorem dX8_withWord_68 : decode cX8_withWord 68 = .ok (.goto (-31), 3) := by decide +kernel
theorem dX8_withWord_71 : decode cX8_withWord 71 = .ok (.iconst 0, 1) := by decide +kernel
theorem dX8_withWord_72 : decode cX8_withWord 72 = .ok (.istore 6, 2) := by decide +kernel
theorem dX8_withWord_74 : decode cX8_withWord 74 = .ok (.iload 6, 2) := by decide +kernel
theorem dX8_withWord_76 : decode cX8_withWord 76 = .ok (.iconst 5, 1) := by decide +kernel
theorem dX8_withWord_77 : decode cX8_withWord 77 = .ok (.if_icmp .ge 41, 3) := by decide +kernel
theorem dX8_withWord_80 : decode cX8_withWord 80 = .ok (.lload 4, 2) := by decide +kernel
theorem dX8_withWord_82 : decode cX8_withWord 82 = .ok (.aload_n 0, 1) := by decide +kernel
theorem dX8_withWord_83 : decode cX8_withWord 83 = .ok (.iload_n 3, 1) := by decide +kernel
theorem dX8_withWord_84 : decode cX8_withWord 84 = .ok (.invokevirtual 101, 3) := by decide +kernel
theorem dX8_withWord_87 : decode cX8_withWord 87 = .ok (.ifCond .eq 17, 3) := by decide +kernel
theorem dX8_withWord_90 : decode cX8_withWord 90 = .ok (.aload_n 0, 1) := by decide +kernel
theorem dX8_withWord_91 : decode cX8_withWord 91 = .ok (.iload_n 3, 1) := by decide +kernel
theorem dX8_withWord_92 : decode cX8_withWord 92 = .ok (.bipush 14, 2) := by decide +kernel
theorem dX8_withWord_94 : decode cX8_withWord 94 = .ok (.iload 6, 2) := by decide +kernel
theorem dX8_withWord_96 : decode cX8_withWord 96 = .ok (.iadd, 1) := by decide +kernel
theorem dX8_withWord_97 : decode cX8_withWord 97 = .ok (.invokevirtual 52, 3) := by decide +kernel
theorem dX8_withWord_100 : decode cX8_withWord 100 = .ok (.i2l, 1) := by decide +kernel
theorem dX8_withWord_101 : decode cX8_withWord 101 = .ok (.goto 6, 3) := by decide +kernel
theorem dX8_withWord_104 : decode cX8_withWord 104 = .ok (.ldc2_w 226, 3) := by decide +kernel
theorem dX8_withWord_107 : decode cX8_withWord 107 = .ok (.invokestatic 222, 3) := by decide +kernel
theorem dX8_withWord_110 : decode cX8_withWord 110 = .ok (.lstore 4, 2) := by decide +kernel
theorem dX8_withWord_112 : decode cX8_withWord 112 = .ok (.iinc 6 1, 3) := by decide +kernel
theorem dX8_withWord_115 : decode cX8_withWord 115 = .ok (.goto (-41), 3) := by decide +kernel
theorem dX8_withWord_118 : decode cX8_withWord 118 = .ok (.lload 4, 2) := by decide +kernel
theorem dX8_withWord_120 : decode cX8_withWord 120 = .ok (.lreturn, 1) := by decide +kernel
theorem dX8_digest_0 : decode cX8_digest 0 = .ok (.ldc2_w 228, 3) := by decide +kernel
theorem dX8_digest_3 : decode cX8_digest 3 = .ok (.aload_n 0, 1) := by decide +kernel
theorem dX8_digest_4 : decode cX8_digest 4 = .ok (.getfield 180, 3) := by decide +kernel
theorem dX8_digest_7 : decode cX8_digest 7 = .ok (.i2l, 1) := by decide +kernel
theorem dX8_digest_8 : decode cX8_digest 8 = .ok (.invokestatic 222, 3) := by decide +kernel
theorem dX8_digest_11 : decode cX8_digest 11 = .ok (.lstore_n 1, 1) := by decide +kernel
theorem dX8_digest_12 : decode cX8_digest 12 = .ok (.iconst 0, 1) := by decide +kernel
theorem dX8_digest_13 : decode cX8_digest 13 = .ok (.istore_n 3, 1) := by decide +kernel
theorem dX8_digest_14 : decode cX8_digest 14 = .ok (.iload_n 3, 1) := by decide +kernel
theorem dX8_digest_15 : decode cX8_digest 15 = .ok (.bipush 8, 2) := by decide +kernel
theorem dX8_digest_17 : decode cX8_digest 17 = .ok (.if_icmp .ge 20, 3) := by decide +kernel
theorem dX8_digest_20 : decode cX8_digest 20 = .ok (.lload_n 1, 1) := by decide +kernel
theorem dX8_digest_21 : decode cX8_digest 21 = .ok (.aload_n 0, 1) := by decide +kernel
theorem dX8_digest_22 : decode cX8_digest 22 = .ok (.iload_n 3, 1) := by decide +kernel
theorem dX8_digest_23 : decode cX8_digest 23 = .ok (.invokevirtual 110, 3) := by decide +kernel
theorem dX8_digest_26 : decode cX8_digest 26 = .ok (.i2l, 1) := by decide +kernel
theorem dX8_digest_27 : decode cX8_digest 27 = .ok (.invokestatic 222, 3) := by decide +kernel
theorem dX8_digest_30 : decode cX8_digest 30 = .ok (.lstore_n 1, 1) := by decide +kernel
theorem dX8_digest_31 : decode cX8_digest 31 = .ok (.iinc 3 1, 3) := by decide +kernel
theorem dX8_digest_34 : decode cX8_digest 34 = .ok (.goto (-20), 3) := by decide +kernel
theorem dX8_digest_37 : decode cX8_digest 37 = .ok (.iconst 0, 1) := by decide +kernel
theorem dX8_digest_38 : decode cX8_digest 38 = .ok (.istore_n 3, 1) := by decide +kernel
theorem dX8_digest_39 : decode cX8_digest 39 = .ok (.iload_n 3, 1) := by decide +kernel
theorem dX8_digest_40 : decode cX8_digest 40 = .ok (.aload_n 0, 1) := by decide +kernel
theorem dX8_digest_41 : decode cX8_digest 41 = .ok (.getfield 7, 3) := by decide +kernel
theorem dX8_digest_44 : decode cX8_digest 44 = .ok (.iconst 5, 1) := by decide +kernel
theorem dX8_digest_45 : decode cX8_digest 45 = .ok (.iaload, 1) := by decide +kernel
theorem dX8_digest_46 : decode cX8_digest 46 = .ok (.if_icmp .ge 16, 3) := by decide +kernel
theorem dX8_digest_49 : decode cX8_digest 49 = .ok (.aload_n 0, 1) := by decide +kernel
theorem dX8_digest_50 : decode cX8_digest 50 = .ok (.lload_n 1, 1) := by decide +kernel
theorem dX8_digest_51 : decode cX8_digest 51 = .ok (.iload_n 3, 1) := by decide +kernel
theorem dX8_digest_52 : decode cX8_digest 52 = .ok (.invokevirtual 230, 3) := by decide +kernel
theorem dX8_digest_55 : decode cX8_digest 55 = .ok (.lstore_n 1, 1) := by decide +kernel
theorem dX8_digest_56 : decode cX8_digest 56 = .ok (.iinc 3 1, 3) := by decide +kernel
theorem dX8_digest_59 : decode cX8_digest 59 = .ok (.goto (-20), 3) := by decide +kernel
theorem dX8_digest_62 : decode cX8_digest 62 = .ok (.lload_n 1, 1) := by decide +kernel
theorem dX8_digest_63 : decode cX8_digest 63 = .ok (.aload_n 0, 1) := by decide +kernel
theorem dX8_digest_64 : decode cX8_digest 64 = .ok (.invokevirtual 234, 3) := by decide +kernel
theorem dX8_digest_67 : decode cX8_digest 67 = .ok (.i2l, 1) := by decide +kernel
theorem dX8_digest_68 : decode cX8_digest 68 = .ok (.invokestatic 222, 3) := by decide +kernel
theorem dX8_digest_71 : decode cX8_digest 71 = .ok (.lstore_n 1, 1) := by decide +kernel
theorem dX8_digest_72 : decode cX8_digest 72 = .ok (.iconst 0, 1) := by decide +kernel
theorem dX8_digest_73 : decode cX8_digest 73 = .ok (.istore_n 3, 1) := by decide +kernel
theorem dX8_digest_74 : decode cX8_digest 74 = .ok (.iload_n 3, 1) := by decide +kernel
theorem dX8_digest_75 : decode cX8_digest 75 = .ok (.iconst 5, 1) := by decide +kernel
theorem dX8_digest_76 : decode cX8_digest 76 = .ok (.if_icmp .ge 20, 3) := by decide +kernel
theorem dX8_digest_79 : decode cX8_digest 79 = .ok (.lload_n 1, 1) := by decide +kernel
theorem dX8_digest_80 : decode cX8_digest 80 = .ok (.aload_n 0, 1) := by decide +kernel
theorem dX8_digest_81 : decode cX8_digest 81 = .ok (.iload_n 3, 1) := by decide +kernel
theorem dX8_digest_82 : decode cX8_digest 82 = .ok (.invokevirtual 166, 3) := by decide +kernel
theorem dX8_digest_85 : decode cX8_digest 85 = .ok (.i2l, 1) := by decide +kernel
theorem dX8_digest_86 : decode cX8_digest 86 = .ok (.invokestatic 222, 3) := by decide +kernel
theorem dX8_digest_89 : decode cX8_digest 89 = .ok (.lstore_n 1, 1) := by decide +kernel
theorem dX8_digest_90 : decode cX8_digest 90 = .ok (.iinc 3 1, 3) := by decide +kernel
theorem dX8_digest_93 : decode cX8_digest 93 = .ok (.goto (-19), 3) := by decide +kernel
theorem dX8_digest_96 : decode cX8_digest 96 = .ok (.aload_n 0, 1) := by decide +kernel
theorem dX8_digest_97 : decode cX8_digest 97 = .ok (.iconst 0, 1) := by decide +kernel
theorem dX8_digest_98 : decode cX8_digest 98 = .ok (.putfield 37, 3) := by decide +kernel
theorem dX8_digest_101 : decode cX8_digest 101 = .ok (.lload_n 1, 1) := by decide +kernel
theorem dX8_digest_102 : decode cX8_digest 102 = .ok (.aload_n 0, 1) := by decide +kernel
theorem dX8_digest_103 : decode cX8_digest 103 = .ok (.getfield 41, 3) := by decide +kernel
theorem dX8_digest_106 : decode cX8_digest 106 = .ok (.i2l, 1) := by decide +kernel
theorem dX8_digest_107 : decode cX8_digest 107 = .ok (.invokestatic 222, 3) := by decide +kernel
theorem dX8_digest_110 : decode cX8_digest 110 = .ok (.lreturn, 1) := by decide +kernel
