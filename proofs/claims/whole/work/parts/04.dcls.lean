theorem dX0_init_0 : decode cX0_init 0 = .ok (.aload_n 0, 1) := by decide +kernel
theorem dX0_init_1 : decode cX0_init 1 = .ok (.invokespecial 1, 3) := by decide +kernel
theorem dX0_init_4 : decode cX0_init 4 = .ok (.return_, 1) := by decide +kernel
theorem dX0_copyFrom_0 : decode cX0_copyFrom 0 = .ok (.aload_n 0, 1) := by decide +kernel
theorem dX0_copyFrom_1 : decode cX0_copyFrom 1 = .ok (.aload_n 1, 1) := by decide +kernel
theorem dX0_copyFrom_2 : decode cX0_copyFrom 2 = .ok (.getfield 7, 3) := by decide +kernel
theorem dX0_copyFrom_5 : decode cX0_copyFrom 5 = .ok (.putfield 7, 3) := by decide +kernel
theorem dX0_copyFrom_8 : decode cX0_copyFrom 8 = .ok (.aload_n 0, 1) := by decide +kernel
theorem dX0_copyFrom_9 : decode cX0_copyFrom 9 = .ok (.aload_n 1, 1) := by decide +kernel
theorem dX0_copyFrom_10 : decode cX0_copyFrom 10 = .ok (.getfield 13, 3) := by decide +kernel
theorem dX0_copyFrom_13 : decode cX0_copyFrom 13 = .ok (.putfield 13, 3) := by decide +kernel
theorem dX0_copyFrom_16 : decode cX0_copyFrom 16 = .ok (.aload_n 0, 1) := by decide +kernel
theorem dX0_copyFrom_17 : decode cX0_copyFrom 17 = .ok (.aload_n 1, 1) := by decide +kernel
theorem dX0_copyFrom_18 : decode cX0_copyFrom 18 = .ok (.getfield 16, 3) := by decide +kernel
theorem dX0_copyFrom_21 : decode cX0_copyFrom 21 = .ok (.putfield 16, 3) := by decide +kernel
theorem dX0_copyFrom_24 : decode cX0_copyFrom 24 = .ok (.aload_n 0, 1) := by decide +kernel
theorem dX0_copyFrom_25 : decode cX0_copyFrom 25 = .ok (.aload_n 1, 1) := by decide +kernel
theorem dX0_copyFrom_26 : decode cX0_copyFrom 26 = .ok (.getfield 20, 3) := by decide +kernel
theorem dX0_copyFrom_29 : decode cX0_copyFrom 29 = .ok (.putfield 20, 3) := by decide +kernel
theorem dX0_copyFrom_32 : decode cX0_copyFrom 32 = .ok (.aload_n 0, 1) := by decide +kernel
theorem dX0_copyFrom_33 : decode cX0_copyFrom 33 = .ok (.aload_n 1, 1) := by decide +kernel
theorem dX0_copyFrom_34 : decode cX0_copyFrom 34 = .ok (.getfield 23, 3) := by decide +kernel
theorem dX0_copyFrom_37 : decode cX0_copyFrom 37 = .ok (.putfield 23, 3) := by decide +kernel
theorem dX0_copyFrom_40 : decode cX0_copyFrom 40 = .ok (.aload_n 0, 1) := by decide +kernel
theorem dX0_copyFrom_41 : decode cX0_copyFrom 41 = .ok (.aload_n 1, 1) := by decide +kernel
theorem dX0_copyFrom_42 : decode cX0_copyFrom 42 = .ok (.getfield 26, 3) := by decide +kernel
theorem dX0_copyFrom_45 : decode cX0_copyFrom 45 = .ok (.putfield 26, 3) := by decide +kernel
theorem dX0_copyFrom_48 : decode cX0_copyFrom 48 = .ok (.return_, 1) := by decide +kernel
theorem dX0_standAround_0 : decode cX0_standAround 0 = .ok (.aload_n 0, 1) := by decide +kernel
theorem dX0_standAround_1 : decode cX0_standAround 1 = .ok (.iload_n 1, 1) := by decide +kernel
theorem dX0_standAround_2 : decode cX0_standAround 2 = .ok (.aload_n 0, 1) := by decide +kernel
theorem dX0_standAround_3 : decode cX0_standAround 3 = .ok (.getfield 23, 3) := by decide +kernel
theorem dX0_standAround_6 : decode cX0_standAround 6 = .ok (.iconst 2, 1) := by decide +kernel
theorem dX0_standAround_7 : decode cX0_standAround 7 = .ok (.idiv, 1) := by decide +kernel
theorem dX0_standAround_8 : decode cX0_standAround 8 = .ok (.isub, 1) := by decide +kernel
theorem dX0_standAround_9 : decode cX0_standAround 9 = .ok (.putfield 16, 3) := by decide +kernel
theorem dX0_standAround_12 : decode cX0_standAround 12 = .ok (.aload_n 0, 1) := by decide +kernel
theorem dX0_standAround_13 : decode cX0_standAround 13 = .ok (.iload_n 2, 1) := by decide +kernel
theorem dX0_standAround_14 : decode cX0_standAround 14 = .ok (.aload_n 0, 1) := by decide +kernel
theorem dX0_standAround_15 : decode cX0_standAround 15 = .ok (.getfield 26, 3) := by decide +kernel
theorem dX0_standAround_18 : decode cX0_standAround 18 = .ok (.iconst 2, 1) := by decide +kernel
theorem dX0_standAround_19 : decode cX0_standAround 19 = .ok (.idiv, 1) := by decide +kernel
theorem dX0_standAround_20 : decode cX0_standAround 20 = .ok (.isub, 1) := by decide +kernel
theorem dX0_standAround_21 : decode cX0_standAround 21 = .ok (.putfield 20, 3) := by decide +kernel
theorem dX0_standAround_24 : decode cX0_standAround 24 = .ok (.return_, 1) := by decide +kernel
theorem dX0_right_0 : decode cX0_right 0 = .ok (.aload_n 0, 1) := by decide +kernel
theorem dX0_right_1 : decode cX0_right 1 = .ok (.getfield 16, 3) := by decide +kernel
theorem dX0_right_4 : decode cX0_right 4 = .ok (.aload_n 0, 1) := by decide +kernel
theorem dX0_right_5 : decode cX0_right 5 = .ok (.getfield 23, 3) := by decide +kernel
theorem dX0_right_8 : decode cX0_right 8 = .ok (.iadd, 1) := by decide +kernel
theorem dX0_right_9 : decode cX0_right 9 = .ok (.ireturn, 1) := by decide +kernel
theorem dX0_bottom_0 : decode cX0_bottom 0 = .ok (.aload_n 0, 1) := by decide +kernel
theorem dX0_bottom_1 : decode cX0_bottom 1 = .ok (.getfield 20, 3) := by decide +kernel
theorem dX0_bottom_4 : decode cX0_bottom 4 = .ok (.aload_n 0, 1) := by decide +kernel
theorem dX0_bottom_5 : decode cX0_bottom 5 = .ok (.getfield 26, 3) := by decide +kernel
theorem dX0_bottom_8 : decode cX0_bottom 8 = .ok (.iadd, 1) := by decide +kernel
theorem dX0_bottom_9 : decode cX0_bottom 9 = .ok (.ireturn, 1) := by decide +kernel
theorem dX0_pointColumn_0 : decode cX0_pointColumn 0 = .ok (.aload_n 0, 1) := by decide +kernel
theorem dX0_pointColumn_1 : decode cX0_pointColumn 1 = .ok (.getfield 16, 3) := by decide +kernel
theorem dX0_pointColumn_4 : decode cX0_pointColumn 4 = .ok (.aload_n 0, 1) := by decide +kernel
theorem dX0_pointColumn_5 : decode cX0_pointColumn 5 = .ok (.getfield 23, 3) := by decide +kernel
theorem dX0_pointColumn_8 : decode cX0_pointColumn 8 = .ok (.iconst 2, 1) := by decide +kernel
theorem dX0_pointColumn_9 : decode cX0_pointColumn 9 = .ok (.idiv, 1) := by decide +kernel
theorem dX0_pointColumn_10 : decode cX0_pointColumn 10 = .ok (.iadd, 1) := by decide +kernel
theorem dX0_pointColumn_11 : decode cX0_pointColumn 11 = .ok (.ireturn, 1) := by decide +kernel
theorem dX0_pointRow_0 : decode cX0_pointRow 0 = .ok (.aload_n 0, 1) := by decide +kernel
theorem dX0_pointRow_1 : decode cX0_pointRow 1 = .ok (.getfield 20, 3) := by decide +kernel
theorem dX0_pointRow_4 : decode cX0_pointRow 4 = .ok (.aload_n 0, 1) := by decide +kernel
theorem dX0_pointRow_5 : decode cX0_pointRow 5 = .ok (.getfield 26, 3) := by decide +kernel
theorem dX0_pointRow_8 : decode cX0_pointRow 8 = .ok (.iconst 2, 1) := by decide +kernel
theorem dX0_pointRow_9 : decode cX0_pointRow 9 = .ok (.idiv, 1) := by decide +kernel
theorem dX0_pointRow_10 : decode cX0_pointRow 10 = .ok (.iadd, 1) := by decide +kernel
theorem dX0_pointRow_11 : decode cX0_pointRow 11 = .ok (.ireturn, 1) := by decide +kernel
theorem dX0_hasColumn_0 : decode cX0_hasColumn 0 = .ok (.iload_n 1, 1) := by decide +kernel
theorem dX0_hasColumn_1 : decode cX0_hasColumn 1 = .ok (.aload_n 0, 1) := by decide +kernel
theorem dX0_hasColumn_2 : decode cX0_hasColumn 2 = .ok (.getfield 16, 3) := by decide +kernel
theorem dX0_hasColumn_5 : decode cX0_hasColumn 5 = .ok (.if_icmp .lt 15, 3) := by decide +kernel
theorem dX0_hasColumn_8 : decode cX0_hasColumn 8 = .ok (.iload_n 1, 1) := by decide +kernel
theorem dX0_hasColumn_9 : decode cX0_hasColumn 9 = .ok (.aload_n 0, 1) := by decide +kernel
theorem dX0_hasColumn_10 : decode cX0_hasColumn 10 = .ok (.invokevirtual 29, 3) := by decide +kernel
theorem dX0_hasColumn_13 : decode cX0_hasColumn 13 = .ok (.if_icmp .ge 7, 3) := by decide +kernel
theorem dX0_hasColumn_16 : decode cX0_hasColumn 16 = .ok (.iconst 1, 1) := by decide +kernel
theorem dX0_hasColumn_17 : decode cX0_hasColumn 17 = .ok (.goto 4, 3) := by decide +kernel
theorem dX0_hasColumn_20 : decode cX0_hasColumn 20 = .ok (.iconst 0, 1) := by decide +kernel
theorem dX0_hasColumn_21 : decode cX0_hasColumn 21 = .ok (.ireturn, 1) := by decide +kernel
theorem dX0_hasRow_0 : decode cX0_hasRow 0 = .ok (.iload_n 1, 1) := by decide +kernel
theorem dX0_hasRow_1 : decode cX0_hasRow 1 = .ok (.aload_n 0, 1) := by decide +kernel
theorem dX0_hasRow_2 : decode cX0_hasRow 2 = .ok (.getfield 20, 3) := by decide +kernel
theorem dX0_hasRow_5 : decode cX0_hasRow 5 = .ok (.if_icmp .lt 15, 3) := by decide +kernel
theorem dX0_hasRow_8 : decode cX0_hasRow 8 = .ok (.iload_n 1, 1) := by decide +kernel
theorem dX0_hasRow_9 : decode cX0_hasRow 9 = .ok (.aload_n 0, 1) := by decide +kernel
theorem dX0_hasRow_10 : decode cX0_hasRow 10 = .ok (.invokevirtual 33, 3) := by decide +kernel
theorem dX0_hasRow_13 : decode cX0_hasRow 13 = .ok (.if_icmp .ge 7, 3) := by decide +kernel
theorem dX0_hasRow_16 : decode cX0_hasRow 16 = .ok (.iconst 1, 1) := by decide +kernel
theorem dX0_hasRow_17 : decode cX0_hasRow 17 = .ok (.goto 4, 3) := by decide +kernel
theorem dX0_hasRow_20 : decode cX0_hasRow 20 = .ok (.iconst 0, 1) := by decide +kernel
theorem dX0_hasRow_21 : decode cX0_hasRow 21 = .ok (.ireturn, 1) := by decide +kernel
theorem dX0_meets_0 : decode cX0_meets 0 = .ok (.aload_n 0, 1) := by decide +kernel
theorem dX0_meets_1 : decode cX0_meets 1 = .ok (.getfield 7, 3) := by decide +kernel
theorem dX0_meets_4 : decode cX0_meets 4 = .ok (.ifCond .eq 23, 3) := by decide +kernel
theorem dX0_meets_7 : decode cX0_meets 7 = .ok (.aload_n 1, 1) := by decide +kernel
theorem dX0_meets_8 : decode cX0_meets 8 = .ok (.getfield 7, 3) := by decide +kernel
theorem dX0_meets_11 : decode cX0_meets 11 = .ok (.ifCond .eq 16, 3) := by decide +kernel
theorem dX0_meets_14 : decode cX0_meets 14 = .ok (.aload_n 0, 1) := by decide +kernel
theorem dX0_meets_15 : decode cX0_meets 15 = .ok (.aload_n 1, 1) := by decide +kernel
theorem dX0_meets_16 : decode cX0_meets 16 = .ok (.iconst 0, 1) := by decide +kernel
theorem dX0_meets_17 : decode cX0_meets 17 = .ok (.invokevirtual 36, 3) := by decide +kernel
theorem dX0_meets_20 : decode cX0_meets 20 = .ok (.ifCond .ne 7, 3) := by decide +kernel
theorem dX0_meets_23 : decode cX0_meets 23 = .ok (.iconst 1, 1) := by decide +kernel
theorem dX0_meets_24 : decode cX0_meets 24 = .ok (.goto 4, 3) := by decide +kernel
theorem dX0_meets_27 : decode cX0_meets 27 = .ok (.iconst 0, 1) := by decide +kernel
theorem dX0_meets_28 : decode cX0_meets 28 = .ok (.ireturn, 1) := by decide +kernel
theorem dX0_isApart_0 : decode cX0_isApart 0 = .ok (.aload_n 1, 1) := by decide +kernel
theorem dX0_isApart_1 : decode cX0_isApart 1 = .ok (.getfield 16, 3) := by decide +kernel
theorem dX0_isApart_4 : decode cX0_isApart 4 = .ok (.aload_n 0, 1) := by decide +kernel
theorem dX0_isApart_5 : decode cX0_isApart 5 = .ok (.getfield 16, 3) := by decide +kernel
theorem dX0_isApart_8 : decode cX0_isApart 8 = .ok (.isub, 1) := by decide +kernel
theorem dX0_isApart_9 : decode cX0_isApart 9 = .ok (.aload_n 0, 1) := by decide +kernel
theorem dX0_isApart_10 : decode cX0_isApart 10 = .ok (.getfield 23, 3) := by decide +kernel
theorem dX0_isApart_13 : decode cX0_isApart 13 = .ok (.isub, 1) := by decide +kernel
theorem dX0_isApart_14 : decode cX0_isApart 14 = .ok (.iload_n 2, 1) := by decide +kernel
theorem dX0_isApart_15 : decode cX0_isApart 15 = .ok (.if_icmp .ge 57, 3) := by decide +kernel
theorem dX0_isApart_18 : decode cX0_isApart 18 = .ok (.aload_n 0, 1) := by decide +kernel
theorem dX0_isApart_19 : decode cX0_isApart 19 = .ok (.getfield 16, 3) := by decide +kernel
theorem dX0_isApart_22 : decode cX0_isApart 22 = .ok (.aload_n 1, 1) := by decide +kernel
theorem dX0_isApart_23 : decode cX0_isApart 23 = .ok (.getfield 16, 3) := by decide +kernel
theorem dX0_isApart_26 : decode cX0_isApart 26 = .ok (.isub, 1) := by decide +kernel
theorem dX0_isApart_27 : decode cX0_isApart 27 = .ok (.aload_n 1, 1) := by decide +kernel
theorem dX0_isApart_28 : decode cX0_isApart 28 = .ok (.getfield 23, 3) := by decide +kernel
theorem dX0_isApart_31 : decode cX0_isApart 31 = .ok (.isub, 1) := by decide +kernel
theorem dX0_isApart_32 : decode cX0_isApart 32 = .ok (.iload_n 2, 1) := by decide +kernel
theorem dX0_isApart_33 : decode cX0_isApart 33 = .ok (.if_icmp .ge 39, 3) := by decide +kernel
theorem dX0_isApart_36 : decode cX0_isApart 36 = .ok (.aload_n 1, 1) := by decide +kernel
theorem dX0_isApart_37 : decode cX0_isApart 37 = .ok (.getfield 20, 3) := by decide +kernel
theorem dX0_isApart_40 : decode cX0_isApart 40 = .ok (.aload_n 0, 1) := by decide +kernel
theorem dX0_isApart_41 : decode cX0_isApart 41 = .ok (.getfield 20, 3) := by decide +kernel
theorem dX0_isApart_44 : decode cX0_isApart 44 = .ok (.isub, 1) := by decide +kernel
theorem dX0_isApart_45 : decode cX0_isApart 45 = .ok (.aload_n 0, 1) := by decide +kernel
theorem dX0_isApart_46 : decode cX0_isApart 46 = .ok (.getfield 26, 3) := by decide +kernel
theorem dX0_isApart_49 : decode cX0_isApart 49 = .ok (.isub, 1) := by decide +kernel
theorem dX0_isApart_50 : decode cX0_isApart 50 = .ok (.iload_n 2, 1) := by decide +kernel
theorem dX0_isApart_51 : decode cX0_isApart 51 = .ok (.if_icmp .ge 21, 3) := by decide +kernel
theorem dX0_isApart_54 : decode cX0_isApart 54 = .ok (.aload_n 0, 1) := by decide +kernel
theorem dX0_isApart_55 : decode cX0_isApart 55 = .ok (.getfield 20, 3) := by decide +kernel
theorem dX0_isApart_58 : decode cX0_isApart 58 = .ok (.aload_n 1, 1) := by decide +kernel
theorem dX0_isApart_59 : decode cX0_isApart 59 = .ok (.getfield 20, 3) := by decide +kernel
theorem dX0_isApart_62 : decode cX0_isApart 62 = .ok (.isub, 1) := by decide +kernel
theorem dX0_isApart_63 : decode cX0_isApart 63 = .ok (.aload_n 1, 1) := by decide +kernel
theorem dX0_isApart_64 : decode cX0_isApart 64 = .ok (.getfield 26, 3) := by decide +kernel
theorem dX0_isApart_67 : decode cX0_isApart 67 = .ok (.isub, 1) := by decide +kernel
theorem dX0_isApart_68 : decode cX0_isApart 68 = .ok (.iload_n 2, 1) := by decide +kernel
theorem dX0_isApart_69 : decode cX0_isApart 69 = .ok (.if_icmp .lt 7, 3) := by decide +kernel
theorem dX0_isApart_72 : decode cX0_isApart 72 = .ok (.iconst 1, 1) := by decide +kernel
theorem dX0_isApart_73 : decode cX0_isApart 73 = .ok (.goto 4, 3) := by decide +kernel
theorem dX0_isApart_76 : decode cX0_isApart 76 = .ok (.iconst 0, 1) := by decide +kernel
theorem dX0_isApart_77 : decode cX0_isApart 77 = .ok (.ireturn, 1) := by decide +kernel
theorem dX0_hasSameCells_0 : decode cX0_hasSameCells 0 = .ok (.aload_n 0, 1) := by decide +kernel
theorem dX0_hasSameCells_1 : decode cX0_hasSameCells 1 = .ok (.getfield 16, 3) := by decide +kernel
theorem dX0_hasSameCells_4 : decode cX0_hasSameCells 4 = .ok (.aload_n 1, 1) := by decide +kernel
theorem dX0_hasSameCells_5 : decode cX0_hasSameCells 5 = .ok (.getfield 16, 3) := by decide +kernel
theorem dX0_hasSameCells_8 : decode cX0_hasSameCells 8 = .ok (.if_icmp .ne 40, 3) := by decide +kernel
theorem dX0_hasSameCells_11 : decode cX0_hasSameCells 11 = .ok (.aload_n 0, 1) := by decide +kernel
theorem dX0_hasSameCells_12 : decode cX0_hasSameCells 12 = .ok (.getfield 20, 3) := by decide +kernel
theorem dX0_hasSameCells_15 : decode cX0_hasSameCells 15 = .ok (.aload_n 1, 1) := by decide +kernel
theorem dX0_hasSameCells_16 : decode cX0_hasSameCells 16 = .ok (.getfield 20, 3) := by decide +kernel
theorem dX0_hasSameCells_19 : decode cX0_hasSameCells 19 = .ok (.if_icmp .ne 29, 3) := by decide +kernel
theorem dX0_hasSameCells_22 : decode cX0_hasSameCells 22 = .ok (.aload_n 0, 1) := by decide +kernel
theorem dX0_hasSameCells_23 : decode cX0_hasSameCells 23 = .ok (.getfield 23, 3) := by decide +kernel
theorem dX0_hasSameCells_26 : decode cX0_hasSameCells 26 = .ok (.aload_n 1, 1) := by decide +kernel
theorem dX0_hasSameCells_27 : decode cX0_hasSameCells 27 = .ok (.getfield 23, 3) := by decide +kernel
theorem dX0_hasSameCells_30 : decode cX0_hasSameCells 30 = .ok (.if_icmp .ne 18, 3) := by decide +kernel
theorem dX0_hasSameCells_33 : decode cX0_hasSameCells 33 = .ok (.aload_n 0, 1) := by decide +kernel
theorem dX0_hasSameCells_34 : decode cX0_hasSameCells 34 = .ok (.getfield 26, 3) := by decide +kernel
theorem dX0_hasSameCells_37 : decode cX0_hasSameCells 37 = .ok (.aload_n 1, 1) := by decide +kernel
theorem dX0_hasSameCells_38 : decode cX0_hasSameCells 38 = .ok (.getfield 26, 3) := by decide +kernel
theorem dX0_hasSameCells_41 : decode cX0_hasSameCells 41 = .ok (.if_icmp .ne 7, 3) := by decide +kernel
theorem dX0_hasSameCells_44 : decode cX0_hasSameCells 44 = .ok (.iconst 1, 1) := by decide +kernel
theorem dX0_hasSameCells_45 : decode cX0_hasSameCells 45 = .ok (.goto 4, 3) := by decide +kernel
theorem dX0_hasSameCells_48 : decode cX0_hasSameCells 48 = .ok (.iconst 0, 1) := by decide +kernel
theorem dX0_hasSameCells_49 : decode cX0_hasSameCells 49 = .ok (.ireturn, 1) := by decide +kernel
theorem dX0_distanceTo_0 : decode cX0_distanceTo 0 = .ok (.aload_n 0, 1) := by decide +kernel
theorem dX0_distanceTo_1 : decode cX0_distanceTo 1 = .ok (.invokevirtual 40, 3) := by decide +kernel
theorem dX0_distanceTo_4 : decode cX0_distanceTo 4 = .ok (.aload_n 1, 1) := by decide +kernel
theorem dX0_distanceTo_5 : decode cX0_distanceTo 5 = .ok (.invokevirtual 40, 3) := by decide +kernel
theorem dX0_distanceTo_8 : decode cX0_distanceTo 8 = .ok (.isub, 1) := by decide +kernel
theorem dX0_distanceTo_9 : decode cX0_distanceTo 9 = .ok (.invokestatic 43, 3) := by decide +kernel
theorem dX0_distanceTo_12 : decode cX0_distanceTo 12 = .ok (.aload_n 0, 1) := by decide +kernel
theorem dX0_distanceTo_13 : decode cX0_distanceTo 13 = .ok (.invokevirtual 49, 3) := by decide +kernel
theorem dX0_distanceTo_16 : decode cX0_distanceTo 16 = .ok (.aload_n 1, 1) := by decide +kernel
theorem dX0_distanceTo_17 : decode cX0_distanceTo 17 = .ok (.invokevirtual 49, 3) := by decide +kernel
theorem dX0_distanceTo_20 : decode cX0_distanceTo 20 = .ok (.isub, 1) := by decide +kernel
theorem dX0_distanceTo_21 : decode cX0_distanceTo 21 = .ok (.invokestatic 43, 3) := by decide +kernel
theorem dX0_distanceTo_24 : decode cX0_distanceTo 24 = .ok (.iadd, 1) := by decide +kernel
theorem dX0_distanceTo_25 : decode cX0_distanceTo 25 = .ok (.ireturn, 1) := by decide +kernel
theorem dX1_init_0 : decode cX1_init 0 = .ok (.aload_n 0, 1) := by decide +kernel
theorem dX1_init_1 : decode cX1_init 1 = .ok (.invokespecial 3, 3) := by decide +kernel
theorem dX1_init_4 : decode cX1_init 4 = .ok (.aload_n 0, 1) := by decide +kernel
theorem dX1_init_5 : decode cX1_init 5 = .ok (.bipush 24, 2) := by decide +kernel
theorem dX1_init_7 : decode cX1_init 7 = .ok (.anewarray 9, 3) := by decide +kernel
theorem dX1_init_10 : decode cX1_init 10 = .ok (.putfield 11, 3) := by decide +kernel
theorem dX1_init_13 : decode cX1_init 13 = .ok (.iconst 0, 1) := by decide +kernel
theorem dX1_init_14 : decode cX1_init 14 = .ok (.istore_n 1, 1) := by decide +kernel
theorem dX1_init_15 : decode cX1_init 15 = .ok (.iload_n 1, 1) := by decide +kernel
theorem dX1_init_16 : decode cX1_init 16 = .ok (.bipush 24, 2) := by decide +kernel
theorem dX1_init_18 : decode cX1_init 18 = .ok (.if_icmp .ge 22, 3) := by decide +kernel
theorem dX1_init_21 : decode cX1_init 21 = .ok (.aload_n 0, 1) := by decide +kernel
theorem dX1_init_22 : decode cX1_init 22 = .ok (.getfield 11, 3) := by decide +kernel
theorem dX1_init_25 : decode cX1_init 25 = .ok (.iload_n 1, 1) := by decide +kernel
theorem dX1_init_26 : decode cX1_init 26 = .ok (.new 9, 3) := by decide +kernel
theorem dX1_init_29 : decode cX1_init 29 = .ok (.dup, 1) := by decide +kernel
theorem dX1_init_30 : decode cX1_init 30 = .ok (.invokespecial 17, 3) := by decide +kernel
theorem dX1_init_33 : decode cX1_init 33 = .ok (.aastore, 1) := by decide +kernel
theorem dX1_init_34 : decode cX1_init 34 = .ok (.iinc 1 1, 3) := by decide +kernel
theorem dX1_init_37 : decode cX1_init 37 = .ok (.goto (-22), 3) := by decide +kernel
theorem dX1_init_40 : decode cX1_init 40 = .ok (.aload_n 0, 1) := by decide +kernel
theorem dX1_init_41 : decode cX1_init 41 = .ok (.bipush 60, 2) := by decide +kernel
theorem dX1_init_43 : decode cX1_init 43 = .ok (.putfield 18, 3) := by decide +kernel
theorem dX1_init_46 : decode cX1_init 46 = .ok (.aload_n 0, 1) := by decide +kernel
theorem dX1_init_47 : decode cX1_init 47 = .ok (.bipush 40, 2) := by decide +kernel
theorem dX1_init_49 : decode cX1_init 49 = .ok (.putfield 22, 3) := by decide +kernel
theorem dX1_init_52 : decode cX1_init 52 = .ok (.aload_n 0, 1) := by decide +kernel
theorem dX1_init_53 : decode cX1_init 53 = .ok (.iconst 2, 1) := by decide +kernel
theorem dX1_init_54 : decode cX1_init 54 = .ok (.putfield 25, 3) := by decide +kernel
theorem dX1_init_57 : decode cX1_init 57 = .ok (.aload_n 0, 1) := by decide +kernel
theorem dX1_init_58 : decode cX1_init 58 = .ok (.iconst 5, 1) := by decide +kernel
theorem dX1_init_59 : decode cX1_init 59 = .ok (.putfield 28, 3) := by decide +kernel
theorem dX1_init_62 : decode cX1_init 62 = .ok (.return_, 1) := by decide +kernel
theorem dX1_copyFrom_0 : decode cX1_copyFrom 0 = .ok (.aload_n 0, 1) := by decide +kernel
theorem dX1_copyFrom_1 : decode cX1_copyFrom 1 = .ok (.aload_n 1, 1) := by decide +kernel
theorem dX1_copyFrom_2 : decode cX1_copyFrom 2 = .ok (.invokevirtual 31, 3) := by decide +kernel
theorem dX1_copyFrom_5 : decode cX1_copyFrom 5 = .ok (.aload_n 0, 1) := by decide +kernel
theorem dX1_copyFrom_6 : decode cX1_copyFrom 6 = .ok (.aload_n 1, 1) := by decide +kernel
theorem dX1_copyFrom_7 : decode cX1_copyFrom 7 = .ok (.getfield 35, 3) := by decide +kernel
theorem dX1_copyFrom_10 : decode cX1_copyFrom 10 = .ok (.putfield 35, 3) := by decide +kernel
theorem dX1_copyFrom_13 : decode cX1_copyFrom 13 = .ok (.iconst 0, 1) := by decide +kernel
theorem dX1_copyFrom_14 : decode cX1_copyFrom 14 = .ok (.istore_n 2, 1) := by decide +kernel
theorem dX1_copyFrom_15 : decode cX1_copyFrom 15 = .ok (.iload_n 2, 1) := by decide +kernel
theorem dX1_copyFrom_16 : decode cX1_copyFrom 16 = .ok (.aload_n 0, 1) := by decide +kernel
theorem dX1_copyFrom_17 : decode cX1_copyFrom 17 = .ok (.getfield 35, 3) := by decide +kernel
theorem dX1_copyFrom_20 : decode cX1_copyFrom 20 = .ok (.if_icmp .ge 24, 3) := by decide +kernel
theorem dX1_copyFrom_23 : decode cX1_copyFrom 23 = .ok (.aload_n 0, 1) := by decide +kernel
theorem dX1_copyFrom_24 : decode cX1_copyFrom 24 = .ok (.getfield 11, 3) := by decide +kernel
theorem dX1_copyFrom_27 : decode cX1_copyFrom 27 = .ok (.iload_n 2, 1) := by decide +kernel
theorem dX1_copyFrom_28 : decode cX1_copyFrom 28 = .ok (.aaload, 1) := by decide +kernel
theorem dX1_copyFrom_29 : decode cX1_copyFrom 29 = .ok (.aload_n 1, 1) := by decide +kernel
theorem dX1_copyFrom_30 : decode cX1_copyFrom 30 = .ok (.getfield 11, 3) := by decide +kernel
theorem dX1_copyFrom_33 : decode cX1_copyFrom 33 = .ok (.iload_n 2, 1) := by decide +kernel
theorem dX1_copyFrom_34 : decode cX1_copyFrom 34 = .ok (.aaload, 1) := by decide +kernel
theorem dX1_copyFrom_35 : decode cX1_copyFrom 35 = .ok (.invokevirtual 38, 3) := by decide +kernel
theorem dX1_copyFrom_38 : decode cX1_copyFrom 38 = .ok (.iinc 2 1, 3) := by decide +kernel
theorem dX1_copyFrom_41 : decode cX1_copyFrom 41 = .ok (.goto (-26), 3) := by decide +kernel
theorem dX1_copyFrom_44 : decode cX1_copyFrom 44 = .ok (.return_, 1) := by decide +kernel
theorem dX1_copySettings_0 : decode cX1_copySettings 0 = .ok (.aload_n 0, 1) := by decide +kernel
theorem dX1_copySettings_1 : decode cX1_copySettings 1 = .ok (.aload_n 1, 1) := by decide +kernel
theorem dX1_copySettings_2 : decode cX1_copySettings 2 = .ok (.getfield 18, 3) := by decide +kernel
theorem dX1_copySettings_5 : decode cX1_copySettings 5 = .ok (.putfield 18, 3) := by decide +kernel
theorem dX1_copySettings_8 : decode cX1_copySettings 8 = .ok (.aload_n 0, 1) := by decide +kernel
theorem dX1_copySettings_9 : decode cX1_copySettings 9 = .ok (.aload_n 1, 1) := by decide +kernel
theorem dX1_copySettings_10 : decode cX1_copySettings 10 = .ok (.getfield 22, 3) := by decide +kernel
theorem dX1_copySettings_13 : decode cX1_copySettings 13 = .ok (.putfield 22, 3) := by decide +kernel
theorem dX1_copySettings_16 : decode cX1_copySettings 16 = .ok (.aload_n 0, 1) := by decide +kernel
theorem dX1_copySettings_17 : decode cX1_copySettings 17 = .ok (.aload_n 1, 1) := by decide +kernel
theorem dX1_copySettings_18 : decode cX1_copySettings 18 = .ok (.getfield 42, 3) := by decide +kernel
theorem dX1_copySettings_21 : decode cX1_copySettings 21 = .ok (.putfield 42, 3) := by decide +kernel
theorem dX1_copySettings_24 : decode cX1_copySettings 24 = .ok (.aload_n 0, 1) := by decide +kernel
theorem dX1_copySettings_25 : decode cX1_copySettings 25 = .ok (.aload_n 1, 1) := by decide +kernel
theorem dX1_copySettings_26 : decode cX1_copySettings 26 = .ok (.getfield 25, 3) := by decide +kernel
theorem dX1_copySettings_29 : decode cX1_copySettings 29 = .ok (.putfield 25, 3) := by decide +kernel
theorem dX1_copySettings_32 : decode cX1_copySettings 32 = .ok (.aload_n 0, 1) := by decide +kernel
theorem dX1_copySettings_33 : decode cX1_copySettings 33 = .ok (.aload_n 1, 1) := by decide +kernel
theorem dX1_copySettings_34 : decode cX1_copySettings 34 = .ok (.getfield 28, 3) := by decide +kernel
theorem dX1_copySettings_37 : decode cX1_copySettings 37 = .ok (.putfield 28, 3) := by decide +kernel
theorem dX1_copySettings_40 : decode cX1_copySettings 40 = .ok (.aload_n 0, 1) := by decide +kernel
theorem dX1_copySettings_41 : decode cX1_copySettings 41 = .ok (.aload_n 1, 1) := by decide +kernel
theorem dX1_copySettings_42 : decode cX1_copySettings 42 = .ok (.getfield 45, 3) := by decide +kernel
theorem dX1_copySettings_45 : decode cX1_copySettings 45 = .ok (.putfield 45, 3) := by decide +kernel
theorem dX1_copySettings_48 : decode cX1_copySettings 48 = .ok (.return_, 1) := by decide +kernel
theorem dX1_takeOut_0 : decode cX1_takeOut 0 = .ok (.aload_n 0, 1) := by decide +kernel
theorem dX1_takeOut_1 : decode cX1_takeOut 1 = .ok (.getfield 11, 3) := by decide +kernel
theorem dX1_takeOut_4 : decode cX1_takeOut 4 = .ok (.iload_n 1, 1) := by decide +kernel
theorem dX1_takeOut_5 : decode cX1_takeOut 5 = .ok (.aaload, 1) := by decide +kernel
theorem dX1_takeOut_6 : decode cX1_takeOut 6 = .ok (.astore_n 2, 1) := by decide +kernel
theorem dX1_takeOut_7 : decode cX1_takeOut 7 = .ok (.iload_n 1, 1) := by decide +kernel
theorem dX1_takeOut_8 : decode cX1_takeOut 8 = .ok (.iconst 1, 1) := by decide +kernel
theorem dX1_takeOut_9 : decode cX1_takeOut 9 = .ok (.iadd, 1) := by decide +kernel
theorem dX1_takeOut_10 : decode cX1_takeOut 10 = .ok (.istore_n 3, 1) := by decide +kernel
theorem dX1_takeOut_11 : decode cX1_takeOut 11 = .ok (.iload_n 3, 1) := by decide +kernel
theorem dX1_takeOut_12 : decode cX1_takeOut 12 = .ok (.aload_n 0, 1) := by decide +kernel
theorem dX1_takeOut_13 : decode cX1_takeOut 13 = .ok (.getfield 35, 3) := by decide +kernel
theorem dX1_takeOut_16 : decode cX1_takeOut 16 = .ok (.if_icmp .ge 23, 3) := by decide +kernel
theorem dX1_takeOut_19 : decode cX1_takeOut 19 = .ok (.aload_n 0, 1) := by decide +kernel
theorem dX1_takeOut_20 : decode cX1_takeOut 20 = .ok (.getfield 11, 3) := by decide +kernel
theorem dX1_takeOut_23 : decode cX1_takeOut 23 = .ok (.iload_n 3, 1) := by decide +kernel
theorem dX1_takeOut_24 : decode cX1_takeOut 24 = .ok (.iconst 1, 1) := by decide +kernel
theorem dX1_takeOut_25 : decode cX1_takeOut 25 = .ok (.isub, 1) := by decide +kernel
theorem dX1_takeOut_26 : decode cX1_takeOut 26 = .ok (.aload_n 0, 1) := by decide +kernel
theorem dX1_takeOut_27 : decode cX1_takeOut 27 = .ok (.getfield 11, 3) := by decide +kernel
theorem dX1_takeOut_30 : decode cX1_takeOut 30 = .ok (.iload_n 3, 1) := by decide +kernel
theorem dX1_takeOut_31 : decode cX1_takeOut 31 = .ok (.aaload, 1) := by decide +kernel
theorem dX1_takeOut_32 : decode cX1_takeOut 32 = .ok (.aastore, 1) := by decide +kernel
theorem dX1_takeOut_33 : decode cX1_takeOut 33 = .ok (.iinc 3 1, 3) := by decide +kernel
theorem dX1_takeOut_36 : decode cX1_takeOut 36 = .ok (.goto (-25), 3) := by decide +kernel
theorem dX1_takeOut_39 : decode cX1_takeOut 39 = .ok (.aload_n 0, 1) := by decide +kernel
theorem dX1_takeOut_40 : decode cX1_takeOut 40 = .ok (.dup, 1) := by decide +kernel
theorem dX1_takeOut_41 : decode cX1_takeOut 41 = .ok (.getfield 35, 3) := by decide +kernel
theorem dX1_takeOut_44 : decode cX1_takeOut 44 = .ok (.iconst 1, 1) := by decide +kernel
theorem dX1_takeOut_45 : decode cX1_takeOut 45 = .ok (.isub, 1) := by decide +kernel
theorem dX1_takeOut_46 : decode cX1_takeOut 46 = .ok (.putfield 35, 3) := by decide +kernel
theorem dX1_takeOut_49 : decode cX1_takeOut 49 = .ok (.aload_n 0, 1) := by decide +kernel
theorem dX1_takeOut_50 : decode cX1_takeOut 50 = .ok (.getfield 11, 3) := by decide +kernel
theorem dX1_takeOut_53 : decode cX1_takeOut 53 = .ok (.aload_n 0, 1) := by decide +kernel
theorem dX1_takeOut_54 : decode cX1_takeOut 54 = .ok (.getfield 35, 3) := by decide +kernel
theorem dX1_takeOut_57 : decode cX1_takeOut 57 = .ok (.aload_n 2, 1) := by decide +kernel
theorem dX1_takeOut_58 : decode cX1_takeOut 58 = .ok (.aastore, 1) := by decide +kernel
theorem dX1_takeOut_59 : decode cX1_takeOut 59 = .ok (.return_, 1) := by decide +kernel
theorem dX1_numberOf_0 : decode cX1_numberOf 0 = .ok (.iconst 0, 1) := by decide +kernel
theorem dX1_numberOf_1 : decode cX1_numberOf 1 = .ok (.istore_n 2, 1) := by decide +kernel
theorem dX1_numberOf_2 : decode cX1_numberOf 2 = .ok (.iload_n 2, 1) := by decide +kernel
theorem dX1_numberOf_3 : decode cX1_numberOf 3 = .ok (.aload_n 0, 1) := by decide +kernel
theorem dX1_numberOf_4 : decode cX1_numberOf 4 = .ok (.getfield 35, 3) := by decide +kernel
theorem dX1_numberOf_7 : decode cX1_numberOf 7 = .ok (.if_icmp .ge 24, 3) := by decide +kernel
theorem dX1_numberOf_10 : decode cX1_numberOf 10 = .ok (.aload_n 0, 1) := by decide +kernel
theorem dX1_numberOf_11 : decode cX1_numberOf 11 = .ok (.getfield 11, 3) := by decide +kernel
theorem dX1_numberOf_14 : decode cX1_numberOf 14 = .ok (.iload_n 2, 1) := by decide +kernel
theorem dX1_numberOf_15 : decode cX1_numberOf 15 = .ok (.aaload, 1) := by decide +kernel
theorem dX1_numberOf_16 : decode cX1_numberOf 16 = .ok (.aload_n 1, 1) := by decide +kernel
theorem dX1_numberOf_17 : decode cX1_numberOf 17 = .ok (.invokevirtual 48, 3) := by decide +kernel
theorem dX1_numberOf_20 : decode cX1_numberOf 20 = .ok (.ifCond .eq 5, 3) := by decide +kernel
theorem dX1_numberOf_23 : decode cX1_numberOf 23 = .ok (.iload_n 2, 1) := by decide +kernel
theorem dX1_numberOf_24 : decode cX1_numberOf 24 = .ok (.ireturn, 1) := by decide +kernel
theorem dX1_numberOf_25 : decode cX1_numberOf 25 = .ok (.iinc 2 1, 3) := by decide +kernel
theorem dX1_numberOf_28 : decode cX1_numberOf 28 = .ok (.goto (-26), 3) := by decide +kernel
theorem dX1_numberOf_31 : decode cX1_numberOf 31 = .ok (.iconst (-1), 1) := by decide +kernel
theorem dX1_numberOf_32 : decode cX1_numberOf 32 = .ok (.ireturn, 1) := by decide +kernel
theorem dX1_countPlaces_0 : decode cX1_countPlaces 0 = .ok (.iconst 0, 1) := by decide +kernel
theorem dX1_countPlaces_1 : decode cX1_countPlaces 1 = .ok (.istore_n 1, 1) := by decide +kernel
theorem dX1_countPlaces_2 : decode cX1_countPlaces 2 = .ok (.iconst 0, 1) := by decide +kernel
theorem dX1_countPlaces_3 : decode cX1_countPlaces 3 = .ok (.istore_n 2, 1) := by decide +kernel
theorem dX1_countPlaces_4 : decode cX1_countPlaces 4 = .ok (.iload_n 2, 1) := by decide +kernel
theorem dX1_countPlaces_5 : decode cX1_countPlaces 5 = .ok (.aload_n 0, 1) := by decide +kernel
theorem dX1_countPlaces_6 : decode cX1_countPlaces 6 = .ok (.getfield 35, 3) := by decide +kernel
theorem dX1_countPlaces_9 : decode cX1_countPlaces 9 = .ok (.if_icmp .ge 32, 3) := by decide +kernel
theorem dX1_countPlaces_12 : decode cX1_countPlaces 12 = .ok (.iload_n 1, 1) := by decide +kernel
theorem dX1_countPlaces_13 : decode cX1_countPlaces 13 = .ok (.aload_n 0, 1) := by decide +kernel
theorem dX1_countPlaces_14 : decode cX1_countPlaces 14 = .ok (.getfield 11, 3) := by decide +kernel
theorem dX1_countPlaces_17 : decode cX1_countPlaces 17 = .ok (.iload_n 2, 1) := by decide +kernel
theorem dX1_countPlaces_18 : decode cX1_countPlaces 18 = .ok (.aaload, 1) := by decide +kernel
theorem dX1_countPlaces_19 : decode cX1_countPlaces 19 = .ok (.getfield 52, 3) := by decide +kernel
theorem dX1_countPlaces_22 : decode cX1_countPlaces 22 = .ok (.getfield 56, 3) := by decide +kernel
theorem dX1_countPlaces_25 : decode cX1_countPlaces 25 = .ok (.ifCond .eq 7, 3) := by decide +kernel
theorem dX1_countPlaces_28 : decode cX1_countPlaces 28 = .ok (.iconst 1, 1) := by decide +kernel
theorem dX1_countPlaces_29 : decode cX1_countPlaces 29 = .ok (.goto 4, 3) := by decide +kernel
theorem dX1_countPlaces_32 : decode cX1_countPlaces 32 = .ok (.iconst 0, 1) := by decide +kernel
theorem dX1_countPlaces_33 : decode cX1_countPlaces 33 = .ok (.iadd, 1) := by decide +kernel
theorem dX1_countPlaces_34 : decode cX1_countPlaces 34 = .ok (.istore_n 1, 1) := by decide +kernel
theorem dX1_countPlaces_35 : decode cX1_countPlaces 35 = .ok (.iinc 2 1, 3) := by decide +kernel
theorem dX1_countPlaces_38 : decode cX1_countPlaces 38 = .ok (.goto (-34), 3) := by decide +kernel
theorem dX1_countPlaces_41 : decode cX1_countPlaces 41 = .ok (.iload_n 1, 1) := by decide +kernel
theorem dX1_countPlaces_42 : decode cX1_countPlaces 42 = .ok (.ireturn, 1) := by decide +kernel
theorem dX1_rankOf_0 : decode cX1_rankOf 0 = .ok (.aload_n 0, 1) := by decide +kernel
theorem dX1_rankOf_1 : decode cX1_rankOf 1 = .ok (.getfield 11, 3) := by decide +kernel
theorem dX1_rankOf_4 : decode cX1_rankOf 4 = .ok (.iload_n 1, 1) := by decide +kernel
theorem dX1_rankOf_5 : decode cX1_rankOf 5 = .ok (.aaload, 1) := by decide +kernel
theorem dX1_rankOf_6 : decode cX1_rankOf 6 = .ok (.getfield 62, 3) := by decide +kernel
theorem dX1_rankOf_9 : decode cX1_rankOf 9 = .ok (.istore_n 2, 1) := by decide +kernel
theorem dX1_rankOf_10 : decode cX1_rankOf 10 = .ok (.iconst 0, 1) := by decide +kernel
theorem dX1_rankOf_11 : decode cX1_rankOf 11 = .ok (.istore_n 3, 1) := by decide +kernel
theorem dX1_rankOf_12 : decode cX1_rankOf 12 = .ok (.iconst 0, 1) := by decide +kernel
theorem dX1_rankOf_13 : decode cX1_rankOf 13 = .ok (.istore 4, 2) := by decide +kernel
theorem dX1_rankOf_15 : decode cX1_rankOf 15 = .ok (.iload 4, 2) := by decide +kernel
theorem dX1_rankOf_17 : decode cX1_rankOf 17 = .ok (.aload_n 0, 1) := by decide +kernel
theorem dX1_rankOf_18 : decode cX1_rankOf 18 = .ok (.getfield 35, 3) := by decide +kernel
theorem dX1_rankOf_21 : decode cX1_rankOf 21 = .ok (.if_icmp .ge 46, 3) := by decide +kernel
theorem dX1_rankOf_24 : decode cX1_rankOf 24 = .ok (.aload_n 0, 1) := by decide +kernel
theorem dX1_rankOf_25 : decode cX1_rankOf 25 = .ok (.getfield 11, 3) := by decide +kernel
theorem dX1_rankOf_28 : decode cX1_rankOf 28 = .ok (.iload 4, 2) := by decide +kernel
theorem dX1_rankOf_30 : decode cX1_rankOf 30 = .ok (.aaload, 1) := by decide +kernel
theorem dX1_rankOf_31 : decode cX1_rankOf 31 = .ok (.getfield 62, 3) := by decide +kernel
theorem dX1_rankOf_34 : decode cX1_rankOf 34 = .ok (.iload_n 2, 1) := by decide +kernel
theorem dX1_rankOf_35 : decode cX1_rankOf 35 = .ok (.if_icmp .gt 23, 3) := by decide +kernel
theorem dX1_rankOf_38 : decode cX1_rankOf 38 = .ok (.aload_n 0, 1) := by decide +kernel
theorem dX1_rankOf_39 : decode cX1_rankOf 39 = .ok (.getfield 11, 3) := by decide +kernel
theorem dX1_rankOf_42 : decode cX1_rankOf 42 = .ok (.iload 4, 2) := by decide +kernel
theorem dX1_rankOf_44 : decode cX1_rankOf 44 = .ok (.aaload, 1) := by decide +kernel
theorem dX1_rankOf_45 : decode cX1_rankOf 45 = .ok (.getfield 62, 3) := by decide +kernel
theorem dX1_rankOf_48 : decode cX1_rankOf 48 = .ok (.iload_n 2, 1) := by decide +kernel
theorem dX1_rankOf_49 : decode cX1_rankOf 49 = .ok (.if_icmp .ne 12, 3) := by decide +kernel
theorem dX1_rankOf_52 : decode cX1_rankOf 52 = .ok (.iload 4, 2) := by decide +kernel
theorem dX1_rankOf_54 : decode cX1_rankOf 54 = .ok (.iload_n 1, 1) := by decide +kernel
theorem dX1_rankOf_55 : decode cX1_rankOf 55 = .ok (.if_icmp .ge 6, 3) := by decide +kernel
theorem dX1_rankOf_58 : decode cX1_rankOf 58 = .ok (.iinc 3 1, 3) := by decide +kernel
theorem dX1_rankOf_61 : decode cX1_rankOf 61 = .ok (.iinc 4 1, 3) := by decide +kernel
theorem dX1_rankOf_64 : decode cX1_rankOf 64 = .ok (.goto (-49), 3) := by decide +kernel
theorem dX1_rankOf_67 : decode cX1_rankOf 67 = .ok (.iload_n 3, 1) := by decide +kernel
theorem dX1_rankOf_68 : decode cX1_rankOf 68 = .ok (.ireturn, 1) := by decide +kernel
theorem dX1_sizeOf_0 : decode cX1_sizeOf 0 = .ok (.sipush 1000, 3) := by decide +kernel
theorem dX1_sizeOf_3 : decode cX1_sizeOf 3 = .ok (.istore_n 2, 1) := by decide +kernel
theorem dX1_sizeOf_4 : decode cX1_sizeOf 4 = .ok (.iconst 1, 1) := by decide +kernel
theorem dX1_sizeOf_5 : decode cX1_sizeOf 5 = .ok (.istore_n 3, 1) := by decide +kernel
theorem dX1_sizeOf_6 : decode cX1_sizeOf 6 = .ok (.iconst 0, 1) := by decide +kernel
theorem dX1_sizeOf_7 : decode cX1_sizeOf 7 = .ok (.istore 4, 2) := by decide +kernel
theorem dX1_sizeOf_9 : decode cX1_sizeOf 9 = .ok (.iload 4, 2) := by decide +kernel
theorem dX1_sizeOf_11 : decode cX1_sizeOf 11 = .ok (.aload_n 0, 1) := by decide +kernel
theorem dX1_sizeOf_12 : decode cX1_sizeOf 12 = .ok (.getfield 35, 3) := by decide +kernel
theorem dX1_sizeOf_15 : decode cX1_sizeOf 15 = .ok (.if_icmp .ge 39, 3) := by decide +kernel
theorem dX1_sizeOf_18 : decode cX1_sizeOf 18 = .ok (.iload_n 2, 1) := by decide +kernel
theorem dX1_sizeOf_19 : decode cX1_sizeOf 19 = .ok (.aload_n 0, 1) := by decide +kernel
theorem dX1_sizeOf_20 : decode cX1_sizeOf 20 = .ok (.getfield 11, 3) := by decide +kernel
theorem dX1_sizeOf_23 : decode cX1_sizeOf 23 = .ok (.iload 4, 2) := by decide +kernel
theorem dX1_sizeOf_25 : decode cX1_sizeOf 25 = .ok (.aaload, 1) := by decide +kernel
theorem dX1_sizeOf_26 : decode cX1_sizeOf 26 = .ok (.getfield 62, 3) := by decide +kernel
theorem dX1_sizeOf_29 : decode cX1_sizeOf 29 = .ok (.invokestatic 65, 3) := by decide +kernel
theorem dX1_sizeOf_32 : decode cX1_sizeOf 32 = .ok (.istore_n 2, 1) := by decide +kernel
theorem dX1_sizeOf_33 : decode cX1_sizeOf 33 = .ok (.iload_n 3, 1) := by decide +kernel
theorem dX1_sizeOf_34 : decode cX1_sizeOf 34 = .ok (.aload_n 0, 1) := by decide +kernel
theorem dX1_sizeOf_35 : decode cX1_sizeOf 35 = .ok (.getfield 11, 3) := by decide +kernel
theorem dX1_sizeOf_38 : decode cX1_sizeOf 38 = .ok (.iload 4, 2) := by decide +kernel
theorem dX1_sizeOf_40 : decode cX1_sizeOf 40 = .ok (.aaload, 1) := by decide +kernel
theorem dX1_sizeOf_41 : decode cX1_sizeOf 41 = .ok (.getfield 62, 3) := by decide +kernel
theorem dX1_sizeOf_44 : decode cX1_sizeOf 44 = .ok (.invokestatic 71, 3) := by decide +kernel
theorem dX1_sizeOf_47 : decode cX1_sizeOf 47 = .ok (.istore_n 3, 1) := by decide +kernel
theorem dX1_sizeOf_48 : decode cX1_sizeOf 48 = .ok (.iinc 4 1, 3) := by decide +kernel
theorem dX1_sizeOf_51 : decode cX1_sizeOf 51 = .ok (.goto (-42), 3) := by decide +kernel
theorem dX1_sizeOf_54 : decode cX1_sizeOf 54 = .ok (.iload_n 2, 1) := by decide +kernel
theorem dX1_sizeOf_55 : decode cX1_sizeOf 55 = .ok (.iload_n 3, 1) := by decide +kernel
theorem dX1_sizeOf_56 : decode cX1_sizeOf 56 = .ok (.if_icmp .lt 8, 3) := by decide +kernel
theorem dX1_sizeOf_59 : decode cX1_sizeOf 59 = .ok (.aload_n 0, 1) := by decide +kernel
theorem dX1_sizeOf_60 : decode cX1_sizeOf 60 = .ok (.getfield 28, 3) := by decide +kernel
theorem dX1_sizeOf_63 : decode cX1_sizeOf 63 = .ok (.ireturn, 1) := by decide +kernel
theorem dX1_sizeOf_64 : decode cX1_sizeOf 64 = .ok (.iconst 1, 1) := by decide +kernel
theorem dX1_sizeOf_65 : decode cX1_sizeOf 65 = .ok (.aload_n 1, 1) := by decide +kernel
theorem dX1_sizeOf_66 : decode cX1_sizeOf 66 = .ok (.getfield 62, 3) := by decide +kernel
theorem dX1_sizeOf_69 : decode cX1_sizeOf 69 = .ok (.iload_n 2, 1) := by decide +kernel
theorem dX1_sizeOf_70 : decode cX1_sizeOf 70 = .ok (.isub, 1) := by decide +kernel
theorem dX1_sizeOf_71 : decode cX1_sizeOf 71 = .ok (.aload_n 0, 1) := by decide +kernel
theorem dX1_sizeOf_72 : decode cX1_sizeOf 72 = .ok (.getfield 28, 3) := by decide +kernel
theorem dX1_sizeOf_75 : decode cX1_sizeOf 75 = .ok (.iconst 1, 1) := by decide +kernel
theorem dX1_sizeOf_76 : decode cX1_sizeOf 76 = .ok (.isub, 1) := by decide +kernel
theorem dX1_sizeOf_77 : decode cX1_sizeOf 77 = .ok (.imul, 1) := by decide +kernel
theorem dX1_sizeOf_78 : decode cX1_sizeOf 78 = .ok (.iload_n 3, 1) := by decide +kernel
theorem dX1_sizeOf_79 : decode cX1_sizeOf 79 = .ok (.iload_n 2, 1) := by decide +kernel
theorem dX1_sizeOf_80 : decode cX1_sizeOf 80 = .ok (.isub, 1) := by decide +kernel
theorem dX1_sizeOf_81 : decode cX1_sizeOf 81 = .ok (.idiv, 1) := by decide +kernel
theorem dX1_sizeOf_82 : decode cX1_sizeOf 82 = .ok (.iadd, 1) := by decide +kernel
theorem dX1_sizeOf_83 : decode cX1_sizeOf 83 = .ok (.ireturn, 1) := by decide +kernel
theorem dX2_init_0 : decode cX2_init 0 = .ok (.aload_n 0, 1) := by decide +kernel
theorem dX2_init_1 : decode cX2_init 1 = .ok (.invokespecial 3, 3) := by decide +kernel
theorem dX2_init_4 : decode cX2_init 4 = .ok (.aload_n 0, 1) := by decide +kernel
theorem dX2_init_5 : decode cX2_init 5 = .ok (.bipush 10, 2) := by decide +kernel
theorem dX2_init_7 : decode cX2_init 7 = .ok (.newarray .int, 2) := by decide +kernel
theorem dX2_init_9 : decode cX2_init 9 = .ok (.putfield 9, 3) := by decide +kernel
theorem dX2_init_12 : decode cX2_init 12 = .ok (.aload_n 0, 1) := by decide +kernel
theorem dX2_init_13 : decode cX2_init 13 = .ok (.new 15, 3) := by decide +kernel
theorem dX2_init_16 : decode cX2_init 16 = .ok (.dup, 1) := by decide +kernel
theorem dX2_init_17 : decode cX2_init 17 = .ok (.invokespecial 17, 3) := by decide +kernel
theorem dX2_init_20 : decode cX2_init 20 = .ok (.putfield 18, 3) := by decide +kernel
theorem dX2_init_23 : decode cX2_init 23 = .ok (.return_, 1) := by decide +kernel
theorem dX2_copyFrom_0 : decode cX2_copyFrom 0 = .ok (.aload_n 0, 1) := by decide +kernel
theorem dX2_copyFrom_1 : decode cX2_copyFrom 1 = .ok (.aload_n 1, 1) := by decide +kernel
theorem dX2_copyFrom_2 : decode cX2_copyFrom 2 = .ok (.getfield 22, 3) := by decide +kernel
theorem dX2_copyFrom_5 : decode cX2_copyFrom 5 = .ok (.putfield 22, 3) := by decide +kernel
theorem dX2_copyFrom_8 : decode cX2_copyFrom 8 = .ok (.iconst 0, 1) := by decide +kernel
theorem dX2_copyFrom_9 : decode cX2_copyFrom 9 = .ok (.istore_n 2, 1) := by decide +kernel
theorem dX2_copyFrom_10 : decode cX2_copyFrom 10 = .ok (.iload_n 2, 1) := by decide +kernel
theorem dX2_copyFrom_11 : decode cX2_copyFrom 11 = .ok (.aload_n 0, 1) := by decide +kernel
theorem dX2_copyFrom_12 : decode cX2_copyFrom 12 = .ok (.getfield 22, 3) := by decide +kernel
theorem dX2_copyFrom_15 : decode cX2_copyFrom 15 = .ok (.if_icmp .ge 27, 3) := by decide +kernel
theorem dX2_copyFrom_18 : decode cX2_copyFrom 18 = .ok (.iload_n 2, 1) := by decide +kernel
theorem dX2_copyFrom_19 : decode cX2_copyFrom 19 = .ok (.bipush 10, 2) := by decide +kernel
theorem dX2_copyFrom_21 : decode cX2_copyFrom 21 = .ok (.if_icmp .ge 21, 3) := by decide +kernel
theorem dX2_copyFrom_24 : decode cX2_copyFrom 24 = .ok (.aload_n 0, 1) := by decide +kernel
theorem dX2_copyFrom_25 : decode cX2_copyFrom 25 = .ok (.getfield 9, 3) := by decide +kernel
theorem dX2_copyFrom_28 : decode cX2_copyFrom 28 = .ok (.iload_n 2, 1) := by decide +kernel
theorem dX2_copyFrom_29 : decode cX2_copyFrom 29 = .ok (.aload_n 1, 1) := by decide +kernel
theorem dX2_copyFrom_30 : decode cX2_copyFrom 30 = .ok (.getfield 9, 3) := by decide +kernel
theorem dX2_copyFrom_33 : decode cX2_copyFrom 33 = .ok (.iload_n 2, 1) := by decide +kernel
theorem dX2_copyFrom_34 : decode cX2_copyFrom 34 = .ok (.iaload, 1) := by decide +kernel
theorem dX2_copyFrom_35 : decode cX2_copyFrom 35 = .ok (.iastore, 1) := by decide +kernel
theorem dX2_copyFrom_36 : decode cX2_copyFrom 36 = .ok (.iinc 2 1, 3) := by decide +kernel
theorem dX2_copyFrom_39 : decode cX2_copyFrom 39 = .ok (.goto (-29), 3) := by decide +kernel
theorem dX2_copyFrom_42 : decode cX2_copyFrom 42 = .ok (.aload_n 0, 1) := by decide +kernel
theorem dX2_copyFrom_43 : decode cX2_copyFrom 43 = .ok (.getfield 18, 3) := by decide +kernel
theorem dX2_copyFrom_46 : decode cX2_copyFrom 46 = .ok (.aload_n 1, 1) := by decide +kernel
theorem dX2_copyFrom_47 : decode cX2_copyFrom 47 = .ok (.getfield 18, 3) := by decide +kernel
theorem dX2_copyFrom_50 : decode cX2_copyFrom 50 = .ok (.invokevirtual 26, 3) := by decide +kernel
theorem dX2_copyFrom_53 : decode cX2_copyFrom 53 = .ok (.aload_n 0, 1) := by decide +kernel
theorem dX2_copyFrom_54 : decode cX2_copyFrom 54 = .ok (.aload_n 1, 1) := by decide +kernel
theorem dX2_copyFrom_55 : decode cX2_copyFrom 55 = .ok (.getfield 30, 3) := by decide +kernel
theorem dX2_copyFrom_58 : decode cX2_copyFrom 58 = .ok (.putfield 30, 3) := by decide +kernel
theorem dX2_copyFrom_61 : decode cX2_copyFrom 61 = .ok (.aload_n 0, 1) := by decide +kernel
theorem dX2_copyFrom_62 : decode cX2_copyFrom 62 = .ok (.aload_n 1, 1) := by decide +kernel
theorem dX2_copyFrom_63 : decode cX2_copyFrom 63 = .ok (.getfield 33, 3) := by decide +kernel
theorem dX2_copyFrom_66 : decode cX2_copyFrom 66 = .ok (.putfield 33, 3) := by decide +kernel
theorem dX2_copyFrom_69 : decode cX2_copyFrom 69 = .ok (.aload_n 0, 1) := by decide +kernel
theorem dX2_copyFrom_70 : decode cX2_copyFrom 70 = .ok (.aload_n 1, 1) := by decide +kernel
theorem dX2_copyFrom_71 : decode cX2_copyFrom 71 = .ok (.getfield 36, 3) := by decide +kernel
theorem dX2_copyFrom_74 : decode cX2_copyFrom 74 = .ok (.putfield 36, 3) := by decide +kernel
theorem dX2_copyFrom_77 : decode cX2_copyFrom 77 = .ok (.return_, 1) := by decide +kernel
theorem dX2_hasSameLetters_0 : decode cX2_hasSameLetters 0 = .ok (.aload_n 0, 1) := by decide +kernel
theorem dX2_hasSameLetters_1 : decode cX2_hasSameLetters 1 = .ok (.getfield 22, 3) := by decide +kernel
theorem dX2_hasSameLetters_4 : decode cX2_hasSameLetters 4 = .ok (.aload_n 1, 1) := by decide +kernel
theorem dX2_hasSameLetters_5 : decode cX2_hasSameLetters 5 = .ok (.getfield 22, 3) := by decide +kernel
theorem dX2_hasSameLetters_8 : decode cX2_hasSameLetters 8 = .ok (.if_icmp .eq 5, 3) := by decide +kernel
theorem dX2_hasSameLetters_11 : decode cX2_hasSameLetters 11 = .ok (.iconst 0, 1) := by decide +kernel
theorem dX2_hasSameLetters_12 : decode cX2_hasSameLetters 12 = .ok (.ireturn, 1) := by decide +kernel
theorem dX2_hasSameLetters_13 : decode cX2_hasSameLetters 13 = .ok (.iconst 0, 1) := by decide +kernel
theorem dX2_hasSameLetters_14 : decode cX2_hasSameLetters 14 = .ok (.istore_n 2, 1) := by decide +kernel
theorem dX2_hasSameLetters_15 : decode cX2_hasSameLetters 15 = .ok (.iload_n 2, 1) := by decide +kernel
theorem dX2_hasSameLetters_16 : decode cX2_hasSameLetters 16 = .ok (.aload_n 0, 1) := by decide +kernel
theorem dX2_hasSameLetters_17 : decode cX2_hasSameLetters 17 = .ok (.getfield 22, 3) := by decide +kernel
theorem dX2_hasSameLetters_20 : decode cX2_hasSameLetters 20 = .ok (.if_icmp .ge 32, 3) := by decide +kernel
theorem dX2_hasSameLetters_23 : decode cX2_hasSameLetters 23 = .ok (.iload_n 2, 1) := by decide +kernel
theorem dX2_hasSameLetters_24 : decode cX2_hasSameLetters 24 = .ok (.bipush 10, 2) := by decide +kernel
theorem dX2_hasSameLetters_26 : decode cX2_hasSameLetters 26 = .ok (.if_icmp .ge 26, 3) := by decide +kernel
theorem dX2_hasSameLetters_29 : decode cX2_hasSameLetters 29 = .ok (.aload_n 0, 1) := by decide +kernel
theorem dX2_hasSameLetters_30 : decode cX2_hasSameLetters 30 = .ok (.getfield 9, 3) := by decide +kernel
theorem dX2_hasSameLetters_33 : decode cX2_hasSameLetters 33 = .ok (.iload_n 2, 1) := by decide +kernel
theorem dX2_hasSameLetters_34 : decode cX2_hasSameLetters 34 = .ok (.iaload, 1) := by decide +kernel
theorem dX2_hasSameLetters_35 : decode cX2_hasSameLetters 35 = .ok (.aload_n 1, 1) := by decide +kernel
theorem dX2_hasSameLetters_36 : decode cX2_hasSameLetters 36 = .ok (.getfield 9, 3) := by decide +kernel
theorem dX2_hasSameLetters_39 : decode cX2_hasSameLetters 39 = .ok (.iload_n 2, 1) := by decide +kernel
theorem dX2_hasSameLetters_40 : decode cX2_hasSameLetters 40 = .ok (.iaload, 1) := by decide +kernel
theorem dX2_hasSameLetters_41 : decode cX2_hasSameLetters 41 = .ok (.if_icmp .eq 5, 3) := by decide +kernel
theorem dX2_hasSameLetters_44 : decode cX2_hasSameLetters 44 = .ok (.iconst 0, 1) := by decide +kernel
theorem dX2_hasSameLetters_45 : decode cX2_hasSameLetters 45 = .ok (.ireturn, 1) := by decide +kernel
theorem dX2_hasSameLetters_46 : decode cX2_hasSameLetters 46 = .ok (.iinc 2 1, 3) := by decide +kernel
theorem dX2_hasSameLetters_49 : decode cX2_hasSameLetters 49 = .ok (.goto (-34), 3) := by decide +kernel
theorem dX2_hasSameLetters_52 : decode cX2_hasSameLetters 52 = .ok (.iconst 1, 1) := by decide +kernel
theorem dX2_hasSameLetters_53 : decode cX2_hasSameLetters 53 = .ok (.ireturn, 1) := by decide +kernel
theorem dX2_allows_0 : decode cX2_allows 0 = .ok (.iload_n 1, 1) := by decide +kernel
theorem dX2_allows_1 : decode cX2_allows 1 = .ok (.ifCond .eq 18, 3) := by decide +kernel
theorem dX2_allows_4 : decode cX2_allows 4 = .ok (.aload_n 0, 1) := by decide +kernel
theorem dX2_allows_5 : decode cX2_allows 5 = .ok (.getfield 33, 3) := by decide +kernel
theorem dX2_allows_8 : decode cX2_allows 8 = .ok (.ifCond .eq 7, 3) := by decide +kernel
theorem dX2_allows_11 : decode cX2_allows 11 = .ok (.iconst 1, 1) := by decide +kernel
theorem dX2_allows_12 : decode cX2_allows 12 = .ok (.goto 20, 3) := by decide +kernel
theorem dX2_allows_15 : decode cX2_allows 15 = .ok (.iconst 0, 1) := by decide +kernel
theorem dX2_allows_16 : decode cX2_allows 16 = .ok (.goto 16, 3) := by decide +kernel
theorem dX2_allows_19 : decode cX2_allows 19 = .ok (.aload_n 0, 1) := by decide +kernel
theorem dX2_allows_20 : decode cX2_allows 20 = .ok (.getfield 33, 3) := by decide +kernel
theorem dX2_allows_23 : decode cX2_allows 23 = .ok (.iconst 1, 1) := by decide +kernel
theorem dX2_allows_24 : decode cX2_allows 24 = .ok (.if_icmp .eq 7, 3) := by decide +kernel
theorem dX2_allows_27 : decode cX2_allows 27 = .ok (.iconst 1, 1) := by decide +kernel
theorem dX2_allows_28 : decode cX2_allows 28 = .ok (.goto 4, 3) := by decide +kernel
theorem dX2_allows_31 : decode cX2_allows 31 = .ok (.iconst 0, 1) := by decide +kernel
theorem dX2_allows_32 : decode cX2_allows 32 = .ok (.ireturn, 1) := by decide +kernel
theorem dX2_standsIn_0 : decode cX2_standsIn 0 = .ok (.aload_n 0, 1) := by decide +kernel
theorem dX2_standsIn_1 : decode cX2_standsIn 1 = .ok (.getfield 18, 3) := by decide +kernel
theorem dX2_standsIn_4 : decode cX2_standsIn 4 = .ok (.getfield 39, 3) := by decide +kernel
theorem dX2_standsIn_7 : decode cX2_standsIn 7 = .ok (.ifCond .eq 15, 3) := by decide +kernel
theorem dX2_standsIn_10 : decode cX2_standsIn 10 = .ok (.aload_n 0, 1) := by decide +kernel
theorem dX2_standsIn_11 : decode cX2_standsIn 11 = .ok (.getfield 36, 3) := by decide +kernel
theorem dX2_standsIn_14 : decode cX2_standsIn 14 = .ok (.iload_n 1, 1) := by decide +kernel
theorem dX2_standsIn_15 : decode cX2_standsIn 15 = .ok (.if_icmp .ne 7, 3) := by decide +kernel
theorem dX2_standsIn_18 : decode cX2_standsIn 18 = .ok (.iconst 1, 1) := by decide +kernel
theorem dX2_standsIn_19 : decode cX2_standsIn 19 = .ok (.goto 4, 3) := by decide +kernel
theorem dX2_standsIn_22 : decode cX2_standsIn 22 = .ok (.iconst 0, 1) := by decide +kernel
theorem dX2_standsIn_23 : decode cX2_standsIn 23 = .ok (.ireturn, 1) := by decide +kernel
theorem dX3_init_0 : decode cX3_init 0 = .ok (.aload_n 0, 1) := by decide +kernel
theorem dX3_init_1 : decode cX3_init 1 = .ok (.invokespecial 3, 3) := by decide +kernel
theorem dX3_init_4 : decode cX3_init 4 = .ok (.aload_n 0, 1) := by decide +kernel
theorem dX3_init_5 : decode cX3_init 5 = .ok (.iconst 4, 1) := by decide +kernel
theorem dX3_init_6 : decode cX3_init 6 = .ok (.anewarray 9, 3) := by decide +kernel
theorem dX3_init_9 : decode cX3_init 9 = .ok (.putfield 11, 3) := by decide +kernel
theorem dX3_init_12 : decode cX3_init 12 = .ok (.iconst 0, 1) := by decide +kernel
theorem dX3_init_13 : decode cX3_init 13 = .ok (.istore_n 1, 1) := by decide +kernel
theorem dX3_init_14 : decode cX3_init 14 = .ok (.iload_n 1, 1) := by decide +kernel
theorem dX3_init_15 : decode cX3_init 15 = .ok (.iconst 4, 1) := by decide +kernel
theorem dX3_init_16 : decode cX3_init 16 = .ok (.if_icmp .ge 22, 3) := by decide +kernel
theorem dX3_init_19 : decode cX3_init 19 = .ok (.aload_n 0, 1) := by decide +kernel
theorem dX3_init_20 : decode cX3_init 20 = .ok (.getfield 11, 3) := by decide +kernel
theorem dX3_init_23 : decode cX3_init 23 = .ok (.iload_n 1, 1) := by decide +kernel
theorem dX3_init_24 : decode cX3_init 24 = .ok (.new 9, 3) := by decide +kernel
theorem dX3_init_27 : decode cX3_init 27 = .ok (.dup, 1) := by decide +kernel
theorem dX3_init_28 : decode cX3_init 28 = .ok (.invokespecial 17, 3) := by decide +kernel
theorem dX3_init_31 : decode cX3_init 31 = .ok (.aastore, 1) := by decide +kernel
theorem dX3_init_32 : decode cX3_init 32 = .ok (.iinc 1 1, 3) := by decide +kernel
theorem dX3_init_35 : decode cX3_init 35 = .ok (.goto (-21), 3) := by decide +kernel
theorem dX3_init_38 : decode cX3_init 38 = .ok (.return_, 1) := by decide +kernel
theorem dX3_save_0 : decode cX3_save 0 = .ok (.aload_n 0, 1) := by decide +kernel
theorem dX3_save_1 : decode cX3_save 1 = .ok (.getfield 18, 3) := by decide +kernel
theorem dX3_save_4 : decode cX3_save 4 = .ok (.iconst 4, 1) := by decide +kernel
theorem dX3_save_5 : decode cX3_save 5 = .ok (.if_icmp .lt 7, 3) := by decide +kernel
theorem dX3_save_8 : decode cX3_save 8 = .ok (.aload_n 0, 1) := by decide +kernel
theorem dX3_save_9 : decode cX3_save 9 = .ok (.invokevirtual 22, 3) := by decide +kernel
theorem dX3_save_12 : decode cX3_save 12 = .ok (.aload_n 0, 1) := by decide +kernel
theorem dX3_save_13 : decode cX3_save 13 = .ok (.getfield 11, 3) := by decide +kernel
theorem dX3_save_16 : decode cX3_save 16 = .ok (.aload_n 0, 1) := by decide +kernel
theorem dX3_save_17 : decode cX3_save 17 = .ok (.getfield 18, 3) := by decide +kernel
theorem dX3_save_20 : decode cX3_save 20 = .ok (.aaload, 1) := by decide +kernel
theorem dX3_save_21 : decode cX3_save 21 = .ok (.aload_n 1, 1) := by decide +kernel
theorem dX3_save_22 : decode cX3_save 22 = .ok (.invokevirtual 25, 3) := by decide +kernel
theorem dX3_save_25 : decode cX3_save 25 = .ok (.aload_n 0, 1) := by decide +kernel
theorem dX3_save_26 : decode cX3_save 26 = .ok (.dup, 1) := by decide +kernel
theorem dX3_save_27 : decode cX3_save 27 = .ok (.getfield 18, 3) := by decide +kernel
theorem dX3_save_30 : decode cX3_save 30 = .ok (.iconst 1, 1) := by decide +kernel
theorem dX3_save_31 : decode cX3_save 31 = .ok (.iadd, 1) := by decide +kernel
theorem dX3_save_32 : decode cX3_save 32 = .ok (.putfield 18, 3) := by decide +kernel
theorem dX3_save_35 : decode cX3_save 35 = .ok (.return_, 1) := by decide +kernel
theorem dX3_dropOldest_0 : decode cX3_dropOldest 0 = .ok (.aload_n 0, 1) := by decide +kernel
theorem dX3_dropOldest_1 : decode cX3_dropOldest 1 = .ok (.getfield 11, 3) := by decide +kernel
theorem dX3_dropOldest_4 : decode cX3_dropOldest 4 = .ok (.iconst 0, 1) := by decide +kernel
theorem dX3_dropOldest_5 : decode cX3_dropOldest 5 = .ok (.aaload, 1) := by decide +kernel
theorem dX3_dropOldest_6 : decode cX3_dropOldest 6 = .ok (.astore_n 1, 1) := by decide +kernel
theorem dX3_dropOldest_7 : decode cX3_dropOldest 7 = .ok (.iconst 1, 1) := by decide +kernel
theorem dX3_dropOldest_8 : decode cX3_dropOldest 8 = .ok (.istore_n 2, 1) := by decide +kernel
theorem dX3_dropOldest_9 : decode cX3_dropOldest 9 = .ok (.iload_n 2, 1) := by decide +kernel
theorem dX3_dropOldest_10 : decode cX3_dropOldest 10 = .ok (.iconst 4, 1) := by decide +kernel
theorem dX3_dropOldest_11 : decode cX3_dropOldest 11 = .ok (.if_icmp .ge 23, 3) := by decide +kernel
theorem dX3_dropOldest_14 : decode cX3_dropOldest 14 = .ok (.aload_n 0, 1) := by decide +kernel
theorem dX3_dropOldest_15 : decode cX3_dropOldest 15 = .ok (.getfield 11, 3) := by decide +kernel
theorem dX3_dropOldest_18 : decode cX3_dropOldest 18 = .ok (.iload_n 2, 1) := by decide +kernel
theorem dX3_dropOldest_19 : decode cX3_dropOldest 19 = .ok (.iconst 1, 1) := by decide +kernel
theorem dX3_dropOldest_20 : decode cX3_dropOldest 20 = .ok (.isub, 1) := by decide +kernel
theorem dX3_dropOldest_21 : decode cX3_dropOldest 21 = .ok (.aload_n 0, 1) := by decide +kernel
theorem dX3_dropOldest_22 : decode cX3_dropOldest 22 = .ok (.getfield 11, 3) := by decide +kernel
theorem dX3_dropOldest_25 : decode cX3_dropOldest 25 = .ok (.iload_n 2, 1) := by decide +kernel
theorem dX3_dropOldest_26 : decode cX3_dropOldest 26 = .ok (.aaload, 1) := by decide +kernel
theorem dX3_dropOldest_27 : decode cX3_dropOldest 27 = .ok (.aastore, 1) := by decide +kernel
theorem dX3_dropOldest_28 : decode cX3_dropOldest 28 = .ok (.iinc 2 1, 3) := by decide +kernel
theorem dX3_dropOldest_31 : decode cX3_dropOldest 31 = .ok (.goto (-22), 3) := by decide +kernel
theorem dX3_dropOldest_34 : decode cX3_dropOldest 34 = .ok (.aload_n 0, 1) := by decide +kernel
theorem dX3_dropOldest_35 : decode cX3_dropOldest 35 = .ok (.getfield 11, 3) := by decide +kernel
theorem dX3_dropOldest_38 : decode cX3_dropOldest 38 = .ok (.iconst 3, 1) := by decide +kernel
theorem dX3_dropOldest_39 : decode cX3_dropOldest 39 = .ok (.aload_n 1, 1) := by decide +kernel
theorem dX3_dropOldest_40 : decode cX3_dropOldest 40 = .ok (.aastore, 1) := by decide +kernel
theorem dX3_dropOldest_41 : decode cX3_dropOldest 41 = .ok (.aload_n 0, 1) := by decide +kernel
theorem dX3_dropOldest_42 : decode cX3_dropOldest 42 = .ok (.iconst 3, 1) := by decide +kernel
theorem dX3_dropOldest_43 : decode cX3_dropOldest 43 = .ok (.putfield 18, 3) := by decide +kernel
theorem dX3_dropOldest_46 : decode cX3_dropOldest 46 = .ok (.return_, 1) := by decide +kernel
theorem dX3_restoreInto_0 : decode cX3_restoreInto 0 = .ok (.aload_n 0, 1) := by decide +kernel
theorem dX3_restoreInto_1 : decode cX3_restoreInto 1 = .ok (.getfield 18, 3) := by decide +kernel
theorem dX3_restoreInto_4 : decode cX3_restoreInto 4 = .ok (.ifCond .le 26, 3) := by decide +kernel
theorem dX3_restoreInto_7 : decode cX3_restoreInto 7 = .ok (.aload_n 0, 1) := by decide +kernel
theorem dX3_restoreInto_8 : decode cX3_restoreInto 8 = .ok (.dup, 1) := by decide +kernel
theorem dX3_restoreInto_9 : decode cX3_restoreInto 9 = .ok (.getfield 18, 3) := by decide +kernel
theorem dX3_restoreInto_12 : decode cX3_restoreInto 12 = .ok (.iconst 1, 1) := by decide +kernel
theorem dX3_restoreInto_13 : decode cX3_restoreInto 13 = .ok (.isub, 1) := by decide +kernel
theorem dX3_restoreInto_14 : decode cX3_restoreInto 14 = .ok (.putfield 18, 3) := by decide +kernel
theorem dX3_restoreInto_17 : decode cX3_restoreInto 17 = .ok (.aload_n 1, 1) := by decide +kernel
theorem dX3_restoreInto_18 : decode cX3_restoreInto 18 = .ok (.aload_n 0, 1) := by decide +kernel
theorem dX3_restoreInto_19 : decode cX3_restoreInto 19 = .ok (.getfield 11, 3) := by decide +kernel
theorem dX3_restoreInto_22 : decode cX3_restoreInto 22 = .ok (.aload_n 0, 1) := by decide +kernel
theorem dX3_restoreInto_23 : decode cX3_restoreInto 23 = .ok (.getfield 18, 3) := by decide +kernel
theorem dX3_restoreInto_26 : decode cX3_restoreInto 26 = .ok (.aaload, 1) := by decide +kernel
theorem dX3_restoreInto_27 : decode cX3_restoreInto 27 = .ok (.invokevirtual 25, 3) := by decide +kernel
theorem dX3_restoreInto_30 : decode cX3_restoreInto 30 = .ok (.return_, 1) := by decide +kernel
theorem dX4_init_0 : decode cX4_init 0 = .ok (.aload_n 0, 1) := by decide +kernel
theorem dX4_init_1 : decode cX4_init 1 = .ok (.invokespecial 3, 3) := by decide +kernel
theorem dX4_init_4 : decode cX4_init 4 = .ok (.aload_n 0, 1) := by decide +kernel
theorem dX4_init_5 : decode cX4_init 5 = .ok (.bipush 24, 2) := by decide +kernel
theorem dX4_init_7 : decode cX4_init 7 = .ok (.newarray .int, 2) := by decide +kernel
theorem dX4_init_9 : decode cX4_init 9 = .ok (.putfield 9, 3) := by decide +kernel
theorem dX4_init_12 : decode cX4_init 12 = .ok (.aload_n 0, 1) := by decide +kernel
theorem dX4_init_13 : decode cX4_init 13 = .ok (.bipush 24, 2) := by decide +kernel
theorem dX4_init_15 : decode cX4_init 15 = .ok (.newarray .int, 2) := by decide +kernel
theorem dX4_init_17 : decode cX4_init 17 = .ok (.putfield 15, 3) := by decide +kernel
theorem dX4_init_20 : decode cX4_init 20 = .ok (.aload_n 0, 1) := by decide +kernel
theorem dX4_init_21 : decode cX4_init 21 = .ok (.new 18, 3) := by decide +kernel
theorem dX4_init_24 : decode cX4_init 24 = .ok (.dup, 1) := by decide +kernel
theorem dX4_init_25 : decode cX4_init 25 = .ok (.invokespecial 20, 3) := by decide +kernel
theorem dX4_init_28 : decode cX4_init 28 = .ok (.putfield 21, 3) := by decide +kernel
theorem dX4_init_31 : decode cX4_init 31 = .ok (.aload_n 0, 1) := by decide +kernel
theorem dX4_init_32 : decode cX4_init 32 = .ok (.new 25, 3) := by decide +kernel
theorem dX4_init_35 : decode cX4_init 35 = .ok (.dup, 1) := by decide +kernel
theorem dX4_init_36 : decode cX4_init 36 = .ok (.invokespecial 27, 3) := by decide +kernel
theorem dX4_init_39 : decode cX4_init 39 = .ok (.putfield 28, 3) := by decide +kernel
theorem dX4_init_42 : decode cX4_init 42 = .ok (.return_, 1) := by decide +kernel
theorem dX4_layAll_0 : decode cX4_layAll 0 = .ok (.aload_n 0, 1) := by decide +kernel
theorem dX4_layAll_1 : decode cX4_layAll 1 = .ok (.aload_n 1, 1) := by decide +kernel
theorem dX4_layAll_2 : decode cX4_layAll 2 = .ok (.invokevirtual 32, 3) := by decide +kernel
theorem dX4_layAll_5 : decode cX4_layAll 5 = .ok (.iconst 0, 1) := by decide +kernel
theorem dX4_layAll_6 : decode cX4_layAll 6 = .ok (.istore_n 3, 1) := by decide +kernel
theorem dX4_layAll_7 : decode cX4_layAll 7 = .ok (.iload_n 3, 1) := by decide +kernel
theorem dX4_layAll_8 : decode cX4_layAll 8 = .ok (.aload_n 1, 1) := by decide +kernel
theorem dX4_layAll_9 : decode cX4_layAll 9 = .ok (.getfield 36, 3) := by decide +kernel
theorem dX4_layAll_12 : decode cX4_layAll 12 = .ok (.if_icmp .ge 22, 3) := by decide +kernel
theorem dX4_layAll_15 : decode cX4_layAll 15 = .ok (.aload_n 0, 1) := by decide +kernel
theorem dX4_layAll_16 : decode cX4_layAll 16 = .ok (.aload_n 1, 1) := by decide +kernel
theorem dX4_layAll_17 : decode cX4_layAll 17 = .ok (.aload_n 0, 1) := by decide +kernel
theorem dX4_layAll_18 : decode cX4_layAll 18 = .ok (.getfield 9, 3) := by decide +kernel
theorem dX4_layAll_21 : decode cX4_layAll 21 = .ok (.iload_n 3, 1) := by decide +kernel
theorem dX4_layAll_22 : decode cX4_layAll 22 = .ok (.iaload, 1) := by decide +kernel
theorem dX4_layAll_23 : decode cX4_layAll 23 = .ok (.iload_n 2, 1) := by decide +kernel
theorem dX4_layAll_24 : decode cX4_layAll 24 = .ok (.invokevirtual 42, 3) := by decide +kernel
theorem dX4_layAll_27 : decode cX4_layAll 27 = .ok (.pop, 1) := by decide +kernel
theorem dX4_layAll_28 : decode cX4_layAll 28 = .ok (.iinc 3 1, 3) := by decide +kernel
theorem dX4_layAll_31 : decode cX4_layAll 31 = .ok (.goto (-24), 3) := by decide +kernel
theorem dX4_layAll_34 : decode cX4_layAll 34 = .ok (.aload_n 0, 1) := by decide +kernel
theorem dX4_layAll_35 : decode cX4_layAll 35 = .ok (.getfield 46, 3) := by decide +kernel
theorem dX4_layAll_38 : decode cX4_layAll 38 = .ok (.ireturn, 1) := by decide +kernel
theorem dX4_canLayEveryWord_0 : decode cX4_canLayEveryWord 0 = .ok (.aload_n 0, 1) := by decide +kernel
theorem dX4_canLayEveryWord_1 : decode cX4_canLayEveryWord 1 = .ok (.aload_n 1, 1) := by decide +kernel
theorem dX4_canLayEveryWord_2 : decode cX4_canLayEveryWord 2 = .ok (.invokevirtual 32, 3) := by decide +kernel
theorem dX4_canLayEveryWord_5 : decode cX4_canLayEveryWord 5 = .ok (.iconst 0, 1) := by decide +kernel
theorem dX4_canLayEveryWord_6 : decode cX4_canLayEveryWord 6 = .ok (.istore_n 2, 1) := by decide +kernel
theorem dX4_canLayEveryWord_7 : decode cX4_canLayEveryWord 7 = .ok (.iload_n 2, 1) := by decide +kernel
theorem dX4_canLayEveryWord_8 : decode cX4_canLayEveryWord 8 = .ok (.aload_n 1, 1) := by decide +kernel
theorem dX4_canLayEveryWord_9 : decode cX4_canLayEveryWord 9 = .ok (.getfield 36, 3) := by decide +kernel
theorem dX4_canLayEveryWord_12 : decode cX4_canLayEveryWord 12 = .ok (.if_icmp .ge 26, 3) := by decide +kernel
theorem dX4_canLayEveryWord_15 : decode cX4_canLayEveryWord 15 = .ok (.aload_n 0, 1) := by decide +kernel
theorem dX4_canLayEveryWord_16 : decode cX4_canLayEveryWord 16 = .ok (.aload_n 1, 1) := by decide +kernel
theorem dX4_canLayEveryWord_17 : decode cX4_canLayEveryWord 17 = .ok (.aload_n 0, 1) := by decide +kernel
theorem dX4_canLayEveryWord_18 : decode cX4_canLayEveryWord 18 = .ok (.getfield 9, 3) := by decide +kernel
theorem dX4_canLayEveryWord_21 : decode cX4_canLayEveryWord 21 = .ok (.iload_n 2, 1) := by decide +kernel
theorem dX4_canLayEveryWord_22 : decode cX4_canLayEveryWord 22 = .ok (.iaload, 1) := by decide +kernel
theorem dX4_canLayEveryWord_23 : decode cX4_canLayEveryWord 23 = .ok (.iconst 0, 1) := by decide +kernel
theorem dX4_canLayEveryWord_24 : decode cX4_canLayEveryWord 24 = .ok (.invokevirtual 42, 3) := by decide +kernel
theorem dX4_canLayEveryWord_27 : decode cX4_canLayEveryWord 27 = .ok (.ifCond .ne 5, 3) := by decide +kernel
theorem dX4_canLayEveryWord_30 : decode cX4_canLayEveryWord 30 = .ok (.iconst 0, 1) := by decide +kernel
theorem dX4_canLayEveryWord_31 : decode cX4_canLayEveryWord 31 = .ok (.ireturn, 1) := by decide +kernel
theorem dX4_canLayEveryWord_32 : decode cX4_canLayEveryWord 32 = .ok (.iinc 2 1, 3) := by decide +kernel
theorem dX4_canLayEveryWord_35 : decode cX4_canLayEveryWord 35 = .ok (.goto (-28), 3) := by decide +kernel
theorem dX4_canLayEveryWord_38 : decode cX4_canLayEveryWord 38 = .ok (.iconst 1, 1) := by decide +kernel
theorem dX4_canLayEveryWord_39 : decode cX4_canLayEveryWord 39 = .ok (.ireturn, 1) := by decide +kernel
theorem dX4_begin_0 : decode cX4_begin 0 = .ok (.aload_n 0, 1) := by decide +kernel
theorem dX4_begin_1 : decode cX4_begin 1 = .ok (.iconst 0, 1) := by decide +kernel
theorem dX4_begin_2 : decode cX4_begin 2 = .ok (.putfield 46, 3) := by decide +kernel
theorem dX4_begin_5 : decode cX4_begin 5 = .ok (.aload_n 1, 1) := by decide +kernel
theorem dX4_begin_6 : decode cX4_begin 6 = .ok (.iconst 0, 1) := by decide +kernel
theorem dX4_begin_7 : decode cX4_begin 7 = .ok (.putfield 49, 3) := by decide +kernel
theorem dX4_begin_10 : decode cX4_begin 10 = .ok (.aload_n 0, 1) := by decide +kernel
theorem dX4_begin_11 : decode cX4_begin 11 = .ok (.getfield 21, 3) := by decide +kernel
theorem dX4_begin_14 : decode cX4_begin 14 = .ok (.iconst 1, 1) := by decide +kernel
theorem dX4_begin_15 : decode cX4_begin 15 = .ok (.putfield 52, 3) := by decide +kernel
theorem dX4_begin_18 : decode cX4_begin 18 = .ok (.iconst 0, 1) := by decide +kernel
theorem dX4_begin_19 : decode cX4_begin 19 = .ok (.istore_n 2, 1) := by decide +kernel
theorem dX4_begin_20 : decode cX4_begin 20 = .ok (.iload_n 2, 1) := by decide +kernel
theorem dX4_begin_21 : decode cX4_begin 21 = .ok (.aload_n 1, 1) := by decide +kernel
theorem dX4_begin_22 : decode cX4_begin 22 = .ok (.getfield 36, 3) := by decide +kernel
theorem dX4_begin_25 : decode cX4_begin 25 = .ok (.if_icmp .ge 20, 3) := by decide +kernel
theorem dX4_begin_28 : decode cX4_begin 28 = .ok (.aload_n 0, 1) := by decide +kernel
theorem dX4_begin_29 : decode cX4_begin 29 = .ok (.getfield 9, 3) := by decide +kernel
theorem dX4_begin_32 : decode cX4_begin 32 = .ok (.aload_n 1, 1) := by decide +kernel
theorem dX4_begin_33 : decode cX4_begin 33 = .ok (.iload_n 2, 1) := by decide +kernel
theorem dX4_begin_34 : decode cX4_begin 34 = .ok (.invokevirtual 56, 3) := by decide +kernel
theorem dX4_begin_37 : decode cX4_begin 37 = .ok (.iload_n 2, 1) := by decide +kernel
theorem dX4_begin_38 : decode cX4_begin 38 = .ok (.iastore, 1) := by decide +kernel
theorem dX4_begin_39 : decode cX4_begin 39 = .ok (.iinc 2 1, 3) := by decide +kernel
theorem dX4_begin_42 : decode cX4_begin 42 = .ok (.goto (-22), 3) := by decide +kernel
theorem dX4_begin_45 : decode cX4_begin 45 = .ok (.return_, 1) := by decide +kernel
theorem dX4_layWord_0 : decode cX4_layWord 0 = .ok (.aload_n 1, 1) := by decide +kernel
theorem dX4_layWord_1 : decode cX4_layWord 1 = .ok (.getfield 60, 3) := by decide +kernel
theorem dX4_layWord_4 : decode cX4_layWord 4 = .ok (.iload_n 2, 1) := by decide +kernel
theorem dX4_layWord_5 : decode cX4_layWord 5 = .ok (.aaload, 1) := by decide +kernel
theorem dX4_layWord_6 : decode cX4_layWord 6 = .ok (.astore 4, 2) := by decide +kernel
theorem dX4_layWord_8 : decode cX4_layWord 8 = .ok (.aload 4, 2) := by decide +kernel
theorem dX4_layWord_10 : decode cX4_layWord 10 = .ok (.getfield 64, 3) := by decide +kernel
theorem dX4_layWord_13 : decode cX4_layWord 13 = .ok (.astore 5, 2) := by decide +kernel
theorem dX4_layWord_15 : decode cX4_layWord 15 = .ok (.aload_n 1, 1) := by decide +kernel
theorem dX4_layWord_16 : decode cX4_layWord 16 = .ok (.aload 4, 2) := by decide +kernel
theorem dX4_layWord_18 : decode cX4_layWord 18 = .ok (.invokevirtual 69, 3) := by decide +kernel
theorem dX4_layWord_21 : decode cX4_layWord 21 = .ok (.istore 6, 2) := by decide +kernel
theorem dX4_layWord_23 : decode cX4_layWord 23 = .ok (.iload_n 3, 1) := by decide +kernel
theorem dX4_layWord_24 : decode cX4_layWord 24 = .ok (.ifCond .eq 15, 3) := by decide +kernel
theorem dX4_layWord_27 : decode cX4_layWord 27 = .ok (.aload_n 0, 1) := by decide +kernel
theorem dX4_layWord_28 : decode cX4_layWord 28 = .ok (.aload_n 1, 1) := by decide +kernel
theorem dX4_layWord_29 : decode cX4_layWord 29 = .ok (.aload 4, 2) := by decide +kernel
theorem dX4_layWord_31 : decode cX4_layWord 31 = .ok (.iload 6, 2) := by decide +kernel
theorem dX4_layWord_33 : decode cX4_layWord 33 = .ok (.invokevirtual 73, 3) := by decide +kernel
theorem dX4_layWord_36 : decode cX4_layWord 36 = .ok (.ifCond .ne 15, 3) := by decide +kernel
theorem dX4_layWord_39 : decode cX4_layWord 39 = .ok (.aload_n 0, 1) := by decide +kernel
theorem dX4_layWord_40 : decode cX4_layWord 40 = .ok (.aload_n 1, 1) := by decide +kernel
theorem dX4_layWord_41 : decode cX4_layWord 41 = .ok (.aload 4, 2) := by decide +kernel
theorem dX4_layWord_43 : decode cX4_layWord 43 = .ok (.iload 6, 2) := by decide +kernel
theorem dX4_layWord_45 : decode cX4_layWord 45 = .ok (.invokevirtual 77, 3) := by decide +kernel
theorem dX4_layWord_48 : decode cX4_layWord 48 = .ok (.ifCond .eq 7, 3) := by decide +kernel
theorem dX4_layWord_51 : decode cX4_layWord 51 = .ok (.iconst 1, 1) := by decide +kernel
theorem dX4_layWord_52 : decode cX4_layWord 52 = .ok (.goto 4, 3) := by decide +kernel
theorem dX4_layWord_55 : decode cX4_layWord 55 = .ok (.iconst 0, 1) := by decide +kernel
theorem dX4_layWord_56 : decode cX4_layWord 56 = .ok (.istore 7, 2) := by decide +kernel
theorem dX4_layWord_58 : decode cX4_layWord 58 = .ok (.aload 5, 2) := by decide +kernel
theorem dX4_layWord_60 : decode cX4_layWord 60 = .ok (.getfield 52, 3) := by decide +kernel
theorem dX4_layWord_63 : decode cX4_layWord 63 = .ok (.ifCond .eq 30, 3) := by decide +kernel
theorem dX4_layWord_66 : decode cX4_layWord 66 = .ok (.iload 7, 2) := by decide +kernel
theorem dX4_layWord_68 : decode cX4_layWord 68 = .ok (.ifCond .eq 15, 3) := by decide +kernel
theorem dX4_layWord_71 : decode cX4_layWord 71 = .ok (.aload 5, 2) := by decide +kernel
theorem dX4_layWord_73 : decode cX4_layWord 73 = .ok (.aload_n 0, 1) := by decide +kernel
theorem dX4_layWord_74 : decode cX4_layWord 74 = .ok (.getfield 21, 3) := by decide +kernel
theorem dX4_layWord_77 : decode cX4_layWord 77 = .ok (.invokevirtual 80, 3) := by decide +kernel
theorem dX4_layWord_80 : decode cX4_layWord 80 = .ok (.ifCond .ne 13, 3) := by decide +kernel
theorem dX4_layWord_83 : decode cX4_layWord 83 = .ok (.aload_n 1, 1) := by decide +kernel
theorem dX4_layWord_84 : decode cX4_layWord 84 = .ok (.dup, 1) := by decide +kernel
theorem dX4_layWord_85 : decode cX4_layWord 85 = .ok (.getfield 49, 3) := by decide +kernel
theorem dX4_layWord_88 : decode cX4_layWord 88 = .ok (.iconst 1, 1) := by decide +kernel
theorem dX4_layWord_89 : decode cX4_layWord 89 = .ok (.iadd, 1) := by decide +kernel
theorem dX4_layWord_90 : decode cX4_layWord 90 = .ok (.putfield 49, 3) := by decide +kernel
theorem dX4_layWord_93 : decode cX4_layWord 93 = .ok (.iload 7, 2) := by decide +kernel
theorem dX4_layWord_95 : decode cX4_layWord 95 = .ok (.ifCond .eq 35, 3) := by decide +kernel
theorem dX4_layWord_98 : decode cX4_layWord 98 = .ok (.aload 5, 2) := by decide +kernel
theorem dX4_layWord_100 : decode cX4_layWord 100 = .ok (.aload_n 0, 1) := by decide +kernel
theorem dX4_layWord_101 : decode cX4_layWord 101 = .ok (.getfield 21, 3) := by decide +kernel
theorem dX4_layWord_104 : decode cX4_layWord 104 = .ok (.invokevirtual 84, 3) := by decide +kernel
theorem dX4_layWord_107 : decode cX4_layWord 107 = .ok (.aload_n 0, 1) := by decide +kernel
theorem dX4_layWord_108 : decode cX4_layWord 108 = .ok (.getfield 15, 3) := by decide +kernel
theorem dX4_layWord_111 : decode cX4_layWord 111 = .ok (.aload_n 0, 1) := by decide +kernel
theorem dX4_layWord_112 : decode cX4_layWord 112 = .ok (.getfield 46, 3) := by decide +kernel
theorem dX4_layWord_115 : decode cX4_layWord 115 = .ok (.iload_n 2, 1) := by decide +kernel
theorem dX4_layWord_116 : decode cX4_layWord 116 = .ok (.iastore, 1) := by decide +kernel
theorem dX4_layWord_117 : decode cX4_layWord 117 = .ok (.aload_n 0, 1) := by decide +kernel
theorem dX4_layWord_118 : decode cX4_layWord 118 = .ok (.dup, 1) := by decide +kernel
theorem dX4_layWord_119 : decode cX4_layWord 119 = .ok (.getfield 46, 3) := by decide +kernel
theorem dX4_layWord_122 : decode cX4_layWord 122 = .ok (.iconst 1, 1) := by decide +kernel
theorem dX4_layWord_123 : decode cX4_layWord 123 = .ok (.iadd, 1) := by decide +kernel
theorem dX4_layWord_124 : decode cX4_layWord 124 = .ok (.putfield 46, 3) := by decide +kernel
theorem dX4_layWord_127 : decode cX4_layWord 127 = .ok (.goto 9, 3) := by decide +kernel
theorem dX4_layWord_130 : decode cX4_layWord 130 = .ok (.aload 5, 2) := by decide +kernel
theorem dX4_layWord_132 : decode cX4_layWord 132 = .ok (.iconst 0, 1) := by decide +kernel
theorem dX4_layWord_133 : decode cX4_layWord 133 = .ok (.putfield 52, 3) := by decide +kernel
theorem dX4_layWord_136 : decode cX4_layWord 136 = .ok (.iload 7, 2) := by decide +kernel
theorem dX4_layWord_138 : decode cX4_layWord 138 = .ok (.ireturn, 1) := by decide +kernel
theorem dX4_canStay_0 : decode cX4_canStay 0 = .ok (.aload_n 2, 1) := by decide +kernel
theorem dX4_canStay_1 : decode cX4_canStay 1 = .ok (.getfield 64, 3) := by decide +kernel
theorem dX4_canStay_4 : decode cX4_canStay 4 = .ok (.astore 4, 2) := by decide +kernel
theorem dX4_canStay_6 : decode cX4_canStay 6 = .ok (.aload 4, 2) := by decide +kernel
theorem dX4_canStay_8 : decode cX4_canStay 8 = .ok (.getfield 52, 3) := by decide +kernel
theorem dX4_canStay_11 : decode cX4_canStay 11 = .ok (.ifCond .eq 15, 3) := by decide +kernel
theorem dX4_canStay_14 : decode cX4_canStay 14 = .ok (.aload_n 2, 1) := by decide +kernel
theorem dX4_canStay_15 : decode cX4_canStay 15 = .ok (.aload 4, 2) := by decide +kernel
theorem dX4_canStay_17 : decode cX4_canStay 17 = .ok (.getfield 88, 3) := by decide +kernel
theorem dX4_canStay_20 : decode cX4_canStay 20 = .ok (.invokevirtual 91, 3) := by decide +kernel
theorem dX4_canStay_23 : decode cX4_canStay 23 = .ok (.ifCond .ne 5, 3) := by decide +kernel
theorem dX4_canStay_26 : decode cX4_canStay 26 = .ok (.iconst 0, 1) := by decide +kernel
theorem dX4_canStay_27 : decode cX4_canStay 27 = .ok (.ireturn, 1) := by decide +kernel
theorem dX4_canStay_28 : decode cX4_canStay 28 = .ok (.aload_n 0, 1) := by decide +kernel
theorem dX4_canStay_29 : decode cX4_canStay 29 = .ok (.aload_n 2, 1) := by decide +kernel
theorem dX4_canStay_30 : decode cX4_canStay 30 = .ok (.iload_n 3, 1) := by decide +kernel
theorem dX4_canStay_31 : decode cX4_canStay 31 = .ok (.aload 4, 2) := by decide +kernel
theorem dX4_canStay_33 : decode cX4_canStay 33 = .ok (.getfield 88, 3) := by decide +kernel
theorem dX4_canStay_36 : decode cX4_canStay 36 = .ok (.invokevirtual 95, 3) := by decide +kernel
theorem dX4_canStay_39 : decode cX4_canStay 39 = .ok (.aload_n 0, 1) := by decide +kernel
theorem dX4_canStay_40 : decode cX4_canStay 40 = .ok (.getfield 21, 3) := by decide +kernel
theorem dX4_canStay_43 : decode cX4_canStay 43 = .ok (.aload 4, 2) := by decide +kernel
theorem dX4_canStay_45 : decode cX4_canStay 45 = .ok (.invokevirtual 99, 3) := by decide +kernel
theorem dX4_canStay_48 : decode cX4_canStay 48 = .ok (.aload 4, 2) := by decide +kernel
theorem dX4_canStay_50 : decode cX4_canStay 50 = .ok (.invokevirtual 103, 3) := by decide +kernel
theorem dX4_canStay_53 : decode cX4_canStay 53 = .ok (.invokevirtual 106, 3) := by decide +kernel
theorem dX4_canStay_56 : decode cX4_canStay 56 = .ok (.aload_n 0, 1) := by decide +kernel
theorem dX4_canStay_57 : decode cX4_canStay 57 = .ok (.aload_n 1, 1) := by decide +kernel
theorem dX4_canStay_58 : decode cX4_canStay 58 = .ok (.invokevirtual 110, 3) := by decide +kernel
theorem dX4_canStay_61 : decode cX4_canStay 61 = .ok (.ireturn, 1) := by decide +kernel
theorem dX4_findOnSpiral_0 : decode cX4_findOnSpiral 0 = .ok (.aload_n 0, 1) := by decide +kernel
theorem dX4_findOnSpiral_1 : decode cX4_findOnSpiral 1 = .ok (.aload_n 1, 1) := by decide +kernel
theorem dX4_findOnSpiral_2 : decode cX4_findOnSpiral 2 = .ok (.aload_n 2, 1) := by decide +kernel
theorem dX4_findOnSpiral_3 : decode cX4_findOnSpiral 3 = .ok (.getfield 114, 3) := by decide +kernel
theorem dX4_findOnSpiral_6 : decode cX4_findOnSpiral 6 = .ok (.invokevirtual 117, 3) := by decide +kernel
theorem dX4_findOnSpiral_9 : decode cX4_findOnSpiral 9 = .ok (.iconst 0, 1) := by decide +kernel
theorem dX4_findOnSpiral_10 : decode cX4_findOnSpiral 10 = .ok (.istore 4, 2) := by decide +kernel
theorem dX4_findOnSpiral_12 : decode cX4_findOnSpiral 12 = .ok (.iload 4, 2) := by decide +kernel
theorem dX4_findOnSpiral_14 : decode cX4_findOnSpiral 14 = .ok (.sipush 1500, 3) := by decide +kernel
theorem dX4_findOnSpiral_17 : decode cX4_findOnSpiral 17 = .ok (.if_icmp .ge 40, 3) := by decide +kernel
theorem dX4_findOnSpiral_20 : decode cX4_findOnSpiral 20 = .ok (.aload_n 0, 1) := by decide +kernel
theorem dX4_findOnSpiral_21 : decode cX4_findOnSpiral 21 = .ok (.aload_n 1, 1) := by decide +kernel
theorem dX4_findOnSpiral_22 : decode cX4_findOnSpiral 22 = .ok (.aload_n 2, 1) := by decide +kernel
theorem dX4_findOnSpiral_23 : decode cX4_findOnSpiral 23 = .ok (.iload_n 3, 1) := by decide +kernel
theorem dX4_findOnSpiral_24 : decode cX4_findOnSpiral 24 = .ok (.iconst 0, 1) := by decide +kernel
theorem dX4_findOnSpiral_25 : decode cX4_findOnSpiral 25 = .ok (.invokevirtual 121, 3) := by decide +kernel
theorem dX4_findOnSpiral_28 : decode cX4_findOnSpiral 28 = .ok (.ifCond .ne 14, 3) := by decide +kernel
theorem dX4_findOnSpiral_31 : decode cX4_findOnSpiral 31 = .ok (.aload_n 0, 1) := by decide +kernel
theorem dX4_findOnSpiral_32 : decode cX4_findOnSpiral 32 = .ok (.aload_n 1, 1) := by decide +kernel
theorem dX4_findOnSpiral_33 : decode cX4_findOnSpiral 33 = .ok (.aload_n 2, 1) := by decide +kernel
theorem dX4_findOnSpiral_34 : decode cX4_findOnSpiral 34 = .ok (.iload_n 3, 1) := by decide +kernel
theorem dX4_findOnSpiral_35 : decode cX4_findOnSpiral 35 = .ok (.iconst 1, 1) := by decide +kernel
theorem dX4_findOnSpiral_36 : decode cX4_findOnSpiral 36 = .ok (.invokevirtual 121, 3) := by decide +kernel
theorem dX4_findOnSpiral_39 : decode cX4_findOnSpiral 39 = .ok (.ifCond .eq 5, 3) := by decide +kernel
theorem dX4_findOnSpiral_42 : decode cX4_findOnSpiral 42 = .ok (.iconst 1, 1) := by decide +kernel
theorem dX4_findOnSpiral_43 : decode cX4_findOnSpiral 43 = .ok (.ireturn, 1) := by decide +kernel
theorem dX4_findOnSpiral_44 : decode cX4_findOnSpiral 44 = .ok (.aload_n 0, 1) := by decide +kernel
theorem dX4_findOnSpiral_45 : decode cX4_findOnSpiral 45 = .ok (.getfield 28, 3) := by decide +kernel
theorem dX4_findOnSpiral_48 : decode cX4_findOnSpiral 48 = .ok (.invokevirtual 125, 3) := by decide +kernel
theorem dX4_findOnSpiral_51 : decode cX4_findOnSpiral 51 = .ok (.iinc 4 1, 3) := by decide +kernel
theorem dX4_findOnSpiral_54 : decode cX4_findOnSpiral 54 = .ok (.goto (-42), 3) := by decide +kernel
theorem dX4_findOnSpiral_57 : decode cX4_findOnSpiral 57 = .ok (.iconst 0, 1) := by decide +kernel
theorem dX4_findOnSpiral_58 : decode cX4_findOnSpiral 58 = .ok (.ireturn, 1) := by decide +kernel
theorem dX4_beginSpiral_0 : decode cX4_beginSpiral 0 = .ok (.iconst 0, 1) := by decide +kernel
theorem dX4_beginSpiral_1 : decode cX4_beginSpiral 1 = .ok (.istore_n 3, 1) := by decide +kernel
theorem dX4_beginSpiral_2 : decode cX4_beginSpiral 2 = .ok (.iload_n 3, 1) := by decide +kernel
theorem dX4_beginSpiral_3 : decode cX4_beginSpiral 3 = .ok (.aload_n 0, 1) := by decide +kernel
theorem dX4_beginSpiral_4 : decode cX4_beginSpiral 4 = .ok (.getfield 46, 3) := by decide +kernel
theorem dX4_beginSpiral_7 : decode cX4_beginSpiral 7 = .ok (.if_icmp .ge 59, 3) := by decide +kernel
theorem dX4_beginSpiral_10 : decode cX4_beginSpiral 10 = .ok (.aload_n 1, 1) := by decide +kernel
theorem dX4_beginSpiral_11 : decode cX4_beginSpiral 11 = .ok (.getfield 60, 3) := by decide +kernel
theorem dX4_beginSpiral_14 : decode cX4_beginSpiral 14 = .ok (.aload_n 0, 1) := by decide +kernel
theorem dX4_beginSpiral_15 : decode cX4_beginSpiral 15 = .ok (.getfield 15, 3) := by decide +kernel
theorem dX4_beginSpiral_18 : decode cX4_beginSpiral 18 = .ok (.iload_n 3, 1) := by decide +kernel
theorem dX4_beginSpiral_19 : decode cX4_beginSpiral 19 = .ok (.iaload, 1) := by decide +kernel
theorem dX4_beginSpiral_20 : decode cX4_beginSpiral 20 = .ok (.aaload, 1) := by decide +kernel
theorem dX4_beginSpiral_21 : decode cX4_beginSpiral 21 = .ok (.astore 4, 2) := by decide +kernel
theorem dX4_beginSpiral_23 : decode cX4_beginSpiral 23 = .ok (.aload 4, 2) := by decide +kernel
theorem dX4_beginSpiral_25 : decode cX4_beginSpiral 25 = .ok (.getfield 114, 3) := by decide +kernel
theorem dX4_beginSpiral_28 : decode cX4_beginSpiral 28 = .ok (.iload_n 2, 1) := by decide +kernel
theorem dX4_beginSpiral_29 : decode cX4_beginSpiral 29 = .ok (.if_icmp .ne 31, 3) := by decide +kernel
theorem dX4_beginSpiral_32 : decode cX4_beginSpiral 32 = .ok (.aload_n 0, 1) := by decide +kernel
theorem dX4_beginSpiral_33 : decode cX4_beginSpiral 33 = .ok (.getfield 28, 3) := by decide +kernel
theorem dX4_beginSpiral_36 : decode cX4_beginSpiral 36 = .ok (.aload 4, 2) := by decide +kernel
theorem dX4_beginSpiral_38 : decode cX4_beginSpiral 38 = .ok (.getfield 64, 3) := by decide +kernel
theorem dX4_beginSpiral_41 : decode cX4_beginSpiral 41 = .ok (.invokevirtual 99, 3) := by decide +kernel
theorem dX4_beginSpiral_44 : decode cX4_beginSpiral 44 = .ok (.aload 4, 2) := by decide +kernel
theorem dX4_beginSpiral_46 : decode cX4_beginSpiral 46 = .ok (.getfield 64, 3) := by decide +kernel
theorem dX4_beginSpiral_49 : decode cX4_beginSpiral 49 = .ok (.invokevirtual 103, 3) := by decide +kernel
theorem dX4_beginSpiral_52 : decode cX4_beginSpiral 52 = .ok (.aload_n 1, 1) := by decide +kernel
theorem dX4_beginSpiral_53 : decode cX4_beginSpiral 53 = .ok (.getfield 128, 3) := by decide +kernel
theorem dX4_beginSpiral_56 : decode cX4_beginSpiral 56 = .ok (.invokevirtual 131, 3) := by decide +kernel
theorem dX4_beginSpiral_59 : decode cX4_beginSpiral 59 = .ok (.return_, 1) := by decide +kernel
theorem dX4_beginSpiral_60 : decode cX4_beginSpiral 60 = .ok (.iinc 3 1, 3) := by decide +kernel
theorem dX4_beginSpiral_63 : decode cX4_beginSpiral 63 = .ok (.goto (-61), 3) := by decide +kernel
theorem dX4_beginSpiral_66 : decode cX4_beginSpiral 66 = .ok (.aload_n 0, 1) := by decide +kernel
theorem dX4_beginSpiral_67 : decode cX4_beginSpiral 67 = .ok (.getfield 28, 3) := by decide +kernel
theorem dX4_beginSpiral_70 : decode cX4_beginSpiral 70 = .ok (.aload_n 1, 1) := by decide +kernel
theorem dX4_beginSpiral_71 : decode cX4_beginSpiral 71 = .ok (.getfield 134, 3) := by decide +kernel
theorem dX4_beginSpiral_74 : decode cX4_beginSpiral 74 = .ok (.iconst 2, 1) := by decide +kernel
theorem dX4_beginSpiral_75 : decode cX4_beginSpiral 75 = .ok (.idiv, 1) := by decide +kernel
theorem dX4_beginSpiral_76 : decode cX4_beginSpiral 76 = .ok (.aload_n 1, 1) := by decide +kernel
theorem dX4_beginSpiral_77 : decode cX4_beginSpiral 77 = .ok (.getfield 137, 3) := by decide +kernel
theorem dX4_beginSpiral_80 : decode cX4_beginSpiral 80 = .ok (.iconst 2, 1) := by decide +kernel
theorem dX4_beginSpiral_81 : decode cX4_beginSpiral 81 = .ok (.idiv, 1) := by decide +kernel
theorem dX4_beginSpiral_82 : decode cX4_beginSpiral 82 = .ok (.aload_n 1, 1) := by decide +kernel
theorem dX4_beginSpiral_83 : decode cX4_beginSpiral 83 = .ok (.getfield 128, 3) := by decide +kernel
theorem dX4_beginSpiral_86 : decode cX4_beginSpiral 86 = .ok (.invokevirtual 131, 3) := by decide +kernel
theorem dX4_beginSpiral_89 : decode cX4_beginSpiral 89 = .ok (.return_, 1) := by decide +kernel
theorem dX4_standsAtPoint_0 : decode cX4_standsAtPoint 0 = .ok (.aload_n 2, 1) := by decide +kernel
theorem dX4_standsAtPoint_1 : decode cX4_standsAtPoint 1 = .ok (.iload 4, 2) := by decide +kernel
theorem dX4_standsAtPoint_3 : decode cX4_standsAtPoint 3 = .ok (.invokevirtual 91, 3) := by decide +kernel
theorem dX4_standsAtPoint_6 : decode cX4_standsAtPoint 6 = .ok (.ifCond .ne 5, 3) := by decide +kernel
theorem dX4_standsAtPoint_9 : decode cX4_standsAtPoint 9 = .ok (.iconst 0, 1) := by decide +kernel
theorem dX4_standsAtPoint_10 : decode cX4_standsAtPoint 10 = .ok (.ireturn, 1) := by decide +kernel
theorem dX4_standsAtPoint_11 : decode cX4_standsAtPoint 11 = .ok (.aload_n 0, 1) := by decide +kernel
theorem dX4_standsAtPoint_12 : decode cX4_standsAtPoint 12 = .ok (.aload_n 2, 1) := by decide +kernel
theorem dX4_standsAtPoint_13 : decode cX4_standsAtPoint 13 = .ok (.iload_n 3, 1) := by decide +kernel
theorem dX4_standsAtPoint_14 : decode cX4_standsAtPoint 14 = .ok (.iload 4, 2) := by decide +kernel
theorem dX4_standsAtPoint_16 : decode cX4_standsAtPoint 16 = .ok (.invokevirtual 95, 3) := by decide +kernel
theorem dX4_standsAtPoint_19 : decode cX4_standsAtPoint 19 = .ok (.aload_n 0, 1) := by decide +kernel
theorem dX4_standsAtPoint_20 : decode cX4_standsAtPoint 20 = .ok (.getfield 21, 3) := by decide +kernel
theorem dX4_standsAtPoint_23 : decode cX4_standsAtPoint 23 = .ok (.aload_n 0, 1) := by decide +kernel
theorem dX4_standsAtPoint_24 : decode cX4_standsAtPoint 24 = .ok (.getfield 28, 3) := by decide +kernel
theorem dX4_standsAtPoint_27 : decode cX4_standsAtPoint 27 = .ok (.getfield 140, 3) := by decide +kernel
theorem dX4_standsAtPoint_30 : decode cX4_standsAtPoint 30 = .ok (.aload_n 0, 1) := by decide +kernel
theorem dX4_standsAtPoint_31 : decode cX4_standsAtPoint 31 = .ok (.getfield 28, 3) := by decide +kernel
theorem dX4_standsAtPoint_34 : decode cX4_standsAtPoint 34 = .ok (.getfield 143, 3) := by decide +kernel
theorem dX4_standsAtPoint_37 : decode cX4_standsAtPoint 37 = .ok (.invokevirtual 106, 3) := by decide +kernel
theorem dX4_standsAtPoint_40 : decode cX4_standsAtPoint 40 = .ok (.aload_n 0, 1) := by decide +kernel
theorem dX4_standsAtPoint_41 : decode cX4_standsAtPoint 41 = .ok (.aload_n 1, 1) := by decide +kernel
theorem dX4_standsAtPoint_42 : decode cX4_standsAtPoint 42 = .ok (.invokevirtual 110, 3) := by decide +kernel
theorem dX4_standsAtPoint_45 : decode cX4_standsAtPoint 45 = .ok (.ireturn, 1) := by decide +kernel
theorem dX4_measure_0 : decode cX4_measure 0 = .ok (.aload_n 0, 1) := by decide +kernel
theorem dX4_measure_1 : decode cX4_measure 1 = .ok (.getfield 21, 3) := by decide +kernel
theorem dX4_measure_4 : decode cX4_measure 4 = .ok (.iload_n 3, 1) := by decide +kernel
theorem dX4_measure_5 : decode cX4_measure 5 = .ok (.putfield 88, 3) := by decide +kernel
theorem dX4_measure_8 : decode cX4_measure 8 = .ok (.aload_n 0, 1) := by decide +kernel
theorem dX4_measure_9 : decode cX4_measure 9 = .ok (.getfield 21, 3) := by decide +kernel
theorem dX4_measure_12 : decode cX4_measure 12 = .ok (.iload_n 3, 1) := by decide +kernel
theorem dX4_measure_13 : decode cX4_measure 13 = .ok (.ifCond .eq 7, 3) := by decide +kernel
theorem dX4_measure_16 : decode cX4_measure 16 = .ok (.iconst 2, 1) := by decide +kernel
theorem dX4_measure_17 : decode cX4_measure 17 = .ok (.goto 7, 3) := by decide +kernel
theorem dX4_measure_20 : decode cX4_measure 20 = .ok (.aload_n 1, 1) := by decide +kernel
theorem dX4_measure_21 : decode cX4_measure 21 = .ok (.getfield 146, 3) := by decide +kernel
theorem dX4_measure_24 : decode cX4_measure 24 = .ok (.iload_n 2, 1) := by decide +kernel
theorem dX4_measure_25 : decode cX4_measure 25 = .ok (.imul, 1) := by decide +kernel
theorem dX4_measure_26 : decode cX4_measure 26 = .ok (.putfield 149, 3) := by decide +kernel
theorem dX4_measure_29 : decode cX4_measure 29 = .ok (.aload_n 0, 1) := by decide +kernel
theorem dX4_measure_30 : decode cX4_measure 30 = .ok (.getfield 21, 3) := by decide +kernel
theorem dX4_measure_33 : decode cX4_measure 33 = .ok (.iload_n 3, 1) := by decide +kernel
theorem dX4_measure_34 : decode cX4_measure 34 = .ok (.ifCond .eq 10, 3) := by decide +kernel
theorem dX4_measure_37 : decode cX4_measure 37 = .ok (.aload_n 1, 1) := by decide +kernel
theorem dX4_measure_38 : decode cX4_measure 38 = .ok (.getfield 146, 3) := by decide +kernel
theorem dX4_measure_41 : decode cX4_measure 41 = .ok (.goto 4, 3) := by decide +kernel
theorem dX4_measure_44 : decode cX4_measure 44 = .ok (.iconst 2, 1) := by decide +kernel
theorem dX4_measure_45 : decode cX4_measure 45 = .ok (.iload_n 2, 1) := by decide +kernel
theorem dX4_measure_46 : decode cX4_measure 46 = .ok (.imul, 1) := by decide +kernel
theorem dX4_measure_47 : decode cX4_measure 47 = .ok (.putfield 152, 3) := by decide +kernel
theorem dX4_measure_50 : decode cX4_measure 50 = .ok (.return_, 1) := by decide +kernel
theorem dX4_isPossible_0 : decode cX4_isPossible 0 = .ok (.aload_n 0, 1) := by decide +kernel
theorem dX4_isPossible_1 : decode cX4_isPossible 1 = .ok (.getfield 21, 3) := by decide +kernel
theorem dX4_isPossible_4 : decode cX4_isPossible 4 = .ok (.getfield 155, 3) := by decide +kernel
theorem dX4_isPossible_7 : decode cX4_isPossible 7 = .ok (.ifCond .lt 41, 3) := by decide +kernel
theorem dX4_isPossible_10 : decode cX4_isPossible 10 = .ok (.aload_n 0, 1) := by decide +kernel
theorem dX4_isPossible_11 : decode cX4_isPossible 11 = .ok (.getfield 21, 3) := by decide +kernel
theorem dX4_isPossible_14 : decode cX4_isPossible 14 = .ok (.invokevirtual 158, 3) := by decide +kernel
theorem dX4_isPossible_17 : decode cX4_isPossible 17 = .ok (.aload_n 1, 1) := by decide +kernel
theorem dX4_isPossible_18 : decode cX4_isPossible 18 = .ok (.getfield 134, 3) := by decide +kernel
theorem dX4_isPossible_21 : decode cX4_isPossible 21 = .ok (.if_icmp .gt 27, 3) := by decide +kernel
theorem dX4_isPossible_24 : decode cX4_isPossible 24 = .ok (.aload_n 0, 1) := by decide +kernel
theorem dX4_isPossible_25 : decode cX4_isPossible 25 = .ok (.getfield 21, 3) := by decide +kernel
theorem dX4_isPossible_28 : decode cX4_isPossible 28 = .ok (.getfield 161, 3) := by decide +kernel
theorem dX4_isPossible_31 : decode cX4_isPossible 31 = .ok (.ifCond .lt 17, 3) := by decide +kernel
theorem dX4_isPossible_34 : decode cX4_isPossible 34 = .ok (.aload_n 0, 1) := by decide +kernel
theorem dX4_isPossible_35 : decode cX4_isPossible 35 = .ok (.getfield 21, 3) := by decide +kernel
theorem dX4_isPossible_38 : decode cX4_isPossible 38 = .ok (.invokevirtual 164, 3) := by decide +kernel
theorem dX4_isPossible_41 : decode cX4_isPossible 41 = .ok (.aload_n 1, 1) := by decide +kernel
theorem dX4_isPossible_42 : decode cX4_isPossible 42 = .ok (.getfield 137, 3) := by decide +kernel
theorem dX4_isPossible_45 : decode cX4_isPossible 45 = .ok (.if_icmp .le 5, 3) := by decide +kernel
theorem dX4_isPossible_48 : decode cX4_isPossible 48 = .ok (.iconst 0, 1) := by decide +kernel
theorem dX4_isPossible_49 : decode cX4_isPossible 49 = .ok (.ireturn, 1) := by decide +kernel
theorem dX4_isPossible_50 : decode cX4_isPossible 50 = .ok (.aload_n 1, 1) := by decide +kernel
theorem dX4_isPossible_51 : decode cX4_isPossible 51 = .ok (.getfield 60, 3) := by decide +kernel
theorem dX4_isPossible_54 : decode cX4_isPossible 54 = .ok (.astore_n 2, 1) := by decide +kernel
theorem dX4_isPossible_55 : decode cX4_isPossible 55 = .ok (.aload_n 0, 1) := by decide +kernel
theorem dX4_isPossible_56 : decode cX4_isPossible 56 = .ok (.getfield 167, 3) := by decide +kernel
theorem dX4_isPossible_59 : decode cX4_isPossible 59 = .ok (.aload_n 0, 1) := by decide +kernel
theorem dX4_isPossible_60 : decode cX4_isPossible 60 = .ok (.getfield 46, 3) := by decide +kernel
theorem dX4_isPossible_63 : decode cX4_isPossible 63 = .ok (.if_icmp .ge 33, 3) := by decide +kernel
theorem dX4_isPossible_66 : decode cX4_isPossible 66 = .ok (.aload_n 0, 1) := by decide +kernel
theorem dX4_isPossible_67 : decode cX4_isPossible 67 = .ok (.getfield 21, 3) := by decide +kernel
theorem dX4_isPossible_70 : decode cX4_isPossible 70 = .ok (.aload_n 2, 1) := by decide +kernel
theorem dX4_isPossible_71 : decode cX4_isPossible 71 = .ok (.aload_n 0, 1) := by decide +kernel
theorem dX4_isPossible_72 : decode cX4_isPossible 72 = .ok (.getfield 15, 3) := by decide +kernel
theorem dX4_isPossible_75 : decode cX4_isPossible 75 = .ok (.aload_n 0, 1) := by decide +kernel
theorem dX4_isPossible_76 : decode cX4_isPossible 76 = .ok (.getfield 167, 3) := by decide +kernel
theorem dX4_isPossible_79 : decode cX4_isPossible 79 = .ok (.iaload, 1) := by decide +kernel
theorem dX4_isPossible_80 : decode cX4_isPossible 80 = .ok (.aaload, 1) := by decide +kernel
theorem dX4_isPossible_81 : decode cX4_isPossible 81 = .ok (.getfield 64, 3) := by decide +kernel
theorem dX4_isPossible_84 : decode cX4_isPossible 84 = .ok (.aload_n 1, 1) := by decide +kernel
theorem dX4_isPossible_85 : decode cX4_isPossible 85 = .ok (.getfield 170, 3) := by decide +kernel
theorem dX4_isPossible_88 : decode cX4_isPossible 88 = .ok (.invokevirtual 173, 3) := by decide +kernel
theorem dX4_isPossible_91 : decode cX4_isPossible 91 = .ok (.ifCond .ne 5, 3) := by decide +kernel
theorem dX4_isPossible_94 : decode cX4_isPossible 94 = .ok (.iconst 0, 1) := by decide +kernel
theorem dX4_isPossible_95 : decode cX4_isPossible 95 = .ok (.ireturn, 1) := by decide +kernel
theorem dX4_isPossible_96 : decode cX4_isPossible 96 = .ok (.iconst 0, 1) := by decide +kernel
theorem dX4_isPossible_97 : decode cX4_isPossible 97 = .ok (.istore_n 3, 1) := by decide +kernel
theorem dX4_isPossible_98 : decode cX4_isPossible 98 = .ok (.iload_n 3, 1) := by decide +kernel
theorem dX4_isPossible_99 : decode cX4_isPossible 99 = .ok (.aload_n 0, 1) := by decide +kernel
theorem dX4_isPossible_100 : decode cX4_isPossible 100 = .ok (.getfield 46, 3) := by decide +kernel
theorem dX4_isPossible_103 : decode cX4_isPossible 103 = .ok (.if_icmp .ge 41, 3) := by decide +kernel
theorem dX4_isPossible_106 : decode cX4_isPossible 106 = .ok (.aload_n 0, 1) := by decide +kernel
theorem dX4_isPossible_107 : decode cX4_isPossible 107 = .ok (.getfield 21, 3) := by decide +kernel
theorem dX4_isPossible_110 : decode cX4_isPossible 110 = .ok (.aload_n 2, 1) := by decide +kernel
theorem dX4_isPossible_111 : decode cX4_isPossible 111 = .ok (.aload_n 0, 1) := by decide +kernel
theorem dX4_isPossible_112 : decode cX4_isPossible 112 = .ok (.getfield 15, 3) := by decide +kernel
theorem dX4_isPossible_115 : decode cX4_isPossible 115 = .ok (.iload_n 3, 1) := by decide +kernel
theorem dX4_isPossible_116 : decode cX4_isPossible 116 = .ok (.iaload, 1) := by decide +kernel
theorem dX4_isPossible_117 : decode cX4_isPossible 117 = .ok (.aaload, 1) := by decide +kernel
theorem dX4_isPossible_118 : decode cX4_isPossible 118 = .ok (.getfield 64, 3) := by decide +kernel
theorem dX4_isPossible_121 : decode cX4_isPossible 121 = .ok (.aload_n 1, 1) := by decide +kernel
theorem dX4_isPossible_122 : decode cX4_isPossible 122 = .ok (.getfield 170, 3) := by decide +kernel
theorem dX4_isPossible_125 : decode cX4_isPossible 125 = .ok (.invokevirtual 173, 3) := by decide +kernel
theorem dX4_isPossible_128 : decode cX4_isPossible 128 = .ok (.ifCond .ne 10, 3) := by decide +kernel
theorem dX4_isPossible_131 : decode cX4_isPossible 131 = .ok (.aload_n 0, 1) := by decide +kernel
theorem dX4_isPossible_132 : decode cX4_isPossible 132 = .ok (.iload_n 3, 1) := by decide +kernel
theorem dX4_isPossible_133 : decode cX4_isPossible 133 = .ok (.putfield 167, 3) := by decide +kernel
theorem dX4_isPossible_136 : decode cX4_isPossible 136 = .ok (.iconst 0, 1) := by decide +kernel
theorem dX4_isPossible_137 : decode cX4_isPossible 137 = .ok (.ireturn, 1) := by decide +kernel
theorem dX4_isPossible_138 : decode cX4_isPossible 138 = .ok (.iinc 3 1, 3) := by decide +kernel
theorem dX4_isPossible_141 : decode cX4_isPossible 141 = .ok (.goto (-43), 3) := by decide +kernel
theorem dX4_isPossible_144 : decode cX4_isPossible 144 = .ok (.iconst 1, 1) := by decide +kernel
theorem dX4_isPossible_145 : decode cX4_isPossible 145 = .ok (.ireturn, 1) := by decide +kernel
theorem dX5_init_0 : decode cX5_init 0 = .ok (.aload_n 0, 1) := by decide +kernel
theorem dX5_init_1 : decode cX5_init 1 = .ok (.invokespecial 1, 3) := by decide +kernel
theorem dX5_init_4 : decode cX5_init 4 = .ok (.return_, 1) := by decide +kernel
theorem dX5_begin_0 : decode cX5_begin 0 = .ok (.aload_n 0, 1) := by decide +kernel
theorem dX5_begin_1 : decode cX5_begin 1 = .ok (.iload_n 1, 1) := by decide +kernel
theorem dX5_begin_2 : decode cX5_begin 2 = .ok (.putfield 7, 3) := by decide +kernel
theorem dX5_begin_5 : decode cX5_begin 5 = .ok (.aload_n 0, 1) := by decide +kernel
theorem dX5_begin_6 : decode cX5_begin 6 = .ok (.iload_n 2, 1) := by decide +kernel
theorem dX5_begin_7 : decode cX5_begin 7 = .ok (.putfield 13, 3) := by decide +kernel
theorem dX5_begin_10 : decode cX5_begin 10 = .ok (.aload_n 0, 1) := by decide +kernel
theorem dX5_begin_11 : decode cX5_begin 11 = .ok (.iload_n 3, 1) := by decide +kernel
theorem dX5_begin_12 : decode cX5_begin 12 = .ok (.putfield 16, 3) := by decide +kernel
theorem dX5_begin_15 : decode cX5_begin 15 = .ok (.aload_n 0, 1) := by decide +kernel
theorem dX5_begin_16 : decode cX5_begin 16 = .ok (.iconst 0, 1) := by decide +kernel
theorem dX5_begin_17 : decode cX5_begin 17 = .ok (.putfield 19, 3) := by decide +kernel
theorem dX5_begin_20 : decode cX5_begin 20 = .ok (.aload_n 0, 1) := by decide +kernel
theorem dX5_begin_21 : decode cX5_begin 21 = .ok (.iconst 1, 1) := by decide +kernel
theorem dX5_begin_22 : decode cX5_begin 22 = .ok (.putfield 22, 3) := by decide +kernel
theorem dX5_begin_25 : decode cX5_begin 25 = .ok (.aload_n 0, 1) := by decide +kernel
theorem dX5_begin_26 : decode cX5_begin 26 = .ok (.iconst 1, 1) := by decide +kernel
theorem dX5_begin_27 : decode cX5_begin 27 = .ok (.putfield 25, 3) := by decide +kernel
theorem dX5_begin_30 : decode cX5_begin 30 = .ok (.aload_n 0, 1) := by decide +kernel
theorem dX5_begin_31 : decode cX5_begin 31 = .ok (.iconst 0, 1) := by decide +kernel
theorem dX5_begin_32 : decode cX5_begin 32 = .ok (.putfield 28, 3) := by decide +kernel
theorem dX5_begin_35 : decode cX5_begin 35 = .ok (.return_, 1) := by decide +kernel
theorem dX5_goOn_0 : decode cX5_goOn 0 = .ok (.aload_n 0, 1) := by decide +kernel
theorem dX5_goOn_1 : decode cX5_goOn 1 = .ok (.dup, 1) := by decide +kernel
theorem dX5_goOn_2 : decode cX5_goOn 2 = .ok (.getfield 7, 3) := by decide +kernel
theorem dX5_goOn_5 : decode cX5_goOn 5 = .ok (.aload_n 0, 1) := by decide +kernel
theorem dX5_goOn_6 : decode cX5_goOn 6 = .ok (.getfield 16, 3) := by decide +kernel
theorem dX5_goOn_9 : decode cX5_goOn 9 = .ok (.iadd, 1) := by decide +kernel
theorem dX5_goOn_10 : decode cX5_goOn 10 = .ok (.putfield 7, 3) := by decide +kernel
theorem dX5_goOn_13 : decode cX5_goOn 13 = .ok (.aload_n 0, 1) := by decide +kernel
theorem dX5_goOn_14 : decode cX5_goOn 14 = .ok (.dup, 1) := by decide +kernel
theorem dX5_goOn_15 : decode cX5_goOn 15 = .ok (.getfield 13, 3) := by decide +kernel
theorem dX5_goOn_18 : decode cX5_goOn 18 = .ok (.aload_n 0, 1) := by decide +kernel
theorem dX5_goOn_19 : decode cX5_goOn 19 = .ok (.getfield 19, 3) := by decide +kernel
theorem dX5_goOn_22 : decode cX5_goOn 22 = .ok (.iadd, 1) := by decide +kernel
theorem dX5_goOn_23 : decode cX5_goOn 23 = .ok (.putfield 13, 3) := by decide +kernel
theorem dX5_goOn_26 : decode cX5_goOn 26 = .ok (.aload_n 0, 1) := by decide +kernel
theorem dX5_goOn_27 : decode cX5_goOn 27 = .ok (.dup, 1) := by decide +kernel
theorem dX5_goOn_28 : decode cX5_goOn 28 = .ok (.getfield 25, 3) := by decide +kernel
theorem dX5_goOn_31 : decode cX5_goOn 31 = .ok (.iconst 1, 1) := by decide +kernel
theorem dX5_goOn_32 : decode cX5_goOn 32 = .ok (.isub, 1) := by decide +kernel
theorem dX5_goOn_33 : decode cX5_goOn 33 = .ok (.putfield 25, 3) := by decide +kernel
theorem dX5_goOn_36 : decode cX5_goOn 36 = .ok (.aload_n 0, 1) := by decide +kernel
theorem dX5_goOn_37 : decode cX5_goOn 37 = .ok (.getfield 25, 3) := by decide +kernel
theorem dX5_goOn_40 : decode cX5_goOn 40 = .ok (.ifCond .ne 7, 3) := by decide +kernel
theorem dX5_goOn_43 : decode cX5_goOn 43 = .ok (.aload_n 0, 1) := by decide +kernel
theorem dX5_goOn_44 : decode cX5_goOn 44 = .ok (.invokevirtual 32, 3) := by decide +kernel
theorem dX5_goOn_47 : decode cX5_goOn 47 = .ok (.return_, 1) := by decide +kernel
theorem dX5_turn_0 : decode cX5_turn 0 = .ok (.aload_n 0, 1) := by decide +kernel
theorem dX5_turn_1 : decode cX5_turn 1 = .ok (.getfield 16, 3) := by decide +kernel
theorem dX5_turn_4 : decode cX5_turn 4 = .ok (.istore_n 1, 1) := by decide +kernel
theorem dX5_turn_5 : decode cX5_turn 5 = .ok (.aload_n 0, 1) := by decide +kernel
theorem dX5_turn_6 : decode cX5_turn 6 = .ok (.aload_n 0, 1) := by decide +kernel
theorem dX5_turn_7 : decode cX5_turn 7 = .ok (.getfield 19, 3) := by decide +kernel
theorem dX5_turn_10 : decode cX5_turn 10 = .ok (.ineg, 1) := by decide +kernel
theorem dX5_turn_11 : decode cX5_turn 11 = .ok (.putfield 16, 3) := by decide +kernel
theorem dX5_turn_14 : decode cX5_turn 14 = .ok (.aload_n 0, 1) := by decide +kernel
theorem dX5_turn_15 : decode cX5_turn 15 = .ok (.iload_n 1, 1) := by decide +kernel
theorem dX5_turn_16 : decode cX5_turn 16 = .ok (.putfield 19, 3) := by decide +kernel
theorem dX5_turn_19 : decode cX5_turn 19 = .ok (.aload_n 0, 1) := by decide +kernel
theorem dX5_turn_20 : decode cX5_turn 20 = .ok (.getfield 28, 3) := by decide +kernel
theorem dX5_turn_23 : decode cX5_turn 23 = .ok (.ifCond .eq 13, 3) := by decide +kernel
theorem dX5_turn_26 : decode cX5_turn 26 = .ok (.aload_n 0, 1) := by decide +kernel
theorem dX5_turn_27 : decode cX5_turn 27 = .ok (.dup, 1) := by decide +kernel
theorem dX5_turn_28 : decode cX5_turn 28 = .ok (.getfield 22, 3) := by decide +kernel
theorem dX5_turn_31 : decode cX5_turn 31 = .ok (.iconst 1, 1) := by decide +kernel
theorem dX5_turn_32 : decode cX5_turn 32 = .ok (.iadd, 1) := by decide +kernel
theorem dX5_turn_33 : decode cX5_turn 33 = .ok (.putfield 22, 3) := by decide +kernel
theorem dX5_turn_36 : decode cX5_turn 36 = .ok (.aload_n 0, 1) := by decide +kernel
theorem dX5_turn_37 : decode cX5_turn 37 = .ok (.aload_n 0, 1) := by decide +kernel
theorem dX5_turn_38 : decode cX5_turn 38 = .ok (.getfield 28, 3) := by decide +kernel
theorem dX5_turn_41 : decode cX5_turn 41 = .ok (.ifCond .ne 7, 3) := by decide +kernel
theorem dX5_turn_44 : decode cX5_turn 44 = .ok (.iconst 1, 1) := by decide +kernel
theorem dX5_turn_45 : decode cX5_turn 45 = .ok (.goto 4, 3) := by decide +kernel
theorem dX5_turn_48 : decode cX5_turn 48 = .ok (.iconst 0, 1) := by decide +kernel
theorem dX5_turn_49 : decode cX5_turn 49 = .ok (.putfield 28, 3) := by decide +kernel
theorem dX5_turn_52 : decode cX5_turn 52 = .ok (.aload_n 0, 1) := by decide +kernel
theorem dX5_turn_53 : decode cX5_turn 53 = .ok (.aload_n 0, 1) := by decide +kernel
theorem dX5_turn_54 : decode cX5_turn 54 = .ok (.getfield 22, 3) := by decide +kernel
theorem dX5_turn_57 : decode cX5_turn 57 = .ok (.putfield 25, 3) := by decide +kernel
theorem dX5_turn_60 : decode cX5_turn 60 = .ok (.return_, 1) := by decide +kernel
theorem dX6_init_0 : decode cX6_init 0 = .ok (.aload_n 0, 1) := by decide +kernel
theorem dX6_init_1 : decode cX6_init 1 = .ok (.invokespecial 3, 3) := by decide +kernel
theorem dX6_init_4 : decode cX6_init 4 = .ok (.aload_n 0, 1) := by decide +kernel
theorem dX6_init_5 : decode cX6_init 5 = .ok (.sipush 200, 3) := by decide +kernel
theorem dX6_init_8 : decode cX6_init 8 = .ok (.newarray .int, 2) := by decide +kernel
theorem dX6_init_10 : decode cX6_init 10 = .ok (.putfield 9, 3) := by decide +kernel
theorem dX6_init_13 : decode cX6_init 13 = .ok (.return_, 1) := by decide +kernel
theorem dX6_add_0 : decode cX6_add 0 = .ok (.aload_n 0, 1) := by decide +kernel
theorem dX6_add_1 : decode cX6_add 1 = .ok (.getfield 15, 3) := by decide +kernel
theorem dX6_add_4 : decode cX6_add 4 = .ok (.sipush 200, 3) := by decide +kernel
theorem dX6_add_7 : decode cX6_add 7 = .ok (.if_icmp .ge 23, 3) := by decide +kernel
theorem dX6_add_10 : decode cX6_add 10 = .ok (.aload_n 0, 1) := by decide +kernel
theorem dX6_add_11 : decode cX6_add 11 = .ok (.getfield 9, 3) := by decide +kernel
theorem dX6_add_14 : decode cX6_add 14 = .ok (.aload_n 0, 1) := by decide +kernel
theorem dX6_add_15 : decode cX6_add 15 = .ok (.getfield 15, 3) := by decide +kernel
theorem dX6_add_18 : decode cX6_add 18 = .ok (.iload_n 1, 1) := by decide +kernel
theorem dX6_add_19 : decode cX6_add 19 = .ok (.iastore, 1) := by decide +kernel
theorem dX6_add_20 : decode cX6_add 20 = .ok (.aload_n 0, 1) := by decide +kernel
theorem dX6_add_21 : decode cX6_add 21 = .ok (.dup, 1) := by decide +kernel
theorem dX6_add_22 : decode cX6_add 22 = .ok (.getfield 15, 3) := by decide +kernel
theorem dX6_add_25 : decode cX6_add 25 = .ok (.iconst 1, 1) := by decide +kernel
theorem dX6_add_26 : decode cX6_add 26 = .ok (.iadd, 1) := by decide +kernel
theorem dX6_add_27 : decode cX6_add 27 = .ok (.putfield 15, 3) := by decide +kernel
theorem dX6_add_30 : decode cX6_add 30 = .ok (.return_, 1) := by decide +kernel
theorem dX6_readInto_0 : decode cX6_readInto 0 = .ok (.aload_n 0, 1) := by decide +kernel
theorem dX6_readInto_1 : decode cX6_readInto 1 = .ok (.iconst 0, 1) := by decide +kernel
theorem dX6_readInto_2 : decode cX6_readInto 2 = .ok (.putfield 19, 3) := by decide +kernel
theorem dX6_readInto_5 : decode cX6_readInto 5 = .ok (.aload_n 0, 1) := by decide +kernel
theorem dX6_readInto_6 : decode cX6_readInto 6 = .ok (.iconst (-1), 1) := by decide +kernel
theorem dX6_readInto_7 : decode cX6_readInto 7 = .ok (.putfield 22, 3) := by decide +kernel
theorem dX6_readInto_10 : decode cX6_readInto 10 = .ok (.aload_n 1, 1) := by decide +kernel
theorem dX6_readInto_11 : decode cX6_readInto 11 = .ok (.iconst 0, 1) := by decide +kernel
theorem dX6_readInto_12 : decode cX6_readInto 12 = .ok (.putfield 25, 3) := by decide +kernel
theorem dX6_readInto_15 : decode cX6_readInto 15 = .ok (.iconst 0, 1) := by decide +kernel
theorem dX6_readInto_16 : decode cX6_readInto 16 = .ok (.istore_n 2, 1) := by decide +kernel
theorem dX6_readInto_17 : decode cX6_readInto 17 = .ok (.iload_n 2, 1) := by decide +kernel
theorem dX6_readInto_18 : decode cX6_readInto 18 = .ok (.bipush 24, 2) := by decide +kernel
theorem dX6_readInto_20 : decode cX6_readInto 20 = .ok (.if_icmp .gt 33, 3) := by decide +kernel
theorem dX6_readInto_23 : decode cX6_readInto 23 = .ok (.aload_n 0, 1) := by decide +kernel
theorem dX6_readInto_24 : decode cX6_readInto 24 = .ok (.getfield 19, 3) := by decide +kernel
theorem dX6_readInto_27 : decode cX6_readInto 27 = .ok (.aload_n 0, 1) := by decide +kernel
theorem dX6_readInto_28 : decode cX6_readInto 28 = .ok (.getfield 15, 3) := by decide +kernel
theorem dX6_readInto_31 : decode cX6_readInto 31 = .ok (.if_icmp .ge 22, 3) := by decide +kernel
theorem dX6_readInto_34 : decode cX6_readInto 34 = .ok (.aload_n 0, 1) := by decide +kernel
theorem dX6_readInto_35 : decode cX6_readInto 35 = .ok (.getfield 22, 3) := by decide +kernel
theorem dX6_readInto_38 : decode cX6_readInto 38 = .ok (.iconst (-1), 1) := by decide +kernel
theorem dX6_readInto_39 : decode cX6_readInto 39 = .ok (.if_icmp .ne 14, 3) := by decide +kernel
theorem dX6_readInto_42 : decode cX6_readInto 42 = .ok (.aload_n 0, 1) := by decide +kernel
theorem dX6_readInto_43 : decode cX6_readInto 43 = .ok (.aload_n 1, 1) := by decide +kernel
theorem dX6_readInto_44 : decode cX6_readInto 44 = .ok (.invokevirtual 30, 3) := by decide +kernel
theorem dX6_readInto_47 : decode cX6_readInto 47 = .ok (.iinc 2 1, 3) := by decide +kernel
theorem dX6_readInto_50 : decode cX6_readInto 50 = .ok (.goto (-33), 3) := by decide +kernel
theorem dX6_readInto_53 : decode cX6_readInto 53 = .ok (.aload_n 0, 1) := by decide +kernel
theorem dX6_readInto_54 : decode cX6_readInto 54 = .ok (.getfield 22, 3) := by decide +kernel
theorem dX6_readInto_57 : decode cX6_readInto 57 = .ok (.ireturn, 1) := by decide +kernel
theorem dX6_readWord_0 : decode cX6_readWord 0 = .ok (.aload_n 1, 1) := by decide +kernel
theorem dX6_readWord_1 : decode cX6_readWord 1 = .ok (.getfield 25, 3) := by decide +kernel
theorem dX6_readWord_4 : decode cX6_readWord 4 = .ok (.bipush 24, 2) := by decide +kernel
theorem dX6_readWord_6 : decode cX6_readWord 6 = .ok (.if_icmp .lt 12, 3) := by decide +kernel
theorem dX6_readWord_9 : decode cX6_readWord 9 = .ok (.aload_n 0, 1) := by decide +kernel
theorem dX6_readWord_10 : decode cX6_readWord 10 = .ok (.aload_n 0, 1) := by decide +kernel
theorem dX6_readWord_11 : decode cX6_readWord 11 = .ok (.getfield 19, 3) := by decide +kernel
theorem dX6_readWord_14 : decode cX6_readWord 14 = .ok (.putfield 22, 3) := by decide +kernel
theorem dX6_readWord_17 : decode cX6_readWord 17 = .ok (.return_, 1) := by decide +kernel
theorem dX6_readWord_18 : decode cX6_readWord 18 = .ok (.aload_n 1, 1) := by decide +kernel
theorem dX6_readWord_19 : decode cX6_readWord 19 = .ok (.getfield 34, 3) := by decide +kernel
theorem dX6_readWord_22 : decode cX6_readWord 22 = .ok (.aload_n 1, 1) := by decide +kernel
theorem dX6_readWord_23 : decode cX6_readWord 23 = .ok (.getfield 25, 3) := by decide +kernel
theorem dX6_readWord_26 : decode cX6_readWord 26 = .ok (.aaload, 1) := by decide +kernel
theorem dX6_readWord_27 : decode cX6_readWord 27 = .ok (.astore_n 2, 1) := by decide +kernel
theorem dX6_readWord_28 : decode cX6_readWord 28 = .ok (.aload_n 0, 1) := by decide +kernel
theorem dX6_readWord_29 : decode cX6_readWord 29 = .ok (.aload_n 1, 1) := by decide +kernel
theorem dX6_readWord_30 : decode cX6_readWord 30 = .ok (.aload_n 2, 1) := by decide +kernel
theorem dX6_readWord_31 : decode cX6_readWord 31 = .ok (.invokevirtual 38, 3) := by decide +kernel
theorem dX6_readWord_34 : decode cX6_readWord 34 = .ok (.aload_n 0, 1) := by decide +kernel
theorem dX6_readWord_35 : decode cX6_readWord 35 = .ok (.getfield 22, 3) := by decide +kernel
theorem dX6_readWord_38 : decode cX6_readWord 38 = .ok (.iconst (-1), 1) := by decide +kernel
theorem dX6_readWord_39 : decode cX6_readWord 39 = .ok (.if_icmp .ne 8, 3) := by decide +kernel
theorem dX6_readWord_42 : decode cX6_readWord 42 = .ok (.aload_n 0, 1) := by decide +kernel
theorem dX6_readWord_43 : decode cX6_readWord 43 = .ok (.aload_n 2, 1) := by decide +kernel
theorem dX6_readWord_44 : decode cX6_readWord 44 = .ok (.invokevirtual 42, 3) := by decide +kernel
theorem dX6_readWord_47 : decode cX6_readWord 47 = .ok (.aload_n 0, 1) := by decide +kernel
theorem dX6_readWord_48 : decode cX6_readWord 48 = .ok (.getfield 22, 3) := by decide +kernel
theorem dX6_readWord_51 : decode cX6_readWord 51 = .ok (.iconst (-1), 1) := by decide +kernel
theorem dX6_readWord_52 : decode cX6_readWord 52 = .ok (.if_icmp .ne 12, 3) := by decide +kernel
theorem dX6_readWord_55 : decode cX6_readWord 55 = .ok (.aload_n 2, 1) := by decide +kernel
theorem dX6_readWord_56 : decode cX6_readWord 56 = .ok (.aload_n 0, 1) := by decide +kernel
theorem dX6_readWord_57 : decode cX6_readWord 57 = .ok (.iconst 2, 1) := by decide +kernel
theorem dX6_readWord_58 : decode cX6_readWord 58 = .ok (.invokevirtual 46, 3) := by decide +kernel
theorem dX6_readWord_61 : decode cX6_readWord 61 = .ok (.putfield 50, 3) := by decide +kernel
theorem dX6_readWord_64 : decode cX6_readWord 64 = .ok (.aload_n 0, 1) := by decide +kernel
theorem dX6_readWord_65 : decode cX6_readWord 65 = .ok (.getfield 22, 3) := by decide +kernel
theorem dX6_readWord_68 : decode cX6_readWord 68 = .ok (.iconst (-1), 1) := by decide +kernel
theorem dX6_readWord_69 : decode cX6_readWord 69 = .ok (.if_icmp .ne 12, 3) := by decide +kernel
theorem dX6_readWord_72 : decode cX6_readWord 72 = .ok (.aload_n 2, 1) := by decide +kernel
theorem dX6_readWord_73 : decode cX6_readWord 73 = .ok (.aload_n 0, 1) := by decide +kernel
theorem dX6_readWord_74 : decode cX6_readWord 74 = .ok (.iconst 3, 1) := by decide +kernel
theorem dX6_readWord_75 : decode cX6_readWord 75 = .ok (.invokevirtual 46, 3) := by decide +kernel
theorem dX6_readWord_78 : decode cX6_readWord 78 = .ok (.putfield 55, 3) := by decide +kernel
theorem dX6_readWord_81 : decode cX6_readWord 81 = .ok (.aload_n 0, 1) := by decide +kernel
theorem dX6_readWord_82 : decode cX6_readWord 82 = .ok (.getfield 22, 3) := by decide +kernel
theorem dX6_readWord_85 : decode cX6_readWord 85 = .ok (.iconst (-1), 1) := by decide +kernel
theorem dX6_readWord_86 : decode cX6_readWord 86 = .ok (.if_icmp .ne 9, 3) := by decide +kernel
theorem dX6_readWord_89 : decode cX6_readWord 89 = .ok (.aload_n 0, 1) := by decide +kernel
theorem dX6_readWord_90 : decode cX6_readWord 90 = .ok (.bipush 59, 2) := by decide +kernel
theorem dX6_readWord_92 : decode cX6_readWord 92 = .ok (.invokevirtual 58, 3) := by decide +kernel
theorem dX6_readWord_95 : decode cX6_readWord 95 = .ok (.aload_n 0, 1) := by decide +kernel
theorem dX6_readWord_96 : decode cX6_readWord 96 = .ok (.getfield 22, 3) := by decide +kernel
theorem dX6_readWord_99 : decode cX6_readWord 99 = .ok (.iconst (-1), 1) := by decide +kernel
theorem dX6_readWord_100 : decode cX6_readWord 100 = .ok (.if_icmp .ne 13, 3) := by decide +kernel
theorem dX6_readWord_103 : decode cX6_readWord 103 = .ok (.aload_n 1, 1) := by decide +kernel
theorem dX6_readWord_104 : decode cX6_readWord 104 = .ok (.dup, 1) := by decide +kernel
theorem dX6_readWord_105 : decode cX6_readWord 105 = .ok (.getfield 25, 3) := by decide +kernel
theorem dX6_readWord_108 : decode cX6_readWord 108 = .ok (.iconst 1, 1) := by decide +kernel
theorem dX6_readWord_109 : decode cX6_readWord 109 = .ok (.iadd, 1) := by decide +kernel
theorem dX6_readWord_110 : decode cX6_readWord 110 = .ok (.putfield 25, 3) := by decide +kernel
theorem dX6_readWord_113 : decode cX6_readWord 113 = .ok (.return_, 1) := by decide +kernel
theorem dX6_readLetters_0 : decode cX6_readLetters 0 = .ok (.aload_n 0, 1) := by decide +kernel
theorem dX6_readLetters_1 : decode cX6_readLetters 1 = .ok (.getfield 19, 3) := by decide +kernel
theorem dX6_readLetters_4 : decode cX6_readLetters 4 = .ok (.istore_n 3, 1) := by decide +kernel
theorem dX6_readLetters_5 : decode cX6_readLetters 5 = .ok (.aload_n 2, 1) := by decide +kernel
theorem dX6_readLetters_6 : decode cX6_readLetters 6 = .ok (.iconst 0, 1) := by decide +kernel
theorem dX6_readLetters_7 : decode cX6_readLetters 7 = .ok (.putfield 62, 3) := by decide +kernel
theorem dX6_readLetters_10 : decode cX6_readLetters 10 = .ok (.aload_n 2, 1) := by decide +kernel
theorem dX6_readLetters_11 : decode cX6_readLetters 11 = .ok (.getfield 62, 3) := by decide +kernel
theorem dX6_readLetters_14 : decode cX6_readLetters 14 = .ok (.bipush 10, 2) := by decide +kernel
theorem dX6_readLetters_16 : decode cX6_readLetters 16 = .ok (.if_icmp .ge 58, 3) := by decide +kernel
theorem dX6_readLetters_19 : decode cX6_readLetters 19 = .ok (.aload_n 0, 1) := by decide +kernel
theorem dX6_readLetters_20 : decode cX6_readLetters 20 = .ok (.bipush 97, 2) := by decide +kernel
theorem dX6_readLetters_22 : decode cX6_readLetters 22 = .ok (.bipush 122, 2) := by decide +kernel
theorem dX6_readLetters_24 : decode cX6_readLetters 24 = .ok (.invokevirtual 63, 3) := by decide +kernel
theorem dX6_readLetters_27 : decode cX6_readLetters 27 = .ok (.ifCond .eq 47, 3) := by decide +kernel
theorem dX6_readLetters_30 : decode cX6_readLetters 30 = .ok (.aload_n 2, 1) := by decide +kernel
theorem dX6_readLetters_31 : decode cX6_readLetters 31 = .ok (.getfield 67, 3) := by decide +kernel
theorem dX6_readLetters_34 : decode cX6_readLetters 34 = .ok (.aload_n 2, 1) := by decide +kernel
theorem dX6_readLetters_35 : decode cX6_readLetters 35 = .ok (.getfield 62, 3) := by decide +kernel
theorem dX6_readLetters_38 : decode cX6_readLetters 38 = .ok (.aload_n 0, 1) := by decide +kernel
theorem dX6_readLetters_39 : decode cX6_readLetters 39 = .ok (.getfield 9, 3) := by decide +kernel
theorem dX6_readLetters_42 : decode cX6_readLetters 42 = .ok (.aload_n 0, 1) := by decide +kernel
theorem dX6_readLetters_43 : decode cX6_readLetters 43 = .ok (.getfield 19, 3) := by decide +kernel
theorem dX6_readLetters_46 : decode cX6_readLetters 46 = .ok (.iaload, 1) := by decide +kernel
theorem dX6_readLetters_47 : decode cX6_readLetters 47 = .ok (.bipush 97, 2) := by decide +kernel
theorem dX6_readLetters_49 : decode cX6_readLetters 49 = .ok (.isub, 1) := by decide +kernel
theorem dX6_readLetters_50 : decode cX6_readLetters 50 = .ok (.iastore, 1) := by decide +kernel
theorem dX6_readLetters_51 : decode cX6_readLetters 51 = .ok (.aload_n 2, 1) := by decide +kernel
theorem dX6_readLetters_52 : decode cX6_readLetters 52 = .ok (.dup, 1) := by decide +kernel
theorem dX6_readLetters_53 : decode cX6_readLetters 53 = .ok (.getfield 62, 3) := by decide +kernel
theorem dX6_readLetters_56 : decode cX6_readLetters 56 = .ok (.iconst 1, 1) := by decide +kernel
theorem dX6_readLetters_57 : decode cX6_readLetters 57 = .ok (.iadd, 1) := by decide +kernel
theorem dX6_readLetters_58 : decode cX6_readLetters 58 = .ok (.putfield 62, 3) := by decide +kernel
theorem dX6_readLetters_61 : decode cX6_readLetters 61 = .ok (.aload_n 0, 1) := by decide +kernel
theorem dX6_readLetters_62 : decode cX6_readLetters 62 = .ok (.dup, 1) := by decide +kernel
theorem dX6_readLetters_63 : decode cX6_readLetters 63 = .ok (.getfield 19, 3) := by decide +kernel
theorem dX6_readLetters_66 : decode cX6_readLetters 66 = .ok (.iconst 1, 1) := by decide +kernel
theorem dX6_readLetters_67 : decode cX6_readLetters 67 = .ok (.iadd, 1) := by decide +kernel
theorem dX6_readLetters_68 : decode cX6_readLetters 68 = .ok (.putfield 19, 3) := by decide +kernel
theorem dX6_readLetters_71 : decode cX6_readLetters 71 = .ok (.goto (-61), 3) := by decide +kernel
theorem dX6_readLetters_74 : decode cX6_readLetters 74 = .ok (.aload_n 2, 1) := by decide +kernel
theorem dX6_readLetters_75 : decode cX6_readLetters 75 = .ok (.getfield 62, 3) := by decide +kernel
theorem dX6_readLetters_78 : decode cX6_readLetters 78 = .ok (.ifCond .eq 14, 3) := by decide +kernel
theorem dX6_readLetters_81 : decode cX6_readLetters 81 = .ok (.aload_n 0, 1) := by decide +kernel
theorem dX6_readLetters_82 : decode cX6_readLetters 82 = .ok (.bipush 44, 2) := by decide +kernel
theorem dX6_readLetters_84 : decode cX6_readLetters 84 = .ok (.bipush 44, 2) := by decide +kernel
theorem dX6_readLetters_86 : decode cX6_readLetters 86 = .ok (.invokevirtual 63, 3) := by decide +kernel
theorem dX6_readLetters_89 : decode cX6_readLetters 89 = .ok (.ifCond .ne 14, 3) := by decide +kernel
theorem dX6_readLetters_92 : decode cX6_readLetters 92 = .ok (.aload_n 0, 1) := by decide +kernel
theorem dX6_readLetters_93 : decode cX6_readLetters 93 = .ok (.aload_n 0, 1) := by decide +kernel
theorem dX6_readLetters_94 : decode cX6_readLetters 94 = .ok (.getfield 19, 3) := by decide +kernel
theorem dX6_readLetters_97 : decode cX6_readLetters 97 = .ok (.putfield 22, 3) := by decide +kernel
theorem dX6_readLetters_100 : decode cX6_readLetters 100 = .ok (.goto 30, 3) := by decide +kernel
theorem dX6_readLetters_103 : decode cX6_readLetters 103 = .ok (.aload_n 1, 1) := by decide +kernel
theorem dX6_readLetters_104 : decode cX6_readLetters 104 = .ok (.aload_n 2, 1) := by decide +kernel
theorem dX6_readLetters_105 : decode cX6_readLetters 105 = .ok (.invokevirtual 70, 3) := by decide +kernel
theorem dX6_readLetters_108 : decode cX6_readLetters 108 = .ok (.iconst (-1), 1) := by decide +kernel
theorem dX6_readLetters_109 : decode cX6_readLetters 109 = .ok (.if_icmp .eq 11, 3) := by decide +kernel
theorem dX6_readLetters_112 : decode cX6_readLetters 112 = .ok (.aload_n 0, 1) := by decide +kernel
theorem dX6_readLetters_113 : decode cX6_readLetters 113 = .ok (.iload_n 3, 1) := by decide +kernel
theorem dX6_readLetters_114 : decode cX6_readLetters 114 = .ok (.putfield 22, 3) := by decide +kernel
theorem dX6_readLetters_117 : decode cX6_readLetters 117 = .ok (.goto 13, 3) := by decide +kernel
theorem dX6_readLetters_120 : decode cX6_readLetters 120 = .ok (.aload_n 0, 1) := by decide +kernel
theorem dX6_readLetters_121 : decode cX6_readLetters 121 = .ok (.dup, 1) := by decide +kernel
theorem dX6_readLetters_122 : decode cX6_readLetters 122 = .ok (.getfield 19, 3) := by decide +kernel
theorem dX6_readLetters_125 : decode cX6_readLetters 125 = .ok (.iconst 1, 1) := by decide +kernel
theorem dX6_readLetters_126 : decode cX6_readLetters 126 = .ok (.iadd, 1) := by decide +kernel
theorem dX6_readLetters_127 : decode cX6_readLetters 127 = .ok (.putfield 19, 3) := by decide +kernel
theorem dX6_readLetters_130 : decode cX6_readLetters 130 = .ok (.return_, 1) := by decide +kernel
theorem dX6_readWeight_0 : decode cX6_readWeight 0 = .ok (.aload_n 0, 1) := by decide +kernel
theorem dX6_readWeight_1 : decode cX6_readWeight 1 = .ok (.getfield 19, 3) := by decide +kernel
theorem dX6_readWeight_4 : decode cX6_readWeight 4 = .ok (.istore_n 2, 1) := by decide +kernel
theorem dX6_readWeight_5 : decode cX6_readWeight 5 = .ok (.aload_n 1, 1) := by decide +kernel
theorem dX6_readWeight_6 : decode cX6_readWeight 6 = .ok (.iconst 0, 1) := by decide +kernel
theorem dX6_readWeight_7 : decode cX6_readWeight 7 = .ok (.putfield 74, 3) := by decide +kernel
theorem dX6_readWeight_10 : decode cX6_readWeight 10 = .ok (.aload_n 0, 1) := by decide +kernel
theorem dX6_readWeight_11 : decode cX6_readWeight 11 = .ok (.getfield 19, 3) := by decide +kernel
theorem dX6_readWeight_14 : decode cX6_readWeight 14 = .ok (.iload_n 2, 1) := by decide +kernel
theorem dX6_readWeight_15 : decode cX6_readWeight 15 = .ok (.isub, 1) := by decide +kernel
theorem dX6_readWeight_16 : decode cX6_readWeight 16 = .ok (.iconst 4, 1) := by decide +kernel
theorem dX6_readWeight_17 : decode cX6_readWeight 17 = .ok (.if_icmp .ge 51, 3) := by decide +kernel
theorem dX6_readWeight_20 : decode cX6_readWeight 20 = .ok (.aload_n 0, 1) := by decide +kernel
theorem dX6_readWeight_21 : decode cX6_readWeight 21 = .ok (.bipush 48, 2) := by decide +kernel
theorem dX6_readWeight_23 : decode cX6_readWeight 23 = .ok (.bipush 57, 2) := by decide +kernel
theorem dX6_readWeight_25 : decode cX6_readWeight 25 = .ok (.invokevirtual 63, 3) := by decide +kernel
theorem dX6_readWeight_28 : decode cX6_readWeight 28 = .ok (.ifCond .eq 40, 3) := by decide +kernel
theorem dX6_readWeight_31 : decode cX6_readWeight 31 = .ok (.aload_n 1, 1) := by decide +kernel
theorem dX6_readWeight_32 : decode cX6_readWeight 32 = .ok (.aload_n 1, 1) := by decide +kernel
theorem dX6_readWeight_33 : decode cX6_readWeight 33 = .ok (.getfield 74, 3) := by decide +kernel
theorem dX6_readWeight_36 : decode cX6_readWeight 36 = .ok (.bipush 10, 2) := by decide +kernel
theorem dX6_readWeight_38 : decode cX6_readWeight 38 = .ok (.imul, 1) := by decide +kernel
theorem dX6_readWeight_39 : decode cX6_readWeight 39 = .ok (.aload_n 0, 1) := by decide +kernel
theorem dX6_readWeight_40 : decode cX6_readWeight 40 = .ok (.getfield 9, 3) := by decide +kernel
theorem dX6_readWeight_43 : decode cX6_readWeight 43 = .ok (.aload_n 0, 1) := by decide +kernel
theorem dX6_readWeight_44 : decode cX6_readWeight 44 = .ok (.getfield 19, 3) := by decide +kernel
theorem dX6_readWeight_47 : decode cX6_readWeight 47 = .ok (.iaload, 1) := by decide +kernel
theorem dX6_readWeight_48 : decode cX6_readWeight 48 = .ok (.iadd, 1) := by decide +kernel
theorem dX6_readWeight_49 : decode cX6_readWeight 49 = .ok (.bipush 48, 2) := by decide +kernel
theorem dX6_readWeight_51 : decode cX6_readWeight 51 = .ok (.isub, 1) := by decide +kernel
theorem dX6_readWeight_52 : decode cX6_readWeight 52 = .ok (.putfield 74, 3) := by decide +kernel
theorem dX6_readWeight_55 : decode cX6_readWeight 55 = .ok (.aload_n 0, 1) := by decide +kernel
theorem dX6_readWeight_56 : decode cX6_readWeight 56 = .ok (.dup, 1) := by decide +kernel
theorem dX6_readWeight_57 : decode cX6_readWeight 57 = .ok (.getfield 19, 3) := by decide +kernel
theorem dX6_readWeight_60 : decode cX6_readWeight 60 = .ok (.iconst 1, 1) := by decide +kernel
theorem dX6_readWeight_61 : decode cX6_readWeight 61 = .ok (.iadd, 1) := by decide +kernel
theorem dX6_readWeight_62 : decode cX6_readWeight 62 = .ok (.putfield 19, 3) := by decide +kernel
theorem dX6_readWeight_65 : decode cX6_readWeight 65 = .ok (.goto (-55), 3) := by decide +kernel
theorem dX6_readWeight_68 : decode cX6_readWeight 68 = .ok (.aload_n 0, 1) := by decide +kernel
theorem dX6_readWeight_69 : decode cX6_readWeight 69 = .ok (.getfield 19, 3) := by decide +kernel
theorem dX6_readWeight_72 : decode cX6_readWeight 72 = .ok (.iload_n 2, 1) := by decide +kernel
theorem dX6_readWeight_73 : decode cX6_readWeight 73 = .ok (.if_icmp .eq 14, 3) := by decide +kernel
theorem dX6_readWeight_76 : decode cX6_readWeight 76 = .ok (.aload_n 0, 1) := by decide +kernel
theorem dX6_readWeight_77 : decode cX6_readWeight 77 = .ok (.bipush 48, 2) := by decide +kernel
theorem dX6_readWeight_79 : decode cX6_readWeight 79 = .ok (.bipush 57, 2) := by decide +kernel
theorem dX6_readWeight_81 : decode cX6_readWeight 81 = .ok (.invokevirtual 63, 3) := by decide +kernel
theorem dX6_readWeight_84 : decode cX6_readWeight 84 = .ok (.ifCond .eq 14, 3) := by decide +kernel
theorem dX6_readWeight_87 : decode cX6_readWeight 87 = .ok (.aload_n 0, 1) := by decide +kernel
theorem dX6_readWeight_88 : decode cX6_readWeight 88 = .ok (.aload_n 0, 1) := by decide +kernel
theorem dX6_readWeight_89 : decode cX6_readWeight 89 = .ok (.getfield 19, 3) := by decide +kernel
theorem dX6_readWeight_92 : decode cX6_readWeight 92 = .ok (.putfield 22, 3) := by decide +kernel
theorem dX6_readWeight_95 : decode cX6_readWeight 95 = .ok (.goto 35, 3) := by decide +kernel
theorem dX6_readWeight_98 : decode cX6_readWeight 98 = .ok (.aload_n 1, 1) := by decide +kernel
theorem dX6_readWeight_99 : decode cX6_readWeight 99 = .ok (.getfield 74, 3) := by decide +kernel
theorem dX6_readWeight_102 : decode cX6_readWeight 102 = .ok (.iconst 1, 1) := by decide +kernel
theorem dX6_readWeight_103 : decode cX6_readWeight 103 = .ok (.if_icmp .lt 13, 3) := by decide +kernel
theorem dX6_readWeight_106 : decode cX6_readWeight 106 = .ok (.aload_n 1, 1) := by decide +kernel
theorem dX6_readWeight_107 : decode cX6_readWeight 107 = .ok (.getfield 74, 3) := by decide +kernel
theorem dX6_readWeight_110 : decode cX6_readWeight 110 = .ok (.sipush 1000, 3) := by decide +kernel
theorem dX6_readWeight_113 : decode cX6_readWeight 113 = .ok (.if_icmp .le 11, 3) := by decide +kernel
theorem dX6_readWeight_116 : decode cX6_readWeight 116 = .ok (.aload_n 0, 1) := by decide +kernel
theorem dX6_readWeight_117 : decode cX6_readWeight 117 = .ok (.iload_n 2, 1) := by decide +kernel
theorem dX6_readWeight_118 : decode cX6_readWeight 118 = .ok (.putfield 22, 3) := by decide +kernel
theorem dX6_readWeight_121 : decode cX6_readWeight 121 = .ok (.goto 9, 3) := by decide +kernel
theorem dX6_readWeight_124 : decode cX6_readWeight 124 = .ok (.aload_n 0, 1) := by decide +kernel
theorem dX6_readWeight_125 : decode cX6_readWeight 125 = .ok (.bipush 44, 2) := by decide +kernel
theorem dX6_readWeight_127 : decode cX6_readWeight 127 = .ok (.invokevirtual 58, 3) := by decide +kernel
theorem dX6_readWeight_130 : decode cX6_readWeight 130 = .ok (.return_, 1) := by decide +kernel
theorem dX6_readDigit_0 : decode cX6_readDigit 0 = .ok (.aload_n 0, 1) := by decide +kernel
theorem dX6_readDigit_1 : decode cX6_readDigit 1 = .ok (.bipush 48, 2) := by decide +kernel
theorem dX6_readDigit_3 : decode cX6_readDigit 3 = .ok (.bipush 48, 2) := by decide +kernel
theorem dX6_readDigit_5 : decode cX6_readDigit 5 = .ok (.iload_n 1, 1) := by decide +kernel
theorem dX6_readDigit_6 : decode cX6_readDigit 6 = .ok (.iadd, 1) := by decide +kernel
theorem dX6_readDigit_7 : decode cX6_readDigit 7 = .ok (.invokevirtual 63, 3) := by decide +kernel
theorem dX6_readDigit_10 : decode cX6_readDigit 10 = .ok (.ifCond .ne 13, 3) := by decide +kernel
theorem dX6_readDigit_13 : decode cX6_readDigit 13 = .ok (.aload_n 0, 1) := by decide +kernel
theorem dX6_readDigit_14 : decode cX6_readDigit 14 = .ok (.aload_n 0, 1) := by decide +kernel
theorem dX6_readDigit_15 : decode cX6_readDigit 15 = .ok (.getfield 19, 3) := by decide +kernel
theorem dX6_readDigit_18 : decode cX6_readDigit 18 = .ok (.putfield 22, 3) := by decide +kernel
theorem dX6_readDigit_21 : decode cX6_readDigit 21 = .ok (.iconst 0, 1) := by decide +kernel
theorem dX6_readDigit_22 : decode cX6_readDigit 22 = .ok (.ireturn, 1) := by decide +kernel
theorem dX6_readDigit_23 : decode cX6_readDigit 23 = .ok (.aload_n 0, 1) := by decide +kernel
theorem dX6_readDigit_24 : decode cX6_readDigit 24 = .ok (.getfield 9, 3) := by decide +kernel
theorem dX6_readDigit_27 : decode cX6_readDigit 27 = .ok (.aload_n 0, 1) := by decide +kernel
theorem dX6_readDigit_28 : decode cX6_readDigit 28 = .ok (.getfield 19, 3) := by decide +kernel
theorem dX6_readDigit_31 : decode cX6_readDigit 31 = .ok (.iaload, 1) := by decide +kernel
theorem dX6_readDigit_32 : decode cX6_readDigit 32 = .ok (.bipush 48, 2) := by decide +kernel
theorem dX6_readDigit_34 : decode cX6_readDigit 34 = .ok (.isub, 1) := by decide +kernel
theorem dX6_readDigit_35 : decode cX6_readDigit 35 = .ok (.istore_n 2, 1) := by decide +kernel
theorem dX6_readDigit_36 : decode cX6_readDigit 36 = .ok (.aload_n 0, 1) := by decide +kernel
theorem dX6_readDigit_37 : decode cX6_readDigit 37 = .ok (.dup, 1) := by decide +kernel
theorem dX6_readDigit_38 : decode cX6_readDigit 38 = .ok (.getfield 19, 3) := by decide +kernel
theorem dX6_readDigit_41 : decode cX6_readDigit 41 = .ok (.iconst 1, 1) := by decide +kernel
theorem dX6_readDigit_42 : decode cX6_readDigit 42 = .ok (.iadd, 1) := by decide +kernel
theorem dX6_readDigit_43 : decode cX6_readDigit 43 = .ok (.putfield 19, 3) := by decide +kernel
theorem dX6_readDigit_46 : decode cX6_readDigit 46 = .ok (.iload_n 2, 1) := by decide +kernel
theorem dX6_readDigit_47 : decode cX6_readDigit 47 = .ok (.ireturn, 1) := by decide +kernel
theorem dX6_readSign_0 : decode cX6_readSign 0 = .ok (.aload_n 0, 1) := by decide +kernel
theorem dX6_readSign_1 : decode cX6_readSign 1 = .ok (.iload_n 1, 1) := by decide +kernel
theorem dX6_readSign_2 : decode cX6_readSign 2 = .ok (.iload_n 1, 1) := by decide +kernel
theorem dX6_readSign_3 : decode cX6_readSign 3 = .ok (.invokevirtual 63, 3) := by decide +kernel
theorem dX6_readSign_6 : decode cX6_readSign 6 = .ok (.ifCond .eq 16, 3) := by decide +kernel
theorem dX6_readSign_9 : decode cX6_readSign 9 = .ok (.aload_n 0, 1) := by decide +kernel
theorem dX6_readSign_10 : decode cX6_readSign 10 = .ok (.dup, 1) := by decide +kernel
theorem dX6_readSign_11 : decode cX6_readSign 11 = .ok (.getfield 19, 3) := by decide +kernel
theorem dX6_readSign_14 : decode cX6_readSign 14 = .ok (.iconst 1, 1) := by decide +kernel
theorem dX6_readSign_15 : decode cX6_readSign 15 = .ok (.iadd, 1) := by decide +kernel
theorem dX6_readSign_16 : decode cX6_readSign 16 = .ok (.putfield 19, 3) := by decide +kernel
theorem dX6_readSign_19 : decode cX6_readSign 19 = .ok (.goto 11, 3) := by decide +kernel
theorem dX6_readSign_22 : decode cX6_readSign 22 = .ok (.aload_n 0, 1) := by decide +kernel
theorem dX6_readSign_23 : decode cX6_readSign 23 = .ok (.aload_n 0, 1) := by decide +kernel
theorem dX6_readSign_24 : decode cX6_readSign 24 = .ok (.getfield 19, 3) := by decide +kernel
theorem dX6_readSign_27 : decode cX6_readSign 27 = .ok (.putfield 22, 3) := by decide +kernel
theorem dX6_readSign_30 : decode cX6_readSign 30 = .ok (.return_, 1) := by decide +kernel
theorem dX6_isBetween_0 : decode cX6_isBetween 0 = .ok (.aload_n 0, 1) := by decide +kernel
theorem dX6_isBetween_1 : decode cX6_isBetween 1 = .ok (.getfield 19, 3) := by decide +kernel
theorem dX6_isBetween_4 : decode cX6_isBetween 4 = .ok (.aload_n 0, 1) := by decide +kernel
theorem dX6_isBetween_5 : decode cX6_isBetween 5 = .ok (.getfield 15, 3) := by decide +kernel
theorem dX6_isBetween_8 : decode cX6_isBetween 8 = .ok (.if_icmp .ge 33, 3) := by decide +kernel
theorem dX6_isBetween_11 : decode cX6_isBetween 11 = .ok (.aload_n 0, 1) := by decide +kernel
theorem dX6_isBetween_12 : decode cX6_isBetween 12 = .ok (.getfield 9, 3) := by decide +kernel
theorem dX6_isBetween_15 : decode cX6_isBetween 15 = .ok (.aload_n 0, 1) := by decide +kernel
theorem dX6_isBetween_16 : decode cX6_isBetween 16 = .ok (.getfield 19, 3) := by decide +kernel
theorem dX6_isBetween_19 : decode cX6_isBetween 19 = .ok (.iaload, 1) := by decide +kernel
theorem dX6_isBetween_20 : decode cX6_isBetween 20 = .ok (.iload_n 1, 1) := by decide +kernel
theorem dX6_isBetween_21 : decode cX6_isBetween 21 = .ok (.if_icmp .lt 20, 3) := by decide +kernel
theorem dX6_isBetween_24 : decode cX6_isBetween 24 = .ok (.aload_n 0, 1) := by decide +kernel
theorem dX6_isBetween_25 : decode cX6_isBetween 25 = .ok (.getfield 9, 3) := by decide +kernel
theorem dX6_isBetween_28 : decode cX6_isBetween 28 = .ok (.aload_n 0, 1) := by decide +kernel
theorem dX6_isBetween_29 : decode cX6_isBetween 29 = .ok (.getfield 19, 3) := by decide +kernel
theorem dX6_isBetween_32 : decode cX6_isBetween 32 = .ok (.iaload, 1) := by decide +kernel
theorem dX6_isBetween_33 : decode cX6_isBetween 33 = .ok (.iload_n 2, 1) := by decide +kernel
theorem dX6_isBetween_34 : decode cX6_isBetween 34 = .ok (.if_icmp .gt 7, 3) := by decide +kernel
theorem dX6_isBetween_37 : decode cX6_isBetween 37 = .ok (.iconst 1, 1) := by decide +kernel
theorem dX6_isBetween_38 : decode cX6_isBetween 38 = .ok (.goto 4, 3) := by decide +kernel
theorem dX6_isBetween_41 : decode cX6_isBetween 41 = .ok (.iconst 0, 1) := by decide +kernel
theorem dX6_isBetween_42 : decode cX6_isBetween 42 = .ok (.ireturn, 1) := by decide +kernel
theorem dX7_init_0 : decode cX7_init 0 = .ok (.aload_n 0, 1) := by decide +kernel
theorem dX7_init_1 : decode cX7_init 1 = .ok (.invokespecial 1, 3) := by decide +kernel
theorem dX7_init_4 : decode cX7_init 4 = .ok (.aload_n 0, 1) := by decide +kernel
theorem dX7_init_5 : decode cX7_init 5 = .ok (.new 7, 3) := by decide +kernel
theorem dX7_init_8 : decode cX7_init 8 = .ok (.dup, 1) := by decide +kernel
theorem dX7_init_9 : decode cX7_init 9 = .ok (.invokespecial 9, 3) := by decide +kernel
theorem dX7_init_12 : decode cX7_init 12 = .ok (.putfield 10, 3) := by decide +kernel
theorem dX7_init_15 : decode cX7_init 15 = .ok (.aload_n 0, 1) := by decide +kernel
theorem dX7_init_16 : decode cX7_init 16 = .ok (.new 16, 3) := by decide +kernel
theorem dX7_init_19 : decode cX7_init 19 = .ok (.dup, 1) := by decide +kernel
theorem dX7_init_20 : decode cX7_init 20 = .ok (.invokespecial 18, 3) := by decide +kernel
theorem dX7_init_23 : decode cX7_init 23 = .ok (.putfield 19, 3) := by decide +kernel
theorem dX7_init_26 : decode cX7_init 26 = .ok (.aload_n 0, 1) := by decide +kernel
theorem dX7_init_27 : decode cX7_init 27 = .ok (.new 16, 3) := by decide +kernel
theorem dX7_init_30 : decode cX7_init 30 = .ok (.dup, 1) := by decide +kernel
theorem dX7_init_31 : decode cX7_init 31 = .ok (.invokespecial 18, 3) := by decide +kernel
theorem dX7_init_34 : decode cX7_init 34 = .ok (.putfield 23, 3) := by decide +kernel
theorem dX7_init_37 : decode cX7_init 37 = .ok (.aload_n 0, 1) := by decide +kernel
theorem dX7_init_38 : decode cX7_init 38 = .ok (.new 26, 3) := by decide +kernel
theorem dX7_init_41 : decode cX7_init 41 = .ok (.dup, 1) := by decide +kernel
theorem dX7_init_42 : decode cX7_init 42 = .ok (.invokespecial 28, 3) := by decide +kernel
theorem dX7_init_45 : decode cX7_init 45 = .ok (.putfield 29, 3) := by decide +kernel
theorem dX7_init_48 : decode cX7_init 48 = .ok (.aload_n 0, 1) := by decide +kernel
theorem dX7_init_49 : decode cX7_init 49 = .ok (.new 33, 3) := by decide +kernel
theorem dX7_init_52 : decode cX7_init 52 = .ok (.dup, 1) := by decide +kernel
theorem dX7_init_53 : decode cX7_init 53 = .ok (.invokespecial 35, 3) := by decide +kernel
theorem dX7_init_56 : decode cX7_init 56 = .ok (.putfield 36, 3) := by decide +kernel
theorem dX7_init_59 : decode cX7_init 59 = .ok (.aload_n 0, 1) := by decide +kernel
theorem dX7_init_60 : decode cX7_init 60 = .ok (.bipush 80, 2) := by decide +kernel
theorem dX7_init_62 : decode cX7_init 62 = .ok (.newarray .boolean, 2) := by decide +kernel
theorem dX7_init_64 : decode cX7_init 64 = .ok (.putfield 40, 3) := by decide +kernel
theorem dX7_init_67 : decode cX7_init 67 = .ok (.return_, 1) := by decide +kernel
theorem dX7_append_0 : decode cX7_append 0 = .ok (.iload_n 1, 1) := by decide +kernel
theorem dX7_append_1 : decode cX7_append 1 = .ok (.iconst 0, 1) := by decide +kernel
theorem dX7_append_2 : decode cX7_append 2 = .ok (.bipush 127, 2) := by decide +kernel
theorem dX7_append_4 : decode cX7_append 4 = .ok (.invokestatic 44, 3) := by decide +kernel
theorem dX7_append_7 : decode cX7_append 7 = .ok (.aload_n 0, 1) := by decide +kernel
theorem dX7_append_8 : decode cX7_append 8 = .ok (.getfield 10, 3) := by decide +kernel
theorem dX7_append_11 : decode cX7_append 11 = .ok (.getfield 48, 3) := by decide +kernel
theorem dX7_append_14 : decode cX7_append 14 = .ok (.sipush 200, 3) := by decide +kernel
theorem dX7_append_17 : decode cX7_append 17 = .ok (.if_icmp .lt 13, 3) := by decide +kernel
theorem dX7_append_20 : decode cX7_append 20 = .ok (.new 52, 3) := by decide +kernel
theorem dX7_append_23 : decode cX7_append 23 = .ok (.dup, 1) := by decide +kernel
theorem dX7_append_24 : decode cX7_append 24 = .ok (.ldc 54, 2) := by decide +kernel
theorem dX7_append_26 : decode cX7_append 26 = .ok (.invokespecial 56, 3) := by decide +kernel
theorem dX7_append_29 : decode cX7_append 29 = .ok (.athrow, 1) := by decide +kernel
theorem dX7_append_30 : decode cX7_append 30 = .ok (.aload_n 0, 1) := by decide +kernel
theorem dX7_append_31 : decode cX7_append 31 = .ok (.getfield 10, 3) := by decide +kernel
theorem dX7_append_34 : decode cX7_append 34 = .ok (.iload_n 1, 1) := by decide +kernel
theorem dX7_append_35 : decode cX7_append 35 = .ok (.invokevirtual 59, 3) := by decide +kernel
theorem dX7_append_38 : decode cX7_append 38 = .ok (.aload_n 0, 1) := by decide +kernel
theorem dX7_append_39 : decode cX7_append 39 = .ok (.getfield 10, 3) := by decide +kernel
theorem dX7_append_42 : decode cX7_append 42 = .ok (.getfield 48, 3) := by decide +kernel
theorem dX7_append_45 : decode cX7_append 45 = .ok (.ireturn, 1) := by decide +kernel
theorem dX7_clearText_0 : decode cX7_clearText 0 = .ok (.aload_n 0, 1) := by decide +kernel
theorem dX7_clearText_1 : decode cX7_clearText 1 = .ok (.getfield 10, 3) := by decide +kernel
theorem dX7_clearText_4 : decode cX7_clearText 4 = .ok (.getfield 48, 3) := by decide +kernel
theorem dX7_clearText_7 : decode cX7_clearText 7 = .ok (.istore_n 1, 1) := by decide +kernel
theorem dX7_clearText_8 : decode cX7_clearText 8 = .ok (.aload_n 0, 1) := by decide +kernel
theorem dX7_clearText_9 : decode cX7_clearText 9 = .ok (.getfield 10, 3) := by decide +kernel
theorem dX7_clearText_12 : decode cX7_clearText 12 = .ok (.iconst 0, 1) := by decide +kernel
theorem dX7_clearText_13 : decode cX7_clearText 13 = .ok (.putfield 48, 3) := by decide +kernel
theorem dX7_clearText_16 : decode cX7_clearText 16 = .ok (.iload_n 1, 1) := by decide +kernel
theorem dX7_clearText_17 : decode cX7_clearText 17 = .ok (.ireturn, 1) := by decide +kernel
theorem dX7_parse_0 : decode cX7_parse 0 = .ok (.aload_n 0, 1) := by decide +kernel
theorem dX7_parse_1 : decode cX7_parse 1 = .ok (.getfield 10, 3) := by decide +kernel
theorem dX7_parse_4 : decode cX7_parse 4 = .ok (.aload_n 0, 1) := by decide +kernel
theorem dX7_parse_5 : decode cX7_parse 5 = .ok (.getfield 23, 3) := by decide +kernel
theorem dX7_parse_8 : decode cX7_parse 8 = .ok (.invokevirtual 63, 3) := by decide +kernel
theorem dX7_parse_11 : decode cX7_parse 11 = .ok (.istore_n 1, 1) := by decide +kernel
theorem dX7_parse_12 : decode cX7_parse 12 = .ok (.iload_n 1, 1) := by decide +kernel
theorem dX7_parse_13 : decode cX7_parse 13 = .ok (.iconst (-1), 1) := by decide +kernel
theorem dX7_parse_14 : decode cX7_parse 14 = .ok (.if_icmp .eq 8, 3) := by decide +kernel
theorem dX7_parse_17 : decode cX7_parse 17 = .ok (.bipush (-10), 2) := by decide +kernel
theorem dX7_parse_19 : decode cX7_parse 19 = .ok (.iload_n 1, 1) := by decide +kernel
theorem dX7_parse_20 : decode cX7_parse 20 = .ok (.isub, 1) := by decide +kernel
theorem dX7_parse_21 : decode cX7_parse 21 = .ok (.ireturn, 1) := by decide +kernel
theorem dX7_parse_22 : decode cX7_parse 22 = .ok (.aload_n 0, 1) := by decide +kernel
theorem dX7_parse_23 : decode cX7_parse 23 = .ok (.getfield 23, 3) := by decide +kernel
theorem dX7_parse_26 : decode cX7_parse 26 = .ok (.aload_n 0, 1) := by decide +kernel
theorem dX7_parse_27 : decode cX7_parse 27 = .ok (.getfield 19, 3) := by decide +kernel
theorem dX7_parse_30 : decode cX7_parse 30 = .ok (.invokevirtual 67, 3) := by decide +kernel
theorem dX7_parse_33 : decode cX7_parse 33 = .ok (.iconst 0, 1) := by decide +kernel
theorem dX7_parse_34 : decode cX7_parse 34 = .ok (.istore_n 2, 1) := by decide +kernel
theorem dX7_parse_35 : decode cX7_parse 35 = .ok (.iload_n 2, 1) := by decide +kernel
theorem dX7_parse_36 : decode cX7_parse 36 = .ok (.aload_n 0, 1) := by decide +kernel
theorem dX7_parse_37 : decode cX7_parse 37 = .ok (.getfield 23, 3) := by decide +kernel
theorem dX7_parse_40 : decode cX7_parse 40 = .ok (.getfield 71, 3) := by decide +kernel
theorem dX7_parse_43 : decode cX7_parse 43 = .ok (.if_icmp .ge 22, 3) := by decide +kernel
theorem dX7_parse_46 : decode cX7_parse 46 = .ok (.aload_n 0, 1) := by decide +kernel
theorem dX7_parse_47 : decode cX7_parse 47 = .ok (.aload_n 0, 1) := by decide +kernel
theorem dX7_parse_48 : decode cX7_parse 48 = .ok (.getfield 23, 3) := by decide +kernel
theorem dX7_parse_51 : decode cX7_parse 51 = .ok (.getfield 74, 3) := by decide +kernel
theorem dX7_parse_54 : decode cX7_parse 54 = .ok (.iload_n 2, 1) := by decide +kernel
theorem dX7_parse_55 : decode cX7_parse 55 = .ok (.aaload, 1) := by decide +kernel
theorem dX7_parse_56 : decode cX7_parse 56 = .ok (.invokevirtual 78, 3) := by decide +kernel
theorem dX7_parse_59 : decode cX7_parse 59 = .ok (.iinc 2 1, 3) := by decide +kernel
theorem dX7_parse_62 : decode cX7_parse 62 = .ok (.goto (-27), 3) := by decide +kernel
theorem dX7_parse_65 : decode cX7_parse 65 = .ok (.aload_n 0, 1) := by decide +kernel
theorem dX7_parse_66 : decode cX7_parse 66 = .ok (.getfield 29, 3) := by decide +kernel
theorem dX7_parse_69 : decode cX7_parse 69 = .ok (.aload_n 0, 1) := by decide +kernel
theorem dX7_parse_70 : decode cX7_parse 70 = .ok (.getfield 19, 3) := by decide +kernel
theorem dX7_parse_73 : decode cX7_parse 73 = .ok (.invokevirtual 82, 3) := by decide +kernel
theorem dX7_parse_76 : decode cX7_parse 76 = .ok (.aload_n 0, 1) := by decide +kernel
theorem dX7_parse_77 : decode cX7_parse 77 = .ok (.getfield 19, 3) := by decide +kernel
theorem dX7_parse_80 : decode cX7_parse 80 = .ok (.aload_n 0, 1) := by decide +kernel
theorem dX7_parse_81 : decode cX7_parse 81 = .ok (.getfield 23, 3) := by decide +kernel
theorem dX7_parse_84 : decode cX7_parse 84 = .ok (.invokevirtual 85, 3) := by decide +kernel
theorem dX7_parse_87 : decode cX7_parse 87 = .ok (.aload_n 0, 1) := by decide +kernel
theorem dX7_parse_88 : decode cX7_parse 88 = .ok (.getfield 19, 3) := by decide +kernel
theorem dX7_parse_91 : decode cX7_parse 91 = .ok (.getfield 71, 3) := by decide +kernel
theorem dX7_parse_94 : decode cX7_parse 94 = .ok (.ireturn, 1) := by decide +kernel
theorem dX7_setWeight_0 : decode cX7_setWeight 0 = .ok (.aload_n 0, 1) := by decide +kernel
theorem dX7_setWeight_1 : decode cX7_setWeight 1 = .ok (.iload_n 1, 1) := by decide +kernel
theorem dX7_setWeight_2 : decode cX7_setWeight 2 = .ok (.invokevirtual 88, 3) := by decide +kernel
theorem dX7_setWeight_5 : decode cX7_setWeight 5 = .ok (.iload_n 2, 1) := by decide +kernel
theorem dX7_setWeight_6 : decode cX7_setWeight 6 = .ok (.iconst 1, 1) := by decide +kernel
theorem dX7_setWeight_7 : decode cX7_setWeight 7 = .ok (.sipush 1000, 3) := by decide +kernel
theorem dX7_setWeight_10 : decode cX7_setWeight 10 = .ok (.invokestatic 44, 3) := by decide +kernel
theorem dX7_setWeight_13 : decode cX7_setWeight 13 = .ok (.aload_n 0, 1) := by decide +kernel
theorem dX7_setWeight_14 : decode cX7_setWeight 14 = .ok (.getfield 29, 3) := by decide +kernel
theorem dX7_setWeight_17 : decode cX7_setWeight 17 = .ok (.aload_n 0, 1) := by decide +kernel
theorem dX7_setWeight_18 : decode cX7_setWeight 18 = .ok (.getfield 19, 3) := by decide +kernel
theorem dX7_setWeight_21 : decode cX7_setWeight 21 = .ok (.invokevirtual 82, 3) := by decide +kernel
theorem dX7_setWeight_24 : decode cX7_setWeight 24 = .ok (.aload_n 0, 1) := by decide +kernel
theorem dX7_setWeight_25 : decode cX7_setWeight 25 = .ok (.getfield 19, 3) := by decide +kernel
theorem dX7_setWeight_28 : decode cX7_setWeight 28 = .ok (.getfield 74, 3) := by decide +kernel
theorem dX7_setWeight_31 : decode cX7_setWeight 31 = .ok (.iload_n 1, 1) := by decide +kernel
theorem dX7_setWeight_32 : decode cX7_setWeight 32 = .ok (.aaload, 1) := by decide +kernel
theorem dX7_setWeight_33 : decode cX7_setWeight 33 = .ok (.getfield 91, 3) := by decide +kernel
theorem dX7_setWeight_36 : decode cX7_setWeight 36 = .ok (.istore_n 3, 1) := by decide +kernel
theorem dX7_setWeight_37 : decode cX7_setWeight 37 = .ok (.aload_n 0, 1) := by decide +kernel
theorem dX7_setWeight_38 : decode cX7_setWeight 38 = .ok (.getfield 19, 3) := by decide +kernel
theorem dX7_setWeight_41 : decode cX7_setWeight 41 = .ok (.getfield 74, 3) := by decide +kernel
theorem dX7_setWeight_44 : decode cX7_setWeight 44 = .ok (.iload_n 1, 1) := by decide +kernel
theorem dX7_setWeight_45 : decode cX7_setWeight 45 = .ok (.aaload, 1) := by decide +kernel
theorem dX7_setWeight_46 : decode cX7_setWeight 46 = .ok (.iload_n 2, 1) := by decide +kernel
theorem dX7_setWeight_47 : decode cX7_setWeight 47 = .ok (.putfield 91, 3) := by decide +kernel
theorem dX7_setWeight_50 : decode cX7_setWeight 50 = .ok (.iload_n 3, 1) := by decide +kernel
theorem dX7_setWeight_51 : decode cX7_setWeight 51 = .ok (.ireturn, 1) := by decide +kernel
theorem dX7_setKind_0 : decode cX7_setKind 0 = .ok (.aload_n 0, 1) := by decide +kernel
theorem dX7_setKind_1 : decode cX7_setKind 1 = .ok (.iload_n 1, 1) := by decide +kernel
theorem dX7_setKind_2 : decode cX7_setKind 2 = .ok (.invokevirtual 88, 3) := by decide +kernel
theorem dX7_setKind_5 : decode cX7_setKind 5 = .ok (.iload_n 2, 1) := by decide +kernel
theorem dX7_setKind_6 : decode cX7_setKind 6 = .ok (.iconst 0, 1) := by decide +kernel
theorem dX7_setKind_7 : decode cX7_setKind 7 = .ok (.iconst 2, 1) := by decide +kernel
theorem dX7_setKind_8 : decode cX7_setKind 8 = .ok (.invokestatic 44, 3) := by decide +kernel
theorem dX7_setKind_11 : decode cX7_setKind 11 = .ok (.iload_n 3, 1) := by decide +kernel
theorem dX7_setKind_12 : decode cX7_setKind 12 = .ok (.iconst 0, 1) := by decide +kernel
theorem dX7_setKind_13 : decode cX7_setKind 13 = .ok (.iconst 3, 1) := by decide +kernel
theorem dX7_setKind_14 : decode cX7_setKind 14 = .ok (.invokestatic 44, 3) := by decide +kernel
theorem dX7_setKind_17 : decode cX7_setKind 17 = .ok (.aload_n 0, 1) := by decide +kernel
theorem dX7_setKind_18 : decode cX7_setKind 18 = .ok (.getfield 29, 3) := by decide +kernel
theorem dX7_setKind_21 : decode cX7_setKind 21 = .ok (.aload_n 0, 1) := by decide +kernel
theorem dX7_setKind_22 : decode cX7_setKind 22 = .ok (.getfield 19, 3) := by decide +kernel
theorem dX7_setKind_25 : decode cX7_setKind 25 = .ok (.invokevirtual 82, 3) := by decide +kernel
theorem dX7_setKind_28 : decode cX7_setKind 28 = .ok (.aload_n 0, 1) := by decide +kernel
theorem dX7_setKind_29 : decode cX7_setKind 29 = .ok (.getfield 19, 3) := by decide +kernel
theorem dX7_setKind_32 : decode cX7_setKind 32 = .ok (.getfield 74, 3) := by decide +kernel
theorem dX7_setKind_35 : decode cX7_setKind 35 = .ok (.iload_n 1, 1) := by decide +kernel
theorem dX7_setKind_36 : decode cX7_setKind 36 = .ok (.aaload, 1) := by decide +kernel
theorem dX7_setKind_37 : decode cX7_setKind 37 = .ok (.getfield 96, 3) := by decide +kernel
theorem dX7_setKind_40 : decode cX7_setKind 40 = .ok (.istore 4, 2) := by decide +kernel
theorem dX7_setKind_42 : decode cX7_setKind 42 = .ok (.aload_n 0, 1) := by decide +kernel
theorem dX7_setKind_43 : decode cX7_setKind 43 = .ok (.getfield 19, 3) := by decide +kernel
theorem dX7_setKind_46 : decode cX7_setKind 46 = .ok (.getfield 74, 3) := by decide +kernel
theorem dX7_setKind_49 : decode cX7_setKind 49 = .ok (.iload_n 1, 1) := by decide +kernel
theorem dX7_setKind_50 : decode cX7_setKind 50 = .ok (.aaload, 1) := by decide +kernel
theorem dX7_setKind_51 : decode cX7_setKind 51 = .ok (.iload_n 2, 1) := by decide +kernel
theorem dX7_setKind_52 : decode cX7_setKind 52 = .ok (.putfield 96, 3) := by decide +kernel
theorem dX7_setKind_55 : decode cX7_setKind 55 = .ok (.aload_n 0, 1) := by decide +kernel
theorem dX7_setKind_56 : decode cX7_setKind 56 = .ok (.getfield 19, 3) := by decide +kernel
theorem dX7_setKind_59 : decode cX7_setKind 59 = .ok (.getfield 74, 3) := by decide +kernel
theorem dX7_setKind_62 : decode cX7_setKind 62 = .ok (.iload_n 1, 1) := by decide +kernel
theorem dX7_setKind_63 : decode cX7_setKind 63 = .ok (.aaload, 1) := by decide +kernel
theorem dX7_setKind_64 : decode cX7_setKind 64 = .ok (.iload_n 3, 1) := by decide +kernel
theorem dX7_setKind_65 : decode cX7_setKind 65 = .ok (.putfield 99, 3) := by decide +kernel
theorem dX7_setKind_68 : decode cX7_setKind 68 = .ok (.iload 4, 2) := by decide +kernel
theorem dX7_setKind_70 : decode cX7_setKind 70 = .ok (.ireturn, 1) := by decide +kernel
theorem dX7_remove_0 : decode cX7_remove 0 = .ok (.aload_n 0, 1) := by decide +kernel
theorem dX7_remove_1 : decode cX7_remove 1 = .ok (.iload_n 1, 1) := by decide +kernel
theorem dX7_remove_2 : decode cX7_remove 2 = .ok (.invokevirtual 88, 3) := by decide +kernel
theorem dX7_remove_5 : decode cX7_remove 5 = .ok (.aload_n 0, 1) := by decide +kernel
theorem dX7_remove_6 : decode cX7_remove 6 = .ok (.getfield 29, 3) := by decide +kernel
theorem dX7_remove_9 : decode cX7_remove 9 = .ok (.aload_n 0, 1) := by decide +kernel
theorem dX7_remove_10 : decode cX7_remove 10 = .ok (.getfield 19, 3) := by decide +kernel
theorem dX7_remove_13 : decode cX7_remove 13 = .ok (.invokevirtual 82, 3) := by decide +kernel
theorem dX7_remove_16 : decode cX7_remove 16 = .ok (.aload_n 0, 1) := by decide +kernel
theorem dX7_remove_17 : decode cX7_remove 17 = .ok (.getfield 19, 3) := by decide +kernel
theorem dX7_remove_20 : decode cX7_remove 20 = .ok (.iload_n 1, 1) := by decide +kernel
theorem dX7_remove_21 : decode cX7_remove 21 = .ok (.invokevirtual 102, 3) := by decide +kernel
theorem dX7_remove_24 : decode cX7_remove 24 = .ok (.aload_n 0, 1) := by decide +kernel
theorem dX7_remove_25 : decode cX7_remove 25 = .ok (.getfield 19, 3) := by decide +kernel
theorem dX7_remove_28 : decode cX7_remove 28 = .ok (.getfield 71, 3) := by decide +kernel
theorem dX7_remove_31 : decode cX7_remove 31 = .ok (.ireturn, 1) := by decide +kernel
theorem dX7_setCanvas_0 : decode cX7_setCanvas 0 = .ok (.iload_n 1, 1) := by decide +kernel
theorem dX7_setCanvas_1 : decode cX7_setCanvas 1 = .ok (.bipush 10, 2) := by decide +kernel
theorem dX7_setCanvas_3 : decode cX7_setCanvas 3 = .ok (.bipush 80, 2) := by decide +kernel
theorem dX7_setCanvas_5 : decode cX7_setCanvas 5 = .ok (.invokestatic 44, 3) := by decide +kernel
theorem dX7_setCanvas_8 : decode cX7_setCanvas 8 = .ok (.iload_n 2, 1) := by decide +kernel
theorem dX7_setCanvas_9 : decode cX7_setCanvas 9 = .ok (.bipush 10, 2) := by decide +kernel
theorem dX7_setCanvas_11 : decode cX7_setCanvas 11 = .ok (.bipush 50, 2) := by decide +kernel
theorem dX7_setCanvas_13 : decode cX7_setCanvas 13 = .ok (.invokestatic 44, 3) := by decide +kernel
theorem dX7_setCanvas_16 : decode cX7_setCanvas 16 = .ok (.aload_n 0, 1) := by decide +kernel
theorem dX7_setCanvas_17 : decode cX7_setCanvas 17 = .ok (.getfield 29, 3) := by decide +kernel
theorem dX7_setCanvas_20 : decode cX7_setCanvas 20 = .ok (.aload_n 0, 1) := by decide +kernel
theorem dX7_setCanvas_21 : decode cX7_setCanvas 21 = .ok (.getfield 19, 3) := by decide +kernel
theorem dX7_setCanvas_24 : decode cX7_setCanvas 24 = .ok (.invokevirtual 82, 3) := by decide +kernel
theorem dX7_setCanvas_27 : decode cX7_setCanvas 27 = .ok (.aload_n 0, 1) := by decide +kernel
theorem dX7_setCanvas_28 : decode cX7_setCanvas 28 = .ok (.getfield 19, 3) := by decide +kernel
theorem dX7_setCanvas_31 : decode cX7_setCanvas 31 = .ok (.getfield 105, 3) := by decide +kernel
theorem dX7_setCanvas_34 : decode cX7_setCanvas 34 = .ok (.istore_n 3, 1) := by decide +kernel
theorem dX7_setCanvas_35 : decode cX7_setCanvas 35 = .ok (.aload_n 0, 1) := by decide +kernel
theorem dX7_setCanvas_36 : decode cX7_setCanvas 36 = .ok (.getfield 19, 3) := by decide +kernel
theorem dX7_setCanvas_39 : decode cX7_setCanvas 39 = .ok (.iload_n 1, 1) := by decide +kernel
theorem dX7_setCanvas_40 : decode cX7_setCanvas 40 = .ok (.putfield 105, 3) := by decide +kernel
theorem dX7_setCanvas_43 : decode cX7_setCanvas 43 = .ok (.aload_n 0, 1) := by decide +kernel
theorem dX7_setCanvas_44 : decode cX7_setCanvas 44 = .ok (.getfield 19, 3) := by decide +kernel
theorem dX7_setCanvas_47 : decode cX7_setCanvas 47 = .ok (.iload_n 2, 1) := by decide +kernel
theorem dX7_setCanvas_48 : decode cX7_setCanvas 48 = .ok (.putfield 108, 3) := by decide +kernel
theorem dX7_setCanvas_51 : decode cX7_setCanvas 51 = .ok (.iload_n 3, 1) := by decide +kernel
theorem dX7_setCanvas_52 : decode cX7_setCanvas 52 = .ok (.ireturn, 1) := by decide +kernel
theorem dX7_setWays_0 : decode cX7_setWays 0 = .ok (.iload_n 1, 1) := by decide +kernel
theorem dX7_setWays_1 : decode cX7_setWays 1 = .ok (.iconst 0, 1) := by decide +kernel
theorem dX7_setWays_2 : decode cX7_setWays 2 = .ok (.iconst 3, 1) := by decide +kernel
theorem dX7_setWays_3 : decode cX7_setWays 3 = .ok (.invokestatic 44, 3) := by decide +kernel
theorem dX7_setWays_6 : decode cX7_setWays 6 = .ok (.iload_n 2, 1) := by decide +kernel
theorem dX7_setWays_7 : decode cX7_setWays 7 = .ok (.iconst 1, 1) := by decide +kernel
theorem dX7_setWays_8 : decode cX7_setWays 8 = .ok (.iconst 4, 1) := by decide +kernel
theorem dX7_setWays_9 : decode cX7_setWays 9 = .ok (.invokestatic 44, 3) := by decide +kernel
theorem dX7_setWays_12 : decode cX7_setWays 12 = .ok (.iload_n 3, 1) := by decide +kernel
theorem dX7_setWays_13 : decode cX7_setWays 13 = .ok (.iconst 1, 1) := by decide +kernel
theorem dX7_setWays_14 : decode cX7_setWays 14 = .ok (.bipush 8, 2) := by decide +kernel
theorem dX7_setWays_16 : decode cX7_setWays 16 = .ok (.invokestatic 44, 3) := by decide +kernel
theorem dX7_setWays_19 : decode cX7_setWays 19 = .ok (.aload_n 0, 1) := by decide +kernel
theorem dX7_setWays_20 : decode cX7_setWays 20 = .ok (.getfield 29, 3) := by decide +kernel
theorem dX7_setWays_23 : decode cX7_setWays 23 = .ok (.aload_n 0, 1) := by decide +kernel
theorem dX7_setWays_24 : decode cX7_setWays 24 = .ok (.getfield 19, 3) := by decide +kernel
theorem dX7_setWays_27 : decode cX7_setWays 27 = .ok (.invokevirtual 82, 3) := by decide +kernel
theorem dX7_setWays_30 : decode cX7_setWays 30 = .ok (.aload_n 0, 1) := by decide +kernel
theorem dX7_setWays_31 : decode cX7_setWays 31 = .ok (.getfield 19, 3) := by decide +kernel
theorem dX7_setWays_34 : decode cX7_setWays 34 = .ok (.getfield 111, 3) := by decide +kernel
theorem dX7_setWays_37 : decode cX7_setWays 37 = .ok (.istore 4, 2) := by decide +kernel
theorem dX7_setWays_39 : decode cX7_setWays 39 = .ok (.aload_n 0, 1) := by decide +kernel
theorem dX7_setWays_40 : decode cX7_setWays 40 = .ok (.getfield 19, 3) := by decide +kernel
theorem dX7_setWays_43 : decode cX7_setWays 43 = .ok (.iload_n 1, 1) := by decide +kernel
theorem dX7_setWays_44 : decode cX7_setWays 44 = .ok (.putfield 111, 3) := by decide +kernel
theorem dX7_setWays_47 : decode cX7_setWays 47 = .ok (.aload_n 0, 1) := by decide +kernel
theorem dX7_setWays_48 : decode cX7_setWays 48 = .ok (.getfield 19, 3) := by decide +kernel
theorem dX7_setWays_51 : decode cX7_setWays 51 = .ok (.iload_n 2, 1) := by decide +kernel
theorem dX7_setWays_52 : decode cX7_setWays 52 = .ok (.putfield 114, 3) := by decide +kernel
theorem dX7_setWays_55 : decode cX7_setWays 55 = .ok (.aload_n 0, 1) := by decide +kernel
theorem dX7_setWays_56 : decode cX7_setWays 56 = .ok (.getfield 19, 3) := by decide +kernel
theorem dX7_setWays_59 : decode cX7_setWays 59 = .ok (.iload_n 3, 1) := by decide +kernel
theorem dX7_setWays_60 : decode cX7_setWays 60 = .ok (.putfield 117, 3) := by decide +kernel
theorem dX7_setWays_63 : decode cX7_setWays 63 = .ok (.iload 4, 2) := by decide +kernel
theorem dX7_setWays_65 : decode cX7_setWays 65 = .ok (.ireturn, 1) := by decide +kernel
theorem dX7_word_0 : decode cX7_word 0 = .ok (.aload_n 0, 1) := by decide +kernel
theorem dX7_word_1 : decode cX7_word 1 = .ok (.iload_n 1, 1) := by decide +kernel
theorem dX7_word_2 : decode cX7_word 2 = .ok (.invokevirtual 88, 3) := by decide +kernel
theorem dX7_word_5 : decode cX7_word 5 = .ok (.iload_n 2, 1) := by decide +kernel
theorem dX7_word_6 : decode cX7_word 6 = .ok (.iconst 0, 1) := by decide +kernel
theorem dX7_word_7 : decode cX7_word 7 = .ok (.iconst 5, 1) := by decide +kernel
theorem dX7_word_8 : decode cX7_word 8 = .ok (.invokestatic 44, 3) := by decide +kernel
theorem dX7_word_11 : decode cX7_word 11 = .ok (.aload_n 0, 1) := by decide +kernel
theorem dX7_word_12 : decode cX7_word 12 = .ok (.getfield 19, 3) := by decide +kernel
theorem dX7_word_15 : decode cX7_word 15 = .ok (.getfield 74, 3) := by decide +kernel
theorem dX7_word_18 : decode cX7_word 18 = .ok (.iload_n 1, 1) := by decide +kernel
theorem dX7_word_19 : decode cX7_word 19 = .ok (.aaload, 1) := by decide +kernel
theorem dX7_word_20 : decode cX7_word 20 = .ok (.astore_n 3, 1) := by decide +kernel
theorem dX7_word_21 : decode cX7_word 21 = .ok (.iload_n 2, 1) := by decide +kernel
theorem dX7_word_22 : decode cX7_word 22 = .ok (.tableswitch 63 0 4 #[34, 39, 44, 49, 54], 34) := by decide +kernel
theorem dX7_word_56 : decode cX7_word 56 = .ok (.aload_n 3, 1) := by decide +kernel
theorem dX7_word_57 : decode cX7_word 57 = .ok (.getfield 120, 3) := by decide +kernel
theorem dX7_word_60 : decode cX7_word 60 = .ok (.ireturn, 1) := by decide +kernel
theorem dX7_word_61 : decode cX7_word 61 = .ok (.aload_n 3, 1) := by decide +kernel
theorem dX7_word_62 : decode cX7_word 62 = .ok (.getfield 91, 3) := by decide +kernel
theorem dX7_word_65 : decode cX7_word 65 = .ok (.ireturn, 1) := by decide +kernel
theorem dX7_word_66 : decode cX7_word 66 = .ok (.aload_n 3, 1) := by decide +kernel
theorem dX7_word_67 : decode cX7_word 67 = .ok (.getfield 96, 3) := by decide +kernel
theorem dX7_word_70 : decode cX7_word 70 = .ok (.ireturn, 1) := by decide +kernel
theorem dX7_word_71 : decode cX7_word 71 = .ok (.aload_n 3, 1) := by decide +kernel
theorem dX7_word_72 : decode cX7_word 72 = .ok (.getfield 99, 3) := by decide +kernel
theorem dX7_word_75 : decode cX7_word 75 = .ok (.ireturn, 1) := by decide +kernel
theorem dX7_word_76 : decode cX7_word 76 = .ok (.aload_n 0, 1) := by decide +kernel
theorem dX7_word_77 : decode cX7_word 77 = .ok (.getfield 19, 3) := by decide +kernel
theorem dX7_word_80 : decode cX7_word 80 = .ok (.iload_n 1, 1) := by decide +kernel
theorem dX7_word_81 : decode cX7_word 81 = .ok (.invokevirtual 121, 3) := by decide +kernel
theorem dX7_word_84 : decode cX7_word 84 = .ok (.ireturn, 1) := by decide +kernel
theorem dX7_word_85 : decode cX7_word 85 = .ok (.aload_n 0, 1) := by decide +kernel
theorem dX7_word_86 : decode cX7_word 86 = .ok (.getfield 19, 3) := by decide +kernel
theorem dX7_word_89 : decode cX7_word 89 = .ok (.aload_n 3, 1) := by decide +kernel
theorem dX7_word_90 : decode cX7_word 90 = .ok (.invokevirtual 125, 3) := by decide +kernel
theorem dX7_word_93 : decode cX7_word 93 = .ok (.ireturn, 1) := by decide +kernel
theorem dX7_letter_0 : decode cX7_letter 0 = .ok (.aload_n 0, 1) := by decide +kernel
theorem dX7_letter_1 : decode cX7_letter 1 = .ok (.iload_n 1, 1) := by decide +kernel
theorem dX7_letter_2 : decode cX7_letter 2 = .ok (.invokevirtual 88, 3) := by decide +kernel
theorem dX7_letter_5 : decode cX7_letter 5 = .ok (.iload_n 2, 1) := by decide +kernel
theorem dX7_letter_6 : decode cX7_letter 6 = .ok (.aload_n 0, 1) := by decide +kernel
theorem dX7_letter_7 : decode cX7_letter 7 = .ok (.getfield 19, 3) := by decide +kernel
theorem dX7_letter_10 : decode cX7_letter 10 = .ok (.getfield 74, 3) := by decide +kernel
theorem dX7_letter_13 : decode cX7_letter 13 = .ok (.iload_n 1, 1) := by decide +kernel
theorem dX7_letter_14 : decode cX7_letter 14 = .ok (.aaload, 1) := by decide +kernel
theorem dX7_letter_15 : decode cX7_letter 15 = .ok (.getfield 120, 3) := by decide +kernel
theorem dX7_letter_18 : decode cX7_letter 18 = .ok (.invokestatic 129, 3) := by decide +kernel
theorem dX7_letter_21 : decode cX7_letter 21 = .ok (.aload_n 0, 1) := by decide +kernel
theorem dX7_letter_22 : decode cX7_letter 22 = .ok (.getfield 19, 3) := by decide +kernel
theorem dX7_letter_25 : decode cX7_letter 25 = .ok (.getfield 74, 3) := by decide +kernel
theorem dX7_letter_28 : decode cX7_letter 28 = .ok (.iload_n 1, 1) := by decide +kernel
theorem dX7_letter_29 : decode cX7_letter 29 = .ok (.aaload, 1) := by decide +kernel
theorem dX7_letter_30 : decode cX7_letter 30 = .ok (.getfield 133, 3) := by decide +kernel
theorem dX7_letter_33 : decode cX7_letter 33 = .ok (.iload_n 2, 1) := by decide +kernel
theorem dX7_letter_34 : decode cX7_letter 34 = .ok (.iaload, 1) := by decide +kernel
theorem dX7_letter_35 : decode cX7_letter 35 = .ok (.ireturn, 1) := by decide +kernel
theorem dX7_value_0 : decode cX7_value 0 = .ok (.iload_n 1, 1) := by decide +kernel
theorem dX7_value_1 : decode cX7_value 1 = .ok (.iconst 0, 1) := by decide +kernel
theorem dX7_value_2 : decode cX7_value 2 = .ok (.bipush 7, 2) := by decide +kernel
theorem dX7_value_4 : decode cX7_value 4 = .ok (.invokestatic 44, 3) := by decide +kernel
theorem dX7_value_7 : decode cX7_value 7 = .ok (.iload_n 1, 1) := by decide +kernel
theorem dX7_value_8 : decode cX7_value 8 = .ok (.tableswitch 100 0 6 #[44, 52, 60, 68, 76, 84, 92], 44) := by decide +kernel
theorem dX7_value_52 : decode cX7_value 52 = .ok (.aload_n 0, 1) := by decide +kernel
theorem dX7_value_53 : decode cX7_value 53 = .ok (.getfield 19, 3) := by decide +kernel
theorem dX7_value_56 : decode cX7_value 56 = .ok (.getfield 105, 3) := by decide +kernel
theorem dX7_value_59 : decode cX7_value 59 = .ok (.ireturn, 1) := by decide +kernel
theorem dX7_value_60 : decode cX7_value 60 = .ok (.aload_n 0, 1) := by decide +kernel
theorem dX7_value_61 : decode cX7_value 61 = .ok (.getfield 19, 3) := by decide +kernel
theorem dX7_value_64 : decode cX7_value 64 = .ok (.getfield 108, 3) := by decide +kernel
theorem dX7_value_67 : decode cX7_value 67 = .ok (.ireturn, 1) := by decide +kernel
theorem dX7_value_68 : decode cX7_value 68 = .ok (.aload_n 0, 1) := by decide +kernel
theorem dX7_value_69 : decode cX7_value 69 = .ok (.getfield 19, 3) := by decide +kernel
theorem dX7_value_72 : decode cX7_value 72 = .ok (.getfield 111, 3) := by decide +kernel
theorem dX7_value_75 : decode cX7_value 75 = .ok (.ireturn, 1) := by decide +kernel
theorem dX7_value_76 : decode cX7_value 76 = .ok (.aload_n 0, 1) := by decide +kernel
theorem dX7_value_77 : decode cX7_value 77 = .ok (.getfield 19, 3) := by decide +kernel
theorem dX7_value_80 : decode cX7_value 80 = .ok (.getfield 114, 3) := by decide +kernel
theorem dX7_value_83 : decode cX7_value 83 = .ok (.ireturn, 1) := by decide +kernel
theorem dX7_value_84 : decode cX7_value 84 = .ok (.aload_n 0, 1) := by decide +kernel
theorem dX7_value_85 : decode cX7_value 85 = .ok (.getfield 19, 3) := by decide +kernel
theorem dX7_value_88 : decode cX7_value 88 = .ok (.getfield 117, 3) := by decide +kernel
theorem dX7_value_91 : decode cX7_value 91 = .ok (.ireturn, 1) := by decide +kernel
theorem dX7_value_92 : decode cX7_value 92 = .ok (.aload_n 0, 1) := by decide +kernel
theorem dX7_value_93 : decode cX7_value 93 = .ok (.getfield 19, 3) := by decide +kernel
theorem dX7_value_96 : decode cX7_value 96 = .ok (.getfield 71, 3) := by decide +kernel
theorem dX7_value_99 : decode cX7_value 99 = .ok (.ireturn, 1) := by decide +kernel
theorem dX7_value_100 : decode cX7_value 100 = .ok (.aload_n 0, 1) := by decide +kernel
theorem dX7_value_101 : decode cX7_value 101 = .ok (.getfield 19, 3) := by decide +kernel
theorem dX7_value_104 : decode cX7_value 104 = .ok (.invokevirtual 137, 3) := by decide +kernel
theorem dX7_value_107 : decode cX7_value 107 = .ok (.ireturn, 1) := by decide +kernel
theorem dX7_value_108 : decode cX7_value 108 = .ok (.aload_n 0, 1) := by decide +kernel
theorem dX7_value_109 : decode cX7_value 109 = .ok (.getfield 19, 3) := by decide +kernel
theorem dX7_value_112 : decode cX7_value 112 = .ok (.getfield 141, 3) := by decide +kernel
theorem dX7_value_115 : decode cX7_value 115 = .ok (.ireturn, 1) := by decide +kernel
theorem dX7_lay_0 : decode cX7_lay 0 = .ok (.aload_n 0, 1) := by decide +kernel
theorem dX7_lay_1 : decode cX7_lay 1 = .ok (.getfield 29, 3) := by decide +kernel
theorem dX7_lay_4 : decode cX7_lay 4 = .ok (.aload_n 0, 1) := by decide +kernel
theorem dX7_lay_5 : decode cX7_lay 5 = .ok (.getfield 19, 3) := by decide +kernel
theorem dX7_lay_8 : decode cX7_lay 8 = .ok (.invokevirtual 82, 3) := by decide +kernel
theorem dX7_lay_11 : decode cX7_lay 11 = .ok (.aload_n 0, 1) := by decide +kernel
theorem dX7_lay_12 : decode cX7_lay 12 = .ok (.getfield 36, 3) := by decide +kernel
theorem dX7_lay_15 : decode cX7_lay 15 = .ok (.aload_n 0, 1) := by decide +kernel
theorem dX7_lay_16 : decode cX7_lay 16 = .ok (.getfield 19, 3) := by decide +kernel
theorem dX7_lay_19 : decode cX7_lay 19 = .ok (.iload_n 1, 1) := by decide +kernel
theorem dX7_lay_20 : decode cX7_lay 20 = .ok (.invokevirtual 144, 3) := by decide +kernel
theorem dX7_lay_23 : decode cX7_lay 23 = .ok (.ireturn, 1) := by decide +kernel
theorem dX7_place_0 : decode cX7_place 0 = .ok (.aload_n 0, 1) := by decide +kernel
theorem dX7_place_1 : decode cX7_place 1 = .ok (.iload_n 1, 1) := by decide +kernel
theorem dX7_place_2 : decode cX7_place 2 = .ok (.invokevirtual 88, 3) := by decide +kernel
theorem dX7_place_5 : decode cX7_place 5 = .ok (.iload_n 2, 1) := by decide +kernel
theorem dX7_place_6 : decode cX7_place 6 = .ok (.iconst 0, 1) := by decide +kernel
theorem dX7_place_7 : decode cX7_place 7 = .ok (.iconst 4, 1) := by decide +kernel
theorem dX7_place_8 : decode cX7_place 8 = .ok (.invokestatic 44, 3) := by decide +kernel
theorem dX7_place_11 : decode cX7_place 11 = .ok (.aload_n 0, 1) := by decide +kernel
theorem dX7_place_12 : decode cX7_place 12 = .ok (.getfield 19, 3) := by decide +kernel
theorem dX7_place_15 : decode cX7_place 15 = .ok (.getfield 74, 3) := by decide +kernel
theorem dX7_place_18 : decode cX7_place 18 = .ok (.iload_n 1, 1) := by decide +kernel
theorem dX7_place_19 : decode cX7_place 19 = .ok (.aaload, 1) := by decide +kernel
theorem dX7_place_20 : decode cX7_place 20 = .ok (.getfield 148, 3) := by decide +kernel
theorem dX7_place_23 : decode cX7_place 23 = .ok (.astore_n 3, 1) := by decide +kernel
theorem dX7_place_24 : decode cX7_place 24 = .ok (.aload_n 3, 1) := by decide +kernel
theorem dX7_place_25 : decode cX7_place 25 = .ok (.getfield 152, 3) := by decide +kernel
theorem dX7_place_28 : decode cX7_place 28 = .ok (.ifCond .ne 5, 3) := by decide +kernel
theorem dX7_place_31 : decode cX7_place 31 = .ok (.iconst (-1), 1) := by decide +kernel
theorem dX7_place_32 : decode cX7_place 32 = .ok (.ireturn, 1) := by decide +kernel
theorem dX7_place_33 : decode cX7_place 33 = .ok (.iload_n 2, 1) := by decide +kernel
theorem dX7_place_34 : decode cX7_place 34 = .ok (.tableswitch 50 0 3 #[30, 35, 40, 45], 30) := by decide +kernel
theorem dX7_place_64 : decode cX7_place 64 = .ok (.aload_n 3, 1) := by decide +kernel
theorem dX7_place_65 : decode cX7_place 65 = .ok (.getfield 158, 3) := by decide +kernel
theorem dX7_place_68 : decode cX7_place 68 = .ok (.ireturn, 1) := by decide +kernel
theorem dX7_place_69 : decode cX7_place 69 = .ok (.aload_n 3, 1) := by decide +kernel
theorem dX7_place_70 : decode cX7_place 70 = .ok (.getfield 161, 3) := by decide +kernel
theorem dX7_place_73 : decode cX7_place 73 = .ok (.ireturn, 1) := by decide +kernel
theorem dX7_place_74 : decode cX7_place 74 = .ok (.aload_n 3, 1) := by decide +kernel
theorem dX7_place_75 : decode cX7_place 75 = .ok (.getfield 164, 3) := by decide +kernel
theorem dX7_place_78 : decode cX7_place 78 = .ok (.ireturn, 1) := by decide +kernel
theorem dX7_place_79 : decode cX7_place 79 = .ok (.aload_n 3, 1) := by decide +kernel
theorem dX7_place_80 : decode cX7_place 80 = .ok (.getfield 167, 3) := by decide +kernel
theorem dX7_place_83 : decode cX7_place 83 = .ok (.ireturn, 1) := by decide +kernel
theorem dX7_place_84 : decode cX7_place 84 = .ok (.aload_n 3, 1) := by decide +kernel
theorem dX7_place_85 : decode cX7_place 85 = .ok (.getfield 170, 3) := by decide +kernel
theorem dX7_place_88 : decode cX7_place 88 = .ok (.ifCond .eq 7, 3) := by decide +kernel
theorem dX7_place_91 : decode cX7_place 91 = .ok (.iconst 1, 1) := by decide +kernel
theorem dX7_place_92 : decode cX7_place 92 = .ok (.goto 4, 3) := by decide +kernel
theorem dX7_place_95 : decode cX7_place 95 = .ok (.iconst 0, 1) := by decide +kernel
theorem dX7_place_96 : decode cX7_place 96 = .ok (.ireturn, 1) := by decide +kernel
theorem dX7_wordAt_0 : decode cX7_wordAt 0 = .ok (.iload_n 1, 1) := by decide +kernel
theorem dX7_wordAt_1 : decode cX7_wordAt 1 = .ok (.bipush 80, 2) := by decide +kernel
theorem dX7_wordAt_3 : decode cX7_wordAt 3 = .ok (.invokestatic 129, 3) := by decide +kernel
theorem dX7_wordAt_6 : decode cX7_wordAt 6 = .ok (.iload_n 2, 1) := by decide +kernel
theorem dX7_wordAt_7 : decode cX7_wordAt 7 = .ok (.bipush 50, 2) := by decide +kernel
theorem dX7_wordAt_9 : decode cX7_wordAt 9 = .ok (.invokestatic 129, 3) := by decide +kernel
theorem dX7_wordAt_12 : decode cX7_wordAt 12 = .ok (.iconst 0, 1) := by decide +kernel
theorem dX7_wordAt_13 : decode cX7_wordAt 13 = .ok (.istore_n 3, 1) := by decide +kernel
theorem dX7_wordAt_14 : decode cX7_wordAt 14 = .ok (.iload_n 3, 1) := by decide +kernel
theorem dX7_wordAt_15 : decode cX7_wordAt 15 = .ok (.aload_n 0, 1) := by decide +kernel
theorem dX7_wordAt_16 : decode cX7_wordAt 16 = .ok (.getfield 19, 3) := by decide +kernel
theorem dX7_wordAt_19 : decode cX7_wordAt 19 = .ok (.getfield 71, 3) := by decide +kernel
theorem dX7_wordAt_22 : decode cX7_wordAt 22 = .ok (.if_icmp .ge 51, 3) := by decide +kernel
theorem dX7_wordAt_25 : decode cX7_wordAt 25 = .ok (.aload_n 0, 1) := by decide +kernel
theorem dX7_wordAt_26 : decode cX7_wordAt 26 = .ok (.getfield 19, 3) := by decide +kernel
theorem dX7_wordAt_29 : decode cX7_wordAt 29 = .ok (.getfield 74, 3) := by decide +kernel
theorem dX7_wordAt_32 : decode cX7_wordAt 32 = .ok (.iload_n 3, 1) := by decide +kernel
theorem dX7_wordAt_33 : decode cX7_wordAt 33 = .ok (.aaload, 1) := by decide +kernel
theorem dX7_wordAt_34 : decode cX7_wordAt 34 = .ok (.getfield 148, 3) := by decide +kernel
theorem dX7_wordAt_37 : decode cX7_wordAt 37 = .ok (.astore 4, 2) := by decide +kernel
theorem dX7_wordAt_39 : decode cX7_wordAt 39 = .ok (.aload 4, 2) := by decide +kernel
theorem dX7_wordAt_41 : decode cX7_wordAt 41 = .ok (.getfield 152, 3) := by decide +kernel
theorem dX7_wordAt_44 : decode cX7_wordAt 44 = .ok (.ifCond .eq 23, 3) := by decide +kernel
theorem dX7_wordAt_47 : decode cX7_wordAt 47 = .ok (.aload 4, 2) := by decide +kernel
theorem dX7_wordAt_49 : decode cX7_wordAt 49 = .ok (.iload_n 1, 1) := by decide +kernel
theorem dX7_wordAt_50 : decode cX7_wordAt 50 = .ok (.invokevirtual 173, 3) := by decide +kernel
theorem dX7_wordAt_53 : decode cX7_wordAt 53 = .ok (.ifCond .eq 14, 3) := by decide +kernel
theorem dX7_wordAt_56 : decode cX7_wordAt 56 = .ok (.aload 4, 2) := by decide +kernel
theorem dX7_wordAt_58 : decode cX7_wordAt 58 = .ok (.iload_n 2, 1) := by decide +kernel
theorem dX7_wordAt_59 : decode cX7_wordAt 59 = .ok (.invokevirtual 177, 3) := by decide +kernel
theorem dX7_wordAt_62 : decode cX7_wordAt 62 = .ok (.ifCond .eq 5, 3) := by decide +kernel
theorem dX7_wordAt_65 : decode cX7_wordAt 65 = .ok (.iload_n 3, 1) := by decide +kernel
theorem dX7_wordAt_66 : decode cX7_wordAt 66 = .ok (.ireturn, 1) := by decide +kernel
theorem dX7_wordAt_67 : decode cX7_wordAt 67 = .ok (.iinc 3 1, 3) := by decide +kernel
theorem dX7_wordAt_70 : decode cX7_wordAt 70 = .ok (.goto (-56), 3) := by decide +kernel
theorem dX7_wordAt_73 : decode cX7_wordAt 73 = .ok (.iconst (-1), 1) := by decide +kernel
theorem dX7_wordAt_74 : decode cX7_wordAt 74 = .ok (.ireturn, 1) := by decide +kernel
theorem dX7_meetings_0 : decode cX7_meetings 0 = .ok (.iconst 0, 1) := by decide +kernel
theorem dX7_meetings_1 : decode cX7_meetings 1 = .ok (.istore_n 1, 1) := by decide +kernel
theorem dX7_meetings_2 : decode cX7_meetings 2 = .ok (.iconst 0, 1) := by decide +kernel
theorem dX7_meetings_3 : decode cX7_meetings 3 = .ok (.istore_n 2, 1) := by decide +kernel
theorem dX7_meetings_4 : decode cX7_meetings 4 = .ok (.iload_n 2, 1) := by decide +kernel
theorem dX7_meetings_5 : decode cX7_meetings 5 = .ok (.aload_n 0, 1) := by decide +kernel
theorem dX7_meetings_6 : decode cX7_meetings 6 = .ok (.getfield 19, 3) := by decide +kernel
theorem dX7_meetings_9 : decode cX7_meetings 9 = .ok (.getfield 71, 3) := by decide +kernel
theorem dX7_meetings_12 : decode cX7_meetings 12 = .ok (.if_icmp .ge 63, 3) := by decide +kernel
theorem dX7_meetings_15 : decode cX7_meetings 15 = .ok (.iload_n 2, 1) := by decide +kernel
theorem dX7_meetings_16 : decode cX7_meetings 16 = .ok (.iconst 1, 1) := by decide +kernel
theorem dX7_meetings_17 : decode cX7_meetings 17 = .ok (.iadd, 1) := by decide +kernel
theorem dX7_meetings_18 : decode cX7_meetings 18 = .ok (.istore_n 3, 1) := by decide +kernel
theorem dX7_meetings_19 : decode cX7_meetings 19 = .ok (.iload_n 3, 1) := by decide +kernel
theorem dX7_meetings_20 : decode cX7_meetings 20 = .ok (.aload_n 0, 1) := by decide +kernel
theorem dX7_meetings_21 : decode cX7_meetings 21 = .ok (.getfield 19, 3) := by decide +kernel
theorem dX7_meetings_24 : decode cX7_meetings 24 = .ok (.getfield 71, 3) := by decide +kernel
theorem dX7_meetings_27 : decode cX7_meetings 27 = .ok (.if_icmp .ge 42, 3) := by decide +kernel
theorem dX7_meetings_30 : decode cX7_meetings 30 = .ok (.aload_n 0, 1) := by decide +kernel
theorem dX7_meetings_31 : decode cX7_meetings 31 = .ok (.getfield 19, 3) := by decide +kernel
theorem dX7_meetings_34 : decode cX7_meetings 34 = .ok (.getfield 74, 3) := by decide +kernel
theorem dX7_meetings_37 : decode cX7_meetings 37 = .ok (.iload_n 2, 1) := by decide +kernel
theorem dX7_meetings_38 : decode cX7_meetings 38 = .ok (.aaload, 1) := by decide +kernel
theorem dX7_meetings_39 : decode cX7_meetings 39 = .ok (.getfield 148, 3) := by decide +kernel
theorem dX7_meetings_42 : decode cX7_meetings 42 = .ok (.aload_n 0, 1) := by decide +kernel
theorem dX7_meetings_43 : decode cX7_meetings 43 = .ok (.getfield 19, 3) := by decide +kernel
theorem dX7_meetings_46 : decode cX7_meetings 46 = .ok (.getfield 74, 3) := by decide +kernel
theorem dX7_meetings_49 : decode cX7_meetings 49 = .ok (.iload_n 3, 1) := by decide +kernel
theorem dX7_meetings_50 : decode cX7_meetings 50 = .ok (.aaload, 1) := by decide +kernel
theorem dX7_meetings_51 : decode cX7_meetings 51 = .ok (.getfield 148, 3) := by decide +kernel
theorem dX7_meetings_54 : decode cX7_meetings 54 = .ok (.invokevirtual 180, 3) := by decide +kernel
theorem dX7_meetings_57 : decode cX7_meetings 57 = .ok (.ifCond .eq 6, 3) := by decide +kernel
theorem dX7_meetings_60 : decode cX7_meetings 60 = .ok (.iinc 1 1, 3) := by decide +kernel
theorem dX7_meetings_63 : decode cX7_meetings 63 = .ok (.iinc 3 1, 3) := by decide +kernel
theorem dX7_meetings_66 : decode cX7_meetings 66 = .ok (.goto (-47), 3) := by decide +kernel
theorem dX7_meetings_69 : decode cX7_meetings 69 = .ok (.iinc 2 1, 3) := by decide +kernel
theorem dX7_meetings_72 : decode cX7_meetings 72 = .ok (.goto (-68), 3) := by decide +kernel
theorem dX7_meetings_75 : decode cX7_meetings 75 = .ok (.iload_n 1, 1) := by decide +kernel
theorem dX7_meetings_76 : decode cX7_meetings 76 = .ok (.ireturn, 1) := by decide +kernel
theorem dX7_extent_0 : decode cX7_extent 0 = .ok (.iload_n 1, 1) := by decide +kernel
theorem dX7_extent_1 : decode cX7_extent 1 = .ok (.iconst 0, 1) := by decide +kernel
theorem dX7_extent_2 : decode cX7_extent 2 = .ok (.iconst 4, 1) := by decide +kernel
theorem dX7_extent_3 : decode cX7_extent 3 = .ok (.invokestatic 44, 3) := by decide +kernel
theorem dX7_extent_6 : decode cX7_extent 6 = .ok (.iload_n 1, 1) := by decide +kernel
theorem dX7_extent_7 : decode cX7_extent 7 = .ok (.ifCond .ne 8, 3) := by decide +kernel
theorem dX7_extent_10 : decode cX7_extent 10 = .ok (.aload_n 0, 1) := by decide +kernel
theorem dX7_extent_11 : decode cX7_extent 11 = .ok (.invokevirtual 184, 3) := by decide +kernel
theorem dX7_extent_14 : decode cX7_extent 14 = .ok (.ireturn, 1) := by decide +kernel
theorem dX7_extent_15 : decode cX7_extent 15 = .ok (.iconst (-1), 1) := by decide +kernel
theorem dX7_extent_16 : decode cX7_extent 16 = .ok (.istore_n 2, 1) := by decide +kernel
theorem dX7_extent_17 : decode cX7_extent 17 = .ok (.iconst 0, 1) := by decide +kernel
theorem dX7_extent_18 : decode cX7_extent 18 = .ok (.istore_n 3, 1) := by decide +kernel
theorem dX7_extent_19 : decode cX7_extent 19 = .ok (.iload_n 3, 1) := by decide +kernel
theorem dX7_extent_20 : decode cX7_extent 20 = .ok (.aload_n 0, 1) := by decide +kernel
theorem dX7_extent_21 : decode cX7_extent 21 = .ok (.getfield 19, 3) := by decide +kernel
theorem dX7_extent_24 : decode cX7_extent 24 = .ok (.getfield 71, 3) := by decide +kernel
theorem dX7_extent_27 : decode cX7_extent 27 = .ok (.if_icmp .ge 57, 3) := by decide +kernel
theorem dX7_extent_30 : decode cX7_extent 30 = .ok (.aload_n 0, 1) := by decide +kernel
theorem dX7_extent_31 : decode cX7_extent 31 = .ok (.getfield 19, 3) := by decide +kernel
theorem dX7_extent_34 : decode cX7_extent 34 = .ok (.getfield 74, 3) := by decide +kernel
theorem dX7_extent_37 : decode cX7_extent 37 = .ok (.iload_n 3, 1) := by decide +kernel
theorem dX7_extent_38 : decode cX7_extent 38 = .ok (.aaload, 1) := by decide +kernel
theorem dX7_extent_39 : decode cX7_extent 39 = .ok (.getfield 148, 3) := by decide +kernel
theorem dX7_extent_42 : decode cX7_extent 42 = .ok (.astore 4, 2) := by decide +kernel
theorem dX7_extent_44 : decode cX7_extent 44 = .ok (.aload 4, 2) := by decide +kernel
theorem dX7_extent_46 : decode cX7_extent 46 = .ok (.getfield 152, 3) := by decide +kernel
theorem dX7_extent_49 : decode cX7_extent 49 = .ok (.ifCond .eq 29, 3) := by decide +kernel
theorem dX7_extent_52 : decode cX7_extent 52 = .ok (.aload 4, 2) := by decide +kernel
theorem dX7_extent_54 : decode cX7_extent 54 = .ok (.iload_n 1, 1) := by decide +kernel
theorem dX7_extent_55 : decode cX7_extent 55 = .ok (.invokestatic 187, 3) := by decide +kernel
theorem dX7_extent_58 : decode cX7_extent 58 = .ok (.istore 5, 2) := by decide +kernel
theorem dX7_extent_60 : decode cX7_extent 60 = .ok (.iload_n 2, 1) := by decide +kernel
theorem dX7_extent_61 : decode cX7_extent 61 = .ok (.iconst (-1), 1) := by decide +kernel
theorem dX7_extent_62 : decode cX7_extent 62 = .ok (.if_icmp .ne 8, 3) := by decide +kernel
theorem dX7_extent_65 : decode cX7_extent 65 = .ok (.iload 5, 2) := by decide +kernel
theorem dX7_extent_67 : decode cX7_extent 67 = .ok (.goto 10, 3) := by decide +kernel
theorem dX7_extent_70 : decode cX7_extent 70 = .ok (.iload_n 2, 1) := by decide +kernel
theorem dX7_extent_71 : decode cX7_extent 71 = .ok (.iload 5, 2) := by decide +kernel
theorem dX7_extent_73 : decode cX7_extent 73 = .ok (.iload_n 1, 1) := by decide +kernel
theorem dX7_extent_74 : decode cX7_extent 74 = .ok (.invokestatic 191, 3) := by decide +kernel
theorem dX7_extent_77 : decode cX7_extent 77 = .ok (.istore_n 2, 1) := by decide +kernel
theorem dX7_extent_78 : decode cX7_extent 78 = .ok (.iinc 3 1, 3) := by decide +kernel
theorem dX7_extent_81 : decode cX7_extent 81 = .ok (.goto (-62), 3) := by decide +kernel
theorem dX7_extent_84 : decode cX7_extent 84 = .ok (.iload_n 2, 1) := by decide +kernel
theorem dX7_extent_85 : decode cX7_extent 85 = .ok (.ireturn, 1) := by decide +kernel
theorem dX7_covered_0 : decode cX7_covered 0 = .ok (.aload_n 0, 1) := by decide +kernel
theorem dX7_covered_1 : decode cX7_covered 1 = .ok (.getfield 19, 3) := by decide +kernel
theorem dX7_covered_4 : decode cX7_covered 4 = .ok (.getfield 105, 3) := by decide +kernel
theorem dX7_covered_7 : decode cX7_covered 7 = .ok (.aload_n 0, 1) := by decide +kernel
theorem dX7_covered_8 : decode cX7_covered 8 = .ok (.getfield 19, 3) := by decide +kernel
theorem dX7_covered_11 : decode cX7_covered 11 = .ok (.getfield 108, 3) := by decide +kernel
theorem dX7_covered_14 : decode cX7_covered 14 = .ok (.imul, 1) := by decide +kernel
theorem dX7_covered_15 : decode cX7_covered 15 = .ok (.istore_n 1, 1) := by decide +kernel
theorem dX7_covered_16 : decode cX7_covered 16 = .ok (.iload_n 1, 1) := by decide +kernel
theorem dX7_covered_17 : decode cX7_covered 17 = .ok (.ifCond .le 14, 3) := by decide +kernel
theorem dX7_covered_20 : decode cX7_covered 20 = .ok (.aload_n 0, 1) := by decide +kernel
theorem dX7_covered_21 : decode cX7_covered 21 = .ok (.invokevirtual 184, 3) := by decide +kernel
theorem dX7_covered_24 : decode cX7_covered 24 = .ok (.i2d, 1) := by decide +kernel
theorem dX7_covered_25 : decode cX7_covered 25 = .ok (.iload_n 1, 1) := by decide +kernel
theorem dX7_covered_26 : decode cX7_covered 26 = .ok (.i2d, 1) := by decide +kernel
theorem dX7_covered_27 : decode cX7_covered 27 = .ok (.ddiv, 1) := by decide +kernel
theorem dX7_covered_28 : decode cX7_covered 28 = .ok (.goto 4, 3) := by decide +kernel
theorem dX7_covered_31 : decode cX7_covered 31 = .ok (.dconst 0, 1) := by decide +kernel
theorem dX7_covered_32 : decode cX7_covered 32 = .ok (.dreturn, 1) := by decide +kernel
theorem dX7_spread_0 : decode cX7_spread 0 = .ok (.iload_n 1, 1) := by decide +kernel
theorem dX7_spread_1 : decode cX7_spread 1 = .ok (.iconst 4, 1) := by decide +kernel
theorem dX7_spread_2 : decode cX7_spread 2 = .ok (.invokestatic 129, 3) := by decide +kernel
theorem dX7_spread_5 : decode cX7_spread 5 = .ok (.iconst 0, 1) := by decide +kernel
theorem dX7_spread_6 : decode cX7_spread 6 = .ok (.istore_n 2, 1) := by decide +kernel
theorem dX7_spread_7 : decode cX7_spread 7 = .ok (.iconst 0, 1) := by decide +kernel
theorem dX7_spread_8 : decode cX7_spread 8 = .ok (.istore_n 3, 1) := by decide +kernel
theorem dX7_spread_9 : decode cX7_spread 9 = .ok (.iload_n 3, 1) := by decide +kernel
theorem dX7_spread_10 : decode cX7_spread 10 = .ok (.aload_n 0, 1) := by decide +kernel
theorem dX7_spread_11 : decode cX7_spread 11 = .ok (.getfield 19, 3) := by decide +kernel
theorem dX7_spread_14 : decode cX7_spread 14 = .ok (.getfield 71, 3) := by decide +kernel
theorem dX7_spread_17 : decode cX7_spread 17 = .ok (.if_icmp .ge 91, 3) := by decide +kernel
theorem dX7_spread_20 : decode cX7_spread 20 = .ok (.iload_n 3, 1) := by decide +kernel
theorem dX7_spread_21 : decode cX7_spread 21 = .ok (.iconst 1, 1) := by decide +kernel
theorem dX7_spread_22 : decode cX7_spread 22 = .ok (.iadd, 1) := by decide +kernel
theorem dX7_spread_23 : decode cX7_spread 23 = .ok (.istore 4, 2) := by decide +kernel
theorem dX7_spread_25 : decode cX7_spread 25 = .ok (.iload 4, 2) := by decide +kernel
theorem dX7_spread_27 : decode cX7_spread 27 = .ok (.aload_n 0, 1) := by decide +kernel
theorem dX7_spread_28 : decode cX7_spread 28 = .ok (.getfield 19, 3) := by decide +kernel
theorem dX7_spread_31 : decode cX7_spread 31 = .ok (.getfield 71, 3) := by decide +kernel
theorem dX7_spread_34 : decode cX7_spread 34 = .ok (.if_icmp .ge 68, 3) := by decide +kernel
theorem dX7_spread_37 : decode cX7_spread 37 = .ok (.aload_n 0, 1) := by decide +kernel
theorem dX7_spread_38 : decode cX7_spread 38 = .ok (.getfield 19, 3) := by decide +kernel
theorem dX7_spread_41 : decode cX7_spread 41 = .ok (.getfield 74, 3) := by decide +kernel
theorem dX7_spread_44 : decode cX7_spread 44 = .ok (.iload_n 3, 1) := by decide +kernel
theorem dX7_spread_45 : decode cX7_spread 45 = .ok (.aaload, 1) := by decide +kernel
theorem dX7_spread_46 : decode cX7_spread 46 = .ok (.astore 5, 2) := by decide +kernel
theorem dX7_spread_48 : decode cX7_spread 48 = .ok (.aload_n 0, 1) := by decide +kernel
theorem dX7_spread_49 : decode cX7_spread 49 = .ok (.getfield 19, 3) := by decide +kernel
theorem dX7_spread_52 : decode cX7_spread 52 = .ok (.getfield 74, 3) := by decide +kernel
theorem dX7_spread_55 : decode cX7_spread 55 = .ok (.iload 4, 2) := by decide +kernel
theorem dX7_spread_57 : decode cX7_spread 57 = .ok (.aaload, 1) := by decide +kernel
theorem dX7_spread_58 : decode cX7_spread 58 = .ok (.astore 6, 2) := by decide +kernel
theorem dX7_spread_60 : decode cX7_spread 60 = .ok (.aload 5, 2) := by decide +kernel
theorem dX7_spread_62 : decode cX7_spread 62 = .ok (.iload_n 1, 1) := by decide +kernel
theorem dX7_spread_63 : decode cX7_spread 63 = .ok (.invokevirtual 195, 3) := by decide +kernel
theorem dX7_spread_66 : decode cX7_spread 66 = .ok (.ifCond .eq 30, 3) := by decide +kernel
theorem dX7_spread_69 : decode cX7_spread 69 = .ok (.aload 6, 2) := by decide +kernel
theorem dX7_spread_71 : decode cX7_spread 71 = .ok (.iload_n 1, 1) := by decide +kernel
theorem dX7_spread_72 : decode cX7_spread 72 = .ok (.invokevirtual 195, 3) := by decide +kernel
theorem dX7_spread_75 : decode cX7_spread 75 = .ok (.ifCond .eq 21, 3) := by decide +kernel
theorem dX7_spread_78 : decode cX7_spread 78 = .ok (.iload_n 2, 1) := by decide +kernel
theorem dX7_spread_79 : decode cX7_spread 79 = .ok (.aload 5, 2) := by decide +kernel
theorem dX7_spread_81 : decode cX7_spread 81 = .ok (.getfield 148, 3) := by decide +kernel
theorem dX7_spread_84 : decode cX7_spread 84 = .ok (.aload 6, 2) := by decide +kernel
theorem dX7_spread_86 : decode cX7_spread 86 = .ok (.getfield 148, 3) := by decide +kernel
theorem dX7_spread_89 : decode cX7_spread 89 = .ok (.invokevirtual 198, 3) := by decide +kernel
theorem dX7_spread_92 : decode cX7_spread 92 = .ok (.invokestatic 202, 3) := by decide +kernel
theorem dX7_spread_95 : decode cX7_spread 95 = .ok (.istore_n 2, 1) := by decide +kernel
theorem dX7_spread_96 : decode cX7_spread 96 = .ok (.iinc 4 1, 3) := by decide +kernel
theorem dX7_spread_99 : decode cX7_spread 99 = .ok (.goto (-74), 3) := by decide +kernel
theorem dX7_spread_102 : decode cX7_spread 102 = .ok (.iinc 3 1, 3) := by decide +kernel
theorem dX7_spread_105 : decode cX7_spread 105 = .ok (.goto (-96), 3) := by decide +kernel
theorem dX7_spread_108 : decode cX7_spread 108 = .ok (.iload_n 2, 1) := by decide +kernel
theorem dX7_spread_109 : decode cX7_spread 109 = .ok (.ireturn, 1) := by decide +kernel
theorem dX7_placedOn_0 : decode cX7_placedOn 0 = .ok (.iload_n 1, 1) := by decide +kernel
theorem dX7_placedOn_1 : decode cX7_placedOn 1 = .ok (.bipush 10, 2) := by decide +kernel
theorem dX7_placedOn_3 : decode cX7_placedOn 3 = .ok (.bipush 80, 2) := by decide +kernel
theorem dX7_placedOn_5 : decode cX7_placedOn 5 = .ok (.invokestatic 44, 3) := by decide +kernel
theorem dX7_placedOn_8 : decode cX7_placedOn 8 = .ok (.iload_n 2, 1) := by decide +kernel
theorem dX7_placedOn_9 : decode cX7_placedOn 9 = .ok (.bipush 10, 2) := by decide +kernel
theorem dX7_placedOn_11 : decode cX7_placedOn 11 = .ok (.bipush 50, 2) := by decide +kernel
theorem dX7_placedOn_13 : decode cX7_placedOn 13 = .ok (.invokestatic 44, 3) := by decide +kernel
theorem dX7_placedOn_16 : decode cX7_placedOn 16 = .ok (.aload_n 0, 1) := by decide +kernel
theorem dX7_placedOn_17 : decode cX7_placedOn 17 = .ok (.getfield 23, 3) := by decide +kernel
theorem dX7_placedOn_20 : decode cX7_placedOn 20 = .ok (.aload_n 0, 1) := by decide +kernel
theorem dX7_placedOn_21 : decode cX7_placedOn 21 = .ok (.getfield 19, 3) := by decide +kernel
theorem dX7_placedOn_24 : decode cX7_placedOn 24 = .ok (.invokevirtual 85, 3) := by decide +kernel
theorem dX7_placedOn_27 : decode cX7_placedOn 27 = .ok (.aload_n 0, 1) := by decide +kernel
theorem dX7_placedOn_28 : decode cX7_placedOn 28 = .ok (.getfield 23, 3) := by decide +kernel
theorem dX7_placedOn_31 : decode cX7_placedOn 31 = .ok (.iload_n 1, 1) := by decide +kernel
theorem dX7_placedOn_32 : decode cX7_placedOn 32 = .ok (.putfield 105, 3) := by decide +kernel
theorem dX7_placedOn_35 : decode cX7_placedOn 35 = .ok (.aload_n 0, 1) := by decide +kernel
theorem dX7_placedOn_36 : decode cX7_placedOn 36 = .ok (.getfield 23, 3) := by decide +kernel
theorem dX7_placedOn_39 : decode cX7_placedOn 39 = .ok (.iload_n 2, 1) := by decide +kernel
theorem dX7_placedOn_40 : decode cX7_placedOn 40 = .ok (.putfield 108, 3) := by decide +kernel
theorem dX7_placedOn_43 : decode cX7_placedOn 43 = .ok (.aload_n 0, 1) := by decide +kernel
theorem dX7_placedOn_44 : decode cX7_placedOn 44 = .ok (.getfield 36, 3) := by decide +kernel
theorem dX7_placedOn_47 : decode cX7_placedOn 47 = .ok (.aload_n 0, 1) := by decide +kernel
theorem dX7_placedOn_48 : decode cX7_placedOn 48 = .ok (.getfield 23, 3) := by decide +kernel
theorem dX7_placedOn_51 : decode cX7_placedOn 51 = .ok (.iload_n 3, 1) := by decide +kernel
theorem dX7_placedOn_52 : decode cX7_placedOn 52 = .ok (.invokevirtual 144, 3) := by decide +kernel
theorem dX7_placedOn_55 : decode cX7_placedOn 55 = .ok (.ireturn, 1) := by decide +kernel
theorem dX7_narrowest_0 : decode cX7_narrowest 0 = .ok (.aload_n 0, 1) := by decide +kernel
theorem dX7_narrowest_1 : decode cX7_narrowest 1 = .ok (.getfield 23, 3) := by decide +kernel
theorem dX7_narrowest_4 : decode cX7_narrowest 4 = .ok (.aload_n 0, 1) := by decide +kernel
theorem dX7_narrowest_5 : decode cX7_narrowest 5 = .ok (.getfield 19, 3) := by decide +kernel
theorem dX7_narrowest_8 : decode cX7_narrowest 8 = .ok (.invokevirtual 85, 3) := by decide +kernel
theorem dX7_narrowest_11 : decode cX7_narrowest 11 = .ok (.bipush 10, 2) := by decide +kernel
theorem dX7_narrowest_13 : decode cX7_narrowest 13 = .ok (.istore_n 1, 1) := by decide +kernel
theorem dX7_narrowest_14 : decode cX7_narrowest 14 = .ok (.iload_n 1, 1) := by decide +kernel
theorem dX7_narrowest_15 : decode cX7_narrowest 15 = .ok (.bipush 80, 2) := by decide +kernel
theorem dX7_narrowest_17 : decode cX7_narrowest 17 = .ok (.if_icmp .gt 33, 3) := by decide +kernel
theorem dX7_narrowest_20 : decode cX7_narrowest 20 = .ok (.aload_n 0, 1) := by decide +kernel
theorem dX7_narrowest_21 : decode cX7_narrowest 21 = .ok (.getfield 23, 3) := by decide +kernel
theorem dX7_narrowest_24 : decode cX7_narrowest 24 = .ok (.iload_n 1, 1) := by decide +kernel
theorem dX7_narrowest_25 : decode cX7_narrowest 25 = .ok (.putfield 105, 3) := by decide +kernel
theorem dX7_narrowest_28 : decode cX7_narrowest 28 = .ok (.aload_n 0, 1) := by decide +kernel
theorem dX7_narrowest_29 : decode cX7_narrowest 29 = .ok (.getfield 36, 3) := by decide +kernel
theorem dX7_narrowest_32 : decode cX7_narrowest 32 = .ok (.aload_n 0, 1) := by decide +kernel
theorem dX7_narrowest_33 : decode cX7_narrowest 33 = .ok (.getfield 23, 3) := by decide +kernel
theorem dX7_narrowest_36 : decode cX7_narrowest 36 = .ok (.invokevirtual 208, 3) := by decide +kernel
theorem dX7_narrowest_39 : decode cX7_narrowest 39 = .ok (.ifCond .eq 5, 3) := by decide +kernel
theorem dX7_narrowest_42 : decode cX7_narrowest 42 = .ok (.iload_n 1, 1) := by decide +kernel
theorem dX7_narrowest_43 : decode cX7_narrowest 43 = .ok (.ireturn, 1) := by decide +kernel
theorem dX7_narrowest_44 : decode cX7_narrowest 44 = .ok (.iinc 1 5, 3) := by decide +kernel
theorem dX7_narrowest_47 : decode cX7_narrowest 47 = .ok (.goto (-33), 3) := by decide +kernel
theorem dX7_narrowest_50 : decode cX7_narrowest 50 = .ok (.iconst (-1), 1) := by decide +kernel
theorem dX7_narrowest_51 : decode cX7_narrowest 51 = .ok (.ireturn, 1) := by decide +kernel
theorem dX7_movedBy_0 : decode cX7_movedBy 0 = .ok (.aload_n 0, 1) := by decide +kernel
theorem dX7_movedBy_1 : decode cX7_movedBy 1 = .ok (.iload_n 1, 1) := by decide +kernel
theorem dX7_movedBy_2 : decode cX7_movedBy 2 = .ok (.invokevirtual 88, 3) := by decide +kernel
theorem dX7_movedBy_5 : decode cX7_movedBy 5 = .ok (.iload_n 2, 1) := by decide +kernel
theorem dX7_movedBy_6 : decode cX7_movedBy 6 = .ok (.iconst 1, 1) := by decide +kernel
theorem dX7_movedBy_7 : decode cX7_movedBy 7 = .ok (.sipush 1000, 3) := by decide +kernel
theorem dX7_movedBy_10 : decode cX7_movedBy 10 = .ok (.invokestatic 44, 3) := by decide +kernel
theorem dX7_movedBy_13 : decode cX7_movedBy 13 = .ok (.aload_n 0, 1) := by decide +kernel
theorem dX7_movedBy_14 : decode cX7_movedBy 14 = .ok (.getfield 23, 3) := by decide +kernel
theorem dX7_movedBy_17 : decode cX7_movedBy 17 = .ok (.aload_n 0, 1) := by decide +kernel
theorem dX7_movedBy_18 : decode cX7_movedBy 18 = .ok (.getfield 19, 3) := by decide +kernel
theorem dX7_movedBy_21 : decode cX7_movedBy 21 = .ok (.invokevirtual 85, 3) := by decide +kernel
theorem dX7_movedBy_24 : decode cX7_movedBy 24 = .ok (.aload_n 0, 1) := by decide +kernel
theorem dX7_movedBy_25 : decode cX7_movedBy 25 = .ok (.getfield 23, 3) := by decide +kernel
theorem dX7_movedBy_28 : decode cX7_movedBy 28 = .ok (.getfield 74, 3) := by decide +kernel
theorem dX7_movedBy_31 : decode cX7_movedBy 31 = .ok (.iload_n 1, 1) := by decide +kernel
theorem dX7_movedBy_32 : decode cX7_movedBy 32 = .ok (.aaload, 1) := by decide +kernel
theorem dX7_movedBy_33 : decode cX7_movedBy 33 = .ok (.iload_n 2, 1) := by decide +kernel
theorem dX7_movedBy_34 : decode cX7_movedBy 34 = .ok (.putfield 91, 3) := by decide +kernel
theorem dX7_movedBy_37 : decode cX7_movedBy 37 = .ok (.aload_n 0, 1) := by decide +kernel
theorem dX7_movedBy_38 : decode cX7_movedBy 38 = .ok (.getfield 36, 3) := by decide +kernel
theorem dX7_movedBy_41 : decode cX7_movedBy 41 = .ok (.aload_n 0, 1) := by decide +kernel
theorem dX7_movedBy_42 : decode cX7_movedBy 42 = .ok (.getfield 23, 3) := by decide +kernel
theorem dX7_movedBy_45 : decode cX7_movedBy 45 = .ok (.iconst 1, 1) := by decide +kernel
theorem dX7_movedBy_46 : decode cX7_movedBy 46 = .ok (.invokevirtual 144, 3) := by decide +kernel
theorem dX7_movedBy_49 : decode cX7_movedBy 49 = .ok (.pop, 1) := by decide +kernel
theorem dX7_movedBy_50 : decode cX7_movedBy 50 = .ok (.aload_n 0, 1) := by decide +kernel
theorem dX7_movedBy_51 : decode cX7_movedBy 51 = .ok (.getfield 23, 3) := by decide +kernel
theorem dX7_movedBy_54 : decode cX7_movedBy 54 = .ok (.getfield 141, 3) := by decide +kernel
theorem dX7_movedBy_57 : decode cX7_movedBy 57 = .ok (.ireturn, 1) := by decide +kernel
theorem dX7_bestStride_0 : decode cX7_bestStride 0 = .ok (.aload_n 0, 1) := by decide +kernel
theorem dX7_bestStride_1 : decode cX7_bestStride 1 = .ok (.getfield 23, 3) := by decide +kernel
theorem dX7_bestStride_4 : decode cX7_bestStride 4 = .ok (.aload_n 0, 1) := by decide +kernel
theorem dX7_bestStride_5 : decode cX7_bestStride 5 = .ok (.getfield 19, 3) := by decide +kernel
theorem dX7_bestStride_8 : decode cX7_bestStride 8 = .ok (.invokevirtual 85, 3) := by decide +kernel
theorem dX7_bestStride_11 : decode cX7_bestStride 11 = .ok (.iconst 1, 1) := by decide +kernel
theorem dX7_bestStride_12 : decode cX7_bestStride 12 = .ok (.istore_n 1, 1) := by decide +kernel
theorem dX7_bestStride_13 : decode cX7_bestStride 13 = .ok (.iconst (-1), 1) := by decide +kernel
theorem dX7_bestStride_14 : decode cX7_bestStride 14 = .ok (.istore_n 2, 1) := by decide +kernel
theorem dX7_bestStride_15 : decode cX7_bestStride 15 = .ok (.iconst 1, 1) := by decide +kernel
theorem dX7_bestStride_16 : decode cX7_bestStride 16 = .ok (.istore_n 3, 1) := by decide +kernel
theorem dX7_bestStride_17 : decode cX7_bestStride 17 = .ok (.iload_n 3, 1) := by decide +kernel
theorem dX7_bestStride_18 : decode cX7_bestStride 18 = .ok (.iconst 4, 1) := by decide +kernel
theorem dX7_bestStride_19 : decode cX7_bestStride 19 = .ok (.if_icmp .gt 42, 3) := by decide +kernel
theorem dX7_bestStride_22 : decode cX7_bestStride 22 = .ok (.aload_n 0, 1) := by decide +kernel
theorem dX7_bestStride_23 : decode cX7_bestStride 23 = .ok (.getfield 23, 3) := by decide +kernel
theorem dX7_bestStride_26 : decode cX7_bestStride 26 = .ok (.iload_n 3, 1) := by decide +kernel
theorem dX7_bestStride_27 : decode cX7_bestStride 27 = .ok (.putfield 114, 3) := by decide +kernel
theorem dX7_bestStride_30 : decode cX7_bestStride 30 = .ok (.aload_n 0, 1) := by decide +kernel
theorem dX7_bestStride_31 : decode cX7_bestStride 31 = .ok (.getfield 36, 3) := by decide +kernel
theorem dX7_bestStride_34 : decode cX7_bestStride 34 = .ok (.aload_n 0, 1) := by decide +kernel
theorem dX7_bestStride_35 : decode cX7_bestStride 35 = .ok (.getfield 23, 3) := by decide +kernel
theorem dX7_bestStride_38 : decode cX7_bestStride 38 = .ok (.iconst 0, 1) := by decide +kernel
theorem dX7_bestStride_39 : decode cX7_bestStride 39 = .ok (.invokevirtual 144, 3) := by decide +kernel
theorem dX7_bestStride_42 : decode cX7_bestStride 42 = .ok (.istore 4, 2) := by decide +kernel
theorem dX7_bestStride_44 : decode cX7_bestStride 44 = .ok (.iload 4, 2) := by decide +kernel
theorem dX7_bestStride_46 : decode cX7_bestStride 46 = .ok (.iload_n 2, 1) := by decide +kernel
theorem dX7_bestStride_47 : decode cX7_bestStride 47 = .ok (.if_icmp .le 8, 3) := by decide +kernel
theorem dX7_bestStride_50 : decode cX7_bestStride 50 = .ok (.iload 4, 2) := by decide +kernel
theorem dX7_bestStride_52 : decode cX7_bestStride 52 = .ok (.istore_n 2, 1) := by decide +kernel
theorem dX7_bestStride_53 : decode cX7_bestStride 53 = .ok (.iload_n 3, 1) := by decide +kernel
theorem dX7_bestStride_54 : decode cX7_bestStride 54 = .ok (.istore_n 1, 1) := by decide +kernel
theorem dX7_bestStride_55 : decode cX7_bestStride 55 = .ok (.iinc 3 1, 3) := by decide +kernel
theorem dX7_bestStride_58 : decode cX7_bestStride 58 = .ok (.goto (-41), 3) := by decide +kernel
theorem dX7_bestStride_61 : decode cX7_bestStride 61 = .ok (.iload_n 1, 1) := by decide +kernel
theorem dX7_bestStride_62 : decode cX7_bestStride 62 = .ok (.ireturn, 1) := by decide +kernel
theorem dX7_undo_0 : decode cX7_undo 0 = .ok (.aload_n 0, 1) := by decide +kernel
theorem dX7_undo_1 : decode cX7_undo 1 = .ok (.getfield 29, 3) := by decide +kernel
theorem dX7_undo_4 : decode cX7_undo 4 = .ok (.getfield 212, 3) := by decide +kernel
theorem dX7_undo_7 : decode cX7_undo 7 = .ok (.ifCond .ne 13, 3) := by decide +kernel
theorem dX7_undo_10 : decode cX7_undo 10 = .ok (.new 52, 3) := by decide +kernel
theorem dX7_undo_13 : decode cX7_undo 13 = .ok (.dup, 1) := by decide +kernel
theorem dX7_undo_14 : decode cX7_undo 14 = .ok (.ldc 213, 2) := by decide +kernel
theorem dX7_undo_16 : decode cX7_undo 16 = .ok (.invokespecial 56, 3) := by decide +kernel
theorem dX7_undo_19 : decode cX7_undo 19 = .ok (.athrow, 1) := by decide +kernel
theorem dX7_undo_20 : decode cX7_undo 20 = .ok (.aload_n 0, 1) := by decide +kernel
theorem dX7_undo_21 : decode cX7_undo 21 = .ok (.getfield 29, 3) := by decide +kernel
theorem dX7_undo_24 : decode cX7_undo 24 = .ok (.aload_n 0, 1) := by decide +kernel
theorem dX7_undo_25 : decode cX7_undo 25 = .ok (.getfield 19, 3) := by decide +kernel
theorem dX7_undo_28 : decode cX7_undo 28 = .ok (.invokevirtual 215, 3) := by decide +kernel
theorem dX7_undo_31 : decode cX7_undo 31 = .ok (.aload_n 0, 1) := by decide +kernel
theorem dX7_undo_32 : decode cX7_undo 32 = .ok (.getfield 29, 3) := by decide +kernel
theorem dX7_undo_35 : decode cX7_undo 35 = .ok (.getfield 212, 3) := by decide +kernel
theorem dX7_undo_38 : decode cX7_undo 38 = .ok (.ireturn, 1) := by decide +kernel
theorem dX7_digest_0 : decode cX7_digest 0 = .ok (.ldc2_w 218, 3) := by decide +kernel
theorem dX7_digest_3 : decode cX7_digest 3 = .ok (.aload_n 0, 1) := by decide +kernel
theorem dX7_digest_4 : decode cX7_digest 4 = .ok (.getfield 10, 3) := by decide +kernel
theorem dX7_digest_7 : decode cX7_digest 7 = .ok (.getfield 48, 3) := by decide +kernel
theorem dX7_digest_10 : decode cX7_digest 10 = .ok (.invokestatic 220, 3) := by decide +kernel
theorem dX7_digest_13 : decode cX7_digest 13 = .ok (.lstore_n 1, 1) := by decide +kernel
theorem dX7_digest_14 : decode cX7_digest 14 = .ok (.iconst 0, 1) := by decide +kernel
theorem dX7_digest_15 : decode cX7_digest 15 = .ok (.istore_n 3, 1) := by decide +kernel
theorem dX7_digest_16 : decode cX7_digest 16 = .ok (.iload_n 3, 1) := by decide +kernel
theorem dX7_digest_17 : decode cX7_digest 17 = .ok (.bipush 7, 2) := by decide +kernel
theorem dX7_digest_19 : decode cX7_digest 19 = .ok (.if_icmp .gt 19, 3) := by decide +kernel
theorem dX7_digest_22 : decode cX7_digest 22 = .ok (.lload_n 1, 1) := by decide +kernel
theorem dX7_digest_23 : decode cX7_digest 23 = .ok (.aload_n 0, 1) := by decide +kernel
theorem dX7_digest_24 : decode cX7_digest 24 = .ok (.iload_n 3, 1) := by decide +kernel
theorem dX7_digest_25 : decode cX7_digest 25 = .ok (.invokevirtual 224, 3) := by decide +kernel
theorem dX7_digest_28 : decode cX7_digest 28 = .ok (.invokestatic 220, 3) := by decide +kernel
theorem dX7_digest_31 : decode cX7_digest 31 = .ok (.lstore_n 1, 1) := by decide +kernel
theorem dX7_digest_32 : decode cX7_digest 32 = .ok (.iinc 3 1, 3) := by decide +kernel
theorem dX7_digest_35 : decode cX7_digest 35 = .ok (.goto (-19), 3) := by decide +kernel
theorem dX7_digest_38 : decode cX7_digest 38 = .ok (.iconst 0, 1) := by decide +kernel
theorem dX7_digest_39 : decode cX7_digest 39 = .ok (.istore_n 3, 1) := by decide +kernel
theorem dX7_digest_40 : decode cX7_digest 40 = .ok (.iload_n 3, 1) := by decide +kernel
theorem dX7_digest_41 : decode cX7_digest 41 = .ok (.aload_n 0, 1) := by decide +kernel
theorem dX7_digest_42 : decode cX7_digest 42 = .ok (.getfield 19, 3) := by decide +kernel
theorem dX7_digest_45 : decode cX7_digest 45 = .ok (.getfield 71, 3) := by decide +kernel
theorem dX7_digest_48 : decode cX7_digest 48 = .ok (.if_icmp .ge 16, 3) := by decide +kernel
theorem dX7_digest_51 : decode cX7_digest 51 = .ok (.aload_n 0, 1) := by decide +kernel
theorem dX7_digest_52 : decode cX7_digest 52 = .ok (.lload_n 1, 1) := by decide +kernel
theorem dX7_digest_53 : decode cX7_digest 53 = .ok (.iload_n 3, 1) := by decide +kernel
theorem dX7_digest_54 : decode cX7_digest 54 = .ok (.invokevirtual 227, 3) := by decide +kernel
theorem dX7_digest_57 : decode cX7_digest 57 = .ok (.lstore_n 1, 1) := by decide +kernel
theorem dX7_digest_58 : decode cX7_digest 58 = .ok (.iinc 3 1, 3) := by decide +kernel
theorem dX7_digest_61 : decode cX7_digest 61 = .ok (.goto (-21), 3) := by decide +kernel
theorem dX7_digest_64 : decode cX7_digest 64 = .ok (.lload_n 1, 1) := by decide +kernel
theorem dX7_digest_65 : decode cX7_digest 65 = .ok (.aload_n 0, 1) := by decide +kernel
theorem dX7_digest_66 : decode cX7_digest 66 = .ok (.invokevirtual 230, 3) := by decide +kernel
theorem dX7_digest_69 : decode cX7_digest 69 = .ok (.invokestatic 220, 3) := by decide +kernel
theorem dX7_digest_72 : decode cX7_digest 72 = .ok (.lstore_n 1, 1) := by decide +kernel
theorem dX7_digest_73 : decode cX7_digest 73 = .ok (.iconst 0, 1) := by decide +kernel
theorem dX7_digest_74 : decode cX7_digest 74 = .ok (.istore_n 3, 1) := by decide +kernel
theorem dX7_digest_75 : decode cX7_digest 75 = .ok (.iload_n 3, 1) := by decide +kernel
theorem dX7_digest_76 : decode cX7_digest 76 = .ok (.iconst 4, 1) := by decide +kernel
theorem dX7_digest_77 : decode cX7_digest 77 = .ok (.if_icmp .gt 19, 3) := by decide +kernel
theorem dX7_digest_80 : decode cX7_digest 80 = .ok (.lload_n 1, 1) := by decide +kernel
theorem dX7_digest_81 : decode cX7_digest 81 = .ok (.aload_n 0, 1) := by decide +kernel
theorem dX7_digest_82 : decode cX7_digest 82 = .ok (.iload_n 3, 1) := by decide +kernel
theorem dX7_digest_83 : decode cX7_digest 83 = .ok (.invokevirtual 233, 3) := by decide +kernel
theorem dX7_digest_86 : decode cX7_digest 86 = .ok (.invokestatic 220, 3) := by decide +kernel
theorem dX7_digest_89 : decode cX7_digest 89 = .ok (.lstore_n 1, 1) := by decide +kernel
theorem dX7_digest_90 : decode cX7_digest 90 = .ok (.iinc 3 1, 3) := by decide +kernel
theorem dX7_digest_93 : decode cX7_digest 93 = .ok (.goto (-18), 3) := by decide +kernel
theorem dX7_digest_96 : decode cX7_digest 96 = .ok (.lload_n 1, 1) := by decide +kernel
theorem dX7_digest_97 : decode cX7_digest 97 = .ok (.aload_n 0, 1) := by decide +kernel
theorem dX7_digest_98 : decode cX7_digest 98 = .ok (.getfield 29, 3) := by decide +kernel
theorem dX7_digest_101 : decode cX7_digest 101 = .ok (.getfield 212, 3) := by decide +kernel
theorem dX7_digest_104 : decode cX7_digest 104 = .ok (.invokestatic 220, 3) := by decide +kernel
theorem dX7_digest_107 : decode cX7_digest 107 = .ok (.lreturn, 1) := by decide +kernel
theorem dX7_requireWord_0 : decode cX7_requireWord 0 = .ok (.iload_n 1, 1) := by decide +kernel
theorem dX7_requireWord_1 : decode cX7_requireWord 1 = .ok (.aload_n 0, 1) := by decide +kernel
theorem dX7_requireWord_2 : decode cX7_requireWord 2 = .ok (.getfield 19, 3) := by decide +kernel
theorem dX7_requireWord_5 : decode cX7_requireWord 5 = .ok (.getfield 71, 3) := by decide +kernel
theorem dX7_requireWord_8 : decode cX7_requireWord 8 = .ok (.invokestatic 129, 3) := by decide +kernel
theorem dX7_requireWord_11 : decode cX7_requireWord 11 = .ok (.return_, 1) := by decide +kernel
theorem dX7_requireIndex_0 : decode cX7_requireIndex 0 = .ok (.iload_n 0, 1) := by decide +kernel
theorem dX7_requireIndex_1 : decode cX7_requireIndex 1 = .ok (.ifCond .lt 8, 3) := by decide +kernel
theorem dX7_requireIndex_4 : decode cX7_requireIndex 4 = .ok (.iload_n 0, 1) := by decide +kernel
theorem dX7_requireIndex_5 : decode cX7_requireIndex 5 = .ok (.iload_n 1, 1) := by decide +kernel
theorem dX7_requireIndex_6 : decode cX7_requireIndex 6 = .ok (.if_icmp .lt 13, 3) := by decide +kernel
theorem dX7_requireIndex_9 : decode cX7_requireIndex 9 = .ok (.new 236, 3) := by decide +kernel
theorem dX7_requireIndex_12 : decode cX7_requireIndex 12 = .ok (.dup, 1) := by decide +kernel
theorem dX7_requireIndex_13 : decode cX7_requireIndex 13 = .ok (.ldc 238, 2) := by decide +kernel
theorem dX7_requireIndex_15 : decode cX7_requireIndex 15 = .ok (.invokespecial 240, 3) := by decide +kernel
theorem dX7_requireIndex_18 : decode cX7_requireIndex 18 = .ok (.athrow, 1) := by decide +kernel
theorem dX7_requireIndex_19 : decode cX7_requireIndex 19 = .ok (.return_, 1) := by decide +kernel
theorem dX7_requireArgument_0 : decode cX7_requireArgument 0 = .ok (.iload_n 0, 1) := by decide +kernel
theorem dX7_requireArgument_1 : decode cX7_requireArgument 1 = .ok (.iload_n 1, 1) := by decide +kernel
theorem dX7_requireArgument_2 : decode cX7_requireArgument 2 = .ok (.if_icmp .lt 8, 3) := by decide +kernel
theorem dX7_requireArgument_5 : decode cX7_requireArgument 5 = .ok (.iload_n 0, 1) := by decide +kernel
theorem dX7_requireArgument_6 : decode cX7_requireArgument 6 = .ok (.iload_n 2, 1) := by decide +kernel
theorem dX7_requireArgument_7 : decode cX7_requireArgument 7 = .ok (.if_icmp .le 13, 3) := by decide +kernel
theorem dX7_requireArgument_10 : decode cX7_requireArgument 10 = .ok (.new 241, 3) := by decide +kernel
theorem dX7_requireArgument_13 : decode cX7_requireArgument 13 = .ok (.dup, 1) := by decide +kernel
theorem dX7_requireArgument_14 : decode cX7_requireArgument 14 = .ok (.ldc 243, 2) := by decide +kernel
theorem dX7_requireArgument_16 : decode cX7_requireArgument 16 = .ok (.invokespecial 245, 3) := by decide +kernel
theorem dX7_requireArgument_19 : decode cX7_requireArgument 19 = .ok (.athrow, 1) := by decide +kernel
theorem dX7_requireArgument_20 : decode cX7_requireArgument 20 = .ok (.return_, 1) := by decide +kernel
theorem dX7_giveFormerPlace_0 : decode cX7_giveFormerPlace 0 = .ok (.aload_n 0, 1) := by decide +kernel
theorem dX7_giveFormerPlace_1 : decode cX7_giveFormerPlace 1 = .ok (.getfield 19, 3) := by decide +kernel
theorem dX7_giveFormerPlace_4 : decode cX7_giveFormerPlace 4 = .ok (.aload_n 1, 1) := by decide +kernel
theorem dX7_giveFormerPlace_5 : decode cX7_giveFormerPlace 5 = .ok (.invokevirtual 246, 3) := by decide +kernel
theorem dX7_giveFormerPlace_8 : decode cX7_giveFormerPlace 8 = .ok (.istore_n 2, 1) := by decide +kernel
theorem dX7_giveFormerPlace_9 : decode cX7_giveFormerPlace 9 = .ok (.iload_n 2, 1) := by decide +kernel
theorem dX7_giveFormerPlace_10 : decode cX7_giveFormerPlace 10 = .ok (.iconst (-1), 1) := by decide +kernel
theorem dX7_giveFormerPlace_11 : decode cX7_giveFormerPlace 11 = .ok (.if_icmp .ne 14, 3) := by decide +kernel
theorem dX7_giveFormerPlace_14 : decode cX7_giveFormerPlace 14 = .ok (.aload_n 1, 1) := by decide +kernel
theorem dX7_giveFormerPlace_15 : decode cX7_giveFormerPlace 15 = .ok (.getfield 148, 3) := by decide +kernel
theorem dX7_giveFormerPlace_18 : decode cX7_giveFormerPlace 18 = .ok (.iconst 0, 1) := by decide +kernel
theorem dX7_giveFormerPlace_19 : decode cX7_giveFormerPlace 19 = .ok (.putfield 152, 3) := by decide +kernel
theorem dX7_giveFormerPlace_22 : decode cX7_giveFormerPlace 22 = .ok (.goto 22, 3) := by decide +kernel
theorem dX7_giveFormerPlace_25 : decode cX7_giveFormerPlace 25 = .ok (.aload_n 1, 1) := by decide +kernel
theorem dX7_giveFormerPlace_26 : decode cX7_giveFormerPlace 26 = .ok (.getfield 148, 3) := by decide +kernel
theorem dX7_giveFormerPlace_29 : decode cX7_giveFormerPlace 29 = .ok (.aload_n 0, 1) := by decide +kernel
theorem dX7_giveFormerPlace_30 : decode cX7_giveFormerPlace 30 = .ok (.getfield 19, 3) := by decide +kernel
theorem dX7_giveFormerPlace_33 : decode cX7_giveFormerPlace 33 = .ok (.getfield 74, 3) := by decide +kernel
theorem dX7_giveFormerPlace_36 : decode cX7_giveFormerPlace 36 = .ok (.iload_n 2, 1) := by decide +kernel
theorem dX7_giveFormerPlace_37 : decode cX7_giveFormerPlace 37 = .ok (.aaload, 1) := by decide +kernel
theorem dX7_giveFormerPlace_38 : decode cX7_giveFormerPlace 38 = .ok (.getfield 148, 3) := by decide +kernel
theorem dX7_giveFormerPlace_41 : decode cX7_giveFormerPlace 41 = .ok (.invokevirtual 249, 3) := by decide +kernel
theorem dX7_giveFormerPlace_44 : decode cX7_giveFormerPlace 44 = .ok (.return_, 1) := by decide +kernel
theorem dX7_countCoveredCells_0 : decode cX7_countCoveredCells 0 = .ok (.iconst 0, 1) := by decide +kernel
theorem dX7_countCoveredCells_1 : decode cX7_countCoveredCells 1 = .ok (.istore_n 1, 1) := by decide +kernel
theorem dX7_countCoveredCells_2 : decode cX7_countCoveredCells 2 = .ok (.iconst 0, 1) := by decide +kernel
theorem dX7_countCoveredCells_3 : decode cX7_countCoveredCells 3 = .ok (.istore_n 2, 1) := by decide +kernel
theorem dX7_countCoveredCells_4 : decode cX7_countCoveredCells 4 = .ok (.iload_n 2, 1) := by decide +kernel
theorem dX7_countCoveredCells_5 : decode cX7_countCoveredCells 5 = .ok (.aload_n 0, 1) := by decide +kernel
theorem dX7_countCoveredCells_6 : decode cX7_countCoveredCells 6 = .ok (.getfield 19, 3) := by decide +kernel
theorem dX7_countCoveredCells_9 : decode cX7_countCoveredCells 9 = .ok (.getfield 108, 3) := by decide +kernel
theorem dX7_countCoveredCells_12 : decode cX7_countCoveredCells 12 = .ok (.if_icmp .ge 17, 3) := by decide +kernel
theorem dX7_countCoveredCells_15 : decode cX7_countCoveredCells 15 = .ok (.iload_n 1, 1) := by decide +kernel
theorem dX7_countCoveredCells_16 : decode cX7_countCoveredCells 16 = .ok (.aload_n 0, 1) := by decide +kernel
theorem dX7_countCoveredCells_17 : decode cX7_countCoveredCells 17 = .ok (.iload_n 2, 1) := by decide +kernel
theorem dX7_countCoveredCells_18 : decode cX7_countCoveredCells 18 = .ok (.invokevirtual 252, 3) := by decide +kernel
theorem dX7_countCoveredCells_21 : decode cX7_countCoveredCells 21 = .ok (.iadd, 1) := by decide +kernel
theorem dX7_countCoveredCells_22 : decode cX7_countCoveredCells 22 = .ok (.istore_n 1, 1) := by decide +kernel
theorem dX7_countCoveredCells_23 : decode cX7_countCoveredCells 23 = .ok (.iinc 2 1, 3) := by decide +kernel
theorem dX7_countCoveredCells_26 : decode cX7_countCoveredCells 26 = .ok (.goto (-22), 3) := by decide +kernel
theorem dX7_countCoveredCells_29 : decode cX7_countCoveredCells 29 = .ok (.iload_n 1, 1) := by decide +kernel
theorem dX7_countCoveredCells_30 : decode cX7_countCoveredCells 30 = .ok (.ireturn, 1) := by decide +kernel
theorem dX7_countCoveredCellsIn_0 : decode cX7_countCoveredCellsIn 0 = .ok (.aload_n 0, 1) := by decide +kernel
theorem dX7_countCoveredCellsIn_1 : decode cX7_countCoveredCellsIn 1 = .ok (.invokevirtual 255, 3) := by decide +kernel
theorem dX7_countCoveredCellsIn_4 : decode cX7_countCoveredCellsIn 4 = .ok (.iconst 0, 1) := by decide +kernel
theorem dX7_countCoveredCellsIn_5 : decode cX7_countCoveredCellsIn 5 = .ok (.istore_n 2, 1) := by decide +kernel
theorem dX7_countCoveredCellsIn_6 : decode cX7_countCoveredCellsIn 6 = .ok (.iload_n 2, 1) := by decide +kernel
theorem dX7_countCoveredCellsIn_7 : decode cX7_countCoveredCellsIn 7 = .ok (.aload_n 0, 1) := by decide +kernel
theorem dX7_countCoveredCellsIn_8 : decode cX7_countCoveredCellsIn 8 = .ok (.getfield 19, 3) := by decide +kernel
theorem dX7_countCoveredCellsIn_11 : decode cX7_countCoveredCellsIn 11 = .ok (.getfield 71, 3) := by decide +kernel
theorem dX7_countCoveredCellsIn_14 : decode cX7_countCoveredCellsIn 14 = .ok (.if_icmp .ge 42, 3) := by decide +kernel
theorem dX7_countCoveredCellsIn_17 : decode cX7_countCoveredCellsIn 17 = .ok (.aload_n 0, 1) := by decide +kernel
theorem dX7_countCoveredCellsIn_18 : decode cX7_countCoveredCellsIn 18 = .ok (.getfield 19, 3) := by decide +kernel
theorem dX7_countCoveredCellsIn_21 : decode cX7_countCoveredCellsIn 21 = .ok (.getfield 74, 3) := by decide +kernel
theorem dX7_countCoveredCellsIn_24 : decode cX7_countCoveredCellsIn 24 = .ok (.iload_n 2, 1) := by decide +kernel
theorem dX7_countCoveredCellsIn_25 : decode cX7_countCoveredCellsIn 25 = .ok (.aaload, 1) := by decide +kernel
theorem dX7_countCoveredCellsIn_26 : decode cX7_countCoveredCellsIn 26 = .ok (.getfield 148, 3) := by decide +kernel
theorem dX7_countCoveredCellsIn_29 : decode cX7_countCoveredCellsIn 29 = .ok (.astore_n 3, 1) := by decide +kernel
theorem dX7_countCoveredCellsIn_30 : decode cX7_countCoveredCellsIn 30 = .ok (.aload_n 3, 1) := by decide +kernel
theorem dX7_countCoveredCellsIn_31 : decode cX7_countCoveredCellsIn 31 = .ok (.getfield 152, 3) := by decide +kernel
theorem dX7_countCoveredCellsIn_34 : decode cX7_countCoveredCellsIn 34 = .ok (.ifCond .eq 16, 3) := by decide +kernel
theorem dX7_countCoveredCellsIn_37 : decode cX7_countCoveredCellsIn 37 = .ok (.aload_n 3, 1) := by decide +kernel
theorem dX7_countCoveredCellsIn_38 : decode cX7_countCoveredCellsIn 38 = .ok (.iload_n 1, 1) := by decide +kernel
theorem dX7_countCoveredCellsIn_39 : decode cX7_countCoveredCellsIn 39 = .ok (.invokevirtual 177, 3) := by decide +kernel
theorem dX7_countCoveredCellsIn_42 : decode cX7_countCoveredCellsIn 42 = .ok (.ifCond .eq 8, 3) := by decide +kernel
theorem dX7_countCoveredCellsIn_45 : decode cX7_countCoveredCellsIn 45 = .ok (.aload_n 0, 1) := by decide +kernel
theorem dX7_countCoveredCellsIn_46 : decode cX7_countCoveredCellsIn 46 = .ok (.aload_n 3, 1) := by decide +kernel
theorem dX7_countCoveredCellsIn_47 : decode cX7_countCoveredCellsIn 47 = .ok (.invokevirtual 258, 3) := by decide +kernel
theorem dX7_countCoveredCellsIn_50 : decode cX7_countCoveredCellsIn 50 = .ok (.iinc 2 1, 3) := by decide +kernel
theorem dX7_countCoveredCellsIn_53 : decode cX7_countCoveredCellsIn 53 = .ok (.goto (-47), 3) := by decide +kernel
theorem dX7_countCoveredCellsIn_56 : decode cX7_countCoveredCellsIn 56 = .ok (.iconst 0, 1) := by decide +kernel
theorem dX7_countCoveredCellsIn_57 : decode cX7_countCoveredCellsIn 57 = .ok (.istore_n 2, 1) := by decide +kernel
theorem dX7_countCoveredCellsIn_58 : decode cX7_countCoveredCellsIn 58 = .ok (.iconst 0, 1) := by decide +kernel
theorem dX7_countCoveredCellsIn_59 : decode cX7_countCoveredCellsIn 59 = .ok (.istore_n 3, 1) := by decide +kernel
theorem dX7_countCoveredCellsIn_60 : decode cX7_countCoveredCellsIn 60 = .ok (.iload_n 3, 1) := by decide +kernel
theorem dX7_countCoveredCellsIn_61 : decode cX7_countCoveredCellsIn 61 = .ok (.aload_n 0, 1) := by decide +kernel
theorem dX7_countCoveredCellsIn_62 : decode cX7_countCoveredCellsIn 62 = .ok (.getfield 19, 3) := by decide +kernel
theorem dX7_countCoveredCellsIn_65 : decode cX7_countCoveredCellsIn 65 = .ok (.getfield 105, 3) := by decide +kernel
theorem dX7_countCoveredCellsIn_68 : decode cX7_countCoveredCellsIn 68 = .ok (.if_icmp .ge 35, 3) := by decide +kernel
theorem dX7_countCoveredCellsIn_71 : decode cX7_countCoveredCellsIn 71 = .ok (.iload_n 3, 1) := by decide +kernel
theorem dX7_countCoveredCellsIn_72 : decode cX7_countCoveredCellsIn 72 = .ok (.aload_n 0, 1) := by decide +kernel
theorem dX7_countCoveredCellsIn_73 : decode cX7_countCoveredCellsIn 73 = .ok (.getfield 40, 3) := by decide +kernel
theorem dX7_countCoveredCellsIn_76 : decode cX7_countCoveredCellsIn 76 = .ok (.arraylength, 1) := by decide +kernel
theorem dX7_countCoveredCellsIn_77 : decode cX7_countCoveredCellsIn 77 = .ok (.if_icmp .ge 26, 3) := by decide +kernel
theorem dX7_countCoveredCellsIn_80 : decode cX7_countCoveredCellsIn 80 = .ok (.iload_n 2, 1) := by decide +kernel
theorem dX7_countCoveredCellsIn_81 : decode cX7_countCoveredCellsIn 81 = .ok (.aload_n 0, 1) := by decide +kernel
theorem dX7_countCoveredCellsIn_82 : decode cX7_countCoveredCellsIn 82 = .ok (.getfield 40, 3) := by decide +kernel
theorem dX7_countCoveredCellsIn_85 : decode cX7_countCoveredCellsIn 85 = .ok (.iload_n 3, 1) := by decide +kernel
theorem dX7_countCoveredCellsIn_86 : decode cX7_countCoveredCellsIn 86 = .ok (.baload, 1) := by decide +kernel
theorem dX7_countCoveredCellsIn_87 : decode cX7_countCoveredCellsIn 87 = .ok (.ifCond .eq 7, 3) := by decide +kernel
theorem dX7_countCoveredCellsIn_90 : decode cX7_countCoveredCellsIn 90 = .ok (.iconst 1, 1) := by decide +kernel
theorem dX7_countCoveredCellsIn_91 : decode cX7_countCoveredCellsIn 91 = .ok (.goto 4, 3) := by decide +kernel
theorem dX7_countCoveredCellsIn_94 : decode cX7_countCoveredCellsIn 94 = .ok (.iconst 0, 1) := by decide +kernel
theorem dX7_countCoveredCellsIn_95 : decode cX7_countCoveredCellsIn 95 = .ok (.iadd, 1) := by decide +kernel
theorem dX7_countCoveredCellsIn_96 : decode cX7_countCoveredCellsIn 96 = .ok (.istore_n 2, 1) := by decide +kernel
theorem dX7_countCoveredCellsIn_97 : decode cX7_countCoveredCellsIn 97 = .ok (.iinc 3 1, 3) := by decide +kernel
theorem dX7_countCoveredCellsIn_100 : decode cX7_countCoveredCellsIn 100 = .ok (.goto (-40), 3) := by decide +kernel
theorem dX7_countCoveredCellsIn_103 : decode cX7_countCoveredCellsIn 103 = .ok (.iload_n 2, 1) := by decide +kernel
theorem dX7_countCoveredCellsIn_104 : decode cX7_countCoveredCellsIn 104 = .ok (.ireturn, 1) := by decide +kernel
theorem dX7_clearLine_0 : decode cX7_clearLine 0 = .ok (.iconst 0, 1) := by decide +kernel
theorem dX7_clearLine_1 : decode cX7_clearLine 1 = .ok (.istore_n 1, 1) := by decide +kernel
theorem dX7_clearLine_2 : decode cX7_clearLine 2 = .ok (.iload_n 1, 1) := by decide +kernel
theorem dX7_clearLine_3 : decode cX7_clearLine 3 = .ok (.aload_n 0, 1) := by decide +kernel
theorem dX7_clearLine_4 : decode cX7_clearLine 4 = .ok (.getfield 40, 3) := by decide +kernel
theorem dX7_clearLine_7 : decode cX7_clearLine 7 = .ok (.arraylength, 1) := by decide +kernel
theorem dX7_clearLine_8 : decode cX7_clearLine 8 = .ok (.if_icmp .ge 16, 3) := by decide +kernel
theorem dX7_clearLine_11 : decode cX7_clearLine 11 = .ok (.aload_n 0, 1) := by decide +kernel
theorem dX7_clearLine_12 : decode cX7_clearLine 12 = .ok (.getfield 40, 3) := by decide +kernel
theorem dX7_clearLine_15 : decode cX7_clearLine 15 = .ok (.iload_n 1, 1) := by decide +kernel
theorem dX7_clearLine_16 : decode cX7_clearLine 16 = .ok (.iconst 0, 1) := by decide +kernel
theorem dX7_clearLine_17 : decode cX7_clearLine 17 = .ok (.bastore, 1) := by decide +kernel
theorem dX7_clearLine_18 : decode cX7_clearLine 18 = .ok (.iinc 1 1, 3) := by decide +kernel
theorem dX7_clearLine_21 : decode cX7_clearLine 21 = .ok (.goto (-19), 3) := by decide +kernel
theorem dX7_clearLine_24 : decode cX7_clearLine 24 = .ok (.return_, 1) := by decide +kernel
theorem dX7_markLine_0 : decode cX7_markLine 0 = .ok (.iconst 0, 1) := by decide +kernel
theorem dX7_markLine_1 : decode cX7_markLine 1 = .ok (.aload_n 1, 1) := by decide +kernel
theorem dX7_markLine_2 : decode cX7_markLine 2 = .ok (.getfield 158, 3) := by decide +kernel
theorem dX7_markLine_5 : decode cX7_markLine 5 = .ok (.invokestatic 202, 3) := by decide +kernel
theorem dX7_markLine_8 : decode cX7_markLine 8 = .ok (.istore_n 2, 1) := by decide +kernel
theorem dX7_markLine_9 : decode cX7_markLine 9 = .ok (.iload_n 2, 1) := by decide +kernel
theorem dX7_markLine_10 : decode cX7_markLine 10 = .ok (.aload_n 1, 1) := by decide +kernel
theorem dX7_markLine_11 : decode cX7_markLine 11 = .ok (.invokevirtual 261, 3) := by decide +kernel
theorem dX7_markLine_14 : decode cX7_markLine 14 = .ok (.if_icmp .ge 25, 3) := by decide +kernel
theorem dX7_markLine_17 : decode cX7_markLine 17 = .ok (.iload_n 2, 1) := by decide +kernel
theorem dX7_markLine_18 : decode cX7_markLine 18 = .ok (.aload_n 0, 1) := by decide +kernel
theorem dX7_markLine_19 : decode cX7_markLine 19 = .ok (.getfield 40, 3) := by decide +kernel
theorem dX7_markLine_22 : decode cX7_markLine 22 = .ok (.arraylength, 1) := by decide +kernel
theorem dX7_markLine_23 : decode cX7_markLine 23 = .ok (.if_icmp .ge 16, 3) := by decide +kernel
theorem dX7_markLine_26 : decode cX7_markLine 26 = .ok (.aload_n 0, 1) := by decide +kernel
theorem dX7_markLine_27 : decode cX7_markLine 27 = .ok (.getfield 40, 3) := by decide +kernel
theorem dX7_markLine_30 : decode cX7_markLine 30 = .ok (.iload_n 2, 1) := by decide +kernel
theorem dX7_markLine_31 : decode cX7_markLine 31 = .ok (.iconst 1, 1) := by decide +kernel
theorem dX7_markLine_32 : decode cX7_markLine 32 = .ok (.bastore, 1) := by decide +kernel
theorem dX7_markLine_33 : decode cX7_markLine 33 = .ok (.iinc 2 1, 3) := by decide +kernel
theorem dX7_markLine_36 : decode cX7_markLine 36 = .ok (.goto (-27), 3) := by decide +kernel
theorem dX7_markLine_39 : decode cX7_markLine 39 = .ok (.return_, 1) := by decide +kernel
theorem dX7_sideOf_0 : decode cX7_sideOf 0 = .ok (.iload_n 1, 1) := by decide +kernel
theorem dX7_sideOf_1 : decode cX7_sideOf 1 = .ok (.tableswitch 44 1 3 #[27, 32, 37], 27) := by decide +kernel
theorem dX7_sideOf_28 : decode cX7_sideOf 28 = .ok (.aload_n 0, 1) := by decide +kernel
theorem dX7_sideOf_29 : decode cX7_sideOf 29 = .ok (.getfield 158, 3) := by decide +kernel
theorem dX7_sideOf_32 : decode cX7_sideOf 32 = .ok (.ireturn, 1) := by decide +kernel
theorem dX7_sideOf_33 : decode cX7_sideOf 33 = .ok (.aload_n 0, 1) := by decide +kernel
theorem dX7_sideOf_34 : decode cX7_sideOf 34 = .ok (.getfield 161, 3) := by decide +kernel
theorem dX7_sideOf_37 : decode cX7_sideOf 37 = .ok (.ireturn, 1) := by decide +kernel
theorem dX7_sideOf_38 : decode cX7_sideOf 38 = .ok (.aload_n 0, 1) := by decide +kernel
theorem dX7_sideOf_39 : decode cX7_sideOf 39 = .ok (.invokevirtual 261, 3) := by decide +kernel
theorem dX7_sideOf_42 : decode cX7_sideOf 42 = .ok (.iconst 1, 1) := by decide +kernel
theorem dX7_sideOf_43 : decode cX7_sideOf 43 = .ok (.isub, 1) := by decide +kernel
theorem dX7_sideOf_44 : decode cX7_sideOf 44 = .ok (.ireturn, 1) := by decide +kernel
theorem dX7_sideOf_45 : decode cX7_sideOf 45 = .ok (.aload_n 0, 1) := by decide +kernel
theorem dX7_sideOf_46 : decode cX7_sideOf 46 = .ok (.invokevirtual 264, 3) := by decide +kernel
theorem dX7_sideOf_49 : decode cX7_sideOf 49 = .ok (.iconst 1, 1) := by decide +kernel
theorem dX7_sideOf_50 : decode cX7_sideOf 50 = .ok (.isub, 1) := by decide +kernel
theorem dX7_sideOf_51 : decode cX7_sideOf 51 = .ok (.ireturn, 1) := by decide +kernel
theorem dX7_outerOf_0 : decode cX7_outerOf 0 = .ok (.iload_n 2, 1) := by decide +kernel
theorem dX7_outerOf_1 : decode cX7_outerOf 1 = .ok (.iconst 2, 1) := by decide +kernel
theorem dX7_outerOf_2 : decode cX7_outerOf 2 = .ok (.if_icmp .gt 11, 3) := by decide +kernel
theorem dX7_outerOf_5 : decode cX7_outerOf 5 = .ok (.iload_n 0, 1) := by decide +kernel
theorem dX7_outerOf_6 : decode cX7_outerOf 6 = .ok (.iload_n 1, 1) := by decide +kernel
theorem dX7_outerOf_7 : decode cX7_outerOf 7 = .ok (.invokestatic 267, 3) := by decide +kernel
theorem dX7_outerOf_10 : decode cX7_outerOf 10 = .ok (.goto 8, 3) := by decide +kernel
theorem dX7_outerOf_13 : decode cX7_outerOf 13 = .ok (.iload_n 0, 1) := by decide +kernel
theorem dX7_outerOf_14 : decode cX7_outerOf 14 = .ok (.iload_n 1, 1) := by decide +kernel
theorem dX7_outerOf_15 : decode cX7_outerOf 15 = .ok (.invokestatic 202, 3) := by decide +kernel
theorem dX7_outerOf_18 : decode cX7_outerOf 18 = .ok (.ireturn, 1) := by decide +kernel
theorem dX7_hashed_0 : decode cX7_hashed 0 = .ok (.ldc2_w 270, 3) := by decide +kernel
theorem dX7_hashed_3 : decode cX7_hashed 3 = .ok (.lload_n 0, 1) := by decide +kernel
theorem dX7_hashed_4 : decode cX7_hashed 4 = .ok (.lmul, 1) := by decide +kernel
theorem dX7_hashed_5 : decode cX7_hashed 5 = .ok (.iload_n 2, 1) := by decide +kernel
theorem dX7_hashed_6 : decode cX7_hashed 6 = .ok (.i2l, 1) := by decide +kernel
theorem dX7_hashed_7 : decode cX7_hashed 7 = .ok (.ladd, 1) := by decide +kernel
theorem dX7_hashed_8 : decode cX7_hashed 8 = .ok (.lreturn, 1) := by decide +kernel
theorem dX7_hashedWord_0 : decode cX7_hashedWord 0 = .ok (.lload_n 1, 1) := by decide +kernel
theorem dX7_hashedWord_1 : decode cX7_hashedWord 1 = .ok (.lstore 4, 2) := by decide +kernel
theorem dX7_hashedWord_3 : decode cX7_hashedWord 3 = .ok (.iconst 0, 1) := by decide +kernel
theorem dX7_hashedWord_4 : decode cX7_hashedWord 4 = .ok (.istore 6, 2) := by decide +kernel
theorem dX7_hashedWord_6 : decode cX7_hashedWord 6 = .ok (.iload 6, 2) := by decide +kernel
theorem dX7_hashedWord_8 : decode cX7_hashedWord 8 = .ok (.iconst 5, 1) := by decide +kernel
theorem dX7_hashedWord_9 : decode cX7_hashedWord 9 = .ok (.if_icmp .gt 23, 3) := by decide +kernel
theorem dX7_hashedWord_12 : decode cX7_hashedWord 12 = .ok (.lload 4, 2) := by decide +kernel
theorem dX7_hashedWord_14 : decode cX7_hashedWord 14 = .ok (.aload_n 0, 1) := by decide +kernel
theorem dX7_hashedWord_15 : decode cX7_hashedWord 15 = .ok (.iload_n 3, 1) := by decide +kernel
theorem dX7_hashedWord_16 : decode cX7_hashedWord 16 = .ok (.iload 6, 2) := by decide +kernel
theorem dX7_hashedWord_18 : decode cX7_hashedWord 18 = .ok (.invokevirtual 272, 3) := by decide +kernel
theorem dX7_hashedWord_21 : decode cX7_hashedWord 21 = .ok (.invokestatic 220, 3) := by decide +kernel
theorem dX7_hashedWord_24 : decode cX7_hashedWord 24 = .ok (.lstore 4, 2) := by decide +kernel
theorem dX7_hashedWord_26 : decode cX7_hashedWord 26 = .ok (.iinc 6 1, 3) := by decide +kernel
theorem dX7_hashedWord_29 : decode cX7_hashedWord 29 = .ok (.goto (-23), 3) := by decide +kernel
theorem dX7_hashedWord_32 : decode cX7_hashedWord 32 = .ok (.iconst 0, 1) := by decide +kernel
theorem dX7_hashedWord_33 : decode cX7_hashedWord 33 = .ok (.istore 6, 2) := by decide +kernel
theorem dX7_hashedWord_35 : decode cX7_hashedWord 35 = .ok (.iload 6, 2) := by decide +kernel
theorem dX7_hashedWord_37 : decode cX7_hashedWord 37 = .ok (.aload_n 0, 1) := by decide +kernel
theorem dX7_hashedWord_38 : decode cX7_hashedWord 38 = .ok (.getfield 19, 3) := by decide +kernel
theorem dX7_hashedWord_41 : decode cX7_hashedWord 41 = .ok (.getfield 74, 3) := by decide +kernel
theorem dX7_hashedWord_44 : decode cX7_hashedWord 44 = .ok (.iload_n 3, 1) := by decide +kernel
theorem dX7_hashedWord_45 : decode cX7_hashedWord 45 = .ok (.aaload, 1) := by decide +kernel
theorem dX7_hashedWord_46 : decode cX7_hashedWord 46 = .ok (.getfield 120, 3) := by decide +kernel
theorem dX7_hashedWord_49 : decode cX7_hashedWord 49 = .ok (.if_icmp .ge 23, 3) := by decide +kernel
theorem dX7_hashedWord_52 : decode cX7_hashedWord 52 = .ok (.lload 4, 2) := by decide +kernel
theorem dX7_hashedWord_54 : decode cX7_hashedWord 54 = .ok (.aload_n 0, 1) := by decide +kernel
theorem dX7_hashedWord_55 : decode cX7_hashedWord 55 = .ok (.iload_n 3, 1) := by decide +kernel
theorem dX7_hashedWord_56 : decode cX7_hashedWord 56 = .ok (.iload 6, 2) := by decide +kernel
theorem dX7_hashedWord_58 : decode cX7_hashedWord 58 = .ok (.invokevirtual 275, 3) := by decide +kernel
theorem dX7_hashedWord_61 : decode cX7_hashedWord 61 = .ok (.invokestatic 220, 3) := by decide +kernel
theorem dX7_hashedWord_64 : decode cX7_hashedWord 64 = .ok (.lstore 4, 2) := by decide +kernel
theorem dX7_hashedWord_66 : decode cX7_hashedWord 66 = .ok (.iinc 6 1, 3) := by decide +kernel
theorem dX7_hashedWord_69 : decode cX7_hashedWord 69 = .ok (.goto (-34), 3) := by decide +kernel
theorem dX7_hashedWord_72 : decode cX7_hashedWord 72 = .ok (.iconst 0, 1) := by decide +kernel
theorem dX7_hashedWord_73 : decode cX7_hashedWord 73 = .ok (.istore 6, 2) := by decide +kernel
theorem dX7_hashedWord_75 : decode cX7_hashedWord 75 = .ok (.iload 6, 2) := by decide +kernel
theorem dX7_hashedWord_77 : decode cX7_hashedWord 77 = .ok (.iconst 4, 1) := by decide +kernel
theorem dX7_hashedWord_78 : decode cX7_hashedWord 78 = .ok (.if_icmp .gt 23, 3) := by decide +kernel
theorem dX7_hashedWord_81 : decode cX7_hashedWord 81 = .ok (.lload 4, 2) := by decide +kernel
theorem dX7_hashedWord_83 : decode cX7_hashedWord 83 = .ok (.aload_n 0, 1) := by decide +kernel
theorem dX7_hashedWord_84 : decode cX7_hashedWord 84 = .ok (.iload_n 3, 1) := by decide +kernel
theorem dX7_hashedWord_85 : decode cX7_hashedWord 85 = .ok (.iload 6, 2) := by decide +kernel
theorem dX7_hashedWord_87 : decode cX7_hashedWord 87 = .ok (.invokevirtual 278, 3) := by decide +kernel
theorem dX7_hashedWord_90 : decode cX7_hashedWord 90 = .ok (.invokestatic 220, 3) := by decide +kernel
theorem dX7_hashedWord_93 : decode cX7_hashedWord 93 = .ok (.lstore 4, 2) := by decide +kernel
theorem dX7_hashedWord_95 : decode cX7_hashedWord 95 = .ok (.iinc 6 1, 3) := by decide +kernel
theorem dX7_hashedWord_98 : decode cX7_hashedWord 98 = .ok (.goto (-23), 3) := by decide +kernel
theorem dX7_hashedWord_101 : decode cX7_hashedWord 101 = .ok (.lload 4, 2) := by decide +kernel
theorem dX7_hashedWord_103 : decode cX7_hashedWord 103 = .ok (.lreturn, 1) := by decide +kernel
theorem dJ9_abs_0f7a4_0 : decode cJ9_abs_0f7a4 0 = .ok (.iload_n 0, 1) := by decide +kernel
theorem dJ9_abs_0f7a4_1 : decode cJ9_abs_0f7a4 1 = .ok (.ifCond .ge 8, 3) := by decide +kernel
theorem dJ9_abs_0f7a4_4 : decode cJ9_abs_0f7a4 4 = .ok (.iload_n 0, 1) := by decide +kernel
theorem dJ9_abs_0f7a4_5 : decode cJ9_abs_0f7a4 5 = .ok (.ineg, 1) := by decide +kernel
theorem dJ9_abs_0f7a4_6 : decode cJ9_abs_0f7a4 6 = .ok (.goto 4, 3) := by decide +kernel
theorem dJ9_abs_0f7a4_9 : decode cJ9_abs_0f7a4 9 = .ok (.iload_n 0, 1) := by decide +kernel
theorem dJ9_abs_0f7a4_10 : decode cJ9_abs_0f7a4 10 = .ok (.ireturn, 1) := by decide +kernel
theorem dJ9_max_7cf53_0 : decode cJ9_max_7cf53 0 = .ok (.iload_n 0, 1) := by decide +kernel
theorem dJ9_max_7cf53_1 : decode cJ9_max_7cf53 1 = .ok (.iload_n 1, 1) := by decide +kernel
theorem dJ9_max_7cf53_2 : decode cJ9_max_7cf53 2 = .ok (.if_icmp .lt 7, 3) := by decide +kernel
theorem dJ9_max_7cf53_5 : decode cJ9_max_7cf53 5 = .ok (.iload_n 0, 1) := by decide +kernel
theorem dJ9_max_7cf53_6 : decode cJ9_max_7cf53 6 = .ok (.goto 4, 3) := by decide +kernel
theorem dJ9_max_7cf53_9 : decode cJ9_max_7cf53 9 = .ok (.iload_n 1, 1) := by decide +kernel
theorem dJ9_max_7cf53_10 : decode cJ9_max_7cf53 10 = .ok (.ireturn, 1) := by decide +kernel
theorem dJ9_min_7cf53_0 : decode cJ9_min_7cf53 0 = .ok (.iload_n 0, 1) := by decide +kernel
theorem dJ9_min_7cf53_1 : decode cJ9_min_7cf53 1 = .ok (.iload_n 1, 1) := by decide +kernel
theorem dJ9_min_7cf53_2 : decode cJ9_min_7cf53 2 = .ok (.if_icmp .gt 7, 3) := by decide +kernel
theorem dJ9_min_7cf53_5 : decode cJ9_min_7cf53 5 = .ok (.iload_n 0, 1) := by decide +kernel
theorem dJ9_min_7cf53_6 : decode cJ9_min_7cf53 6 = .ok (.goto 4, 3) := by decide +kernel
theorem dJ9_min_7cf53_9 : decode cJ9_min_7cf53 9 = .ok (.iload_n 1, 1) := by decide +kernel
theorem dJ9_min_7cf53_10 : decode cJ9_min_7cf53 10 = .ok (.ireturn, 1) := by decide +kernel
