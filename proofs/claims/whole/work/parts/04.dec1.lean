theorem dX4_contentAt_13 : decode cX4_contentAt 13 = .ok (.iaload, 1) := by decide +kernel
theorem dX4_contentAt_14 : decode cX4_contentAt 14 = .ok (.goto 4, 3) := by decide +kernel
theorem dX4_contentAt_17 : decode cX4_contentAt 17 = .ok (.iconst 0, 1) := by decide +kernel
theorem dX4_contentAt_18 : decode cX4_contentAt 18 = .ok (.ireturn, 1) := by decide +kernel
theorem dX5_init_0 : decode cX5_init 0 = .ok (.aload_n 0, 1) := by decide +kernel
theorem dX5_init_1 : decode cX5_init 1 = .ok (.invokespecial 3, 3) := by decide +kernel
theorem dX5_init_4 : decode cX5_init 4 = .ok (.aload_n 0, 1) := by decide +kernel
theorem dX5_init_5 : decode cX5_init 5 = .ok (.iconst 0, 1) := by decide +kernel
theorem dX5_init_6 : decode cX5_init 6 = .ok (.putfield 9, 3) := by decide +kernel
theorem dX5_init_9 : decode cX5_init 9 = .ok (.aload_n 0, 1) := by decide +kernel
theorem dX5_init_10 : decode cX5_init 10 = .ok (.bipush 8, 2) := by decide +kernel
theorem dX5_init_12 : decode cX5_init 12 = .ok (.newarray .int, 2) := by decide +kernel
theorem dX5_init_14 : decode cX5_init 14 = .ok (.putfield 15, 3) := by decide +kernel
theorem dX5_init_17 : decode cX5_init 17 = .ok (.aload_n 0, 1) := by decide +kernel
theorem dX5_init_18 : decode cX5_init 18 = .ok (.iconst 0, 1) := by decide +kernel
theorem dX5_init_19 : decode cX5_init 19 = .ok (.putfield 19, 3) := by decide +kernel
theorem dX5_init_22 : decode cX5_init 22 = .ok (.aload_n 0, 1) := by decide +kernel
theorem dX5_init_23 : decode cX5_init 23 = .ok (.iconst 0, 1) := by decide +kernel
theorem dX5_init_24 : decode cX5_init 24 = .ok (.putfield 22, 3) := by decide +kernel
theorem dX5_init_27 : decode cX5_init 27 = .ok (.aload_n 0, 1) := by decide +kernel
theorem dX5_init_28 : decode cX5_init 28 = .ok (.iconst 1, 1) := by decide +kernel
theorem dX5_init_29 : decode cX5_init 29 = .ok (.putfield 25, 3) := by decide +kernel
theorem dX5_init_32 : decode cX5_init 32 = .ok (.return_, 1) := by decide +kernel
theorem dX5_look_0 : decode cX5_look 0 = .ok (.aload_n 0, 1) := by decide +kernel
theorem dX5_look_1 : decode cX5_look 1 = .ok (.aload_n 1, 1) := by decide +kernel
theorem dX5_look_2 : decode cX5_look 2 = .ok (.getfield 28, 3) := by decide +kernel
theorem dX5_look_5 : decode cX5_look 5 = .ok (.putfield 19, 3) := by decide +kernel
theorem dX5_look_8 : decode cX5_look 8 = .ok (.aload_n 0, 1) := by decide +kernel
theorem dX5_look_9 : decode cX5_look 9 = .ok (.aload_n 1, 1) := by decide +kernel
theorem dX5_look_10 : decode cX5_look 10 = .ok (.getfield 33, 3) := by decide +kernel
theorem dX5_look_13 : decode cX5_look 13 = .ok (.iconst 0, 1) := by decide +kernel
theorem dX5_look_14 : decode cX5_look 14 = .ok (.iaload, 1) := by decide +kernel
theorem dX5_look_15 : decode cX5_look 15 = .ok (.putfield 22, 3) := by decide +kernel
theorem dX5_look_18 : decode cX5_look 18 = .ok (.aload_n 0, 1) := by decide +kernel
theorem dX5_look_19 : decode cX5_look 19 = .ok (.iconst 2, 1) := by decide +kernel
theorem dX5_look_20 : decode cX5_look 20 = .ok (.aload_n 0, 1) := by decide +kernel
theorem dX5_look_21 : decode cX5_look 21 = .ok (.getfield 22, 3) := by decide +kernel
theorem dX5_look_24 : decode cX5_look 24 = .ok (.imul, 1) := by decide +kernel
theorem dX5_look_25 : decode cX5_look 25 = .ok (.iconst 1, 1) := by decide +kernel
theorem dX5_look_26 : decode cX5_look 26 = .ok (.iadd, 1) := by decide +kernel
theorem dX5_look_27 : decode cX5_look 27 = .ok (.putfield 25, 3) := by decide +kernel
theorem dX5_look_30 : decode cX5_look 30 = .ok (.aload_n 0, 1) := by decide +kernel
theorem dX5_look_31 : decode cX5_look 31 = .ok (.aload_n 1, 1) := by decide +kernel
theorem dX5_look_32 : decode cX5_look 32 = .ok (.getfield 33, 3) := by decide +kernel
theorem dX5_look_35 : decode cX5_look 35 = .ok (.iconst 1, 1) := by decide +kernel
theorem dX5_look_36 : decode cX5_look 36 = .ok (.iaload, 1) := by decide +kernel
theorem dX5_look_37 : decode cX5_look 37 = .ok (.putfield 9, 3) := by decide +kernel
theorem dX5_look_40 : decode cX5_look 40 = .ok (.iconst 0, 1) := by decide +kernel
theorem dX5_look_41 : decode cX5_look 41 = .ok (.istore 4, 2) := by decide +kernel
theorem dX5_look_43 : decode cX5_look 43 = .ok (.iload 4, 2) := by decide +kernel
theorem dX5_look_45 : decode cX5_look 45 = .ok (.aload_n 0, 1) := by decide +kernel
theorem dX5_look_46 : decode cX5_look 46 = .ok (.getfield 19, 3) := by decide +kernel
theorem dX5_look_49 : decode cX5_look 49 = .ok (.if_icmp .ge 56, 3) := by decide +kernel
theorem dX5_look_52 : decode cX5_look 52 = .ok (.aload_n 1, 1) := by decide +kernel
theorem dX5_look_53 : decode cX5_look 53 = .ok (.getfield 36, 3) := by decide +kernel
theorem dX5_look_56 : decode cX5_look 56 = .ok (.iload 4, 2) := by decide +kernel
theorem dX5_look_58 : decode cX5_look 58 = .ok (.iaload, 1) := by decide +kernel
theorem dX5_look_59 : decode cX5_look 59 = .ok (.istore 5, 2) := by decide +kernel
theorem dX5_look_61 : decode cX5_look 61 = .ok (.iload 5, 2) := by decide +kernel
theorem dX5_look_63 : decode cX5_look 63 = .ok (.ifCond .ne 16, 3) := by decide +kernel
theorem dX5_look_66 : decode cX5_look 66 = .ok (.iload_n 3, 1) := by decide +kernel
theorem dX5_look_67 : decode cX5_look 67 = .ok (.ifCond .ne 12, 3) := by decide +kernel
theorem dX5_look_70 : decode cX5_look 70 = .ok (.aload_n 1, 1) := by decide +kernel
theorem dX5_look_71 : decode cX5_look 71 = .ok (.getfield 33, 3) := by decide +kernel
theorem dX5_look_74 : decode cX5_look 74 = .ok (.iconst 2, 1) := by decide +kernel
theorem dX5_look_75 : decode cX5_look 75 = .ok (.iaload, 1) := by decide +kernel
theorem dX5_look_76 : decode cX5_look 76 = .ok (.goto 4, 3) := by decide +kernel
theorem dX5_look_79 : decode cX5_look 79 = .ok (.iconst 0, 1) := by decide +kernel
theorem dX5_look_80 : decode cX5_look 80 = .ok (.istore 6, 2) := by decide +kernel
theorem dX5_look_82 : decode cX5_look 82 = .ok (.aload_n 0, 1) := by decide +kernel
theorem dX5_look_83 : decode cX5_look 83 = .ok (.getfield 15, 3) := by decide +kernel
theorem dX5_look_86 : decode cX5_look 86 = .ok (.iload 4, 2) := by decide +kernel
theorem dX5_look_88 : decode cX5_look 88 = .ok (.aload_n 1, 1) := by decide +kernel
theorem dX5_look_89 : decode cX5_look 89 = .ok (.iload 5, 2) := by decide +kernel
theorem dX5_look_91 : decode cX5_look 91 = .ok (.iload_n 2, 1) := by decide +kernel
theorem dX5_look_92 : decode cX5_look 92 = .ok (.invokevirtual 39, 3) := by decide +kernel
theorem dX5_look_95 : decode cX5_look 95 = .ok (.iload 6, 2) := by decide +kernel
theorem dX5_look_97 : decode cX5_look 97 = .ok (.iadd, 1) := by decide +kernel
theorem dX5_look_98 : decode cX5_look 98 = .ok (.iastore, 1) := by decide +kernel
theorem dX5_look_99 : decode cX5_look 99 = .ok (.iinc 4 1, 3) := by decide +kernel
theorem dX5_look_102 : decode cX5_look 102 = .ok (.goto (-59), 3) := by decide +kernel
theorem dX5_look_105 : decode cX5_look 105 = .ok (.return_, 1) := by decide +kernel
theorem dX5_allCases_0 : decode cX5_allCases 0 = .ok (.aload_n 0, 1) := by decide +kernel
theorem dX5_allCases_1 : decode cX5_allCases 1 = .ok (.aload_n 0, 1) := by decide +kernel
theorem dX5_allCases_2 : decode cX5_allCases 2 = .ok (.getfield 19, 3) := by decide +kernel
theorem dX5_allCases_5 : decode cX5_allCases 5 = .ok (.invokevirtual 43, 3) := by decide +kernel
theorem dX5_allCases_8 : decode cX5_allCases 8 = .ok (.lreturn, 1) := by decide +kernel
theorem dX5_casesOfNobody_0 : decode cX5_casesOfNobody 0 = .ok (.aload_n 0, 1) := by decide +kernel
theorem dX5_casesOfNobody_1 : decode cX5_casesOfNobody 1 = .ok (.aload_n 0, 1) := by decide +kernel
theorem dX5_casesOfNobody_2 : decode cX5_casesOfNobody 2 = .ok (.getfield 19, 3) := by decide +kernel
theorem dX5_casesOfNobody_5 : decode cX5_casesOfNobody 5 = .ok (.invokevirtual 47, 3) := by decide +kernel
theorem dX5_casesOfNobody_8 : decode cX5_casesOfNobody 8 = .ok (.lreturn, 1) := by decide +kernel
theorem dX5_casesOf_0 : decode cX5_casesOf 0 = .ok (.iload_n 2, 1) := by decide +kernel
theorem dX5_casesOf_1 : decode cX5_casesOf 1 = .ok (.ifCond .lt 11, 3) := by decide +kernel
theorem dX5_casesOf_4 : decode cX5_casesOf 4 = .ok (.iload_n 2, 1) := by decide +kernel
theorem dX5_casesOf_5 : decode cX5_casesOf 5 = .ok (.aload_n 0, 1) := by decide +kernel
theorem dX5_casesOf_6 : decode cX5_casesOf 6 = .ok (.getfield 19, 3) := by decide +kernel
theorem dX5_casesOf_9 : decode cX5_casesOf 9 = .ok (.if_icmp .lt 5, 3) := by decide +kernel
theorem dX5_casesOf_12 : decode cX5_casesOf 12 = .ok (.lconst 0, 1) := by decide +kernel
theorem dX5_casesOf_13 : decode cX5_casesOf 13 = .ok (.lreturn, 1) := by decide +kernel
theorem dX5_casesOf_14 : decode cX5_casesOf 14 = .ok (.iload_n 1, 1) := by decide +kernel
theorem dX5_casesOf_15 : decode cX5_casesOf 15 = .ok (.ifCond .ne 11, 3) := by decide +kernel
theorem dX5_casesOf_18 : decode cX5_casesOf 18 = .ok (.aload_n 0, 1) := by decide +kernel
theorem dX5_casesOf_19 : decode cX5_casesOf 19 = .ok (.iload_n 2, 1) := by decide +kernel
theorem dX5_casesOf_20 : decode cX5_casesOf 20 = .ok (.invokevirtual 50, 3) := by decide +kernel
theorem dX5_casesOf_23 : decode cX5_casesOf 23 = .ok (.goto 8, 3) := by decide +kernel
theorem dX5_casesOf_26 : decode cX5_casesOf 26 = .ok (.aload_n 0, 1) := by decide +kernel
theorem dX5_casesOf_27 : decode cX5_casesOf 27 = .ok (.iload_n 2, 1) := by decide +kernel
theorem dX5_casesOf_28 : decode cX5_casesOf 28 = .ok (.invokevirtual 53, 3) := by decide +kernel
theorem dX5_casesOf_31 : decode cX5_casesOf 31 = .ok (.lreturn, 1) := by decide +kernel
theorem dX5_casesOneByOne_0 : decode cX5_casesOneByOne 0 = .ok (.aload_n 0, 1) := by decide +kernel
theorem dX5_casesOneByOne_1 : decode cX5_casesOneByOne 1 = .ok (.getfield 25, 3) := by decide +kernel
theorem dX5_casesOneByOne_4 : decode cX5_casesOneByOne 4 = .ok (.aload_n 0, 1) := by decide +kernel
theorem dX5_casesOneByOne_5 : decode cX5_casesOneByOne 5 = .ok (.iload_n 1, 1) := by decide +kernel
theorem dX5_casesOneByOne_6 : decode cX5_casesOneByOne 6 = .ok (.aload_n 0, 1) := by decide +kernel
theorem dX5_casesOneByOne_7 : decode cX5_casesOneByOne 7 = .ok (.getfield 9, 3) := by decide +kernel
theorem dX5_casesOneByOne_10 : decode cX5_casesOneByOne 10 = .ok (.invokevirtual 56, 3) := by decide +kernel
theorem dX5_casesOneByOne_13 : decode cX5_casesOneByOne 13 = .ok (.isub, 1) := by decide +kernel
theorem dX5_casesOneByOne_14 : decode cX5_casesOneByOne 14 = .ok (.i2l, 1) := by decide +kernel
theorem dX5_casesOneByOne_15 : decode cX5_casesOneByOne 15 = .ok (.lstore_n 2, 1) := by decide +kernel
theorem dX5_casesOneByOne_16 : decode cX5_casesOneByOne 16 = .ok (.aload_n 0, 1) := by decide +kernel
theorem dX5_casesOneByOne_17 : decode cX5_casesOneByOne 17 = .ok (.iload_n 1, 1) := by decide +kernel
theorem dX5_casesOneByOne_18 : decode cX5_casesOneByOne 18 = .ok (.invokevirtual 47, 3) := by decide +kernel
theorem dX5_casesOneByOne_21 : decode cX5_casesOneByOne 21 = .ok (.lload_n 2, 1) := by decide +kernel
theorem dX5_casesOneByOne_22 : decode cX5_casesOneByOne 22 = .ok (.lmul, 1) := by decide +kernel
theorem dX5_casesOneByOne_23 : decode cX5_casesOneByOne 23 = .ok (.aload_n 0, 1) := by decide +kernel
theorem dX5_casesOneByOne_24 : decode cX5_casesOneByOne 24 = .ok (.aload_n 0, 1) := by decide +kernel
theorem dX5_casesOneByOne_25 : decode cX5_casesOneByOne 25 = .ok (.getfield 19, 3) := by decide +kernel
theorem dX5_casesOneByOne_28 : decode cX5_casesOneByOne 28 = .ok (.iload_n 1, 1) := by decide +kernel
theorem dX5_casesOneByOne_29 : decode cX5_casesOneByOne 29 = .ok (.isub, 1) := by decide +kernel
theorem dX5_casesOneByOne_30 : decode cX5_casesOneByOne 30 = .ok (.iconst 1, 1) := by decide +kernel
theorem dX5_casesOneByOne_31 : decode cX5_casesOneByOne 31 = .ok (.isub, 1) := by decide +kernel
theorem dX5_casesOneByOne_32 : decode cX5_casesOneByOne 32 = .ok (.invokevirtual 43, 3) := by decide +kernel
theorem dX5_casesOneByOne_35 : decode cX5_casesOneByOne 35 = .ok (.lmul, 1) := by decide +kernel
theorem dX5_casesOneByOne_36 : decode cX5_casesOneByOne 36 = .ok (.lreturn, 1) := by decide +kernel
theorem dX5_casesAtOnce_0 : decode cX5_casesAtOnce 0 = .ok (.lconst 0, 1) := by decide +kernel
theorem dX5_casesAtOnce_1 : decode cX5_casesAtOnce 1 = .ok (.lstore_n 2, 1) := by decide +kernel
theorem dX5_casesAtOnce_2 : decode cX5_casesAtOnce 2 = .ok (.aload_n 0, 1) := by decide +kernel
theorem dX5_casesAtOnce_3 : decode cX5_casesAtOnce 3 = .ok (.getfield 22, 3) := by decide +kernel
theorem dX5_casesAtOnce_6 : decode cX5_casesAtOnce 6 = .ok (.ineg, 1) := by decide +kernel
theorem dX5_casesAtOnce_7 : decode cX5_casesAtOnce 7 = .ok (.istore 4, 2) := by decide +kernel
theorem dX5_casesAtOnce_9 : decode cX5_casesAtOnce 9 = .ok (.iload 4, 2) := by decide +kernel
theorem dX5_casesAtOnce_11 : decode cX5_casesAtOnce 11 = .ok (.aload_n 0, 1) := by decide +kernel
theorem dX5_casesAtOnce_12 : decode cX5_casesAtOnce 12 = .ok (.getfield 22, 3) := by decide +kernel
theorem dX5_casesAtOnce_15 : decode cX5_casesAtOnce 15 = .ok (.if_icmp .gt 39, 3) := by decide +kernel
theorem dX5_casesAtOnce_18 : decode cX5_casesAtOnce 18 = .ok (.aload_n 0, 1) := by decide +kernel
theorem dX5_casesAtOnce_19 : decode cX5_casesAtOnce 19 = .ok (.getfield 15, 3) := by decide +kernel
theorem dX5_casesAtOnce_22 : decode cX5_casesAtOnce 22 = .ok (.iload_n 1, 1) := by decide +kernel
theorem dX5_casesAtOnce_23 : decode cX5_casesAtOnce 23 = .ok (.iaload, 1) := by decide +kernel
theorem dX5_casesAtOnce_24 : decode cX5_casesAtOnce 24 = .ok (.iload 4, 2) := by decide +kernel
theorem dX5_casesAtOnce_26 : decode cX5_casesAtOnce 26 = .ok (.iadd, 1) := by decide +kernel
theorem dX5_casesAtOnce_27 : decode cX5_casesAtOnce 27 = .ok (.istore 5, 2) := by decide +kernel
theorem dX5_casesAtOnce_29 : decode cX5_casesAtOnce 29 = .ok (.iload 5, 2) := by decide +kernel
theorem dX5_casesAtOnce_31 : decode cX5_casesAtOnce 31 = .ok (.aload_n 0, 1) := by decide +kernel
theorem dX5_casesAtOnce_32 : decode cX5_casesAtOnce 32 = .ok (.getfield 9, 3) := by decide +kernel
theorem dX5_casesAtOnce_35 : decode cX5_casesAtOnce 35 = .ok (.if_icmp .lt 13, 3) := by decide +kernel
theorem dX5_casesAtOnce_38 : decode cX5_casesAtOnce 38 = .ok (.lload_n 2, 1) := by decide +kernel
theorem dX5_casesAtOnce_39 : decode cX5_casesAtOnce 39 = .ok (.aload_n 0, 1) := by decide +kernel
theorem dX5_casesAtOnce_40 : decode cX5_casesAtOnce 40 = .ok (.iload_n 1, 1) := by decide +kernel
theorem dX5_casesAtOnce_41 : decode cX5_casesAtOnce 41 = .ok (.iload 5, 2) := by decide +kernel
theorem dX5_casesAtOnce_43 : decode cX5_casesAtOnce 43 = .ok (.invokevirtual 60, 3) := by decide +kernel
theorem dX5_casesAtOnce_46 : decode cX5_casesAtOnce 46 = .ok (.ladd, 1) := by decide +kernel
theorem dX5_casesAtOnce_47 : decode cX5_casesAtOnce 47 = .ok (.lstore_n 2, 1) := by decide +kernel
theorem dX5_casesAtOnce_48 : decode cX5_casesAtOnce 48 = .ok (.iinc 4 1, 3) := by decide +kernel
theorem dX5_casesAtOnce_51 : decode cX5_casesAtOnce 51 = .ok (.goto (-42), 3) := by decide +kernel
theorem dX5_casesAtOnce_54 : decode cX5_casesAtOnce 54 = .ok (.lload_n 2, 1) := by decide +kernel
theorem dX5_casesAtOnce_55 : decode cX5_casesAtOnce 55 = .ok (.lreturn, 1) := by decide +kernel
theorem dX5_casesGreatest_0 : decode cX5_casesGreatest 0 = .ok (.lconst 1, 1) := by decide +kernel
theorem dX5_casesGreatest_1 : decode cX5_casesGreatest 1 = .ok (.lstore_n 3, 1) := by decide +kernel
theorem dX5_casesGreatest_2 : decode cX5_casesGreatest 2 = .ok (.iconst 0, 1) := by decide +kernel
theorem dX5_casesGreatest_3 : decode cX5_casesGreatest 3 = .ok (.istore 5, 2) := by decide +kernel
theorem dX5_casesGreatest_5 : decode cX5_casesGreatest 5 = .ok (.iload 5, 2) := by decide +kernel
theorem dX5_casesGreatest_7 : decode cX5_casesGreatest 7 = .ok (.aload_n 0, 1) := by decide +kernel
theorem dX5_casesGreatest_8 : decode cX5_casesGreatest 8 = .ok (.getfield 19, 3) := by decide +kernel
theorem dX5_casesGreatest_11 : decode cX5_casesGreatest 11 = .ok (.if_icmp .ge 38, 3) := by decide +kernel
theorem dX5_casesGreatest_14 : decode cX5_casesGreatest 14 = .ok (.iload 5, 2) := by decide +kernel
theorem dX5_casesGreatest_16 : decode cX5_casesGreatest 16 = .ok (.iload_n 1, 1) := by decide +kernel
theorem dX5_casesGreatest_17 : decode cX5_casesGreatest 17 = .ok (.if_icmp .eq 26, 3) := by decide +kernel
theorem dX5_casesGreatest_20 : decode cX5_casesGreatest 20 = .ok (.lload_n 3, 1) := by decide +kernel
theorem dX5_casesGreatest_21 : decode cX5_casesGreatest 21 = .ok (.aload_n 0, 1) := by decide +kernel
theorem dX5_casesGreatest_22 : decode cX5_casesGreatest 22 = .ok (.iload 5, 2) := by decide +kernel
theorem dX5_casesGreatest_24 : decode cX5_casesGreatest 24 = .ok (.iload 5, 2) := by decide +kernel
theorem dX5_casesGreatest_26 : decode cX5_casesGreatest 26 = .ok (.iload_n 1, 1) := by decide +kernel
theorem dX5_casesGreatest_27 : decode cX5_casesGreatest 27 = .ok (.if_icmp .ge 7, 3) := by decide +kernel
theorem dX5_casesGreatest_30 : decode cX5_casesGreatest 30 = .ok (.iload_n 2, 1) := by decide +kernel
theorem dX5_casesGreatest_31 : decode cX5_casesGreatest 31 = .ok (.goto 6, 3) := by decide +kernel
theorem dX5_casesGreatest_34 : decode cX5_casesGreatest 34 = .ok (.iload_n 2, 1) := by decide +kernel
theorem dX5_casesGreatest_35 : decode cX5_casesGreatest 35 = .ok (.iconst 1, 1) := by decide +kernel
theorem dX5_casesGreatest_36 : decode cX5_casesGreatest 36 = .ok (.iadd, 1) := by decide +kernel
theorem dX5_casesGreatest_37 : decode cX5_casesGreatest 37 = .ok (.invokevirtual 56, 3) := by decide +kernel
theorem dX5_casesGreatest_40 : decode cX5_casesGreatest 40 = .ok (.i2l, 1) := by decide +kernel
theorem dX5_casesGreatest_41 : decode cX5_casesGreatest 41 = .ok (.lmul, 1) := by decide +kernel
theorem dX5_casesGreatest_42 : decode cX5_casesGreatest 42 = .ok (.lstore_n 3, 1) := by decide +kernel
theorem dX5_casesGreatest_43 : decode cX5_casesGreatest 43 = .ok (.iinc 5 1, 3) := by decide +kernel
theorem dX5_casesGreatest_46 : decode cX5_casesGreatest 46 = .ok (.goto (-41), 3) := by decide +kernel
theorem dX5_casesGreatest_49 : decode cX5_casesGreatest 49 = .ok (.lload_n 3, 1) := by decide +kernel
theorem dX5_casesGreatest_50 : decode cX5_casesGreatest 50 = .ok (.lreturn, 1) := by decide +kernel
theorem dX5_casesAllBelow_0 : decode cX5_casesAllBelow 0 = .ok (.lconst 1, 1) := by decide +kernel
theorem dX5_casesAllBelow_1 : decode cX5_casesAllBelow 1 = .ok (.lstore_n 2, 1) := by decide +kernel
theorem dX5_casesAllBelow_2 : decode cX5_casesAllBelow 2 = .ok (.iconst 0, 1) := by decide +kernel
theorem dX5_casesAllBelow_3 : decode cX5_casesAllBelow 3 = .ok (.istore 4, 2) := by decide +kernel
theorem dX5_casesAllBelow_5 : decode cX5_casesAllBelow 5 = .ok (.iload 4, 2) := by decide +kernel
theorem dX5_casesAllBelow_7 : decode cX5_casesAllBelow 7 = .ok (.iload_n 1, 1) := by decide +kernel
theorem dX5_casesAllBelow_8 : decode cX5_casesAllBelow 8 = .ok (.if_icmp .ge 23, 3) := by decide +kernel
theorem dX5_casesAllBelow_11 : decode cX5_casesAllBelow 11 = .ok (.lload_n 2, 1) := by decide +kernel
theorem dX5_casesAllBelow_12 : decode cX5_casesAllBelow 12 = .ok (.aload_n 0, 1) := by decide +kernel
theorem dX5_casesAllBelow_13 : decode cX5_casesAllBelow 13 = .ok (.iload 4, 2) := by decide +kernel
theorem dX5_casesAllBelow_15 : decode cX5_casesAllBelow 15 = .ok (.aload_n 0, 1) := by decide +kernel
theorem dX5_casesAllBelow_16 : decode cX5_casesAllBelow 16 = .ok (.getfield 9, 3) := by decide +kernel
theorem dX5_casesAllBelow_19 : decode cX5_casesAllBelow 19 = .ok (.invokevirtual 56, 3) := by decide +kernel
theorem dX5_casesAllBelow_22 : decode cX5_casesAllBelow 22 = .ok (.i2l, 1) := by decide +kernel
theorem dX5_casesAllBelow_23 : decode cX5_casesAllBelow 23 = .ok (.lmul, 1) := by decide +kernel
theorem dX5_casesAllBelow_24 : decode cX5_casesAllBelow 24 = .ok (.lstore_n 2, 1) := by decide +kernel
theorem dX5_casesAllBelow_25 : decode cX5_casesAllBelow 25 = .ok (.iinc 4 1, 3) := by decide +kernel
theorem dX5_casesAllBelow_28 : decode cX5_casesAllBelow 28 = .ok (.goto (-23), 3) := by decide +kernel
theorem dX5_casesAllBelow_31 : decode cX5_casesAllBelow 31 = .ok (.lload_n 2, 1) := by decide +kernel
theorem dX5_casesAllBelow_32 : decode cX5_casesAllBelow 32 = .ok (.lreturn, 1) := by decide +kernel
theorem dX5_casesBelow_0 : decode cX5_casesBelow 0 = .ok (.iload_n 2, 1) := by decide +kernel
theorem dX5_casesBelow_1 : decode cX5_casesBelow 1 = .ok (.aload_n 0, 1) := by decide +kernel
theorem dX5_casesBelow_2 : decode cX5_casesBelow 2 = .ok (.getfield 15, 3) := by decide +kernel
theorem dX5_casesBelow_5 : decode cX5_casesBelow 5 = .ok (.iload_n 1, 1) := by decide +kernel
theorem dX5_casesBelow_6 : decode cX5_casesBelow 6 = .ok (.iaload, 1) := by decide +kernel
theorem dX5_casesBelow_7 : decode cX5_casesBelow 7 = .ok (.isub, 1) := by decide +kernel
theorem dX5_casesBelow_8 : decode cX5_casesBelow 8 = .ok (.aload_n 0, 1) := by decide +kernel
theorem dX5_casesBelow_9 : decode cX5_casesBelow 9 = .ok (.getfield 22, 3) := by decide +kernel
theorem dX5_casesBelow_12 : decode cX5_casesBelow 12 = .ok (.iadd, 1) := by decide +kernel
theorem dX5_casesBelow_13 : decode cX5_casesBelow 13 = .ok (.iconst 0, 1) := by decide +kernel
theorem dX5_casesBelow_14 : decode cX5_casesBelow 14 = .ok (.aload_n 0, 1) := by decide +kernel
theorem dX5_casesBelow_15 : decode cX5_casesBelow 15 = .ok (.getfield 25, 3) := by decide +kernel
theorem dX5_casesBelow_18 : decode cX5_casesBelow 18 = .ok (.invokestatic 64, 3) := by decide +kernel
theorem dX5_casesBelow_21 : decode cX5_casesBelow 21 = .ok (.ireturn, 1) := by decide +kernel
theorem dX5_power_0 : decode cX5_power 0 = .ok (.lconst 1, 1) := by decide +kernel
theorem dX5_power_1 : decode cX5_power 1 = .ok (.lstore_n 2, 1) := by decide +kernel
theorem dX5_power_2 : decode cX5_power 2 = .ok (.iconst 0, 1) := by decide +kernel
theorem dX5_power_3 : decode cX5_power 3 = .ok (.istore 4, 2) := by decide +kernel
theorem dX5_power_5 : decode cX5_power 5 = .ok (.iload 4, 2) := by decide +kernel
theorem dX5_power_7 : decode cX5_power 7 = .ok (.iload_n 1, 1) := by decide +kernel
theorem dX5_power_8 : decode cX5_power 8 = .ok (.if_icmp .ge 17, 3) := by decide +kernel
theorem dX5_power_11 : decode cX5_power 11 = .ok (.lload_n 2, 1) := by decide +kernel
theorem dX5_power_12 : decode cX5_power 12 = .ok (.aload_n 0, 1) := by decide +kernel
theorem dX5_power_13 : decode cX5_power 13 = .ok (.getfield 25, 3) := by decide +kernel
theorem dX5_power_16 : decode cX5_power 16 = .ok (.i2l, 1) := by decide +kernel
theorem dX5_power_17 : decode cX5_power 17 = .ok (.lmul, 1) := by decide +kernel
theorem dX5_power_18 : decode cX5_power 18 = .ok (.lstore_n 2, 1) := by decide +kernel
theorem dX5_power_19 : decode cX5_power 19 = .ok (.iinc 4 1, 3) := by decide +kernel
theorem dX5_power_22 : decode cX5_power 22 = .ok (.goto (-17), 3) := by decide +kernel
theorem dX5_power_25 : decode cX5_power 25 = .ok (.lload_n 2, 1) := by decide +kernel
theorem dX5_power_26 : decode cX5_power 26 = .ok (.lreturn, 1) := by decide +kernel
theorem dX6_init_0 : decode cX6_init 0 = .ok (.aload_n 0, 1) := by decide +kernel
theorem dX6_init_1 : decode cX6_init 1 = .ok (.invokespecial 1, 3) := by decide +kernel
theorem dX6_init_4 : decode cX6_init 4 = .ok (.aload_n 0, 1) := by decide +kernel
theorem dX6_init_5 : decode cX6_init 5 = .ok (.sipush 500, 3) := by decide +kernel
theorem dX6_init_8 : decode cX6_init 8 = .ok (.newarray .byte, 2) := by decide +kernel
theorem dX6_init_10 : decode cX6_init 10 = .ok (.putfield 9, 3) := by decide +kernel
theorem dX6_init_13 : decode cX6_init 13 = .ok (.aload_n 0, 1) := by decide +kernel
theorem dX6_init_14 : decode cX6_init 14 = .ok (.iconst 0, 1) := by decide +kernel
theorem dX6_init_15 : decode cX6_init 15 = .ok (.putfield 13, 3) := by decide +kernel
theorem dX6_init_18 : decode cX6_init 18 = .ok (.aload_n 0, 1) := by decide +kernel
theorem dX6_init_19 : decode cX6_init 19 = .ok (.new 17, 3) := by decide +kernel
theorem dX6_init_22 : decode cX6_init 22 = .ok (.dup, 1) := by decide +kernel
theorem dX6_init_23 : decode cX6_init 23 = .ok (.invokespecial 19, 3) := by decide +kernel
theorem dX6_init_26 : decode cX6_init 26 = .ok (.putfield 20, 3) := by decide +kernel
theorem dX6_init_29 : decode cX6_init 29 = .ok (.aload_n 0, 1) := by decide +kernel
theorem dX6_init_30 : decode cX6_init 30 = .ok (.new 24, 3) := by decide +kernel
theorem dX6_init_33 : decode cX6_init 33 = .ok (.dup, 1) := by decide +kernel
theorem dX6_init_34 : decode cX6_init 34 = .ok (.invokespecial 26, 3) := by decide +kernel
theorem dX6_init_37 : decode cX6_init 37 = .ok (.putfield 27, 3) := by decide +kernel
theorem dX6_init_40 : decode cX6_init 40 = .ok (.aload_n 0, 1) := by decide +kernel
theorem dX6_init_41 : decode cX6_init 41 = .ok (.bipush 8, 2) := by decide +kernel
theorem dX6_init_43 : decode cX6_init 43 = .ok (.anewarray 17, 3) := by decide +kernel
theorem dX6_init_46 : decode cX6_init 46 = .ok (.putfield 31, 3) := by decide +kernel
theorem dX6_init_49 : decode cX6_init 49 = .ok (.aload_n 0, 1) := by decide +kernel
theorem dX6_init_50 : decode cX6_init 50 = .ok (.iconst 0, 1) := by decide +kernel
theorem dX6_init_51 : decode cX6_init 51 = .ok (.putfield 35, 3) := by decide +kernel
theorem dX6_init_54 : decode cX6_init 54 = .ok (.aload_n 0, 1) := by decide +kernel
theorem dX6_init_55 : decode cX6_init 55 = .ok (.iconst (-1), 1) := by decide +kernel
theorem dX6_init_56 : decode cX6_init 56 = .ok (.putfield 38, 3) := by decide +kernel
theorem dX6_init_59 : decode cX6_init 59 = .ok (.aload_n 0, 1) := by decide +kernel
theorem dX6_init_60 : decode cX6_init 60 = .ok (.iconst 3, 1) := by decide +kernel
theorem dX6_init_61 : decode cX6_init 61 = .ok (.newarray .int, 2) := by decide +kernel
theorem dX6_init_63 : decode cX6_init 63 = .ok (.putfield 41, 3) := by decide +kernel
theorem dX6_init_66 : decode cX6_init 66 = .ok (.aload_n 0, 1) := by decide +kernel
theorem dX6_init_67 : decode cX6_init 67 = .ok (.new 45, 3) := by decide +kernel
theorem dX6_init_70 : decode cX6_init 70 = .ok (.dup, 1) := by decide +kernel
theorem dX6_init_71 : decode cX6_init 71 = .ok (.invokespecial 47, 3) := by decide +kernel
theorem dX6_init_74 : decode cX6_init 74 = .ok (.putfield 48, 3) := by decide +kernel
theorem dX6_init_77 : decode cX6_init 77 = .ok (.aload_n 0, 1) := by decide +kernel
theorem dX6_init_78 : decode cX6_init 78 = .ok (.new 45, 3) := by decide +kernel
theorem dX6_init_81 : decode cX6_init 81 = .ok (.dup, 1) := by decide +kernel
theorem dX6_init_82 : decode cX6_init 82 = .ok (.invokespecial 47, 3) := by decide +kernel
theorem dX6_init_85 : decode cX6_init 85 = .ok (.putfield 52, 3) := by decide +kernel
theorem dX6_init_88 : decode cX6_init 88 = .ok (.aload_n 0, 1) := by decide +kernel
theorem dX6_init_89 : decode cX6_init 89 = .ok (.new 55, 3) := by decide +kernel
theorem dX6_init_92 : decode cX6_init 92 = .ok (.dup, 1) := by decide +kernel
theorem dX6_init_93 : decode cX6_init 93 = .ok (.invokespecial 57, 3) := by decide +kernel
theorem dX6_init_96 : decode cX6_init 96 = .ok (.putfield 58, 3) := by decide +kernel
theorem dX6_init_99 : decode cX6_init 99 = .ok (.iconst 0, 1) := by decide +kernel
theorem dX6_init_100 : decode cX6_init 100 = .ok (.istore_n 1, 1) := by decide +kernel
theorem dX6_init_101 : decode cX6_init 101 = .ok (.iload_n 1, 1) := by decide +kernel
theorem dX6_init_102 : decode cX6_init 102 = .ok (.aload_n 0, 1) := by decide +kernel
theorem dX6_init_103 : decode cX6_init 103 = .ok (.getfield 31, 3) := by decide +kernel
theorem dX6_init_106 : decode cX6_init 106 = .ok (.arraylength, 1) := by decide +kernel
theorem dX6_init_107 : decode cX6_init 107 = .ok (.if_icmp .ge 22, 3) := by decide +kernel
theorem dX6_init_110 : decode cX6_init 110 = .ok (.aload_n 0, 1) := by decide +kernel
theorem dX6_init_111 : decode cX6_init 111 = .ok (.getfield 31, 3) := by decide +kernel
theorem dX6_init_114 : decode cX6_init 114 = .ok (.iload_n 1, 1) := by decide +kernel
theorem dX6_init_115 : decode cX6_init 115 = .ok (.new 17, 3) := by decide +kernel
theorem dX6_init_118 : decode cX6_init 118 = .ok (.dup, 1) := by decide +kernel
theorem dX6_init_119 : decode cX6_init 119 = .ok (.invokespecial 19, 3) := by decide +kernel
theorem dX6_init_122 : decode cX6_init 122 = .ok (.aastore, 1) := by decide +kernel
theorem dX6_init_123 : decode cX6_init 123 = .ok (.iinc 1 1, 3) := by decide +kernel
theorem dX6_init_126 : decode cX6_init 126 = .ok (.goto (-25), 3) := by decide +kernel
theorem dX6_init_129 : decode cX6_init 129 = .ok (.aload_n 0, 1) := by decide +kernel
theorem dX6_init_130 : decode cX6_init 130 = .ok (.getfield 20, 3) := by decide +kernel
theorem dX6_init_133 : decode cX6_init 133 = .ok (.iconst 1, 1) := by decide +kernel
theorem dX6_init_134 : decode cX6_init 134 = .ok (.putfield 62, 3) := by decide +kernel
theorem dX6_init_137 : decode cX6_init 137 = .ok (.aload_n 0, 1) := by decide +kernel
theorem dX6_init_138 : decode cX6_init 138 = .ok (.getfield 20, 3) := by decide +kernel
theorem dX6_init_141 : decode cX6_init 141 = .ok (.getfield 65, 3) := by decide +kernel
theorem dX6_init_144 : decode cX6_init 144 = .ok (.iconst 0, 1) := by decide +kernel
theorem dX6_init_145 : decode cX6_init 145 = .ok (.iconst 5, 1) := by decide +kernel
theorem dX6_init_146 : decode cX6_init 146 = .ok (.iastore, 1) := by decide +kernel
theorem dX6_init_147 : decode cX6_init 147 = .ok (.aload_n 0, 1) := by decide +kernel
theorem dX6_init_148 : decode cX6_init 148 = .ok (.getfield 20, 3) := by decide +kernel
theorem dX6_init_151 : decode cX6_init 151 = .ok (.getfield 68, 3) := by decide +kernel
theorem dX6_init_154 : decode cX6_init 154 = .ok (.iconst 0, 1) := by decide +kernel
theorem dX6_init_155 : decode cX6_init 155 = .ok (.iconst 5, 1) := by decide +kernel
theorem dX6_init_156 : decode cX6_init 156 = .ok (.iastore, 1) := by decide +kernel
theorem dX6_init_157 : decode cX6_init 157 = .ok (.aload_n 0, 1) := by decide +kernel
theorem dX6_init_158 : decode cX6_init 158 = .ok (.getfield 20, 3) := by decide +kernel
theorem dX6_init_161 : decode cX6_init 161 = .ok (.getfield 71, 3) := by decide +kernel
theorem dX6_init_164 : decode cX6_init 164 = .ok (.iconst 0, 1) := by decide +kernel
theorem dX6_init_165 : decode cX6_init 165 = .ok (.iconst 3, 1) := by decide +kernel
theorem dX6_init_166 : decode cX6_init 166 = .ok (.iastore, 1) := by decide +kernel
theorem dX6_init_167 : decode cX6_init 167 = .ok (.aload_n 0, 1) := by decide +kernel
theorem dX6_init_168 : decode cX6_init 168 = .ok (.getfield 27, 3) := by decide +kernel
theorem dX6_init_171 : decode cX6_init 171 = .ok (.getfield 74, 3) := by decide +kernel
theorem dX6_init_174 : decode cX6_init 174 = .ok (.aload_n 0, 1) := by decide +kernel
theorem dX6_init_175 : decode cX6_init 175 = .ok (.getfield 20, 3) := by decide +kernel
theorem dX6_init_178 : decode cX6_init 178 = .ok (.invokevirtual 78, 3) := by decide +kernel
theorem dX6_init_181 : decode cX6_init 181 = .ok (.aload_n 0, 1) := by decide +kernel
theorem dX6_init_182 : decode cX6_init 182 = .ok (.getfield 20, 3) := by decide +kernel
theorem dX6_init_185 : decode cX6_init 185 = .ok (.invokevirtual 84, 3) := by decide +kernel
theorem dX6_init_188 : decode cX6_init 188 = .ok (.return_, 1) := by decide +kernel
theorem dX6_feed_0 : decode cX6_feed 0 = .ok (.aload_n 0, 1) := by decide +kernel
theorem dX6_feed_1 : decode cX6_feed 1 = .ok (.getfield 13, 3) := by decide +kernel
theorem dX6_feed_4 : decode cX6_feed 4 = .ok (.bipush 20, 2) := by decide +kernel
theorem dX6_feed_6 : decode cX6_feed 6 = .ok (.iadd, 1) := by decide +kernel
theorem dX6_feed_7 : decode cX6_feed 7 = .ok (.sipush 500, 3) := by decide +kernel
theorem dX6_feed_10 : decode cX6_feed 10 = .ok (.if_icmp .le 5, 3) := by decide +kernel
theorem dX6_feed_13 : decode cX6_feed 13 = .ok (.iconst (-1), 1) := by decide +kernel
theorem dX6_feed_14 : decode cX6_feed 14 = .ok (.ireturn, 1) := by decide +kernel
theorem dX6_feed_15 : decode cX6_feed 15 = .ok (.aload_n 0, 1) := by decide +kernel
theorem dX6_feed_16 : decode cX6_feed 16 = .ok (.iload_n 1, 1) := by decide +kernel
theorem dX6_feed_17 : decode cX6_feed 17 = .ok (.invokevirtual 87, 3) := by decide +kernel
theorem dX6_feed_20 : decode cX6_feed 20 = .ok (.aload_n 0, 1) := by decide +kernel
theorem dX6_feed_21 : decode cX6_feed 21 = .ok (.iload_n 2, 1) := by decide +kernel
theorem dX6_feed_22 : decode cX6_feed 22 = .ok (.invokevirtual 87, 3) := by decide +kernel
theorem dX6_feed_25 : decode cX6_feed 25 = .ok (.aload_n 0, 1) := by decide +kernel
theorem dX6_feed_26 : decode cX6_feed 26 = .ok (.iload_n 3, 1) := by decide +kernel
theorem dX6_feed_27 : decode cX6_feed 27 = .ok (.invokevirtual 87, 3) := by decide +kernel
theorem dX6_feed_30 : decode cX6_feed 30 = .ok (.aload_n 0, 1) := by decide +kernel
theorem dX6_feed_31 : decode cX6_feed 31 = .ok (.iload 4, 2) := by decide +kernel
theorem dX6_feed_33 : decode cX6_feed 33 = .ok (.invokevirtual 87, 3) := by decide +kernel
theorem dX6_feed_36 : decode cX6_feed 36 = .ok (.aload_n 0, 1) := by decide +kernel
theorem dX6_feed_37 : decode cX6_feed 37 = .ok (.iload 5, 2) := by decide +kernel
theorem dX6_feed_39 : decode cX6_feed 39 = .ok (.invokevirtual 87, 3) := by decide +kernel
theorem dX6_feed_42 : decode cX6_feed 42 = .ok (.aload_n 0, 1) := by decide +kernel
theorem dX6_feed_43 : decode cX6_feed 43 = .ok (.getfield 13, 3) := by decide +kernel
theorem dX6_feed_46 : decode cX6_feed 46 = .ok (.ireturn, 1) := by decide +kernel
theorem dX6_text_0 : decode cX6_text 0 = .ok (.aload_n 0, 1) := by decide +kernel
theorem dX6_text_1 : decode cX6_text 1 = .ok (.iload_n 1, 1) := by decide +kernel
theorem dX6_text_2 : decode cX6_text 2 = .ok (.iconst 0, 1) := by decide +kernel
theorem dX6_text_3 : decode cX6_text 3 = .ok (.aload_n 0, 1) := by decide +kernel
theorem dX6_text_4 : decode cX6_text 4 = .ok (.getfield 13, 3) := by decide +kernel
theorem dX6_text_7 : decode cX6_text 7 = .ok (.invokevirtual 91, 3) := by decide +kernel
theorem dX6_text_10 : decode cX6_text 10 = .ok (.aload_n 0, 1) := by decide +kernel
theorem dX6_text_11 : decode cX6_text 11 = .ok (.getfield 27, 3) := by decide +kernel
theorem dX6_text_14 : decode cX6_text 14 = .ok (.aload_n 0, 1) := by decide +kernel
theorem dX6_text_15 : decode cX6_text 15 = .ok (.getfield 9, 3) := by decide +kernel
theorem dX6_text_18 : decode cX6_text 18 = .ok (.iload_n 1, 1) := by decide +kernel
theorem dX6_text_19 : decode cX6_text 19 = .ok (.invokevirtual 95, 3) := by decide +kernel
theorem dX6_text_22 : decode cX6_text 22 = .ok (.istore_n 2, 1) := by decide +kernel
theorem dX6_text_23 : decode cX6_text 23 = .ok (.aload_n 0, 1) := by decide +kernel
theorem dX6_text_24 : decode cX6_text 24 = .ok (.iconst 0, 1) := by decide +kernel
theorem dX6_text_25 : decode cX6_text 25 = .ok (.putfield 13, 3) := by decide +kernel
theorem dX6_text_28 : decode cX6_text 28 = .ok (.aload_n 0, 1) := by decide +kernel
theorem dX6_text_29 : decode cX6_text 29 = .ok (.aload_n 0, 1) := by decide +kernel
theorem dX6_text_30 : decode cX6_text 30 = .ok (.getfield 27, 3) := by decide +kernel
theorem dX6_text_33 : decode cX6_text 33 = .ok (.getfield 99, 3) := by decide +kernel
theorem dX6_text_36 : decode cX6_text 36 = .ok (.putfield 38, 3) := by decide +kernel
theorem dX6_text_39 : decode cX6_text 39 = .ok (.iload_n 2, 1) := by decide +kernel
theorem dX6_text_40 : decode cX6_text 40 = .ok (.ifCond .eq 8, 3) := by decide +kernel
theorem dX6_text_43 : decode cX6_text 43 = .ok (.iload_n 2, 1) := by decide +kernel
theorem dX6_text_44 : decode cX6_text 44 = .ok (.bipush 10, 2) := by decide +kernel
theorem dX6_text_46 : decode cX6_text 46 = .ok (.isub, 1) := by decide +kernel
theorem dX6_text_47 : decode cX6_text 47 = .ok (.ireturn, 1) := by decide +kernel
theorem dX6_text_48 : decode cX6_text 48 = .ok (.aload_n 0, 1) := by decide +kernel
theorem dX6_text_49 : decode cX6_text 49 = .ok (.invokevirtual 100, 3) := by decide +kernel
theorem dX6_text_52 : decode cX6_text 52 = .ok (.aload_n 0, 1) := by decide +kernel
theorem dX6_text_53 : decode cX6_text 53 = .ok (.getfield 20, 3) := by decide +kernel
theorem dX6_text_56 : decode cX6_text 56 = .ok (.aload_n 0, 1) := by decide +kernel
theorem dX6_text_57 : decode cX6_text 57 = .ok (.getfield 27, 3) := by decide +kernel
theorem dX6_text_60 : decode cX6_text 60 = .ok (.getfield 103, 3) := by decide +kernel
theorem dX6_text_63 : decode cX6_text 63 = .ok (.invokevirtual 106, 3) := by decide +kernel
theorem dX6_text_66 : decode cX6_text 66 = .ok (.aload_n 0, 1) := by decide +kernel
theorem dX6_text_67 : decode cX6_text 67 = .ok (.getfield 20, 3) := by decide +kernel
theorem dX6_text_70 : decode cX6_text 70 = .ok (.getfield 109, 3) := by decide +kernel
theorem dX6_text_73 : decode cX6_text 73 = .ok (.ireturn, 1) := by decide +kernel
theorem dX6_fault_0 : decode cX6_fault 0 = .ok (.aload_n 0, 1) := by decide +kernel
theorem dX6_fault_1 : decode cX6_fault 1 = .ok (.getfield 38, 3) := by decide +kernel
theorem dX6_fault_4 : decode cX6_fault 4 = .ok (.ireturn, 1) := by decide +kernel
theorem dX6_show_0 : decode cX6_show 0 = .ok (.aload_n 0, 1) := by decide +kernel
theorem dX6_show_1 : decode cX6_show 1 = .ok (.iload_n 1, 1) := by decide +kernel
theorem dX6_show_2 : decode cX6_show 2 = .ok (.invokevirtual 112, 3) := by decide +kernel
theorem dX6_show_5 : decode cX6_show 5 = .ok (.aload_n 0, 1) := by decide +kernel
theorem dX6_show_6 : decode cX6_show 6 = .ok (.aload_n 0, 1) := by decide +kernel
theorem dX6_show_7 : decode cX6_show 7 = .ok (.getfield 20, 3) := by decide +kernel
theorem dX6_show_10 : decode cX6_show 10 = .ok (.iload_n 1, 1) := by decide +kernel
theorem dX6_show_11 : decode cX6_show 11 = .ok (.invokevirtual 115, 3) := by decide +kernel
theorem dX6_show_14 : decode cX6_show 14 = .ok (.iconst (-1), 1) := by decide +kernel
theorem dX6_show_15 : decode cX6_show 15 = .ok (.if_icmp .ne 19, 3) := by decide +kernel
theorem dX6_show_18 : decode cX6_show 18 = .ok (.aload_n 0, 1) := by decide +kernel
theorem dX6_show_19 : decode cX6_show 19 = .ok (.getfield 20, 3) := by decide +kernel
theorem dX6_show_22 : decode cX6_show 22 = .ok (.getfield 119, 3) := by decide +kernel
theorem dX6_show_25 : decode cX6_show 25 = .ok (.bipush 8, 2) := by decide +kernel
theorem dX6_show_27 : decode cX6_show 27 = .ok (.if_icmp .ge 7, 3) := by decide +kernel
theorem dX6_show_30 : decode cX6_show 30 = .ok (.iconst 1, 1) := by decide +kernel
theorem dX6_show_31 : decode cX6_show 31 = .ok (.goto 4, 3) := by decide +kernel
theorem dX6_show_34 : decode cX6_show 34 = .ok (.iconst 0, 1) := by decide +kernel
theorem dX6_show_35 : decode cX6_show 35 = .ok (.invokevirtual 122, 3) := by decide +kernel
theorem dX6_show_38 : decode cX6_show 38 = .ok (.aload_n 0, 1) := by decide +kernel
theorem dX6_show_39 : decode cX6_show 39 = .ok (.invokevirtual 100, 3) := by decide +kernel
theorem dX6_show_42 : decode cX6_show 42 = .ok (.aload_n 0, 1) := by decide +kernel
theorem dX6_show_43 : decode cX6_show 43 = .ok (.getfield 20, 3) := by decide +kernel
theorem dX6_show_46 : decode cX6_show 46 = .ok (.iload_n 1, 1) := by decide +kernel
theorem dX6_show_47 : decode cX6_show 47 = .ok (.invokevirtual 126, 3) := by decide +kernel
theorem dX6_show_50 : decode cX6_show 50 = .ok (.aload_n 0, 1) := by decide +kernel
theorem dX6_show_51 : decode cX6_show 51 = .ok (.getfield 20, 3) := by decide +kernel
theorem dX6_show_54 : decode cX6_show 54 = .ok (.getfield 119, 3) := by decide +kernel
theorem dX6_show_57 : decode cX6_show 57 = .ok (.ireturn, 1) := by decide +kernel
theorem dX6_hide_0 : decode cX6_hide 0 = .ok (.aload_n 0, 1) := by decide +kernel
theorem dX6_hide_1 : decode cX6_hide 1 = .ok (.iload_n 1, 1) := by decide +kernel
theorem dX6_hide_2 : decode cX6_hide 2 = .ok (.invokevirtual 129, 3) := by decide +kernel
theorem dX6_hide_5 : decode cX6_hide 5 = .ok (.aload_n 0, 1) := by decide +kernel
theorem dX6_hide_6 : decode cX6_hide 6 = .ok (.invokevirtual 100, 3) := by decide +kernel
theorem dX6_hide_9 : decode cX6_hide 9 = .ok (.aload_n 0, 1) := by decide +kernel
theorem dX6_hide_10 : decode cX6_hide 10 = .ok (.getfield 20, 3) := by decide +kernel
theorem dX6_hide_13 : decode cX6_hide 13 = .ok (.iload_n 1, 1) := by decide +kernel
theorem dX6_hide_14 : decode cX6_hide 14 = .ok (.invokevirtual 132, 3) := by decide +kernel
theorem dX6_hide_17 : decode cX6_hide 17 = .ok (.aload_n 0, 1) := by decide +kernel
theorem dX6_hide_18 : decode cX6_hide 18 = .ok (.getfield 20, 3) := by decide +kernel
theorem dX6_hide_21 : decode cX6_hide 21 = .ok (.getfield 119, 3) := by decide +kernel
theorem dX6_hide_24 : decode cX6_hide 24 = .ok (.ireturn, 1) := by decide +kernel
theorem dX6_change_0 : decode cX6_change 0 = .ok (.aload_n 0, 1) := by decide +kernel
theorem dX6_change_1 : decode cX6_change 1 = .ok (.iload_n 1, 1) := by decide +kernel
theorem dX6_change_2 : decode cX6_change 2 = .ok (.iconst 0, 1) := by decide +kernel
theorem dX6_change_3 : decode cX6_change 3 = .ok (.iconst 3, 1) := by decide +kernel
theorem dX6_change_4 : decode cX6_change 4 = .ok (.invokevirtual 91, 3) := by decide +kernel
theorem dX6_change_7 : decode cX6_change 7 = .ok (.aload_n 0, 1) := by decide +kernel
theorem dX6_change_8 : decode cX6_change 8 = .ok (.iload_n 2, 1) := by decide +kernel
theorem dX6_change_9 : decode cX6_change 9 = .ok (.getstatic 135, 3) := by decide +kernel
theorem dX6_change_12 : decode cX6_change 12 = .ok (.iload_n 1, 1) := by decide +kernel
theorem dX6_change_13 : decode cX6_change 13 = .ok (.iaload, 1) := by decide +kernel
theorem dX6_change_14 : decode cX6_change 14 = .ok (.getstatic 138, 3) := by decide +kernel
theorem dX6_change_17 : decode cX6_change 17 = .ok (.iload_n 1, 1) := by decide +kernel
theorem dX6_change_18 : decode cX6_change 18 = .ok (.iaload, 1) := by decide +kernel
theorem dX6_change_19 : decode cX6_change 19 = .ok (.invokevirtual 91, 3) := by decide +kernel
theorem dX6_change_22 : decode cX6_change 22 = .ok (.aload_n 0, 1) := by decide +kernel
theorem dX6_change_23 : decode cX6_change 23 = .ok (.invokevirtual 100, 3) := by decide +kernel
theorem dX6_change_26 : decode cX6_change 26 = .ok (.aload_n 0, 1) := by decide +kernel
theorem dX6_change_27 : decode cX6_change 27 = .ok (.getfield 20, 3) := by decide +kernel
theorem dX6_change_30 : decode cX6_change 30 = .ok (.getfield 141, 3) := by decide +kernel
theorem dX6_change_33 : decode cX6_change 33 = .ok (.iload_n 1, 1) := by decide +kernel
theorem dX6_change_34 : decode cX6_change 34 = .ok (.iaload, 1) := by decide +kernel
theorem dX6_change_35 : decode cX6_change 35 = .ok (.istore_n 3, 1) := by decide +kernel
theorem dX6_change_36 : decode cX6_change 36 = .ok (.aload_n 0, 1) := by decide +kernel
theorem dX6_change_37 : decode cX6_change 37 = .ok (.getfield 20, 3) := by decide +kernel
theorem dX6_change_40 : decode cX6_change 40 = .ok (.getfield 141, 3) := by decide +kernel
theorem dX6_change_43 : decode cX6_change 43 = .ok (.iload_n 1, 1) := by decide +kernel
theorem dX6_change_44 : decode cX6_change 44 = .ok (.iload_n 2, 1) := by decide +kernel
theorem dX6_change_45 : decode cX6_change 45 = .ok (.iastore, 1) := by decide +kernel
theorem dX6_change_46 : decode cX6_change 46 = .ok (.iload_n 3, 1) := by decide +kernel
theorem dX6_change_47 : decode cX6_change 47 = .ok (.ireturn, 1) := by decide +kernel
theorem dX6_mock_0 : decode cX6_mock 0 = .ok (.aload_n 0, 1) := by decide +kernel
theorem dX6_mock_1 : decode cX6_mock 1 = .ok (.iload_n 1, 1) := by decide +kernel
theorem dX6_mock_2 : decode cX6_mock 2 = .ok (.invokevirtual 112, 3) := by decide +kernel
theorem dX6_mock_5 : decode cX6_mock 5 = .ok (.aload_n 0, 1) := by decide +kernel
theorem dX6_mock_6 : decode cX6_mock 6 = .ok (.aload_n 0, 1) := by decide +kernel
theorem dX6_mock_7 : decode cX6_mock 7 = .ok (.getfield 20, 3) := by decide +kernel
theorem dX6_mock_10 : decode cX6_mock 10 = .ok (.iload_n 1, 1) := by decide +kernel
theorem dX6_mock_11 : decode cX6_mock 11 = .ok (.invokevirtual 115, 3) := by decide +kernel
theorem dX6_mock_14 : decode cX6_mock 14 = .ok (.iconst (-1), 1) := by decide +kernel
theorem dX6_mock_15 : decode cX6_mock 15 = .ok (.if_icmp .eq 22, 3) := by decide +kernel
theorem dX6_mock_18 : decode cX6_mock 18 = .ok (.aload_n 0, 1) := by decide +kernel
theorem dX6_mock_19 : decode cX6_mock 19 = .ok (.getfield 20, 3) := by decide +kernel
theorem dX6_mock_22 : decode cX6_mock 22 = .ok (.getfield 144, 3) := by decide +kernel
theorem dX6_mock_25 : decode cX6_mock 25 = .ok (.iload_n 1, 1) := by decide +kernel
theorem dX6_mock_26 : decode cX6_mock 26 = .ok (.iaload, 1) := by decide +kernel
theorem dX6_mock_27 : decode cX6_mock 27 = .ok (.sipush 999, 3) := by decide +kernel
theorem dX6_mock_30 : decode cX6_mock 30 = .ok (.if_icmp .ge 7, 3) := by decide +kernel
theorem dX6_mock_33 : decode cX6_mock 33 = .ok (.iconst 1, 1) := by decide +kernel
theorem dX6_mock_34 : decode cX6_mock 34 = .ok (.goto 4, 3) := by decide +kernel
theorem dX6_mock_37 : decode cX6_mock 37 = .ok (.iconst 0, 1) := by decide +kernel
theorem dX6_mock_38 : decode cX6_mock 38 = .ok (.invokevirtual 122, 3) := by decide +kernel
theorem dX6_mock_41 : decode cX6_mock 41 = .ok (.aload_n 0, 1) := by decide +kernel
theorem dX6_mock_42 : decode cX6_mock 42 = .ok (.invokevirtual 100, 3) := by decide +kernel
theorem dX6_mock_45 : decode cX6_mock 45 = .ok (.aload_n 0, 1) := by decide +kernel
theorem dX6_mock_46 : decode cX6_mock 46 = .ok (.getfield 20, 3) := by decide +kernel
theorem dX6_mock_49 : decode cX6_mock 49 = .ok (.getfield 144, 3) := by decide +kernel
theorem dX6_mock_52 : decode cX6_mock 52 = .ok (.iload_n 1, 1) := by decide +kernel
theorem dX6_mock_53 : decode cX6_mock 53 = .ok (.dup2, 1) := by decide +kernel
theorem dX6_mock_54 : decode cX6_mock 54 = .ok (.iaload, 1) := by decide +kernel
theorem dX6_mock_55 : decode cX6_mock 55 = .ok (.iconst 1, 1) := by decide +kernel
theorem dX6_mock_56 : decode cX6_mock 56 = .ok (.iadd, 1) := by decide +kernel
theorem dX6_mock_57 : decode cX6_mock 57 = .ok (.iastore, 1) := by decide +kernel
theorem dX6_mock_58 : decode cX6_mock 58 = .ok (.aload_n 0, 1) := by decide +kernel
theorem dX6_mock_59 : decode cX6_mock 59 = .ok (.getfield 20, 3) := by decide +kernel
theorem dX6_mock_62 : decode cX6_mock 62 = .ok (.getfield 144, 3) := by decide +kernel
theorem dX6_mock_65 : decode cX6_mock 65 = .ok (.iload_n 1, 1) := by decide +kernel
theorem dX6_mock_66 : decode cX6_mock 66 = .ok (.iaload, 1) := by decide +kernel
theorem dX6_mock_67 : decode cX6_mock 67 = .ok (.ireturn, 1) := by decide +kernel
theorem dX6_undo_0 : decode cX6_undo 0 = .ok (.aload_n 0, 1) := by decide +kernel
theorem dX6_undo_1 : decode cX6_undo 1 = .ok (.getfield 35, 3) := by decide +kernel
theorem dX6_undo_4 : decode cX6_undo 4 = .ok (.ifCond .ne 5, 3) := by decide +kernel
theorem dX6_undo_7 : decode cX6_undo 7 = .ok (.iconst (-1), 1) := by decide +kernel
theorem dX6_undo_8 : decode cX6_undo 8 = .ok (.ireturn, 1) := by decide +kernel
theorem dX6_undo_9 : decode cX6_undo 9 = .ok (.aload_n 0, 1) := by decide +kernel
theorem dX6_undo_10 : decode cX6_undo 10 = .ok (.dup, 1) := by decide +kernel
theorem dX6_undo_11 : decode cX6_undo 11 = .ok (.getfield 35, 3) := by decide +kernel
theorem dX6_undo_14 : decode cX6_undo 14 = .ok (.iconst 1, 1) := by decide +kernel
theorem dX6_undo_15 : decode cX6_undo 15 = .ok (.isub, 1) := by decide +kernel
theorem dX6_undo_16 : decode cX6_undo 16 = .ok (.putfield 35, 3) := by decide +kernel
theorem dX6_undo_19 : decode cX6_undo 19 = .ok (.aload_n 0, 1) := by decide +kernel
theorem dX6_undo_20 : decode cX6_undo 20 = .ok (.getfield 20, 3) := by decide +kernel
theorem dX6_undo_23 : decode cX6_undo 23 = .ok (.aload_n 0, 1) := by decide +kernel
theorem dX6_undo_24 : decode cX6_undo 24 = .ok (.getfield 31, 3) := by decide +kernel
theorem dX6_undo_27 : decode cX6_undo 27 = .ok (.aload_n 0, 1) := by decide +kernel
theorem dX6_undo_28 : decode cX6_undo 28 = .ok (.getfield 35, 3) := by decide +kernel
theorem dX6_undo_31 : decode cX6_undo 31 = .ok (.aaload, 1) := by decide +kernel
theorem dX6_undo_32 : decode cX6_undo 32 = .ok (.invokevirtual 106, 3) := by decide +kernel
theorem dX6_undo_35 : decode cX6_undo 35 = .ok (.aload_n 0, 1) := by decide +kernel
theorem dX6_undo_36 : decode cX6_undo 36 = .ok (.getfield 35, 3) := by decide +kernel
theorem dX6_undo_39 : decode cX6_undo 39 = .ok (.ireturn, 1) := by decide +kernel
theorem dX6_told_0 : decode cX6_told 0 = .ok (.aload_n 0, 1) := by decide +kernel
theorem dX6_told_1 : decode cX6_told 1 = .ok (.iload_n 1, 1) := by decide +kernel
theorem dX6_told_2 : decode cX6_told 2 = .ok (.iconst 0, 1) := by decide +kernel
theorem dX6_told_3 : decode cX6_told 3 = .ok (.bipush 9, 2) := by decide +kernel
theorem dX6_told_5 : decode cX6_told 5 = .ok (.invokevirtual 91, 3) := by decide +kernel
theorem dX6_told_8 : decode cX6_told 8 = .ok (.iload_n 1, 1) := by decide +kernel
theorem dX6_told_9 : decode cX6_told 9 = .ok (.tableswitch 97 0 9 #[55, 63, 71, 97, 97, 97, 97, 79, 87, 92], 55) := by decide +kernel
theorem dX6_told_64 : decode cX6_told 64 = .ok (.aload_n 0, 1) := by decide +kernel
theorem dX6_told_65 : decode cX6_told 65 = .ok (.getfield 20, 3) := by decide +kernel
theorem dX6_told_68 : decode cX6_told 68 = .ok (.getfield 62, 3) := by decide +kernel
theorem dX6_told_71 : decode cX6_told 71 = .ok (.ireturn, 1) := by decide +kernel
theorem dX6_told_72 : decode cX6_told 72 = .ok (.aload_n 0, 1) := by decide +kernel
theorem dX6_told_73 : decode cX6_told 73 = .ok (.getfield 20, 3) := by decide +kernel
theorem dX6_told_76 : decode cX6_told 76 = .ok (.getfield 109, 3) := by decide +kernel
theorem dX6_told_79 : decode cX6_told 79 = .ok (.ireturn, 1) := by decide +kernel
theorem dX6_told_80 : decode cX6_told 80 = .ok (.aload_n 0, 1) := by decide +kernel
theorem dX6_told_81 : decode cX6_told 81 = .ok (.getfield 20, 3) := by decide +kernel
theorem dX6_told_84 : decode cX6_told 84 = .ok (.getfield 119, 3) := by decide +kernel
theorem dX6_told_87 : decode cX6_told 87 = .ok (.ireturn, 1) := by decide +kernel
theorem dX6_told_88 : decode cX6_told 88 = .ok (.aload_n 0, 1) := by decide +kernel
theorem dX6_told_89 : decode cX6_told 89 = .ok (.getfield 20, 3) := by decide +kernel
theorem dX6_told_92 : decode cX6_told 92 = .ok (.invokevirtual 147, 3) := by decide +kernel
theorem dX6_told_95 : decode cX6_told 95 = .ok (.ireturn, 1) := by decide +kernel
theorem dX6_told_96 : decode cX6_told 96 = .ok (.aload_n 0, 1) := by decide +kernel
theorem dX6_told_97 : decode cX6_told 97 = .ok (.getfield 13, 3) := by decide +kernel
theorem dX6_told_100 : decode cX6_told 100 = .ok (.ireturn, 1) := by decide +kernel
theorem dX6_told_101 : decode cX6_told 101 = .ok (.aload_n 0, 1) := by decide +kernel
theorem dX6_told_102 : decode cX6_told 102 = .ok (.getfield 35, 3) := by decide +kernel
theorem dX6_told_105 : decode cX6_told 105 = .ok (.ireturn, 1) := by decide +kernel
theorem dX6_told_106 : decode cX6_told 106 = .ok (.aload_n 0, 1) := by decide +kernel
theorem dX6_told_107 : decode cX6_told 107 = .ok (.getfield 20, 3) := by decide +kernel
theorem dX6_told_110 : decode cX6_told 110 = .ok (.getfield 141, 3) := by decide +kernel
theorem dX6_told_113 : decode cX6_told 113 = .ok (.iload_n 1, 1) := by decide +kernel
theorem dX6_told_114 : decode cX6_told 114 = .ok (.iconst 3, 1) := by decide +kernel
theorem dX6_told_115 : decode cX6_told 115 = .ok (.isub, 1) := by decide +kernel
theorem dX6_told_116 : decode cX6_told 116 = .ok (.iaload, 1) := by decide +kernel
theorem dX6_told_117 : decode cX6_told 117 = .ok (.ireturn, 1) := by decide +kernel
theorem dX6_trait_0 : decode cX6_trait 0 = .ok (.aload_n 0, 1) := by decide +kernel
theorem dX6_trait_1 : decode cX6_trait 1 = .ok (.iload_n 1, 1) := by decide +kernel
theorem dX6_trait_2 : decode cX6_trait 2 = .ok (.invokevirtual 151, 3) := by decide +kernel
theorem dX6_trait_5 : decode cX6_trait 5 = .ok (.aload_n 0, 1) := by decide +kernel
theorem dX6_trait_6 : decode cX6_trait 6 = .ok (.iload_n 2, 1) := by decide +kernel
theorem dX6_trait_7 : decode cX6_trait 7 = .ok (.iconst 0, 1) := by decide +kernel
theorem dX6_trait_8 : decode cX6_trait 8 = .ok (.iconst 1, 1) := by decide +kernel
theorem dX6_trait_9 : decode cX6_trait 9 = .ok (.invokevirtual 91, 3) := by decide +kernel
theorem dX6_trait_12 : decode cX6_trait 12 = .ok (.iload_n 2, 1) := by decide +kernel
theorem dX6_trait_13 : decode cX6_trait 13 = .ok (.ifCond .ne 15, 3) := by decide +kernel
theorem dX6_trait_16 : decode cX6_trait 16 = .ok (.aload_n 0, 1) := by decide +kernel
theorem dX6_trait_17 : decode cX6_trait 17 = .ok (.getfield 20, 3) := by decide +kernel
theorem dX6_trait_20 : decode cX6_trait 20 = .ok (.getfield 68, 3) := by decide +kernel
theorem dX6_trait_23 : decode cX6_trait 23 = .ok (.iload_n 1, 1) := by decide +kernel
theorem dX6_trait_24 : decode cX6_trait 24 = .ok (.iaload, 1) := by decide +kernel
theorem dX6_trait_25 : decode cX6_trait 25 = .ok (.goto 12, 3) := by decide +kernel
theorem dX6_trait_28 : decode cX6_trait 28 = .ok (.aload_n 0, 1) := by decide +kernel
theorem dX6_trait_29 : decode cX6_trait 29 = .ok (.getfield 20, 3) := by decide +kernel
theorem dX6_trait_32 : decode cX6_trait 32 = .ok (.getfield 71, 3) := by decide +kernel
theorem dX6_trait_35 : decode cX6_trait 35 = .ok (.iload_n 1, 1) := by decide +kernel
theorem dX6_trait_36 : decode cX6_trait 36 = .ok (.iaload, 1) := by decide +kernel
theorem dX6_trait_37 : decode cX6_trait 37 = .ok (.ireturn, 1) := by decide +kernel
theorem dX6_value_0 : decode cX6_value 0 = .ok (.aload_n 0, 1) := by decide +kernel
theorem dX6_value_1 : decode cX6_value 1 = .ok (.iload_n 1, 1) := by decide +kernel
theorem dX6_value_2 : decode cX6_value 2 = .ok (.invokevirtual 112, 3) := by decide +kernel
theorem dX6_value_5 : decode cX6_value 5 = .ok (.aload_n 0, 1) := by decide +kernel
theorem dX6_value_6 : decode cX6_value 6 = .ok (.iload_n 2, 1) := by decide +kernel
theorem dX6_value_7 : decode cX6_value 7 = .ok (.invokevirtual 151, 3) := by decide +kernel
theorem dX6_value_10 : decode cX6_value 10 = .ok (.aload_n 0, 1) := by decide +kernel
theorem dX6_value_11 : decode cX6_value 11 = .ok (.getfield 20, 3) := by decide +kernel
theorem dX6_value_14 : decode cX6_value 14 = .ok (.iload_n 1, 1) := by decide +kernel
theorem dX6_value_15 : decode cX6_value 15 = .ok (.iload_n 2, 1) := by decide +kernel
theorem dX6_value_16 : decode cX6_value 16 = .ok (.invokevirtual 154, 3) := by decide +kernel
theorem dX6_value_19 : decode cX6_value 19 = .ok (.ireturn, 1) := by decide +kernel
theorem dX6_shown_0 : decode cX6_shown 0 = .ok (.aload_n 0, 1) := by decide +kernel
theorem dX6_shown_1 : decode cX6_shown 1 = .ok (.iload_n 1, 1) := by decide +kernel
theorem dX6_shown_2 : decode cX6_shown 2 = .ok (.invokevirtual 129, 3) := by decide +kernel
theorem dX6_shown_5 : decode cX6_shown 5 = .ok (.aload_n 0, 1) := by decide +kernel
theorem dX6_shown_6 : decode cX6_shown 6 = .ok (.getfield 20, 3) := by decide +kernel
theorem dX6_shown_9 : decode cX6_shown 9 = .ok (.getfield 158, 3) := by decide +kernel
theorem dX6_shown_12 : decode cX6_shown 12 = .ok (.iload_n 1, 1) := by decide +kernel
theorem dX6_shown_13 : decode cX6_shown 13 = .ok (.iaload, 1) := by decide +kernel
theorem dX6_shown_14 : decode cX6_shown 14 = .ok (.ireturn, 1) := by decide +kernel
theorem dX6_match_0 : decode cX6_match 0 = .ok (.aload_n 0, 1) := by decide +kernel
theorem dX6_match_1 : decode cX6_match 1 = .ok (.iload_n 1, 1) := by decide +kernel
theorem dX6_match_2 : decode cX6_match 2 = .ok (.invokevirtual 112, 3) := by decide +kernel
theorem dX6_match_5 : decode cX6_match 5 = .ok (.aload_n 0, 1) := by decide +kernel
theorem dX6_match_6 : decode cX6_match 6 = .ok (.getfield 20, 3) := by decide +kernel
theorem dX6_match_9 : decode cX6_match 9 = .ok (.iload_n 1, 1) := by decide +kernel
theorem dX6_match_10 : decode cX6_match 10 = .ok (.iload_n 2, 1) := by decide +kernel
theorem dX6_match_11 : decode cX6_match 11 = .ok (.invokevirtual 161, 3) := by decide +kernel
theorem dX6_match_14 : decode cX6_match 14 = .ok (.ireturn, 1) := by decide +kernel
theorem dX6_mocks_0 : decode cX6_mocks 0 = .ok (.aload_n 0, 1) := by decide +kernel
theorem dX6_mocks_1 : decode cX6_mocks 1 = .ok (.iload_n 1, 1) := by decide +kernel
theorem dX6_mocks_2 : decode cX6_mocks 2 = .ok (.invokevirtual 112, 3) := by decide +kernel
theorem dX6_mocks_5 : decode cX6_mocks 5 = .ok (.aload_n 0, 1) := by decide +kernel
theorem dX6_mocks_6 : decode cX6_mocks 6 = .ok (.getfield 20, 3) := by decide +kernel
theorem dX6_mocks_9 : decode cX6_mocks 9 = .ok (.getfield 144, 3) := by decide +kernel
theorem dX6_mocks_12 : decode cX6_mocks 12 = .ok (.iload_n 1, 1) := by decide +kernel
theorem dX6_mocks_13 : decode cX6_mocks 13 = .ok (.iaload, 1) := by decide +kernel
theorem dX6_mocks_14 : decode cX6_mocks 14 = .ok (.ireturn, 1) := by decide +kernel
theorem dX6_alike_0 : decode cX6_alike 0 = .ok (.aload_n 0, 1) := by decide +kernel
theorem dX6_alike_1 : decode cX6_alike 1 = .ok (.iload_n 1, 1) := by decide +kernel
theorem dX6_alike_2 : decode cX6_alike 2 = .ok (.invokevirtual 112, 3) := by decide +kernel
theorem dX6_alike_5 : decode cX6_alike 5 = .ok (.aload_n 0, 1) := by decide +kernel
theorem dX6_alike_6 : decode cX6_alike 6 = .ok (.iload_n 2, 1) := by decide +kernel
theorem dX6_alike_7 : decode cX6_alike 7 = .ok (.invokevirtual 112, 3) := by decide +kernel
theorem dX6_alike_10 : decode cX6_alike 10 = .ok (.iconst 0, 1) := by decide +kernel
theorem dX6_alike_11 : decode cX6_alike 11 = .ok (.istore_n 3, 1) := by decide +kernel
theorem dX6_alike_12 : decode cX6_alike 12 = .ok (.iconst 0, 1) := by decide +kernel
theorem dX6_alike_13 : decode cX6_alike 13 = .ok (.istore 4, 2) := by decide +kernel
theorem dX6_alike_15 : decode cX6_alike 15 = .ok (.iload 4, 2) := by decide +kernel
theorem dX6_alike_17 : decode cX6_alike 17 = .ok (.aload_n 0, 1) := by decide +kernel
theorem dX6_alike_18 : decode cX6_alike 18 = .ok (.getfield 20, 3) := by decide +kernel
theorem dX6_alike_21 : decode cX6_alike 21 = .ok (.getfield 62, 3) := by decide +kernel
theorem dX6_alike_24 : decode cX6_alike 24 = .ok (.if_icmp .ge 39, 3) := by decide +kernel
theorem dX6_alike_27 : decode cX6_alike 27 = .ok (.aload_n 0, 1) := by decide +kernel
theorem dX6_alike_28 : decode cX6_alike 28 = .ok (.getfield 20, 3) := by decide +kernel
theorem dX6_alike_31 : decode cX6_alike 31 = .ok (.iload_n 1, 1) := by decide +kernel
theorem dX6_alike_32 : decode cX6_alike 32 = .ok (.iload 4, 2) := by decide +kernel
theorem dX6_alike_34 : decode cX6_alike 34 = .ok (.invokevirtual 154, 3) := by decide +kernel
theorem dX6_alike_37 : decode cX6_alike 37 = .ok (.aload_n 0, 1) := by decide +kernel
theorem dX6_alike_38 : decode cX6_alike 38 = .ok (.getfield 20, 3) := by decide +kernel
theorem dX6_alike_41 : decode cX6_alike 41 = .ok (.iload_n 2, 1) := by decide +kernel
theorem dX6_alike_42 : decode cX6_alike 42 = .ok (.iload 4, 2) := by decide +kernel
theorem dX6_alike_44 : decode cX6_alike 44 = .ok (.invokevirtual 154, 3) := by decide +kernel
theorem dX6_alike_47 : decode cX6_alike 47 = .ok (.if_icmp .ne 10, 3) := by decide +kernel
theorem dX6_alike_50 : decode cX6_alike 50 = .ok (.iload_n 3, 1) := by decide +kernel
theorem dX6_alike_51 : decode cX6_alike 51 = .ok (.iconst 1, 1) := by decide +kernel
theorem dX6_alike_52 : decode cX6_alike 52 = .ok (.iload 4, 2) := by decide +kernel
theorem dX6_alike_54 : decode cX6_alike 54 = .ok (.ishl, 1) := by decide +kernel
theorem dX6_alike_55 : decode cX6_alike 55 = .ok (.ior, 1) := by decide +kernel
theorem dX6_alike_56 : decode cX6_alike 56 = .ok (.istore_n 3, 1) := by decide +kernel
theorem dX6_alike_57 : decode cX6_alike 57 = .ok (.iinc 4 1, 3) := by decide +kernel
theorem dX6_alike_60 : decode cX6_alike 60 = .ok (.goto (-45), 3) := by decide +kernel
theorem dX6_alike_63 : decode cX6_alike 63 = .ok (.iload_n 3, 1) := by decide +kernel
theorem dX6_alike_64 : decode cX6_alike 64 = .ok (.ireturn, 1) := by decide +kernel
theorem dX6_chance_0 : decode cX6_chance 0 = .ok (.iload_n 2, 1) := by decide +kernel
theorem dX6_chance_1 : decode cX6_chance 1 = .ok (.iconst (-1), 1) := by decide +kernel
theorem dX6_chance_2 : decode cX6_chance 2 = .ok (.if_icmp .eq 8, 3) := by decide +kernel
theorem dX6_chance_5 : decode cX6_chance 5 = .ok (.aload_n 0, 1) := by decide +kernel
theorem dX6_chance_6 : decode cX6_chance 6 = .ok (.iload_n 2, 1) := by decide +kernel
theorem dX6_chance_7 : decode cX6_chance 7 = .ok (.invokevirtual 112, 3) := by decide +kernel
theorem dX6_chance_10 : decode cX6_chance 10 = .ok (.aload_n 0, 1) := by decide +kernel
theorem dX6_chance_11 : decode cX6_chance 11 = .ok (.iload_n 1, 1) := by decide +kernel
theorem dX6_chance_12 : decode cX6_chance 12 = .ok (.iconst 0, 1) := by decide +kernel
theorem dX6_chance_13 : decode cX6_chance 13 = .ok (.iconst 1, 1) := by decide +kernel
theorem dX6_chance_14 : decode cX6_chance 14 = .ok (.invokevirtual 91, 3) := by decide +kernel
theorem dX6_chance_17 : decode cX6_chance 17 = .ok (.aload_n 0, 1) := by decide +kernel
theorem dX6_chance_18 : decode cX6_chance 18 = .ok (.iload 5, 2) := by decide +kernel
theorem dX6_chance_20 : decode cX6_chance 20 = .ok (.iconst 0, 1) := by decide +kernel
theorem dX6_chance_21 : decode cX6_chance 21 = .ok (.iconst 1, 1) := by decide +kernel
theorem dX6_chance_22 : decode cX6_chance 22 = .ok (.invokevirtual 91, 3) := by decide +kernel
theorem dX6_chance_25 : decode cX6_chance 25 = .ok (.iload_n 3, 1) := by decide +kernel
theorem dX6_chance_26 : decode cX6_chance 26 = .ok (.ifCond .eq 10, 3) := by decide +kernel
theorem dX6_chance_29 : decode cX6_chance 29 = .ok (.aload_n 0, 1) := by decide +kernel
theorem dX6_chance_30 : decode cX6_chance 30 = .ok (.getfield 48, 3) := by decide +kernel
theorem dX6_chance_33 : decode cX6_chance 33 = .ok (.goto 7, 3) := by decide +kernel
theorem dX6_chance_36 : decode cX6_chance 36 = .ok (.aload_n 0, 1) := by decide +kernel
theorem dX6_chance_37 : decode cX6_chance 37 = .ok (.getfield 52, 3) := by decide +kernel
theorem dX6_chance_40 : decode cX6_chance 40 = .ok (.astore 6, 2) := by decide +kernel
theorem dX6_chance_42 : decode cX6_chance 42 = .ok (.aload 6, 2) := by decide +kernel
theorem dX6_chance_44 : decode cX6_chance 44 = .ok (.aload_n 0, 1) := by decide +kernel
theorem dX6_chance_45 : decode cX6_chance 45 = .ok (.getfield 20, 3) := by decide +kernel
theorem dX6_chance_48 : decode cX6_chance 48 = .ok (.iload_n 3, 1) := by decide +kernel
theorem dX6_chance_49 : decode cX6_chance 49 = .ok (.iload 4, 2) := by decide +kernel
theorem dX6_chance_51 : decode cX6_chance 51 = .ok (.invokevirtual 165, 3) := by decide +kernel
theorem dX6_chance_54 : decode cX6_chance 54 = .ok (.iload_n 2, 1) := by decide +kernel
theorem dX6_chance_55 : decode cX6_chance 55 = .ok (.iconst (-1), 1) := by decide +kernel
theorem dX6_chance_56 : decode cX6_chance 56 = .ok (.if_icmp .ne 19, 3) := by decide +kernel
theorem dX6_chance_59 : decode cX6_chance 59 = .ok (.aload 6, 2) := by decide +kernel
theorem dX6_chance_61 : decode cX6_chance 61 = .ok (.invokevirtual 169, 3) := by decide +kernel
theorem dX6_chance_64 : decode cX6_chance 64 = .ok (.aload 6, 2) := by decide +kernel
theorem dX6_chance_66 : decode cX6_chance 66 = .ok (.invokevirtual 173, 3) := by decide +kernel
theorem dX6_chance_69 : decode cX6_chance 69 = .ok (.iload 5, 2) := by decide +kernel
theorem dX6_chance_71 : decode cX6_chance 71 = .ok (.invokestatic 176, 3) := by decide +kernel
theorem dX6_chance_74 : decode cX6_chance 74 = .ok (.lreturn, 1) := by decide +kernel
theorem dX6_chance_75 : decode cX6_chance 75 = .ok (.aload 6, 2) := by decide +kernel
theorem dX6_chance_77 : decode cX6_chance 77 = .ok (.iload_n 1, 1) := by decide +kernel
theorem dX6_chance_78 : decode cX6_chance 78 = .ok (.aload_n 0, 1) := by decide +kernel
theorem dX6_chance_79 : decode cX6_chance 79 = .ok (.getfield 20, 3) := by decide +kernel
theorem dX6_chance_82 : decode cX6_chance 82 = .ok (.iload_n 2, 1) := by decide +kernel
theorem dX6_chance_83 : decode cX6_chance 83 = .ok (.invokevirtual 115, 3) := by decide +kernel
theorem dX6_chance_86 : decode cX6_chance 86 = .ok (.invokevirtual 180, 3) := by decide +kernel
theorem dX6_chance_89 : decode cX6_chance 89 = .ok (.aload 6, 2) := by decide +kernel
theorem dX6_chance_91 : decode cX6_chance 91 = .ok (.invokevirtual 173, 3) := by decide +kernel
theorem dX6_chance_94 : decode cX6_chance 94 = .ok (.iload 5, 2) := by decide +kernel
theorem dX6_chance_96 : decode cX6_chance 96 = .ok (.invokestatic 176, 3) := by decide +kernel
theorem dX6_chance_99 : decode cX6_chance 99 = .ok (.lreturn, 1) := by decide +kernel
theorem dX6_size_0 : decode cX6_size 0 = .ok (.aload_n 0, 1) := by decide +kernel
theorem dX6_size_1 : decode cX6_size 1 = .ok (.iload_n 1, 1) := by decide +kernel
theorem dX6_size_2 : decode cX6_size 2 = .ok (.iconst 0, 1) := by decide +kernel
theorem dX6_size_3 : decode cX6_size 3 = .ok (.iconst 3, 1) := by decide +kernel
theorem dX6_size_4 : decode cX6_size 4 = .ok (.invokevirtual 91, 3) := by decide +kernel
theorem dX6_size_7 : decode cX6_size 7 = .ok (.iload_n 1, 1) := by decide +kernel
theorem dX6_size_8 : decode cX6_size 8 = .ok (.iconst 2, 1) := by decide +kernel
theorem dX6_size_9 : decode cX6_size 9 = .ok (.if_icmp .ge 13, 3) := by decide +kernel
theorem dX6_size_12 : decode cX6_size 12 = .ok (.aload_n 0, 1) := by decide +kernel
theorem dX6_size_13 : decode cX6_size 13 = .ok (.getfield 20, 3) := by decide +kernel
theorem dX6_size_16 : decode cX6_size 16 = .ok (.getfield 184, 3) := by decide +kernel
theorem dX6_size_19 : decode cX6_size 19 = .ok (.goto 10, 3) := by decide +kernel
theorem dX6_size_22 : decode cX6_size 22 = .ok (.aload_n 0, 1) := by decide +kernel
theorem dX6_size_23 : decode cX6_size 23 = .ok (.getfield 20, 3) := by decide +kernel
theorem dX6_size_26 : decode cX6_size 26 = .ok (.getfield 144, 3) := by decide +kernel
theorem dX6_size_29 : decode cX6_size 29 = .ok (.astore_n 2, 1) := by decide +kernel
theorem dX6_size_30 : decode cX6_size 30 = .ok (.lconst 0, 1) := by decide +kernel
theorem dX6_size_31 : decode cX6_size 31 = .ok (.lstore_n 3, 1) := by decide +kernel
theorem dX6_size_32 : decode cX6_size 32 = .ok (.lconst 0, 1) := by decide +kernel
theorem dX6_size_33 : decode cX6_size 33 = .ok (.lstore 5, 2) := by decide +kernel
theorem dX6_size_35 : decode cX6_size 35 = .ok (.iconst 0, 1) := by decide +kernel
theorem dX6_size_36 : decode cX6_size 36 = .ok (.istore 7, 2) := by decide +kernel
theorem dX6_size_38 : decode cX6_size 38 = .ok (.iload 7, 2) := by decide +kernel
theorem dX6_size_40 : decode cX6_size 40 = .ok (.aload_n 0, 1) := by decide +kernel
theorem dX6_size_41 : decode cX6_size 41 = .ok (.getfield 20, 3) := by decide +kernel
theorem dX6_size_44 : decode cX6_size 44 = .ok (.getfield 119, 3) := by decide +kernel
theorem dX6_size_47 : decode cX6_size 47 = .ok (.if_icmp .ge 39, 3) := by decide +kernel
theorem dX6_size_50 : decode cX6_size 50 = .ok (.aload_n 2, 1) := by decide +kernel
theorem dX6_size_51 : decode cX6_size 51 = .ok (.aload_n 0, 1) := by decide +kernel
theorem dX6_size_52 : decode cX6_size 52 = .ok (.getfield 20, 3) := by decide +kernel
theorem dX6_size_55 : decode cX6_size 55 = .ok (.getfield 158, 3) := by decide +kernel
theorem dX6_size_58 : decode cX6_size 58 = .ok (.iload 7, 2) := by decide +kernel
theorem dX6_size_60 : decode cX6_size 60 = .ok (.iaload, 1) := by decide +kernel
theorem dX6_size_61 : decode cX6_size 61 = .ok (.iaload, 1) := by decide +kernel
theorem dX6_size_62 : decode cX6_size 62 = .ok (.i2l, 1) := by decide +kernel
theorem dX6_size_63 : decode cX6_size 63 = .ok (.lstore 8, 2) := by decide +kernel
theorem dX6_size_65 : decode cX6_size 65 = .ok (.lload_n 3, 1) := by decide +kernel
theorem dX6_size_66 : decode cX6_size 66 = .ok (.lload 8, 2) := by decide +kernel
theorem dX6_size_68 : decode cX6_size 68 = .ok (.ladd, 1) := by decide +kernel
theorem dX6_size_69 : decode cX6_size 69 = .ok (.lstore_n 3, 1) := by decide +kernel
theorem dX6_size_70 : decode cX6_size 70 = .ok (.lload 5, 2) := by decide +kernel
theorem dX6_size_72 : decode cX6_size 72 = .ok (.lload 8, 2) := by decide +kernel
theorem dX6_size_74 : decode cX6_size 74 = .ok (.lload 8, 2) := by decide +kernel
theorem dX6_size_76 : decode cX6_size 76 = .ok (.lmul, 1) := by decide +kernel
theorem dX6_size_77 : decode cX6_size 77 = .ok (.ladd, 1) := by decide +kernel
theorem dX6_size_78 : decode cX6_size 78 = .ok (.lstore 5, 2) := by decide +kernel
theorem dX6_size_80 : decode cX6_size 80 = .ok (.iinc 7 1, 3) := by decide +kernel
theorem dX6_size_83 : decode cX6_size 83 = .ok (.goto (-45), 3) := by decide +kernel
theorem dX6_size_86 : decode cX6_size 86 = .ok (.lload_n 3, 1) := by decide +kernel
theorem dX6_size_87 : decode cX6_size 87 = .ok (.lload_n 3, 1) := by decide +kernel
theorem dX6_size_88 : decode cX6_size 88 = .ok (.lmul, 1) := by decide +kernel
theorem dX6_size_89 : decode cX6_size 89 = .ok (.lload 5, 2) := by decide +kernel
theorem dX6_size_91 : decode cX6_size 91 = .ok (.iload_n 1, 1) := by decide +kernel
theorem dX6_size_92 : decode cX6_size 92 = .ok (.iconst 1, 1) := by decide +kernel
theorem dX6_size_93 : decode cX6_size 93 = .ok (.iand, 1) := by decide +kernel
theorem dX6_size_94 : decode cX6_size 94 = .ok (.invokestatic 176, 3) := by decide +kernel
theorem dX6_size_97 : decode cX6_size 97 = .ok (.lreturn, 1) := by decide +kernel
theorem dX6_fairest_0 : decode cX6_fairest 0 = .ok (.aload_n 0, 1) := by decide +kernel
theorem dX6_fairest_1 : decode cX6_fairest 1 = .ok (.iload_n 1, 1) := by decide +kernel
theorem dX6_fairest_2 : decode cX6_fairest 2 = .ok (.iconst 2, 1) := by decide +kernel
theorem dX6_fairest_3 : decode cX6_fairest 3 = .ok (.bipush 8, 2) := by decide +kernel
theorem dX6_fairest_5 : decode cX6_fairest 5 = .ok (.invokevirtual 91, 3) := by decide +kernel
theorem dX6_fairest_8 : decode cX6_fairest 8 = .ok (.aload_n 0, 1) := by decide +kernel
theorem dX6_fairest_9 : decode cX6_fairest 9 = .ok (.iload_n 2, 1) := by decide +kernel
theorem dX6_fairest_10 : decode cX6_fairest 10 = .ok (.iconst 0, 1) := by decide +kernel
theorem dX6_fairest_11 : decode cX6_fairest 11 = .ok (.iconst 2, 1) := by decide +kernel
theorem dX6_fairest_12 : decode cX6_fairest 12 = .ok (.invokevirtual 91, 3) := by decide +kernel
theorem dX6_fairest_15 : decode cX6_fairest 15 = .ok (.iload_n 1, 1) := by decide +kernel
theorem dX6_fairest_16 : decode cX6_fairest 16 = .ok (.aload_n 0, 1) := by decide +kernel
theorem dX6_fairest_17 : decode cX6_fairest 17 = .ok (.getfield 20, 3) := by decide +kernel
theorem dX6_fairest_20 : decode cX6_fairest 20 = .ok (.getfield 109, 3) := by decide +kernel
theorem dX6_fairest_23 : decode cX6_fairest 23 = .ok (.if_icmp .le 7, 3) := by decide +kernel
theorem dX6_fairest_26 : decode cX6_fairest 26 = .ok (.ldc2_w 187, 3) := by decide +kernel
theorem dX6_fairest_29 : decode cX6_fairest 29 = .ok (.lreturn, 1) := by decide +kernel
theorem dX6_fairest_30 : decode cX6_fairest 30 = .ok (.aload_n 0, 1) := by decide +kernel
theorem dX6_fairest_31 : decode cX6_fairest 31 = .ok (.getfield 58, 3) := by decide +kernel
theorem dX6_fairest_34 : decode cX6_fairest 34 = .ok (.aload_n 0, 1) := by decide +kernel
theorem dX6_fairest_35 : decode cX6_fairest 35 = .ok (.getfield 20, 3) := by decide +kernel
theorem dX6_fairest_38 : decode cX6_fairest 38 = .ok (.iload_n 1, 1) := by decide +kernel
theorem dX6_fairest_39 : decode cX6_fairest 39 = .ok (.iconst 1, 1) := by decide +kernel
theorem dX6_fairest_40 : decode cX6_fairest 40 = .ok (.isub, 1) := by decide +kernel
theorem dX6_fairest_41 : decode cX6_fairest 41 = .ok (.invokevirtual 189, 3) := by decide +kernel
theorem dX6_fairest_44 : decode cX6_fairest 44 = .ok (.iload_n 2, 1) := by decide +kernel
theorem dX6_fairest_45 : decode cX6_fairest 45 = .ok (.ifCond .ne 12, 3) := by decide +kernel
theorem dX6_fairest_48 : decode cX6_fairest 48 = .ok (.aload_n 0, 1) := by decide +kernel
theorem dX6_fairest_49 : decode cX6_fairest 49 = .ok (.getfield 58, 3) := by decide +kernel
theorem dX6_fairest_52 : decode cX6_fairest 52 = .ok (.getfield 193, 3) := by decide +kernel
theorem dX6_fairest_55 : decode cX6_fairest 55 = .ok (.i2l, 1) := by decide +kernel
theorem dX6_fairest_56 : decode cX6_fairest 56 = .ok (.lreturn, 1) := by decide +kernel
theorem dX6_fairest_57 : decode cX6_fairest 57 = .ok (.aload_n 0, 1) := by decide +kernel
theorem dX6_fairest_58 : decode cX6_fairest 58 = .ok (.getfield 58, 3) := by decide +kernel
theorem dX6_fairest_61 : decode cX6_fairest 61 = .ok (.getfield 196, 3) := by decide +kernel
theorem dX6_fairest_64 : decode cX6_fairest 64 = .ok (.aload_n 0, 1) := by decide +kernel
theorem dX6_fairest_65 : decode cX6_fairest 65 = .ok (.getfield 58, 3) := by decide +kernel
theorem dX6_fairest_68 : decode cX6_fairest 68 = .ok (.getfield 196, 3) := by decide +kernel
theorem dX6_fairest_71 : decode cX6_fairest 71 = .ok (.lmul, 1) := by decide +kernel
theorem dX6_fairest_72 : decode cX6_fairest 72 = .ok (.aload_n 0, 1) := by decide +kernel
theorem dX6_fairest_73 : decode cX6_fairest 73 = .ok (.getfield 58, 3) := by decide +kernel
theorem dX6_fairest_76 : decode cX6_fairest 76 = .ok (.getfield 200, 3) := by decide +kernel
theorem dX6_fairest_79 : decode cX6_fairest 79 = .ok (.iload_n 2, 1) := by decide +kernel
theorem dX6_fairest_80 : decode cX6_fairest 80 = .ok (.iconst 1, 1) := by decide +kernel
theorem dX6_fairest_81 : decode cX6_fairest 81 = .ok (.isub, 1) := by decide +kernel
theorem dX6_fairest_82 : decode cX6_fairest 82 = .ok (.invokestatic 176, 3) := by decide +kernel
theorem dX6_fairest_85 : decode cX6_fairest 85 = .ok (.lreturn, 1) := by decide +kernel
theorem dX6_odds_0 : decode cX6_odds 0 = .ok (.aload_n 0, 1) := by decide +kernel
theorem dX6_odds_1 : decode cX6_odds 1 = .ok (.iload_n 1, 1) := by decide +kernel
theorem dX6_odds_2 : decode cX6_odds 2 = .ok (.iconst 0, 1) := by decide +kernel
theorem dX6_odds_3 : decode cX6_odds 3 = .ok (.iconst 1, 1) := by decide +kernel
theorem dX6_odds_4 : decode cX6_odds 4 = .ok (.invokevirtual 91, 3) := by decide +kernel
theorem dX6_odds_7 : decode cX6_odds 7 = .ok (.aload_n 0, 1) := by decide +kernel
theorem dX6_odds_8 : decode cX6_odds 8 = .ok (.iload 4, 2) := by decide +kernel
theorem dX6_odds_10 : decode cX6_odds 10 = .ok (.iconst 0, 1) := by decide +kernel
theorem dX6_odds_11 : decode cX6_odds 11 = .ok (.iconst 1, 1) := by decide +kernel
theorem dX6_odds_12 : decode cX6_odds 12 = .ok (.invokevirtual 91, 3) := by decide +kernel
theorem dX6_odds_15 : decode cX6_odds 15 = .ok (.aload_n 0, 1) := by decide +kernel
theorem dX6_odds_16 : decode cX6_odds 16 = .ok (.getfield 20, 3) := by decide +kernel
theorem dX6_odds_19 : decode cX6_odds 19 = .ok (.iconst 0, 1) := by decide +kernel
theorem dX6_odds_20 : decode cX6_odds 20 = .ok (.invokevirtual 115, 3) := by decide +kernel
theorem dX6_odds_23 : decode cX6_odds 23 = .ok (.istore 5, 2) := by decide +kernel
theorem dX6_odds_25 : decode cX6_odds 25 = .ok (.aload_n 0, 1) := by decide +kernel
theorem dX6_odds_26 : decode cX6_odds 26 = .ok (.iload 5, 2) := by decide +kernel
theorem dX6_odds_28 : decode cX6_odds 28 = .ok (.iconst (-1), 1) := by decide +kernel
theorem dX6_odds_29 : decode cX6_odds 29 = .ok (.if_icmp .eq 7, 3) := by decide +kernel
theorem dX6_odds_32 : decode cX6_odds 32 = .ok (.iconst 1, 1) := by decide +kernel
theorem dX6_odds_33 : decode cX6_odds 33 = .ok (.goto 4, 3) := by decide +kernel
theorem dX6_odds_36 : decode cX6_odds 36 = .ok (.iconst 0, 1) := by decide +kernel
theorem dX6_odds_37 : decode cX6_odds 37 = .ok (.invokevirtual 122, 3) := by decide +kernel
theorem dX6_odds_40 : decode cX6_odds 40 = .ok (.aload_n 0, 1) := by decide +kernel
theorem dX6_odds_41 : decode cX6_odds 41 = .ok (.getfield 48, 3) := by decide +kernel
theorem dX6_odds_44 : decode cX6_odds 44 = .ok (.aload_n 0, 1) := by decide +kernel
theorem dX6_odds_45 : decode cX6_odds 45 = .ok (.getfield 20, 3) := by decide +kernel
theorem dX6_odds_48 : decode cX6_odds 48 = .ok (.iconst 1, 1) := by decide +kernel
theorem dX6_odds_49 : decode cX6_odds 49 = .ok (.iload_n 2, 1) := by decide +kernel
theorem dX6_odds_50 : decode cX6_odds 50 = .ok (.invokevirtual 165, 3) := by decide +kernel
theorem dX6_odds_53 : decode cX6_odds 53 = .ok (.aload_n 0, 1) := by decide +kernel
theorem dX6_odds_54 : decode cX6_odds 54 = .ok (.getfield 52, 3) := by decide +kernel
theorem dX6_odds_57 : decode cX6_odds 57 = .ok (.aload_n 0, 1) := by decide +kernel
theorem dX6_odds_58 : decode cX6_odds 58 = .ok (.getfield 20, 3) := by decide +kernel
theorem dX6_odds_61 : decode cX6_odds 61 = .ok (.iconst 0, 1) := by decide +kernel
theorem dX6_odds_62 : decode cX6_odds 62 = .ok (.iload_n 2, 1) := by decide +kernel
theorem dX6_odds_63 : decode cX6_odds 63 = .ok (.invokevirtual 165, 3) := by decide +kernel
theorem dX6_odds_66 : decode cX6_odds 66 = .ok (.aload_n 0, 1) := by decide +kernel
theorem dX6_odds_67 : decode cX6_odds 67 = .ok (.getfield 48, 3) := by decide +kernel
theorem dX6_odds_70 : decode cX6_odds 70 = .ok (.iload_n 1, 1) := by decide +kernel
theorem dX6_odds_71 : decode cX6_odds 71 = .ok (.iload 5, 2) := by decide +kernel
theorem dX6_odds_73 : decode cX6_odds 73 = .ok (.invokevirtual 180, 3) := by decide +kernel
theorem dX6_odds_76 : decode cX6_odds 76 = .ok (.lstore 6, 2) := by decide +kernel
theorem dX6_odds_78 : decode cX6_odds 78 = .ok (.aload_n 0, 1) := by decide +kernel
theorem dX6_odds_79 : decode cX6_odds 79 = .ok (.getfield 52, 3) := by decide +kernel
theorem dX6_odds_82 : decode cX6_odds 82 = .ok (.iload_n 1, 1) := by decide +kernel
theorem dX6_odds_83 : decode cX6_odds 83 = .ok (.iload 5, 2) := by decide +kernel
theorem dX6_odds_85 : decode cX6_odds 85 = .ok (.invokevirtual 180, 3) := by decide +kernel
theorem dX6_odds_88 : decode cX6_odds 88 = .ok (.lstore 8, 2) := by decide +kernel
theorem dX6_odds_90 : decode cX6_odds 90 = .ok (.iload_n 3, 1) := by decide +kernel
theorem dX6_odds_91 : decode cX6_odds 91 = .ok (.ifCond .ne 27, 3) := by decide +kernel
theorem dX6_odds_94 : decode cX6_odds 94 = .ok (.aload_n 0, 1) := by decide +kernel
theorem dX6_odds_95 : decode cX6_odds 95 = .ok (.getfield 48, 3) := by decide +kernel
theorem dX6_odds_98 : decode cX6_odds 98 = .ok (.invokevirtual 173, 3) := by decide +kernel
theorem dX6_odds_101 : decode cX6_odds 101 = .ok (.lload 6, 2) := by decide +kernel
theorem dX6_odds_103 : decode cX6_odds 103 = .ok (.lsub, 1) := by decide +kernel
theorem dX6_odds_104 : decode cX6_odds 104 = .ok (.lstore 6, 2) := by decide +kernel
theorem dX6_odds_106 : decode cX6_odds 106 = .ok (.aload_n 0, 1) := by decide +kernel
theorem dX6_odds_107 : decode cX6_odds 107 = .ok (.getfield 52, 3) := by decide +kernel
theorem dX6_odds_110 : decode cX6_odds 110 = .ok (.invokevirtual 173, 3) := by decide +kernel
theorem dX6_odds_113 : decode cX6_odds 113 = .ok (.lload 8, 2) := by decide +kernel
theorem dX6_odds_115 : decode cX6_odds 115 = .ok (.lsub, 1) := by decide +kernel
theorem dX6_odds_116 : decode cX6_odds 116 = .ok (.lstore 8, 2) := by decide +kernel
theorem dX6_odds_118 : decode cX6_odds 118 = .ok (.aload_n 0, 1) := by decide +kernel
theorem dX6_odds_119 : decode cX6_odds 119 = .ok (.getfield 20, 3) := by decide +kernel
theorem dX6_odds_122 : decode cX6_odds 122 = .ok (.getfield 141, 3) := by decide +kernel
theorem dX6_odds_125 : decode cX6_odds 125 = .ok (.iconst 3, 1) := by decide +kernel
theorem dX6_odds_126 : decode cX6_odds 126 = .ok (.iaload, 1) := by decide +kernel
theorem dX6_odds_127 : decode cX6_odds 127 = .ok (.i2l, 1) := by decide +kernel
theorem dX6_odds_128 : decode cX6_odds 128 = .ok (.lstore 10, 2) := by decide +kernel
theorem dX6_odds_130 : decode cX6_odds 130 = .ok (.lload 10, 2) := by decide +kernel
theorem dX6_odds_132 : decode cX6_odds 132 = .ok (.lload 6, 2) := by decide +kernel
theorem dX6_odds_134 : decode cX6_odds 134 = .ok (.lmul, 1) := by decide +kernel
theorem dX6_odds_135 : decode cX6_odds 135 = .ok (.lstore 12, 2) := by decide +kernel
theorem dX6_odds_137 : decode cX6_odds 137 = .ok (.lload 12, 2) := by decide +kernel
theorem dX6_odds_139 : decode cX6_odds 139 = .ok (.lload 12, 2) := by decide +kernel
theorem dX6_odds_141 : decode cX6_odds 141 = .ok (.ldc2_w 203, 3) := by decide +kernel
theorem dX6_odds_144 : decode cX6_odds 144 = .ok (.lload 10, 2) := by decide +kernel
theorem dX6_odds_146 : decode cX6_odds 146 = .ok (.lsub, 1) := by decide +kernel
theorem dX6_odds_147 : decode cX6_odds 147 = .ok (.lload 8, 2) := by decide +kernel
theorem dX6_odds_149 : decode cX6_odds 149 = .ok (.lmul, 1) := by decide +kernel
theorem dX6_odds_150 : decode cX6_odds 150 = .ok (.ladd, 1) := by decide +kernel
theorem dX6_odds_151 : decode cX6_odds 151 = .ok (.iload 4, 2) := by decide +kernel
theorem dX6_odds_153 : decode cX6_odds 153 = .ok (.invokestatic 176, 3) := by decide +kernel
theorem dX6_odds_156 : decode cX6_odds 156 = .ok (.lreturn, 1) := by decide +kernel
theorem dX6_cut_0 : decode cX6_cut 0 = .ok (.aload_n 0, 1) := by decide +kernel
theorem dX6_cut_1 : decode cX6_cut 1 = .ok (.iload_n 1, 1) := by decide +kernel
theorem dX6_cut_2 : decode cX6_cut 2 = .ok (.iconst 0, 1) := by decide +kernel
theorem dX6_cut_3 : decode cX6_cut 3 = .ok (.iconst 1, 1) := by decide +kernel
theorem dX6_cut_4 : decode cX6_cut 4 = .ok (.invokevirtual 91, 3) := by decide +kernel
theorem dX6_cut_7 : decode cX6_cut 7 = .ok (.aload_n 0, 1) := by decide +kernel
theorem dX6_cut_8 : decode cX6_cut 8 = .ok (.getfield 20, 3) := by decide +kernel
theorem dX6_cut_11 : decode cX6_cut 11 = .ok (.iconst 0, 1) := by decide +kernel
theorem dX6_cut_12 : decode cX6_cut 12 = .ok (.invokevirtual 115, 3) := by decide +kernel
theorem dX6_cut_15 : decode cX6_cut 15 = .ok (.istore_n 2, 1) := by decide +kernel
theorem dX6_cut_16 : decode cX6_cut 16 = .ok (.aload_n 0, 1) := by decide +kernel
theorem dX6_cut_17 : decode cX6_cut 17 = .ok (.iload_n 2, 1) := by decide +kernel
theorem dX6_cut_18 : decode cX6_cut 18 = .ok (.iconst (-1), 1) := by decide +kernel
theorem dX6_cut_19 : decode cX6_cut 19 = .ok (.if_icmp .eq 7, 3) := by decide +kernel
theorem dX6_cut_22 : decode cX6_cut 22 = .ok (.iconst 1, 1) := by decide +kernel
theorem dX6_cut_23 : decode cX6_cut 23 = .ok (.goto 4, 3) := by decide +kernel
theorem dX6_cut_26 : decode cX6_cut 26 = .ok (.iconst 0, 1) := by decide +kernel
theorem dX6_cut_27 : decode cX6_cut 27 = .ok (.invokevirtual 122, 3) := by decide +kernel
theorem dX6_cut_30 : decode cX6_cut 30 = .ok (.aload_n 0, 1) := by decide +kernel
theorem dX6_cut_31 : decode cX6_cut 31 = .ok (.getfield 48, 3) := by decide +kernel
theorem dX6_cut_34 : decode cX6_cut 34 = .ok (.aload_n 0, 1) := by decide +kernel
theorem dX6_cut_35 : decode cX6_cut 35 = .ok (.getfield 20, 3) := by decide +kernel
theorem dX6_cut_38 : decode cX6_cut 38 = .ok (.iconst 1, 1) := by decide +kernel
theorem dX6_cut_39 : decode cX6_cut 39 = .ok (.iconst 1, 1) := by decide +kernel
theorem dX6_cut_40 : decode cX6_cut 40 = .ok (.invokevirtual 165, 3) := by decide +kernel
theorem dX6_cut_43 : decode cX6_cut 43 = .ok (.aload_n 0, 1) := by decide +kernel
theorem dX6_cut_44 : decode cX6_cut 44 = .ok (.getfield 52, 3) := by decide +kernel
theorem dX6_cut_47 : decode cX6_cut 47 = .ok (.aload_n 0, 1) := by decide +kernel
theorem dX6_cut_48 : decode cX6_cut 48 = .ok (.getfield 20, 3) := by decide +kernel
theorem dX6_cut_51 : decode cX6_cut 51 = .ok (.iconst 0, 1) := by decide +kernel
theorem dX6_cut_52 : decode cX6_cut 52 = .ok (.iconst 1, 1) := by decide +kernel
theorem dX6_cut_53 : decode cX6_cut 53 = .ok (.invokevirtual 165, 3) := by decide +kernel
theorem dX6_cut_56 : decode cX6_cut 56 = .ok (.iconst 0, 1) := by decide +kernel
theorem dX6_cut_57 : decode cX6_cut 57 = .ok (.istore_n 3, 1) := by decide +kernel
theorem dX6_cut_58 : decode cX6_cut 58 = .ok (.lconst 0, 1) := by decide +kernel
theorem dX6_cut_59 : decode cX6_cut 59 = .ok (.lstore 4, 2) := by decide +kernel
theorem dX6_cut_61 : decode cX6_cut 61 = .ok (.iconst 0, 1) := by decide +kernel
theorem dX6_cut_62 : decode cX6_cut 62 = .ok (.istore 6, 2) := by decide +kernel
theorem dX6_cut_64 : decode cX6_cut 64 = .ok (.iload 6, 2) := by decide +kernel
theorem dX6_cut_66 : decode cX6_cut 66 = .ok (.bipush 120, 2) := by decide +kernel
theorem dX6_cut_68 : decode cX6_cut 68 = .ok (.if_icmp .gt 68, 3) := by decide +kernel
theorem dX6_cut_71 : decode cX6_cut 71 = .ok (.aload_n 0, 1) := by decide +kernel
theorem dX6_cut_72 : decode cX6_cut 72 = .ok (.getfield 48, 3) := by decide +kernel
theorem dX6_cut_75 : decode cX6_cut 75 = .ok (.iload 6, 2) := by decide +kernel
theorem dX6_cut_77 : decode cX6_cut 77 = .ok (.putfield 205, 3) := by decide +kernel
theorem dX6_cut_80 : decode cX6_cut 80 = .ok (.aload_n 0, 1) := by decide +kernel
theorem dX6_cut_81 : decode cX6_cut 81 = .ok (.getfield 52, 3) := by decide +kernel
theorem dX6_cut_84 : decode cX6_cut 84 = .ok (.iload 6, 2) := by decide +kernel
theorem dX6_cut_86 : decode cX6_cut 86 = .ok (.putfield 205, 3) := by decide +kernel
theorem dX6_cut_89 : decode cX6_cut 89 = .ok (.aload_n 0, 1) := by decide +kernel
theorem dX6_cut_90 : decode cX6_cut 90 = .ok (.getfield 48, 3) := by decide +kernel
theorem dX6_cut_93 : decode cX6_cut 93 = .ok (.iload_n 1, 1) := by decide +kernel
theorem dX6_cut_94 : decode cX6_cut 94 = .ok (.iload_n 2, 1) := by decide +kernel
theorem dX6_cut_95 : decode cX6_cut 95 = .ok (.invokevirtual 180, 3) := by decide +kernel
theorem dX6_cut_98 : decode cX6_cut 98 = .ok (.aload_n 0, 1) := by decide +kernel
theorem dX6_cut_99 : decode cX6_cut 99 = .ok (.getfield 52, 3) := by decide +kernel
theorem dX6_cut_102 : decode cX6_cut 102 = .ok (.iload_n 1, 1) := by decide +kernel
theorem dX6_cut_103 : decode cX6_cut 103 = .ok (.iload_n 2, 1) := by decide +kernel
theorem dX6_cut_104 : decode cX6_cut 104 = .ok (.invokevirtual 180, 3) := by decide +kernel
theorem dX6_cut_107 : decode cX6_cut 107 = .ok (.lsub, 1) := by decide +kernel
theorem dX6_cut_108 : decode cX6_cut 108 = .ok (.lstore 7, 2) := by decide +kernel
theorem dX6_cut_110 : decode cX6_cut 110 = .ok (.iload 6, 2) := by decide +kernel
theorem dX6_cut_112 : decode cX6_cut 112 = .ok (.ifCond .eq 11, 3) := by decide +kernel
theorem dX6_cut_115 : decode cX6_cut 115 = .ok (.lload 7, 2) := by decide +kernel
theorem dX6_cut_117 : decode cX6_cut 117 = .ok (.lload 4, 2) := by decide +kernel
theorem dX6_cut_119 : decode cX6_cut 119 = .ok (.lcmp, 1) := by decide +kernel
theorem dX6_cut_120 : decode cX6_cut 120 = .ok (.ifCond .le 10, 3) := by decide +kernel
theorem dX6_cut_123 : decode cX6_cut 123 = .ok (.iload 6, 2) := by decide +kernel
theorem dX6_cut_125 : decode cX6_cut 125 = .ok (.istore_n 3, 1) := by decide +kernel
theorem dX6_cut_126 : decode cX6_cut 126 = .ok (.lload 7, 2) := by decide +kernel
theorem dX6_cut_128 : decode cX6_cut 128 = .ok (.lstore 4, 2) := by decide +kernel
theorem dX6_cut_130 : decode cX6_cut 130 = .ok (.iinc 6 1, 3) := by decide +kernel
theorem dX6_cut_133 : decode cX6_cut 133 = .ok (.goto (-69), 3) := by decide +kernel
theorem dX6_cut_136 : decode cX6_cut 136 = .ok (.iload_n 3, 1) := by decide +kernel
theorem dX6_cut_137 : decode cX6_cut 137 = .ok (.ireturn, 1) := by decide +kernel
theorem dX6_nudged_0 : decode cX6_nudged 0 = .ok (.aload_n 0, 1) := by decide +kernel
theorem dX6_nudged_1 : decode cX6_nudged 1 = .ok (.iload_n 1, 1) := by decide +kernel
theorem dX6_nudged_2 : decode cX6_nudged 2 = .ok (.iconst 0, 1) := by decide +kernel
theorem dX6_nudged_3 : decode cX6_nudged 3 = .ok (.iconst 1, 1) := by decide +kernel
theorem dX6_nudged_4 : decode cX6_nudged 4 = .ok (.invokevirtual 91, 3) := by decide +kernel
theorem dX6_nudged_7 : decode cX6_nudged 7 = .ok (.aload_n 0, 1) := by decide +kernel
theorem dX6_nudged_8 : decode cX6_nudged 8 = .ok (.getfield 20, 3) := by decide +kernel
theorem dX6_nudged_11 : decode cX6_nudged 11 = .ok (.iconst 0, 1) := by decide +kernel
theorem dX6_nudged_12 : decode cX6_nudged 12 = .ok (.invokevirtual 115, 3) := by decide +kernel
theorem dX6_nudged_15 : decode cX6_nudged 15 = .ok (.istore_n 2, 1) := by decide +kernel
theorem dX6_nudged_16 : decode cX6_nudged 16 = .ok (.aload_n 0, 1) := by decide +kernel
theorem dX6_nudged_17 : decode cX6_nudged 17 = .ok (.iload_n 2, 1) := by decide +kernel
theorem dX6_nudged_18 : decode cX6_nudged 18 = .ok (.iconst (-1), 1) := by decide +kernel
theorem dX6_nudged_19 : decode cX6_nudged 19 = .ok (.if_icmp .eq 7, 3) := by decide +kernel
theorem dX6_nudged_22 : decode cX6_nudged 22 = .ok (.iconst 1, 1) := by decide +kernel
theorem dX6_nudged_23 : decode cX6_nudged 23 = .ok (.goto 4, 3) := by decide +kernel
theorem dX6_nudged_26 : decode cX6_nudged 26 = .ok (.iconst 0, 1) := by decide +kernel
theorem dX6_nudged_27 : decode cX6_nudged 27 = .ok (.invokevirtual 122, 3) := by decide +kernel
theorem dX6_nudged_30 : decode cX6_nudged 30 = .ok (.aload_n 0, 1) := by decide +kernel
theorem dX6_nudged_31 : decode cX6_nudged 31 = .ok (.getfield 52, 3) := by decide +kernel
theorem dX6_nudged_34 : decode cX6_nudged 34 = .ok (.aload_n 0, 1) := by decide +kernel
theorem dX6_nudged_35 : decode cX6_nudged 35 = .ok (.getfield 20, 3) := by decide +kernel
theorem dX6_nudged_38 : decode cX6_nudged 38 = .ok (.iconst 0, 1) := by decide +kernel
theorem dX6_nudged_39 : decode cX6_nudged 39 = .ok (.iconst 1, 1) := by decide +kernel
theorem dX6_nudged_40 : decode cX6_nudged 40 = .ok (.invokevirtual 165, 3) := by decide +kernel
theorem dX6_nudged_43 : decode cX6_nudged 43 = .ok (.aload_n 0, 1) := by decide +kernel
theorem dX6_nudged_44 : decode cX6_nudged 44 = .ok (.getfield 52, 3) := by decide +kernel
theorem dX6_nudged_47 : decode cX6_nudged 47 = .ok (.iload_n 1, 1) := by decide +kernel
theorem dX6_nudged_48 : decode cX6_nudged 48 = .ok (.iload_n 2, 1) := by decide +kernel
theorem dX6_nudged_49 : decode cX6_nudged 49 = .ok (.invokevirtual 180, 3) := by decide +kernel
theorem dX6_nudged_52 : decode cX6_nudged 52 = .ok (.lstore_n 3, 1) := by decide +kernel
theorem dX6_nudged_53 : decode cX6_nudged 53 = .ok (.aload_n 0, 1) := by decide +kernel
theorem dX6_nudged_54 : decode cX6_nudged 54 = .ok (.getfield 52, 3) := by decide +kernel
theorem dX6_nudged_57 : decode cX6_nudged 57 = .ok (.aload_n 0, 1) := by decide +kernel
theorem dX6_nudged_58 : decode cX6_nudged 58 = .ok (.getfield 20, 3) := by decide +kernel
theorem dX6_nudged_61 : decode cX6_nudged 61 = .ok (.iconst 0, 1) := by decide +kernel
theorem dX6_nudged_62 : decode cX6_nudged 62 = .ok (.iconst 0, 1) := by decide +kernel
theorem dX6_nudged_63 : decode cX6_nudged 63 = .ok (.invokevirtual 165, 3) := by decide +kernel
theorem dX6_nudged_66 : decode cX6_nudged 66 = .ok (.aload_n 0, 1) := by decide +kernel
theorem dX6_nudged_67 : decode cX6_nudged 67 = .ok (.getfield 52, 3) := by decide +kernel
theorem dX6_nudged_70 : decode cX6_nudged 70 = .ok (.iload_n 1, 1) := by decide +kernel
theorem dX6_nudged_71 : decode cX6_nudged 71 = .ok (.iload_n 2, 1) := by decide +kernel
theorem dX6_nudged_72 : decode cX6_nudged 72 = .ok (.invokevirtual 180, 3) := by decide +kernel
theorem dX6_nudged_75 : decode cX6_nudged 75 = .ok (.lload_n 3, 1) := by decide +kernel
theorem dX6_nudged_76 : decode cX6_nudged 76 = .ok (.lsub, 1) := by decide +kernel
theorem dX6_nudged_77 : decode cX6_nudged 77 = .ok (.lstore 5, 2) := by decide +kernel
theorem dX6_nudged_79 : decode cX6_nudged 79 = .ok (.aload_n 0, 1) := by decide +kernel
theorem dX6_nudged_80 : decode cX6_nudged 80 = .ok (.getfield 52, 3) := by decide +kernel
theorem dX6_nudged_83 : decode cX6_nudged 83 = .ok (.invokevirtual 173, 3) := by decide +kernel
theorem dX6_nudged_86 : decode cX6_nudged 86 = .ok (.lstore 7, 2) := by decide +kernel
theorem dX6_nudged_88 : decode cX6_nudged 88 = .ok (.lload 7, 2) := by decide +kernel
theorem dX6_nudged_90 : decode cX6_nudged 90 = .ok (.lconst 0, 1) := by decide +kernel
theorem dX6_nudged_91 : decode cX6_nudged 91 = .ok (.lcmp, 1) := by decide +kernel
theorem dX6_nudged_92 : decode cX6_nudged 92 = .ok (.ifCond .ne 7, 3) := by decide +kernel
theorem dX6_nudged_95 : decode cX6_nudged 95 = .ok (.iconst 0, 1) := by decide +kernel
theorem dX6_nudged_96 : decode cX6_nudged 96 = .ok (.goto 13, 3) := by decide +kernel
theorem dX6_nudged_99 : decode cX6_nudged 99 = .ok (.ldc2_w 203, 3) := by decide +kernel
theorem dX6_nudged_102 : decode cX6_nudged 102 = .ok (.lload 5, 2) := by decide +kernel
theorem dX6_nudged_104 : decode cX6_nudged 104 = .ok (.lmul, 1) := by decide +kernel
theorem dX6_nudged_105 : decode cX6_nudged 105 = .ok (.lload 7, 2) := by decide +kernel
theorem dX6_nudged_107 : decode cX6_nudged 107 = .ok (.ldiv, 1) := by decide +kernel
theorem dX6_nudged_108 : decode cX6_nudged 108 = .ok (.l2i, 1) := by decide +kernel
theorem dX6_nudged_109 : decode cX6_nudged 109 = .ok (.ireturn, 1) := by decide +kernel
theorem dX6_print_0 : decode cX6_print 0 = .ok (.lconst 0, 1) := by decide +kernel
theorem dX6_print_1 : decode cX6_print 1 = .ok (.lstore_n 1, 1) := by decide +kernel
theorem dX6_print_2 : decode cX6_print 2 = .ok (.iconst 0, 1) := by decide +kernel
theorem dX6_print_3 : decode cX6_print 3 = .ok (.istore_n 3, 1) := by decide +kernel
theorem dX6_print_4 : decode cX6_print 4 = .ok (.iload_n 3, 1) := by decide +kernel
theorem dX6_print_5 : decode cX6_print 5 = .ok (.aload_n 0, 1) := by decide +kernel
theorem dX6_print_6 : decode cX6_print 6 = .ok (.getfield 20, 3) := by decide +kernel
theorem dX6_print_9 : decode cX6_print 9 = .ok (.getfield 119, 3) := by decide +kernel
theorem dX6_print_12 : decode cX6_print 12 = .ok (.if_icmp .ge 48, 3) := by decide +kernel
theorem dX6_print_15 : decode cX6_print 15 = .ok (.aload_n 0, 1) := by decide +kernel
theorem dX6_print_16 : decode cX6_print 16 = .ok (.getfield 20, 3) := by decide +kernel
theorem dX6_print_19 : decode cX6_print 19 = .ok (.getfield 158, 3) := by decide +kernel
theorem dX6_print_22 : decode cX6_print 22 = .ok (.iload_n 3, 1) := by decide +kernel
theorem dX6_print_23 : decode cX6_print 23 = .ok (.iaload, 1) := by decide +kernel
theorem dX6_print_24 : decode cX6_print 24 = .ok (.istore 4, 2) := by decide +kernel
theorem dX6_print_26 : decode cX6_print 26 = .ok (.ldc2_w 208, 3) := by decide +kernel
theorem dX6_print_29 : decode cX6_print 29 = .ok (.lload_n 1, 1) := by decide +kernel
theorem dX6_print_30 : decode cX6_print 30 = .ok (.lmul, 1) := by decide +kernel
theorem dX6_print_31 : decode cX6_print 31 = .ok (.iload 4, 2) := by decide +kernel
theorem dX6_print_33 : decode cX6_print 33 = .ok (.i2l, 1) := by decide +kernel
theorem dX6_print_34 : decode cX6_print 34 = .ok (.ladd, 1) := by decide +kernel
theorem dX6_print_35 : decode cX6_print 35 = .ok (.lstore_n 1, 1) := by decide +kernel
theorem dX6_print_36 : decode cX6_print 36 = .ok (.ldc2_w 208, 3) := by decide +kernel
theorem dX6_print_39 : decode cX6_print 39 = .ok (.lload_n 1, 1) := by decide +kernel
theorem dX6_print_40 : decode cX6_print 40 = .ok (.lmul, 1) := by decide +kernel
theorem dX6_print_41 : decode cX6_print 41 = .ok (.aload_n 0, 1) := by decide +kernel
theorem dX6_print_42 : decode cX6_print 42 = .ok (.getfield 20, 3) := by decide +kernel
theorem dX6_print_45 : decode cX6_print 45 = .ok (.getfield 144, 3) := by decide +kernel
theorem dX6_print_48 : decode cX6_print 48 = .ok (.iload 4, 2) := by decide +kernel
theorem dX6_print_50 : decode cX6_print 50 = .ok (.iaload, 1) := by decide +kernel
theorem dX6_print_51 : decode cX6_print 51 = .ok (.i2l, 1) := by decide +kernel
theorem dX6_print_52 : decode cX6_print 52 = .ok (.ladd, 1) := by decide +kernel
theorem dX6_print_53 : decode cX6_print 53 = .ok (.lstore_n 1, 1) := by decide +kernel
theorem dX6_print_54 : decode cX6_print 54 = .ok (.iinc 3 1, 3) := by decide +kernel
theorem dX6_print_57 : decode cX6_print 57 = .ok (.goto (-53), 3) := by decide +kernel
theorem dX6_print_60 : decode cX6_print 60 = .ok (.ldc2_w 208, 3) := by decide +kernel
theorem dX6_print_63 : decode cX6_print 63 = .ok (.lload_n 1, 1) := by decide +kernel
theorem dX6_print_64 : decode cX6_print 64 = .ok (.lmul, 1) := by decide +kernel
theorem dX6_print_65 : decode cX6_print 65 = .ok (.aload_n 0, 1) := by decide +kernel
theorem dX6_print_66 : decode cX6_print 66 = .ok (.getfield 20, 3) := by decide +kernel
theorem dX6_print_69 : decode cX6_print 69 = .ok (.getfield 141, 3) := by decide +kernel
theorem dX6_print_72 : decode cX6_print 72 = .ok (.iconst 1, 1) := by decide +kernel
theorem dX6_print_73 : decode cX6_print 73 = .ok (.iaload, 1) := by decide +kernel
theorem dX6_print_74 : decode cX6_print 74 = .ok (.i2l, 1) := by decide +kernel
theorem dX6_print_75 : decode cX6_print 75 = .ok (.ladd, 1) := by decide +kernel
theorem dX6_print_76 : decode cX6_print 76 = .ok (.lreturn, 1) := by decide +kernel
theorem dX6_status_0 : decode cX6_status 0 = .ok (.iload_n 1, 1) := by decide +kernel
theorem dX6_status_1 : decode cX6_status 1 = .ok (.ifCond .lt 17, 3) := by decide +kernel
theorem dX6_status_4 : decode cX6_status 4 = .ok (.iload_n 1, 1) := by decide +kernel
theorem dX6_status_5 : decode cX6_status 5 = .ok (.iconst 3, 1) := by decide +kernel
theorem dX6_status_6 : decode cX6_status 6 = .ok (.if_icmp .ge 12, 3) := by decide +kernel
theorem dX6_status_9 : decode cX6_status 9 = .ok (.aload_n 0, 1) := by decide +kernel
theorem dX6_status_10 : decode cX6_status 10 = .ok (.getfield 41, 3) := by decide +kernel
theorem dX6_status_13 : decode cX6_status 13 = .ok (.iload_n 1, 1) := by decide +kernel
theorem dX6_status_14 : decode cX6_status 14 = .ok (.iaload, 1) := by decide +kernel
theorem dX6_status_15 : decode cX6_status 15 = .ok (.goto 4, 3) := by decide +kernel
theorem dX6_status_18 : decode cX6_status 18 = .ok (.iconst (-1), 1) := by decide +kernel
theorem dX6_status_19 : decode cX6_status 19 = .ok (.ireturn, 1) := by decide +kernel
theorem dX6_putBytes_0 : decode cX6_putBytes 0 = .ok (.bipush 24, 2) := by decide +kernel
theorem dX6_putBytes_2 : decode cX6_putBytes 2 = .ok (.istore_n 2, 1) := by decide +kernel
theorem dX6_putBytes_3 : decode cX6_putBytes 3 = .ok (.iload_n 2, 1) := by decide +kernel
theorem dX6_putBytes_4 : decode cX6_putBytes 4 = .ok (.ifCond .lt 44, 3) := by decide +kernel
theorem dX6_putBytes_7 : decode cX6_putBytes 7 = .ok (.aload_n 0, 1) := by decide +kernel
theorem dX6_putBytes_8 : decode cX6_putBytes 8 = .ok (.getfield 13, 3) := by decide +kernel
theorem dX6_putBytes_11 : decode cX6_putBytes 11 = .ok (.aload_n 0, 1) := by decide +kernel
theorem dX6_putBytes_12 : decode cX6_putBytes 12 = .ok (.getfield 9, 3) := by decide +kernel
theorem dX6_putBytes_15 : decode cX6_putBytes 15 = .ok (.arraylength, 1) := by decide +kernel
theorem dX6_putBytes_16 : decode cX6_putBytes 16 = .ok (.if_icmp .ge 26, 3) := by decide +kernel
theorem dX6_putBytes_19 : decode cX6_putBytes 19 = .ok (.aload_n 0, 1) := by decide +kernel
theorem dX6_putBytes_20 : decode cX6_putBytes 20 = .ok (.getfield 9, 3) := by decide +kernel
theorem dX6_putBytes_23 : decode cX6_putBytes 23 = .ok (.aload_n 0, 1) := by decide +kernel
theorem dX6_putBytes_24 : decode cX6_putBytes 24 = .ok (.getfield 13, 3) := by decide +kernel
theorem dX6_putBytes_27 : decode cX6_putBytes 27 = .ok (.iload_n 1, 1) := by decide +kernel
theorem dX6_putBytes_28 : decode cX6_putBytes 28 = .ok (.iload_n 2, 1) := by decide +kernel
theorem dX6_putBytes_29 : decode cX6_putBytes 29 = .ok (.ishr, 1) := by decide +kernel
theorem dX6_putBytes_30 : decode cX6_putBytes 30 = .ok (.i2b, 1) := by decide +kernel
theorem dX6_putBytes_31 : decode cX6_putBytes 31 = .ok (.bastore, 1) := by decide +kernel
theorem dX6_putBytes_32 : decode cX6_putBytes 32 = .ok (.aload_n 0, 1) := by decide +kernel
theorem dX6_putBytes_33 : decode cX6_putBytes 33 = .ok (.dup, 1) := by decide +kernel
theorem dX6_putBytes_34 : decode cX6_putBytes 34 = .ok (.getfield 13, 3) := by decide +kernel
theorem dX6_putBytes_37 : decode cX6_putBytes 37 = .ok (.iconst 1, 1) := by decide +kernel
theorem dX6_putBytes_38 : decode cX6_putBytes 38 = .ok (.iadd, 1) := by decide +kernel
theorem dX6_putBytes_39 : decode cX6_putBytes 39 = .ok (.putfield 13, 3) := by decide +kernel
theorem dX6_putBytes_42 : decode cX6_putBytes 42 = .ok (.iinc 2 (-8), 3) := by decide +kernel
theorem dX6_putBytes_45 : decode cX6_putBytes 45 = .ok (.goto (-42), 3) := by decide +kernel
theorem dX6_putBytes_48 : decode cX6_putBytes 48 = .ok (.return_, 1) := by decide +kernel
theorem dX6_keepPast_0 : decode cX6_keepPast 0 = .ok (.aload_n 0, 1) := by decide +kernel
theorem dX6_keepPast_1 : decode cX6_keepPast 1 = .ok (.getfield 35, 3) := by decide +kernel
theorem dX6_keepPast_4 : decode cX6_keepPast 4 = .ok (.bipush 8, 2) := by decide +kernel
theorem dX6_keepPast_6 : decode cX6_keepPast 6 = .ok (.if_icmp .ne 56, 3) := by decide +kernel
theorem dX6_keepPast_9 : decode cX6_keepPast 9 = .ok (.aload_n 0, 1) := by decide +kernel
theorem dX6_keepPast_10 : decode cX6_keepPast 10 = .ok (.getfield 31, 3) := by decide +kernel
theorem dX6_keepPast_13 : decode cX6_keepPast 13 = .ok (.iconst 0, 1) := by decide +kernel
theorem dX6_keepPast_14 : decode cX6_keepPast 14 = .ok (.aaload, 1) := by decide +kernel
theorem dX6_keepPast_15 : decode cX6_keepPast 15 = .ok (.astore_n 1, 1) := by decide +kernel
theorem dX6_keepPast_16 : decode cX6_keepPast 16 = .ok (.iconst 1, 1) := by decide +kernel
theorem dX6_keepPast_17 : decode cX6_keepPast 17 = .ok (.istore_n 2, 1) := by decide +kernel
theorem dX6_keepPast_18 : decode cX6_keepPast 18 = .ok (.iload_n 2, 1) := by decide +kernel
theorem dX6_keepPast_19 : decode cX6_keepPast 19 = .ok (.bipush 8, 2) := by decide +kernel
theorem dX6_keepPast_21 : decode cX6_keepPast 21 = .ok (.if_icmp .ge 23, 3) := by decide +kernel
theorem dX6_keepPast_24 : decode cX6_keepPast 24 = .ok (.aload_n 0, 1) := by decide +kernel
theorem dX6_keepPast_25 : decode cX6_keepPast 25 = .ok (.getfield 31, 3) := by decide +kernel
theorem dX6_keepPast_28 : decode cX6_keepPast 28 = .ok (.iload_n 2, 1) := by decide +kernel
theorem dX6_keepPast_29 : decode cX6_keepPast 29 = .ok (.iconst 1, 1) := by decide +kernel
theorem dX6_keepPast_30 : decode cX6_keepPast 30 = .ok (.isub, 1) := by decide +kernel
theorem dX6_keepPast_31 : decode cX6_keepPast 31 = .ok (.aload_n 0, 1) := by decide +kernel
theorem dX6_keepPast_32 : decode cX6_keepPast 32 = .ok (.getfield 31, 3) := by decide +kernel
theorem dX6_keepPast_35 : decode cX6_keepPast 35 = .ok (.iload_n 2, 1) := by decide +kernel
theorem dX6_keepPast_36 : decode cX6_keepPast 36 = .ok (.aaload, 1) := by decide +kernel
theorem dX6_keepPast_37 : decode cX6_keepPast 37 = .ok (.aastore, 1) := by decide +kernel
theorem dX6_keepPast_38 : decode cX6_keepPast 38 = .ok (.iinc 2 1, 3) := by decide +kernel
theorem dX6_keepPast_41 : decode cX6_keepPast 41 = .ok (.goto (-23), 3) := by decide +kernel
theorem dX6_keepPast_44 : decode cX6_keepPast 44 = .ok (.aload_n 0, 1) := by decide +kernel
theorem dX6_keepPast_45 : decode cX6_keepPast 45 = .ok (.getfield 31, 3) := by decide +kernel
theorem dX6_keepPast_48 : decode cX6_keepPast 48 = .ok (.bipush 7, 2) := by decide +kernel
theorem dX6_keepPast_50 : decode cX6_keepPast 50 = .ok (.aload_n 1, 1) := by decide +kernel
theorem dX6_keepPast_51 : decode cX6_keepPast 51 = .ok (.aastore, 1) := by decide +kernel
theorem dX6_keepPast_52 : decode cX6_keepPast 52 = .ok (.aload_n 0, 1) := by decide +kernel
theorem dX6_keepPast_53 : decode cX6_keepPast 53 = .ok (.dup, 1) := by decide +kernel
theorem dX6_keepPast_54 : decode cX6_keepPast 54 = .ok (.getfield 35, 3) := by decide +kernel
theorem dX6_keepPast_57 : decode cX6_keepPast 57 = .ok (.iconst 1, 1) := by decide +kernel
theorem dX6_keepPast_58 : decode cX6_keepPast 58 = .ok (.isub, 1) := by decide +kernel
theorem dX6_keepPast_59 : decode cX6_keepPast 59 = .ok (.putfield 35, 3) := by decide +kernel
theorem dX6_keepPast_62 : decode cX6_keepPast 62 = .ok (.aload_n 0, 1) := by decide +kernel
theorem dX6_keepPast_63 : decode cX6_keepPast 63 = .ok (.getfield 31, 3) := by decide +kernel
theorem dX6_keepPast_66 : decode cX6_keepPast 66 = .ok (.aload_n 0, 1) := by decide +kernel
theorem dX6_keepPast_67 : decode cX6_keepPast 67 = .ok (.getfield 35, 3) := by decide +kernel
theorem dX6_keepPast_70 : decode cX6_keepPast 70 = .ok (.aaload, 1) := by decide +kernel
theorem dX6_keepPast_71 : decode cX6_keepPast 71 = .ok (.aload_n 0, 1) := by decide +kernel
theorem dX6_keepPast_72 : decode cX6_keepPast 72 = .ok (.getfield 20, 3) := by decide +kernel
theorem dX6_keepPast_75 : decode cX6_keepPast 75 = .ok (.invokevirtual 106, 3) := by decide +kernel
theorem dX6_keepPast_78 : decode cX6_keepPast 78 = .ok (.aload_n 0, 1) := by decide +kernel
theorem dX6_keepPast_79 : decode cX6_keepPast 79 = .ok (.dup, 1) := by decide +kernel
theorem dX6_keepPast_80 : decode cX6_keepPast 80 = .ok (.getfield 35, 3) := by decide +kernel
theorem dX6_keepPast_83 : decode cX6_keepPast 83 = .ok (.iconst 1, 1) := by decide +kernel
theorem dX6_keepPast_84 : decode cX6_keepPast 84 = .ok (.iadd, 1) := by decide +kernel
theorem dX6_keepPast_85 : decode cX6_keepPast 85 = .ok (.putfield 35, 3) := by decide +kernel
theorem dX6_keepPast_88 : decode cX6_keepPast 88 = .ok (.return_, 1) := by decide +kernel
theorem dX6_needPerson_0 : decode cX6_needPerson 0 = .ok (.iload_n 1, 1) := by decide +kernel
theorem dX6_needPerson_1 : decode cX6_needPerson 1 = .ok (.ifCond .lt 14, 3) := by decide +kernel
theorem dX6_needPerson_4 : decode cX6_needPerson 4 = .ok (.iload_n 1, 1) := by decide +kernel
theorem dX6_needPerson_5 : decode cX6_needPerson 5 = .ok (.aload_n 0, 1) := by decide +kernel
theorem dX6_needPerson_6 : decode cX6_needPerson 6 = .ok (.getfield 20, 3) := by decide +kernel
theorem dX6_needPerson_9 : decode cX6_needPerson 9 = .ok (.getfield 109, 3) := by decide +kernel
theorem dX6_needPerson_12 : decode cX6_needPerson 12 = .ok (.if_icmp .lt 23, 3) := by decide +kernel
theorem dX6_needPerson_15 : decode cX6_needPerson 15 = .ok (.aload_n 0, 1) := by decide +kernel
theorem dX6_needPerson_16 : decode cX6_needPerson 16 = .ok (.getfield 41, 3) := by decide +kernel
theorem dX6_needPerson_19 : decode cX6_needPerson 19 = .ok (.iconst 0, 1) := by decide +kernel
theorem dX6_needPerson_20 : decode cX6_needPerson 20 = .ok (.dup2, 1) := by decide +kernel
theorem dX6_needPerson_21 : decode cX6_needPerson 21 = .ok (.iaload, 1) := by decide +kernel
theorem dX6_needPerson_22 : decode cX6_needPerson 22 = .ok (.iconst 1, 1) := by decide +kernel
theorem dX6_needPerson_23 : decode cX6_needPerson 23 = .ok (.iadd, 1) := by decide +kernel
theorem dX6_needPerson_24 : decode cX6_needPerson 24 = .ok (.iastore, 1) := by decide +kernel
theorem dX6_needPerson_25 : decode cX6_needPerson 25 = .ok (.new 210, 3) := by decide +kernel
theorem dX6_needPerson_28 : decode cX6_needPerson 28 = .ok (.dup, 1) := by decide +kernel
theorem dX6_needPerson_29 : decode cX6_needPerson 29 = .ok (.ldc 212, 2) := by decide +kernel
theorem dX6_needPerson_31 : decode cX6_needPerson 31 = .ok (.invokespecial 214, 3) := by decide +kernel
theorem dX6_needPerson_34 : decode cX6_needPerson 34 = .ok (.athrow, 1) := by decide +kernel
theorem dX6_needPerson_35 : decode cX6_needPerson 35 = .ok (.return_, 1) := by decide +kernel
theorem dX6_needTrait_0 : decode cX6_needTrait 0 = .ok (.iload_n 1, 1) := by decide +kernel
theorem dX6_needTrait_1 : decode cX6_needTrait 1 = .ok (.ifCond .lt 14, 3) := by decide +kernel
theorem dX6_needTrait_4 : decode cX6_needTrait 4 = .ok (.iload_n 1, 1) := by decide +kernel
theorem dX6_needTrait_5 : decode cX6_needTrait 5 = .ok (.aload_n 0, 1) := by decide +kernel
theorem dX6_needTrait_6 : decode cX6_needTrait 6 = .ok (.getfield 20, 3) := by decide +kernel
theorem dX6_needTrait_9 : decode cX6_needTrait 9 = .ok (.getfield 62, 3) := by decide +kernel
theorem dX6_needTrait_12 : decode cX6_needTrait 12 = .ok (.if_icmp .lt 23, 3) := by decide +kernel
theorem dX6_needTrait_15 : decode cX6_needTrait 15 = .ok (.aload_n 0, 1) := by decide +kernel
theorem dX6_needTrait_16 : decode cX6_needTrait 16 = .ok (.getfield 41, 3) := by decide +kernel
theorem dX6_needTrait_19 : decode cX6_needTrait 19 = .ok (.iconst 0, 1) := by decide +kernel
theorem dX6_needTrait_20 : decode cX6_needTrait 20 = .ok (.dup2, 1) := by decide +kernel
theorem dX6_needTrait_21 : decode cX6_needTrait 21 = .ok (.iaload, 1) := by decide +kernel
theorem dX6_needTrait_22 : decode cX6_needTrait 22 = .ok (.iconst 1, 1) := by decide +kernel
theorem dX6_needTrait_23 : decode cX6_needTrait 23 = .ok (.iadd, 1) := by decide +kernel
theorem dX6_needTrait_24 : decode cX6_needTrait 24 = .ok (.iastore, 1) := by decide +kernel
theorem dX6_needTrait_25 : decode cX6_needTrait 25 = .ok (.new 210, 3) := by decide +kernel
theorem dX6_needTrait_28 : decode cX6_needTrait 28 = .ok (.dup, 1) := by decide +kernel
theorem dX6_needTrait_29 : decode cX6_needTrait 29 = .ok (.ldc 217, 2) := by decide +kernel
theorem dX6_needTrait_31 : decode cX6_needTrait 31 = .ok (.invokespecial 214, 3) := by decide +kernel
theorem dX6_needTrait_34 : decode cX6_needTrait 34 = .ok (.athrow, 1) := by decide +kernel
theorem dX6_needTrait_35 : decode cX6_needTrait 35 = .ok (.return_, 1) := by decide +kernel
theorem dX6_needPlace_0 : decode cX6_needPlace 0 = .ok (.iload_n 1, 1) := by decide +kernel
theorem dX6_needPlace_1 : decode cX6_needPlace 1 = .ok (.ifCond .lt 14, 3) := by decide +kernel
theorem dX6_needPlace_4 : decode cX6_needPlace 4 = .ok (.iload_n 1, 1) := by decide +kernel
theorem dX6_needPlace_5 : decode cX6_needPlace 5 = .ok (.aload_n 0, 1) := by decide +kernel
theorem dX6_needPlace_6 : decode cX6_needPlace 6 = .ok (.getfield 20, 3) := by decide +kernel
theorem dX6_needPlace_9 : decode cX6_needPlace 9 = .ok (.getfield 119, 3) := by decide +kernel
theorem dX6_needPlace_12 : decode cX6_needPlace 12 = .ok (.if_icmp .lt 23, 3) := by decide +kernel
theorem dX6_needPlace_15 : decode cX6_needPlace 15 = .ok (.aload_n 0, 1) := by decide +kernel
theorem dX6_needPlace_16 : decode cX6_needPlace 16 = .ok (.getfield 41, 3) := by decide +kernel
theorem dX6_needPlace_19 : decode cX6_needPlace 19 = .ok (.iconst 0, 1) := by decide +kernel
theorem dX6_needPlace_20 : decode cX6_needPlace 20 = .ok (.dup2, 1) := by decide +kernel
theorem dX6_needPlace_21 : decode cX6_needPlace 21 = .ok (.iaload, 1) := by decide +kernel
theorem dX6_needPlace_22 : decode cX6_needPlace 22 = .ok (.iconst 1, 1) := by decide +kernel
theorem dX6_needPlace_23 : decode cX6_needPlace 23 = .ok (.iadd, 1) := by decide +kernel
theorem dX6_needPlace_24 : decode cX6_needPlace 24 = .ok (.iastore, 1) := by decide +kernel
theorem dX6_needPlace_25 : decode cX6_needPlace 25 = .ok (.new 210, 3) := by decide +kernel
theorem dX6_needPlace_28 : decode cX6_needPlace 28 = .ok (.dup, 1) := by decide +kernel
theorem dX6_needPlace_29 : decode cX6_needPlace 29 = .ok (.ldc 219, 2) := by decide +kernel
theorem dX6_needPlace_31 : decode cX6_needPlace 31 = .ok (.invokespecial 214, 3) := by decide +kernel
theorem dX6_needPlace_34 : decode cX6_needPlace 34 = .ok (.athrow, 1) := by decide +kernel
theorem dX6_needPlace_35 : decode cX6_needPlace 35 = .ok (.return_, 1) := by decide +kernel
theorem dX6_needRange_0 : decode cX6_needRange 0 = .ok (.iload_n 1, 1) := by decide +kernel
theorem dX6_needRange_1 : decode cX6_needRange 1 = .ok (.iload_n 2, 1) := by decide +kernel
theorem dX6_needRange_2 : decode cX6_needRange 2 = .ok (.if_icmp .lt 8, 3) := by decide +kernel
theorem dX6_needRange_5 : decode cX6_needRange 5 = .ok (.iload_n 1, 1) := by decide +kernel
theorem dX6_needRange_6 : decode cX6_needRange 6 = .ok (.iload_n 3, 1) := by decide +kernel
theorem dX6_needRange_7 : decode cX6_needRange 7 = .ok (.if_icmp .le 23, 3) := by decide +kernel
theorem dX6_needRange_10 : decode cX6_needRange 10 = .ok (.aload_n 0, 1) := by decide +kernel
theorem dX6_needRange_11 : decode cX6_needRange 11 = .ok (.getfield 41, 3) := by decide +kernel
theorem dX6_needRange_14 : decode cX6_needRange 14 = .ok (.iconst 1, 1) := by decide +kernel
theorem dX6_needRange_15 : decode cX6_needRange 15 = .ok (.dup2, 1) := by decide +kernel
theorem dX6_needRange_16 : decode cX6_needRange 16 = .ok (.iaload, 1) := by decide +kernel
theorem dX6_needRange_17 : decode cX6_needRange 17 = .ok (.iconst 1, 1) := by decide +kernel
theorem dX6_needRange_18 : decode cX6_needRange 18 = .ok (.iadd, 1) := by decide +kernel
theorem dX6_needRange_19 : decode cX6_needRange 19 = .ok (.iastore, 1) := by decide +kernel
theorem dX6_needRange_20 : decode cX6_needRange 20 = .ok (.new 221, 3) := by decide +kernel
theorem dX6_needRange_23 : decode cX6_needRange 23 = .ok (.dup, 1) := by decide +kernel
theorem dX6_needRange_24 : decode cX6_needRange 24 = .ok (.ldc 223, 2) := by decide +kernel
theorem dX6_needRange_26 : decode cX6_needRange 26 = .ok (.invokespecial 225, 3) := by decide +kernel
theorem dX6_needRange_29 : decode cX6_needRange 29 = .ok (.athrow, 1) := by decide +kernel
theorem dX6_needRange_30 : decode cX6_needRange 30 = .ok (.return_, 1) := by decide +kernel
theorem dX6_needState_0 : decode cX6_needState 0 = .ok (.iload_n 1, 1) := by decide +kernel
theorem dX6_needState_1 : decode cX6_needState 1 = .ok (.ifCond .ne 23, 3) := by decide +kernel
theorem dX6_needState_4 : decode cX6_needState 4 = .ok (.aload_n 0, 1) := by decide +kernel
theorem dX6_needState_5 : decode cX6_needState 5 = .ok (.getfield 41, 3) := by decide +kernel
theorem dX6_needState_8 : decode cX6_needState 8 = .ok (.iconst 2, 1) := by decide +kernel
theorem dX6_needState_9 : decode cX6_needState 9 = .ok (.dup2, 1) := by decide +kernel
theorem dX6_needState_10 : decode cX6_needState 10 = .ok (.iaload, 1) := by decide +kernel
theorem dX6_needState_11 : decode cX6_needState 11 = .ok (.iconst 1, 1) := by decide +kernel
theorem dX6_needState_12 : decode cX6_needState 12 = .ok (.iadd, 1) := by decide +kernel
theorem dX6_needState_13 : decode cX6_needState 13 = .ok (.iastore, 1) := by decide +kernel
theorem dX6_needState_14 : decode cX6_needState 14 = .ok (.new 226, 3) := by decide +kernel
theorem dX6_needState_17 : decode cX6_needState 17 = .ok (.dup, 1) := by decide +kernel
theorem dX6_needState_18 : decode cX6_needState 18 = .ok (.ldc 228, 2) := by decide +kernel
theorem dX6_needState_20 : decode cX6_needState 20 = .ok (.invokespecial 230, 3) := by decide +kernel
theorem dX6_needState_23 : decode cX6_needState 23 = .ok (.athrow, 1) := by decide +kernel
theorem dX6_needState_24 : decode cX6_needState 24 = .ok (.return_, 1) := by decide +kernel
theorem dX6_partOfFraction_0 : decode cX6_partOfFraction 0 = .ok (.lload_n 0, 1) := by decide +kernel
theorem dX6_partOfFraction_1 : decode cX6_partOfFraction 1 = .ok (.lconst 0, 1) := by decide +kernel
theorem dX6_partOfFraction_2 : decode cX6_partOfFraction 2 = .ok (.lcmp, 1) := by decide +kernel
theorem dX6_partOfFraction_3 : decode cX6_partOfFraction 3 = .ok (.ifCond .le 9, 3) := by decide +kernel
theorem dX6_partOfFraction_6 : decode cX6_partOfFraction 6 = .ok (.lload_n 2, 1) := by decide +kernel
theorem dX6_partOfFraction_7 : decode cX6_partOfFraction 7 = .ok (.lconst 0, 1) := by decide +kernel
theorem dX6_partOfFraction_8 : decode cX6_partOfFraction 8 = .ok (.lcmp, 1) := by decide +kernel
theorem dX6_partOfFraction_9 : decode cX6_partOfFraction 9 = .ok (.ifCond .gt 14, 3) := by decide +kernel
theorem dX6_partOfFraction_12 : decode cX6_partOfFraction 12 = .ok (.iload 4, 2) := by decide +kernel
theorem dX6_partOfFraction_14 : decode cX6_partOfFraction 14 = .ok (.ifCond .ne 7, 3) := by decide +kernel
theorem dX6_partOfFraction_17 : decode cX6_partOfFraction 17 = .ok (.lconst 0, 1) := by decide +kernel
theorem dX6_partOfFraction_18 : decode cX6_partOfFraction 18 = .ok (.goto 4, 3) := by decide +kernel
theorem dX6_partOfFraction_21 : decode cX6_partOfFraction 21 = .ok (.lconst 1, 1) := by decide +kernel
theorem dX6_partOfFraction_22 : decode cX6_partOfFraction 22 = .ok (.lreturn, 1) := by decide +kernel
theorem dX6_partOfFraction_23 : decode cX6_partOfFraction 23 = .ok (.lload_n 0, 1) := by decide +kernel
theorem dX6_partOfFraction_24 : decode cX6_partOfFraction 24 = .ok (.lload_n 2, 1) := by decide +kernel
theorem dX6_partOfFraction_25 : decode cX6_partOfFraction 25 = .ok (.invokestatic 231, 3) := by decide +kernel
theorem dX6_partOfFraction_28 : decode cX6_partOfFraction 28 = .ok (.lstore 5, 2) := by decide +kernel
theorem dX6_partOfFraction_30 : decode cX6_partOfFraction 30 = .ok (.iload 4, 2) := by decide +kernel
theorem dX6_partOfFraction_32 : decode cX6_partOfFraction 32 = .ok (.ifCond .ne 7, 3) := by decide +kernel
theorem dX6_partOfFraction_35 : decode cX6_partOfFraction 35 = .ok (.lload_n 0, 1) := by decide +kernel
theorem dX6_partOfFraction_36 : decode cX6_partOfFraction 36 = .ok (.goto 4, 3) := by decide +kernel
theorem dX6_partOfFraction_39 : decode cX6_partOfFraction 39 = .ok (.lload_n 2, 1) := by decide +kernel
theorem dX6_partOfFraction_40 : decode cX6_partOfFraction 40 = .ok (.lstore 7, 2) := by decide +kernel
theorem dX6_partOfFraction_42 : decode cX6_partOfFraction 42 = .ok (.lload 5, 2) := by decide +kernel
theorem dX6_partOfFraction_44 : decode cX6_partOfFraction 44 = .ok (.lconst 0, 1) := by decide +kernel
theorem dX6_partOfFraction_45 : decode cX6_partOfFraction 45 = .ok (.lcmp, 1) := by decide +kernel
theorem dX6_partOfFraction_46 : decode cX6_partOfFraction 46 = .ok (.ifCond .gt 8, 3) := by decide +kernel
theorem dX6_partOfFraction_49 : decode cX6_partOfFraction 49 = .ok (.lload 7, 2) := by decide +kernel
theorem dX6_partOfFraction_51 : decode cX6_partOfFraction 51 = .ok (.goto 8, 3) := by decide +kernel
theorem dX6_partOfFraction_54 : decode cX6_partOfFraction 54 = .ok (.lload 7, 2) := by decide +kernel
theorem dX6_partOfFraction_56 : decode cX6_partOfFraction 56 = .ok (.lload 5, 2) := by decide +kernel
theorem dX6_partOfFraction_58 : decode cX6_partOfFraction 58 = .ok (.ldiv, 1) := by decide +kernel
theorem dX6_partOfFraction_59 : decode cX6_partOfFraction 59 = .ok (.lreturn, 1) := by decide +kernel
theorem dX6_commonDivisor_0 : decode cX6_commonDivisor 0 = .ok (.lload_n 0, 1) := by decide +kernel
theorem dX6_commonDivisor_1 : decode cX6_commonDivisor 1 = .ok (.lstore 4, 2) := by decide +kernel
theorem dX6_commonDivisor_3 : decode cX6_commonDivisor 3 = .ok (.lload_n 2, 1) := by decide +kernel
theorem dX6_commonDivisor_4 : decode cX6_commonDivisor 4 = .ok (.lstore 6, 2) := by decide +kernel
theorem dX6_commonDivisor_6 : decode cX6_commonDivisor 6 = .ok (.iconst 0, 1) := by decide +kernel
theorem dX6_commonDivisor_7 : decode cX6_commonDivisor 7 = .ok (.istore 8, 2) := by decide +kernel
theorem dX6_commonDivisor_9 : decode cX6_commonDivisor 9 = .ok (.iload 8, 2) := by decide +kernel
theorem dX6_commonDivisor_11 : decode cX6_commonDivisor 11 = .ok (.sipush 200, 3) := by decide +kernel
theorem dX6_commonDivisor_14 : decode cX6_commonDivisor 14 = .ok (.if_icmp .ge 31, 3) := by decide +kernel
theorem dX6_commonDivisor_17 : decode cX6_commonDivisor 17 = .ok (.lload 6, 2) := by decide +kernel
theorem dX6_commonDivisor_19 : decode cX6_commonDivisor 19 = .ok (.lconst 0, 1) := by decide +kernel
theorem dX6_commonDivisor_20 : decode cX6_commonDivisor 20 = .ok (.lcmp, 1) := by decide +kernel
theorem dX6_commonDivisor_21 : decode cX6_commonDivisor 21 = .ok (.ifCond .eq 24, 3) := by decide +kernel
theorem dX6_commonDivisor_24 : decode cX6_commonDivisor 24 = .ok (.lload 4, 2) := by decide +kernel
theorem dX6_commonDivisor_26 : decode cX6_commonDivisor 26 = .ok (.lload 6, 2) := by decide +kernel
theorem dX6_commonDivisor_28 : decode cX6_commonDivisor 28 = .ok (.lrem, 1) := by decide +kernel
theorem dX6_commonDivisor_29 : decode cX6_commonDivisor 29 = .ok (.lstore 9, 2) := by decide +kernel
theorem dX6_commonDivisor_31 : decode cX6_commonDivisor 31 = .ok (.lload 6, 2) := by decide +kernel
theorem dX6_commonDivisor_33 : decode cX6_commonDivisor 33 = .ok (.lstore 4, 2) := by decide +kernel
theorem dX6_commonDivisor_35 : decode cX6_commonDivisor 35 = .ok (.lload 9, 2) := by decide +kernel
theorem dX6_commonDivisor_37 : decode cX6_commonDivisor 37 = .ok (.lstore 6, 2) := by decide +kernel
theorem dX6_commonDivisor_39 : decode cX6_commonDivisor 39 = .ok (.iinc 8 1, 3) := by decide +kernel
theorem dX6_commonDivisor_42 : decode cX6_commonDivisor 42 = .ok (.goto (-33), 3) := by decide +kernel
theorem dX6_commonDivisor_45 : decode cX6_commonDivisor 45 = .ok (.lload 4, 2) := by decide +kernel
theorem dX6_commonDivisor_47 : decode cX6_commonDivisor 47 = .ok (.lreturn, 1) := by decide +kernel
theorem dX6_held_0 : decode cX6_held 0 = .ok (.iload_n 1, 1) := by decide +kernel
theorem dX6_held_1 : decode cX6_held 1 = .ok (.iload_n 2, 1) := by decide +kernel
theorem dX6_held_2 : decode cX6_held 2 = .ok (.iload_n 0, 1) := by decide +kernel
theorem dX6_held_3 : decode cX6_held 3 = .ok (.invokestatic 235, 3) := by decide +kernel
theorem dX6_held_6 : decode cX6_held 6 = .ok (.invokestatic 240, 3) := by decide +kernel
theorem dX6_held_9 : decode cX6_held 9 = .ok (.ireturn, 1) := by decide +kernel
theorem dX7_init_0 : decode cX7_init 0 = .ok (.aload_n 0, 1) := by decide +kernel
theorem dX7_init_1 : decode cX7_init 1 = .ok (.invokespecial 3, 3) := by decide +kernel
theorem dX7_init_4 : decode cX7_init 4 = .ok (.aload_n 0, 1) := by decide +kernel
theorem dX7_init_5 : decode cX7_init 5 = .ok (.iconst 3, 1) := by decide +kernel
theorem dX7_init_6 : decode cX7_init 6 = .ok (.newarray .int, 2) := by decide +kernel
theorem dX7_init_8 : decode cX7_init 8 = .ok (.putfield 9, 3) := by decide +kernel
theorem dX7_init_11 : decode cX7_init 11 = .ok (.aload_n 0, 1) := by decide +kernel
theorem dX7_init_12 : decode cX7_init 12 = .ok (.iconst (-1), 1) := by decide +kernel
theorem dX7_init_13 : decode cX7_init 13 = .ok (.putfield 13, 3) := by decide +kernel
theorem dX7_init_16 : decode cX7_init 16 = .ok (.aload_n 0, 1) := by decide +kernel
theorem dX7_init_17 : decode cX7_init 17 = .ok (.sipush 500, 3) := by decide +kernel
theorem dX7_init_20 : decode cX7_init 20 = .ok (.newarray .int, 2) := by decide +kernel
theorem dX7_init_22 : decode cX7_init 22 = .ok (.putfield 17, 3) := by decide +kernel
theorem dX7_init_25 : decode cX7_init 25 = .ok (.aload_n 0, 1) := by decide +kernel
theorem dX7_init_26 : decode cX7_init 26 = .ok (.sipush 883, 3) := by decide +kernel
theorem dX7_init_29 : decode cX7_init 29 = .ok (.newarray .int, 2) := by decide +kernel
theorem dX7_init_31 : decode cX7_init 31 = .ok (.putfield 20, 3) := by decide +kernel
theorem dX7_init_34 : decode cX7_init 34 = .ok (.aload_n 0, 1) := by decide +kernel
theorem dX7_init_35 : decode cX7_init 35 = .ok (.sipush 883, 3) := by decide +kernel
theorem dX7_init_38 : decode cX7_init 38 = .ok (.newarray .int, 2) := by decide +kernel
theorem dX7_init_40 : decode cX7_init 40 = .ok (.putfield 23, 3) := by decide +kernel
theorem dX7_init_43 : decode cX7_init 43 = .ok (.aload_n 0, 1) := by decide +kernel
theorem dX7_init_44 : decode cX7_init 44 = .ok (.bipush 8, 2) := by decide +kernel
theorem dX7_init_46 : decode cX7_init 46 = .ok (.sipush 883, 3) := by decide +kernel
theorem dX7_init_49 : decode cX7_init 49 = .ok (.multianewarray 26 2, 4) := by decide +kernel
theorem dX7_init_53 : decode cX7_init 53 = .ok (.putfield 28, 3) := by decide +kernel
theorem dX7_init_56 : decode cX7_init 56 = .ok (.aload_n 0, 1) := by decide +kernel
theorem dX7_init_57 : decode cX7_init 57 = .ok (.sipush 760, 3) := by decide +kernel
theorem dX7_init_60 : decode cX7_init 60 = .ok (.newarray .long, 2) := by decide +kernel
theorem dX7_init_62 : decode cX7_init 62 = .ok (.putfield 31, 3) := by decide +kernel
theorem dX7_init_65 : decode cX7_init 65 = .ok (.aload_n 0, 1) := by decide +kernel
theorem dX7_init_66 : decode cX7_init 66 = .ok (.bipush 8, 2) := by decide +kernel
theorem dX7_init_68 : decode cX7_init 68 = .ok (.newarray .int, 2) := by decide +kernel
theorem dX7_init_70 : decode cX7_init 70 = .ok (.putfield 35, 3) := by decide +kernel
theorem dX7_init_73 : decode cX7_init 73 = .ok (.aload_n 0, 1) := by decide +kernel
theorem dX7_init_74 : decode cX7_init 74 = .ok (.getfield 20, 3) := by decide +kernel
theorem dX7_init_77 : decode cX7_init 77 = .ok (.invokestatic 38, 3) := by decide +kernel
theorem dX7_init_80 : decode cX7_init 80 = .ok (.aload_n 0, 1) := by decide +kernel
theorem dX7_init_81 : decode cX7_init 81 = .ok (.getfield 20, 3) := by decide +kernel
theorem dX7_init_84 : decode cX7_init 84 = .ok (.iconst 0, 1) := by decide +kernel
theorem dX7_init_85 : decode cX7_init 85 = .ok (.iconst 1, 1) := by decide +kernel
theorem dX7_init_86 : decode cX7_init 86 = .ok (.iastore, 1) := by decide +kernel
theorem dX7_init_87 : decode cX7_init 87 = .ok (.aload_n 0, 1) := by decide +kernel
theorem dX7_init_88 : decode cX7_init 88 = .ok (.getfield 20, 3) := by decide +kernel
theorem dX7_init_91 : decode cX7_init 91 = .ok (.iconst 2, 1) := by decide +kernel
theorem dX7_init_92 : decode cX7_init 92 = .ok (.iconst 1, 1) := by decide +kernel
theorem dX7_init_93 : decode cX7_init 93 = .ok (.iastore, 1) := by decide +kernel
theorem dX7_init_94 : decode cX7_init 94 = .ok (.aload_n 0, 1) := by decide +kernel
theorem dX7_init_95 : decode cX7_init 95 = .ok (.getfield 20, 3) := by decide +kernel
theorem dX7_init_98 : decode cX7_init 98 = .ok (.bipush 9, 2) := by decide +kernel
theorem dX7_init_100 : decode cX7_init 100 = .ok (.iconst 5, 1) := by decide +kernel
theorem dX7_init_101 : decode cX7_init 101 = .ok (.iastore, 1) := by decide +kernel
theorem dX7_init_102 : decode cX7_init 102 = .ok (.aload_n 0, 1) := by decide +kernel
theorem dX7_init_103 : decode cX7_init 103 = .ok (.getfield 20, 3) := by decide +kernel
theorem dX7_init_106 : decode cX7_init 106 = .ok (.bipush 89, 2) := by decide +kernel
theorem dX7_init_108 : decode cX7_init 108 = .ok (.iconst 5, 1) := by decide +kernel
theorem dX7_init_109 : decode cX7_init 109 = .ok (.iastore, 1) := by decide +kernel
theorem dX7_init_110 : decode cX7_init 110 = .ok (.aload_n 0, 1) := by decide +kernel
theorem dX7_init_111 : decode cX7_init 111 = .ok (.getfield 20, 3) := by decide +kernel
theorem dX7_init_114 : decode cX7_init 114 = .ok (.bipush 94, 2) := by decide +kernel
theorem dX7_init_116 : decode cX7_init 116 = .ok (.iconst 3, 1) := by decide +kernel
theorem dX7_init_117 : decode cX7_init 117 = .ok (.iastore, 1) := by decide +kernel
theorem dX7_init_118 : decode cX7_init 118 = .ok (.aload_n 0, 1) := by decide +kernel
theorem dX7_init_119 : decode cX7_init 119 = .ok (.getfield 20, 3) := by decide +kernel
theorem dX7_init_122 : decode cX7_init 122 = .ok (.iconst 3, 1) := by decide +kernel
theorem dX7_init_123 : decode cX7_init 123 = .ok (.iconst 1, 1) := by decide +kernel
theorem dX7_init_124 : decode cX7_init 124 = .ok (.iastore, 1) := by decide +kernel
theorem dX7_init_125 : decode cX7_init 125 = .ok (.return_, 1) := by decide +kernel
theorem dX7_begins_0 : decode cX7_begins 0 = .ok (.iconst 0, 1) := by decide +kernel
theorem dX7_begins_1 : decode cX7_begins 1 = .ok (.istore_n 1, 1) := by decide +kernel
theorem dX7_begins_2 : decode cX7_begins 2 = .ok (.iload_n 1, 1) := by decide +kernel
theorem dX7_begins_3 : decode cX7_begins 3 = .ok (.sipush 883, 3) := by decide +kernel
theorem dX7_begins_6 : decode cX7_begins 6 = .ok (.if_icmp .ge 13, 3) := by decide +kernel
theorem dX7_begins_9 : decode cX7_begins 9 = .ok (.aload_n 0, 1) := by decide +kernel
theorem dX7_begins_10 : decode cX7_begins 10 = .ok (.iload_n 1, 1) := by decide +kernel
theorem dX7_begins_11 : decode cX7_begins 11 = .ok (.iconst 0, 1) := by decide +kernel
theorem dX7_begins_12 : decode cX7_begins 12 = .ok (.iastore, 1) := by decide +kernel
theorem dX7_begins_13 : decode cX7_begins 13 = .ok (.iinc 1 1, 3) := by decide +kernel
theorem dX7_begins_16 : decode cX7_begins 16 = .ok (.goto (-14), 3) := by decide +kernel
theorem dX7_begins_19 : decode cX7_begins 19 = .ok (.aload_n 0, 1) := by decide +kernel
theorem dX7_begins_20 : decode cX7_begins 20 = .ok (.iconst 4, 1) := by decide +kernel
theorem dX7_begins_21 : decode cX7_begins 21 = .ok (.iconst 2, 1) := by decide +kernel
theorem dX7_begins_22 : decode cX7_begins 22 = .ok (.iastore, 1) := by decide +kernel
theorem dX7_begins_23 : decode cX7_begins 23 = .ok (.aload_n 0, 1) := by decide +kernel
theorem dX7_begins_24 : decode cX7_begins 24 = .ok (.iconst 5, 1) := by decide +kernel
theorem dX7_begins_25 : decode cX7_begins 25 = .ok (.bipush 30, 2) := by decide +kernel
theorem dX7_begins_27 : decode cX7_begins 27 = .ok (.iastore, 1) := by decide +kernel
theorem dX7_begins_28 : decode cX7_begins 28 = .ok (.aload_n 0, 1) := by decide +kernel
theorem dX7_begins_29 : decode cX7_begins 29 = .ok (.bipush 6, 2) := by decide +kernel
theorem dX7_begins_31 : decode cX7_begins 31 = .ok (.iconst 5, 1) := by decide +kernel
theorem dX7_begins_32 : decode cX7_begins 32 = .ok (.iastore, 1) := by decide +kernel
theorem dX7_begins_33 : decode cX7_begins 33 = .ok (.aload_n 0, 1) := by decide +kernel
theorem dX7_begins_34 : decode cX7_begins 34 = .ok (.bipush 7, 2) := by decide +kernel
theorem dX7_begins_36 : decode cX7_begins 36 = .ok (.bipush 50, 2) := by decide +kernel
theorem dX7_begins_38 : decode cX7_begins 38 = .ok (.iastore, 1) := by decide +kernel
theorem dX7_begins_39 : decode cX7_begins 39 = .ok (.iconst 0, 1) := by decide +kernel
theorem dX7_begins_40 : decode cX7_begins 40 = .ok (.istore_n 1, 1) := by decide +kernel
theorem dX7_begins_41 : decode cX7_begins 41 = .ok (.iload_n 1, 1) := by decide +kernel
theorem dX7_begins_42 : decode cX7_begins 42 = .ok (.iconst 5, 1) := by decide +kernel
theorem dX7_begins_43 : decode cX7_begins 43 = .ok (.if_icmp .ge 16, 3) := by decide +kernel
theorem dX7_begins_46 : decode cX7_begins 46 = .ok (.aload_n 0, 1) := by decide +kernel
theorem dX7_begins_47 : decode cX7_begins 47 = .ok (.bipush 89, 2) := by decide +kernel
theorem dX7_begins_49 : decode cX7_begins 49 = .ok (.iload_n 1, 1) := by decide +kernel
theorem dX7_begins_50 : decode cX7_begins 50 = .ok (.iadd, 1) := by decide +kernel
theorem dX7_begins_51 : decode cX7_begins 51 = .ok (.iconst (-1), 1) := by decide +kernel
theorem dX7_begins_52 : decode cX7_begins 52 = .ok (.iastore, 1) := by decide +kernel
theorem dX7_begins_53 : decode cX7_begins 53 = .ok (.iinc 1 1, 3) := by decide +kernel
theorem dX7_begins_56 : decode cX7_begins 56 = .ok (.goto (-15), 3) := by decide +kernel
theorem dX7_begins_59 : decode cX7_begins 59 = .ok (.return_, 1) := by decide +kernel
theorem dX7_thrown_0 : decode cX7_thrown 0 = .ok (.aload_n 0, 1) := by decide +kernel
theorem dX7_thrown_1 : decode cX7_thrown 1 = .ok (.getfield 42, 3) := by decide +kernel
theorem dX7_thrown_4 : decode cX7_thrown 4 = .ok (.ireturn, 1) := by decide +kernel
theorem dX7_bad_0 : decode cX7_bad 0 = .ok (.iload_n 1, 1) := by decide +kernel
theorem dX7_bad_1 : decode cX7_bad 1 = .ok (.ifCond .eq 25, 3) := by decide +kernel
theorem dX7_bad_4 : decode cX7_bad 4 = .ok (.aload_n 0, 1) := by decide +kernel
theorem dX7_bad_5 : decode cX7_bad 5 = .ok (.getfield 42, 3) := by decide +kernel
theorem dX7_bad_8 : decode cX7_bad 8 = .ok (.ifCond .ne 18, 3) := by decide +kernel
theorem dX7_bad_11 : decode cX7_bad 11 = .ok (.aload_n 0, 1) := by decide +kernel
theorem dX7_bad_12 : decode cX7_bad 12 = .ok (.iload_n 2, 1) := by decide +kernel
theorem dX7_bad_13 : decode cX7_bad 13 = .ok (.putfield 42, 3) := by decide +kernel
theorem dX7_bad_16 : decode cX7_bad 16 = .ok (.aload_n 0, 1) := by decide +kernel
theorem dX7_bad_17 : decode cX7_bad 17 = .ok (.getfield 9, 3) := by decide +kernel
theorem dX7_bad_20 : decode cX7_bad 20 = .ok (.iload_n 3, 1) := by decide +kernel
theorem dX7_bad_21 : decode cX7_bad 21 = .ok (.dup2, 1) := by decide +kernel
theorem dX7_bad_22 : decode cX7_bad 22 = .ok (.iaload, 1) := by decide +kernel
theorem dX7_bad_23 : decode cX7_bad 23 = .ok (.iconst 1, 1) := by decide +kernel
theorem dX7_bad_24 : decode cX7_bad 24 = .ok (.iadd, 1) := by decide +kernel
theorem dX7_bad_25 : decode cX7_bad 25 = .ok (.iastore, 1) := by decide +kernel
theorem dX7_bad_26 : decode cX7_bad 26 = .ok (.aload_n 0, 1) := by decide +kernel
theorem dX7_bad_27 : decode cX7_bad 27 = .ok (.getfield 42, 3) := by decide +kernel
theorem dX7_bad_30 : decode cX7_bad 30 = .ok (.ifCond .eq 7, 3) := by decide +kernel
theorem dX7_bad_33 : decode cX7_bad 33 = .ok (.iconst 1, 1) := by decide +kernel
theorem dX7_bad_34 : decode cX7_bad 34 = .ok (.goto 4, 3) := by decide +kernel
theorem dX7_bad_37 : decode cX7_bad 37 = .ok (.iconst 0, 1) := by decide +kernel
theorem dX7_bad_38 : decode cX7_bad 38 = .ok (.ireturn, 1) := by decide +kernel
theorem dX7_in_0 : decode cX7_in 0 = .ok (.iload_n 0, 1) := by decide +kernel
theorem dX7_in_1 : decode cX7_in 1 = .ok (.iload_n 1, 1) := by decide +kernel
theorem dX7_in_2 : decode cX7_in 2 = .ok (.if_icmp .lt 12, 3) := by decide +kernel
theorem dX7_in_5 : decode cX7_in 5 = .ok (.iload_n 0, 1) := by decide +kernel
theorem dX7_in_6 : decode cX7_in 6 = .ok (.iload_n 2, 1) := by decide +kernel
theorem dX7_in_7 : decode cX7_in 7 = .ok (.if_icmp .gt 7, 3) := by decide +kernel
theorem dX7_in_10 : decode cX7_in 10 = .ok (.iconst 1, 1) := by decide +kernel
theorem dX7_in_11 : decode cX7_in 11 = .ok (.goto 4, 3) := by decide +kernel
theorem dX7_in_14 : decode cX7_in 14 = .ok (.iconst 0, 1) := by decide +kernel
theorem dX7_in_15 : decode cX7_in 15 = .ok (.ireturn, 1) := by decide +kernel
theorem dX7_less_0 : decode cX7_less 0 = .ok (.iload_n 0, 1) := by decide +kernel
theorem dX7_less_1 : decode cX7_less 1 = .ok (.iload_n 1, 1) := by decide +kernel
theorem dX7_less_2 : decode cX7_less 2 = .ok (.if_icmp .ge 7, 3) := by decide +kernel
theorem dX7_less_5 : decode cX7_less 5 = .ok (.iload_n 0, 1) := by decide +kernel
theorem dX7_less_6 : decode cX7_less 6 = .ok (.goto 4, 3) := by decide +kernel
theorem dX7_less_9 : decode cX7_less 9 = .ok (.iload_n 1, 1) := by decide +kernel
theorem dX7_less_10 : decode cX7_less 10 = .ok (.ireturn, 1) := by decide +kernel
theorem dX7_more_0 : decode cX7_more 0 = .ok (.iload_n 0, 1) := by decide +kernel
theorem dX7_more_1 : decode cX7_more 1 = .ok (.iload_n 1, 1) := by decide +kernel
theorem dX7_more_2 : decode cX7_more 2 = .ok (.if_icmp .le 7, 3) := by decide +kernel
theorem dX7_more_5 : decode cX7_more 5 = .ok (.iload_n 0, 1) := by decide +kernel
theorem dX7_more_6 : decode cX7_more 6 = .ok (.goto 4, 3) := by decide +kernel
theorem dX7_more_9 : decode cX7_more 9 = .ok (.iload_n 1, 1) := by decide +kernel
theorem dX7_more_10 : decode cX7_more 10 = .ok (.ireturn, 1) := by decide +kernel
theorem dX7_feed_0 : decode cX7_feed 0 = .ok (.aload_n 0, 1) := by decide +kernel
theorem dX7_feed_1 : decode cX7_feed 1 = .ok (.iconst 0, 1) := by decide +kernel
theorem dX7_feed_2 : decode cX7_feed 2 = .ok (.putfield 42, 3) := by decide +kernel
theorem dX7_feed_5 : decode cX7_feed 5 = .ok (.aload_n 0, 1) := by decide +kernel
theorem dX7_feed_6 : decode cX7_feed 6 = .ok (.getfield 45, 3) := by decide +kernel
theorem dX7_feed_9 : decode cX7_feed 9 = .ok (.bipush 20, 2) := by decide +kernel
theorem dX7_feed_11 : decode cX7_feed 11 = .ok (.iadd, 1) := by decide +kernel
theorem dX7_feed_12 : decode cX7_feed 12 = .ok (.sipush 500, 3) := by decide +kernel
theorem dX7_feed_15 : decode cX7_feed 15 = .ok (.if_icmp .le 5, 3) := by decide +kernel
theorem dX7_feed_18 : decode cX7_feed 18 = .ok (.iconst (-1), 1) := by decide +kernel
theorem dX7_feed_19 : decode cX7_feed 19 = .ok (.ireturn, 1) := by decide +kernel
theorem dX7_feed_20 : decode cX7_feed 20 = .ok (.iconst 0, 1) := by decide +kernel
theorem dX7_feed_21 : decode cX7_feed 21 = .ok (.istore 6, 2) := by decide +kernel
theorem dX7_feed_23 : decode cX7_feed 23 = .ok (.iload 6, 2) := by decide +kernel
theorem dX7_feed_25 : decode cX7_feed 25 = .ok (.bipush 20, 2) := by decide +kernel
theorem dX7_feed_27 : decode cX7_feed 27 = .ok (.if_icmp .ge 93, 3) := by decide +kernel
theorem dX7_feed_30 : decode cX7_feed 30 = .ok (.iload 6, 2) := by decide +kernel
theorem dX7_feed_32 : decode cX7_feed 32 = .ok (.iconst 4, 1) := by decide +kernel
theorem dX7_feed_33 : decode cX7_feed 33 = .ok (.if_icmp .ge 7, 3) := by decide +kernel
theorem dX7_feed_36 : decode cX7_feed 36 = .ok (.iload_n 1, 1) := by decide +kernel
theorem dX7_feed_37 : decode cX7_feed 37 = .ok (.goto 39, 3) := by decide +kernel
theorem dX7_feed_40 : decode cX7_feed 40 = .ok (.iload 6, 2) := by decide +kernel
theorem dX7_feed_42 : decode cX7_feed 42 = .ok (.bipush 8, 2) := by decide +kernel
theorem dX7_feed_44 : decode cX7_feed 44 = .ok (.if_icmp .ge 7, 3) := by decide +kernel
theorem dX7_feed_47 : decode cX7_feed 47 = .ok (.iload_n 2, 1) := by decide +kernel
theorem dX7_feed_48 : decode cX7_feed 48 = .ok (.goto 28, 3) := by decide +kernel
theorem dX7_feed_51 : decode cX7_feed 51 = .ok (.iload 6, 2) := by decide +kernel
theorem dX7_feed_53 : decode cX7_feed 53 = .ok (.bipush 12, 2) := by decide +kernel
theorem dX7_feed_55 : decode cX7_feed 55 = .ok (.if_icmp .ge 7, 3) := by decide +kernel
theorem dX7_feed_58 : decode cX7_feed 58 = .ok (.iload_n 3, 1) := by decide +kernel
theorem dX7_feed_59 : decode cX7_feed 59 = .ok (.goto 17, 3) := by decide +kernel
theorem dX7_feed_62 : decode cX7_feed 62 = .ok (.iload 6, 2) := by decide +kernel
theorem dX7_feed_64 : decode cX7_feed 64 = .ok (.bipush 16, 2) := by decide +kernel
theorem dX7_feed_66 : decode cX7_feed 66 = .ok (.if_icmp .ge 8, 3) := by decide +kernel
theorem dX7_feed_69 : decode cX7_feed 69 = .ok (.iload 4, 2) := by decide +kernel
theorem dX7_feed_71 : decode cX7_feed 71 = .ok (.goto 5, 3) := by decide +kernel
theorem dX7_feed_74 : decode cX7_feed 74 = .ok (.iload 5, 2) := by decide +kernel
theorem dX7_feed_76 : decode cX7_feed 76 = .ok (.istore 7, 2) := by decide +kernel
theorem dX7_feed_78 : decode cX7_feed 78 = .ok (.aload_n 0, 1) := by decide +kernel
theorem dX7_feed_79 : decode cX7_feed 79 = .ok (.getfield 17, 3) := by decide +kernel
theorem dX7_feed_82 : decode cX7_feed 82 = .ok (.aload_n 0, 1) := by decide +kernel
theorem dX7_feed_83 : decode cX7_feed 83 = .ok (.getfield 45, 3) := by decide +kernel
theorem dX7_feed_86 : decode cX7_feed 86 = .ok (.iload 7, 2) := by decide +kernel
theorem dX7_feed_88 : decode cX7_feed 88 = .ok (.bipush 24, 2) := by decide +kernel
theorem dX7_feed_90 : decode cX7_feed 90 = .ok (.bipush 8, 2) := by decide +kernel
theorem dX7_feed_92 : decode cX7_feed 92 = .ok (.iload 6, 2) := by decide +kernel
theorem dX7_feed_94 : decode cX7_feed 94 = .ok (.iconst 4, 1) := by decide +kernel
theorem dX7_feed_95 : decode cX7_feed 95 = .ok (.irem, 1) := by decide +kernel
theorem dX7_feed_96 : decode cX7_feed 96 = .ok (.imul, 1) := by decide +kernel
theorem dX7_feed_97 : decode cX7_feed 97 = .ok (.isub, 1) := by decide +kernel
theorem dX7_feed_98 : decode cX7_feed 98 = .ok (.ishr, 1) := by decide +kernel
theorem dX7_feed_99 : decode cX7_feed 99 = .ok (.sipush 255, 3) := by decide +kernel
theorem dX7_feed_102 : decode cX7_feed 102 = .ok (.iand, 1) := by decide +kernel
theorem dX7_feed_103 : decode cX7_feed 103 = .ok (.iastore, 1) := by decide +kernel
theorem dX7_feed_104 : decode cX7_feed 104 = .ok (.aload_n 0, 1) := by decide +kernel
theorem dX7_feed_105 : decode cX7_feed 105 = .ok (.dup, 1) := by decide +kernel
theorem dX7_feed_106 : decode cX7_feed 106 = .ok (.getfield 45, 3) := by decide +kernel
theorem dX7_feed_109 : decode cX7_feed 109 = .ok (.iconst 1, 1) := by decide +kernel
theorem dX7_feed_110 : decode cX7_feed 110 = .ok (.iadd, 1) := by decide +kernel
theorem dX7_feed_111 : decode cX7_feed 111 = .ok (.putfield 45, 3) := by decide +kernel
theorem dX7_feed_114 : decode cX7_feed 114 = .ok (.iinc 6 1, 3) := by decide +kernel
theorem dX7_feed_117 : decode cX7_feed 117 = .ok (.goto (-94), 3) := by decide +kernel
theorem dX7_feed_120 : decode cX7_feed 120 = .ok (.aload_n 0, 1) := by decide +kernel
theorem dX7_feed_121 : decode cX7_feed 121 = .ok (.getfield 45, 3) := by decide +kernel
theorem dX7_feed_124 : decode cX7_feed 124 = .ok (.ireturn, 1) := by decide +kernel
theorem dX7_copies_0 : decode cX7_copies 0 = .ok (.iconst 0, 1) := by decide +kernel
theorem dX7_copies_1 : decode cX7_copies 1 = .ok (.istore_n 2, 1) := by decide +kernel
theorem dX7_copies_2 : decode cX7_copies 2 = .ok (.iload_n 2, 1) := by decide +kernel
theorem dX7_copies_3 : decode cX7_copies 3 = .ok (.sipush 883, 3) := by decide +kernel
theorem dX7_copies_6 : decode cX7_copies 6 = .ok (.if_icmp .ge 15, 3) := by decide +kernel
theorem dX7_copies_9 : decode cX7_copies 9 = .ok (.aload_n 1, 1) := by decide +kernel
theorem dX7_copies_10 : decode cX7_copies 10 = .ok (.iload_n 2, 1) := by decide +kernel
theorem dX7_copies_11 : decode cX7_copies 11 = .ok (.aload_n 0, 1) := by decide +kernel
theorem dX7_copies_12 : decode cX7_copies 12 = .ok (.iload_n 2, 1) := by decide +kernel
theorem dX7_copies_13 : decode cX7_copies 13 = .ok (.iaload, 1) := by decide +kernel
theorem dX7_copies_14 : decode cX7_copies 14 = .ok (.iastore, 1) := by decide +kernel
theorem dX7_copies_15 : decode cX7_copies 15 = .ok (.iinc 2 1, 3) := by decide +kernel
theorem dX7_copies_18 : decode cX7_copies 18 = .ok (.goto (-16), 3) := by decide +kernel
theorem dX7_copies_21 : decode cX7_copies 21 = .ok (.return_, 1) := by decide +kernel
theorem dX7_byteAt_0 : decode cX7_byteAt 0 = .ok (.iload_n 1, 1) := by decide +kernel
theorem dX7_byteAt_1 : decode cX7_byteAt 1 = .ok (.aload_n 0, 1) := by decide +kernel
theorem dX7_byteAt_2 : decode cX7_byteAt 2 = .ok (.getfield 48, 3) := by decide +kernel
theorem dX7_byteAt_5 : decode cX7_byteAt 5 = .ok (.if_icmp .lt 7, 3) := by decide +kernel
theorem dX7_byteAt_8 : decode cX7_byteAt 8 = .ok (.iconst (-1), 1) := by decide +kernel
theorem dX7_byteAt_9 : decode cX7_byteAt 9 = .ok (.goto 9, 3) := by decide +kernel
theorem dX7_byteAt_12 : decode cX7_byteAt 12 = .ok (.aload_n 0, 1) := by decide +kernel
theorem dX7_byteAt_13 : decode cX7_byteAt 13 = .ok (.getfield 17, 3) := by decide +kernel
theorem dX7_byteAt_16 : decode cX7_byteAt 16 = .ok (.iload_n 1, 1) := by decide +kernel
theorem dX7_byteAt_17 : decode cX7_byteAt 17 = .ok (.iaload, 1) := by decide +kernel
theorem dX7_byteAt_18 : decode cX7_byteAt 18 = .ok (.ireturn, 1) := by decide +kernel
theorem dX7_here_0 : decode cX7_here 0 = .ok (.aload_n 0, 1) := by decide +kernel
theorem dX7_here_1 : decode cX7_here 1 = .ok (.aload_n 0, 1) := by decide +kernel
theorem dX7_here_2 : decode cX7_here 2 = .ok (.getfield 51, 3) := by decide +kernel
theorem dX7_here_5 : decode cX7_here 5 = .ok (.invokevirtual 54, 3) := by decide +kernel
theorem dX7_here_8 : decode cX7_here 8 = .ok (.bipush 32, 2) := by decide +kernel
theorem dX7_here_10 : decode cX7_here 10 = .ok (.if_icmp .ne 16, 3) := by decide +kernel
theorem dX7_here_13 : decode cX7_here 13 = .ok (.aload_n 0, 1) := by decide +kernel
theorem dX7_here_14 : decode cX7_here 14 = .ok (.dup, 1) := by decide +kernel
theorem dX7_here_15 : decode cX7_here 15 = .ok (.getfield 51, 3) := by decide +kernel
theorem dX7_here_18 : decode cX7_here 18 = .ok (.iconst 1, 1) := by decide +kernel
theorem dX7_here_19 : decode cX7_here 19 = .ok (.iadd, 1) := by decide +kernel
theorem dX7_here_20 : decode cX7_here 20 = .ok (.putfield 51, 3) := by decide +kernel
theorem dX7_here_23 : decode cX7_here 23 = .ok (.goto (-23), 3) := by decide +kernel
theorem dX7_here_26 : decode cX7_here 26 = .ok (.aload_n 0, 1) := by decide +kernel
theorem dX7_here_27 : decode cX7_here 27 = .ok (.aload_n 0, 1) := by decide +kernel
theorem dX7_here_28 : decode cX7_here 28 = .ok (.getfield 51, 3) := by decide +kernel
theorem dX7_here_31 : decode cX7_here 31 = .ok (.invokevirtual 54, 3) := by decide +kernel
theorem dX7_here_34 : decode cX7_here 34 = .ok (.ireturn, 1) := by decide +kernel
theorem dX7_fine_0 : decode cX7_fine 0 = .ok (.aload_n 0, 1) := by decide +kernel
theorem dX7_fine_1 : decode cX7_fine 1 = .ok (.getfield 58, 3) := by decide +kernel
theorem dX7_fine_4 : decode cX7_fine 4 = .ok (.ifCond .ne 7, 3) := by decide +kernel
theorem dX7_fine_7 : decode cX7_fine 7 = .ok (.iconst 1, 1) := by decide +kernel
theorem dX7_fine_8 : decode cX7_fine 8 = .ok (.goto 4, 3) := by decide +kernel
theorem dX7_fine_11 : decode cX7_fine 11 = .ok (.iconst 0, 1) := by decide +kernel
theorem dX7_fine_12 : decode cX7_fine 12 = .ok (.ireturn, 1) := by decide +kernel
theorem dX7_wrong_0 : decode cX7_wrong 0 = .ok (.aload_n 0, 1) := by decide +kernel
theorem dX7_wrong_1 : decode cX7_wrong 1 = .ok (.getfield 58, 3) := by decide +kernel
theorem dX7_wrong_4 : decode cX7_wrong 4 = .ok (.ifCond .ne 13, 3) := by decide +kernel
theorem dX7_wrong_7 : decode cX7_wrong 7 = .ok (.aload_n 0, 1) := by decide +kernel
theorem dX7_wrong_8 : decode cX7_wrong 8 = .ok (.iload_n 1, 1) := by decide +kernel
theorem dX7_wrong_9 : decode cX7_wrong 9 = .ok (.putfield 58, 3) := by decide +kernel
theorem dX7_wrong_12 : decode cX7_wrong 12 = .ok (.aload_n 0, 1) := by decide +kernel
theorem dX7_wrong_13 : decode cX7_wrong 13 = .ok (.iload_n 2, 1) := by decide +kernel
theorem dX7_wrong_14 : decode cX7_wrong 14 = .ok (.putfield 61, 3) := by decide +kernel
theorem dX7_wrong_17 : decode cX7_wrong 17 = .ok (.return_, 1) := by decide +kernel
theorem dX7_isDigit_0 : decode cX7_isDigit 0 = .ok (.iload_n 0, 1) := by decide +kernel
theorem dX7_isDigit_1 : decode cX7_isDigit 1 = .ok (.bipush 48, 2) := by decide +kernel
theorem dX7_isDigit_3 : decode cX7_isDigit 3 = .ok (.if_icmp .lt 13, 3) := by decide +kernel
theorem dX7_isDigit_6 : decode cX7_isDigit 6 = .ok (.iload_n 0, 1) := by decide +kernel
theorem dX7_isDigit_7 : decode cX7_isDigit 7 = .ok (.bipush 57, 2) := by decide +kernel
theorem dX7_isDigit_9 : decode cX7_isDigit 9 = .ok (.if_icmp .gt 7, 3) := by decide +kernel
theorem dX7_isDigit_12 : decode cX7_isDigit 12 = .ok (.iconst 1, 1) := by decide +kernel
theorem dX7_isDigit_13 : decode cX7_isDigit 13 = .ok (.goto 4, 3) := by decide +kernel
theorem dX7_isDigit_16 : decode cX7_isDigit 16 = .ok (.iconst 0, 1) := by decide +kernel
theorem dX7_isDigit_17 : decode cX7_isDigit 17 = .ok (.ireturn, 1) := by decide +kernel
theorem dX7_takes_0 : decode cX7_takes 0 = .ok (.aload_n 0, 1) := by decide +kernel
theorem dX7_takes_1 : decode cX7_takes 1 = .ok (.invokevirtual 64, 3) := by decide +kernel
theorem dX7_takes_4 : decode cX7_takes 4 = .ok (.ifCond .ne 5, 3) := by decide +kernel
theorem dX7_takes_7 : decode cX7_takes 7 = .ok (.iconst 0, 1) := by decide +kernel
theorem dX7_takes_8 : decode cX7_takes 8 = .ok (.ireturn, 1) := by decide +kernel
theorem dX7_takes_9 : decode cX7_takes 9 = .ok (.aload_n 0, 1) := by decide +kernel
theorem dX7_takes_10 : decode cX7_takes 10 = .ok (.invokevirtual 68, 3) := by decide +kernel
theorem dX7_takes_13 : decode cX7_takes 13 = .ok (.pop, 1) := by decide +kernel
theorem dX7_takes_14 : decode cX7_takes 14 = .ok (.iconst 0, 1) := by decide +kernel
theorem dX7_takes_15 : decode cX7_takes 15 = .ok (.istore_n 2, 1) := by decide +kernel
theorem dX7_takes_16 : decode cX7_takes 16 = .ok (.iload_n 2, 1) := by decide +kernel
theorem dX7_takes_17 : decode cX7_takes 17 = .ok (.aload_n 1, 1) := by decide +kernel
theorem dX7_takes_18 : decode cX7_takes 18 = .ok (.invokevirtual 72, 3) := by decide +kernel
theorem dX7_takes_21 : decode cX7_takes 21 = .ok (.if_icmp .ge 27, 3) := by decide +kernel
theorem dX7_takes_24 : decode cX7_takes 24 = .ok (.aload_n 0, 1) := by decide +kernel
theorem dX7_takes_25 : decode cX7_takes 25 = .ok (.aload_n 0, 1) := by decide +kernel
theorem dX7_takes_26 : decode cX7_takes 26 = .ok (.getfield 51, 3) := by decide +kernel
theorem dX7_takes_29 : decode cX7_takes 29 = .ok (.iload_n 2, 1) := by decide +kernel
theorem dX7_takes_30 : decode cX7_takes 30 = .ok (.iadd, 1) := by decide +kernel
theorem dX7_takes_31 : decode cX7_takes 31 = .ok (.invokevirtual 54, 3) := by decide +kernel
theorem dX7_takes_34 : decode cX7_takes 34 = .ok (.aload_n 1, 1) := by decide +kernel
theorem dX7_takes_35 : decode cX7_takes 35 = .ok (.iload_n 2, 1) := by decide +kernel
theorem dX7_takes_36 : decode cX7_takes 36 = .ok (.invokevirtual 77, 3) := by decide +kernel
theorem dX7_takes_39 : decode cX7_takes 39 = .ok (.if_icmp .ne 9, 3) := by decide +kernel
theorem dX7_takes_42 : decode cX7_takes 42 = .ok (.iinc 2 1, 3) := by decide +kernel
theorem dX7_takes_45 : decode cX7_takes 45 = .ok (.goto (-29), 3) := by decide +kernel
theorem dX7_takes_48 : decode cX7_takes 48 = .ok (.iload_n 2, 1) := by decide +kernel
theorem dX7_takes_49 : decode cX7_takes 49 = .ok (.aload_n 1, 1) := by decide +kernel
theorem dX7_takes_50 : decode cX7_takes 50 = .ok (.invokevirtual 72, 3) := by decide +kernel
theorem dX7_takes_53 : decode cX7_takes 53 = .ok (.if_icmp .lt 23, 3) := by decide +kernel
theorem dX7_takes_56 : decode cX7_takes 56 = .ok (.aload_n 0, 1) := by decide +kernel
theorem dX7_takes_57 : decode cX7_takes 57 = .ok (.aload_n 0, 1) := by decide +kernel
theorem dX7_takes_58 : decode cX7_takes 58 = .ok (.getfield 51, 3) := by decide +kernel
theorem dX7_takes_61 : decode cX7_takes 61 = .ok (.iload_n 2, 1) := by decide +kernel
theorem dX7_takes_62 : decode cX7_takes 62 = .ok (.iadd, 1) := by decide +kernel
theorem dX7_takes_63 : decode cX7_takes 63 = .ok (.invokevirtual 54, 3) := by decide +kernel
theorem dX7_takes_66 : decode cX7_takes 66 = .ok (.bipush 97, 2) := by decide +kernel
theorem dX7_takes_68 : decode cX7_takes 68 = .ok (.bipush 122, 2) := by decide +kernel
theorem dX7_takes_70 : decode cX7_takes 70 = .ok (.invokestatic 81, 3) := by decide +kernel
theorem dX7_takes_73 : decode cX7_takes 73 = .ok (.ifCond .eq 5, 3) := by decide +kernel
theorem dX7_takes_76 : decode cX7_takes 76 = .ok (.iconst 0, 1) := by decide +kernel
theorem dX7_takes_77 : decode cX7_takes 77 = .ok (.ireturn, 1) := by decide +kernel
theorem dX7_takes_78 : decode cX7_takes 78 = .ok (.aload_n 0, 1) := by decide +kernel
theorem dX7_takes_79 : decode cX7_takes 79 = .ok (.dup, 1) := by decide +kernel
theorem dX7_takes_80 : decode cX7_takes 80 = .ok (.getfield 51, 3) := by decide +kernel
theorem dX7_takes_83 : decode cX7_takes 83 = .ok (.iload_n 2, 1) := by decide +kernel
theorem dX7_takes_84 : decode cX7_takes 84 = .ok (.iadd, 1) := by decide +kernel
theorem dX7_takes_85 : decode cX7_takes 85 = .ok (.putfield 51, 3) := by decide +kernel
theorem dX7_takes_88 : decode cX7_takes 88 = .ok (.iconst 1, 1) := by decide +kernel
theorem dX7_takes_89 : decode cX7_takes 89 = .ok (.ireturn, 1) := by decide +kernel
theorem dX7_must_0 : decode cX7_must 0 = .ok (.aload_n 0, 1) := by decide +kernel
theorem dX7_must_1 : decode cX7_must 1 = .ok (.invokevirtual 64, 3) := by decide +kernel
theorem dX7_must_4 : decode cX7_must 4 = .ok (.ifCond .ne 4, 3) := by decide +kernel
theorem dX7_must_7 : decode cX7_must 7 = .ok (.return_, 1) := by decide +kernel
theorem dX7_must_8 : decode cX7_must 8 = .ok (.aload_n 0, 1) := by decide +kernel
theorem dX7_must_9 : decode cX7_must 9 = .ok (.invokevirtual 68, 3) := by decide +kernel
theorem dX7_must_12 : decode cX7_must 12 = .ok (.iload_n 1, 1) := by decide +kernel
theorem dX7_must_13 : decode cX7_must 13 = .ok (.if_icmp .ne 16, 3) := by decide +kernel
theorem dX7_must_16 : decode cX7_must 16 = .ok (.aload_n 0, 1) := by decide +kernel
theorem dX7_must_17 : decode cX7_must 17 = .ok (.dup, 1) := by decide +kernel
theorem dX7_must_18 : decode cX7_must 18 = .ok (.getfield 51, 3) := by decide +kernel
theorem dX7_must_21 : decode cX7_must 21 = .ok (.iconst 1, 1) := by decide +kernel
theorem dX7_must_22 : decode cX7_must 22 = .ok (.iadd, 1) := by decide +kernel
theorem dX7_must_23 : decode cX7_must 23 = .ok (.putfield 51, 3) := by decide +kernel
theorem dX7_must_26 : decode cX7_must 26 = .ok (.goto 12, 3) := by decide +kernel
theorem dX7_must_29 : decode cX7_must 29 = .ok (.aload_n 0, 1) := by decide +kernel
theorem dX7_must_30 : decode cX7_must 30 = .ok (.iconst 1, 1) := by decide +kernel
theorem dX7_must_31 : decode cX7_must 31 = .ok (.aload_n 0, 1) := by decide +kernel
theorem dX7_must_32 : decode cX7_must 32 = .ok (.getfield 51, 3) := by decide +kernel
theorem dX7_must_35 : decode cX7_must 35 = .ok (.invokevirtual 85, 3) := by decide +kernel
theorem dX7_must_38 : decode cX7_must 38 = .ok (.return_, 1) := by decide +kernel
theorem dX7_number_0 : decode cX7_number 0 = .ok (.aload_n 0, 1) := by decide +kernel
theorem dX7_number_1 : decode cX7_number 1 = .ok (.invokevirtual 64, 3) := by decide +kernel
theorem dX7_number_4 : decode cX7_number 4 = .ok (.ifCond .ne 5, 3) := by decide +kernel
theorem dX7_number_7 : decode cX7_number 7 = .ok (.iconst 0, 1) := by decide +kernel
theorem dX7_number_8 : decode cX7_number 8 = .ok (.ireturn, 1) := by decide +kernel
theorem dX7_number_9 : decode cX7_number 9 = .ok (.aload_n 0, 1) := by decide +kernel
theorem dX7_number_10 : decode cX7_number 10 = .ok (.invokevirtual 68, 3) := by decide +kernel
theorem dX7_number_13 : decode cX7_number 13 = .ok (.invokestatic 89, 3) := by decide +kernel
theorem dX7_number_16 : decode cX7_number 16 = .ok (.ifCond .ne 14, 3) := by decide +kernel
theorem dX7_number_19 : decode cX7_number 19 = .ok (.aload_n 0, 1) := by decide +kernel
theorem dX7_number_20 : decode cX7_number 20 = .ok (.iconst 1, 1) := by decide +kernel
theorem dX7_number_21 : decode cX7_number 21 = .ok (.aload_n 0, 1) := by decide +kernel
theorem dX7_number_22 : decode cX7_number 22 = .ok (.getfield 51, 3) := by decide +kernel
theorem dX7_number_25 : decode cX7_number 25 = .ok (.invokevirtual 85, 3) := by decide +kernel
theorem dX7_number_28 : decode cX7_number 28 = .ok (.iconst 0, 1) := by decide +kernel
theorem dX7_number_29 : decode cX7_number 29 = .ok (.ireturn, 1) := by decide +kernel
theorem dX7_number_30 : decode cX7_number 30 = .ok (.aload_n 0, 1) := by decide +kernel
theorem dX7_number_31 : decode cX7_number 31 = .ok (.getfield 51, 3) := by decide +kernel
theorem dX7_number_34 : decode cX7_number 34 = .ok (.istore_n 3, 1) := by decide +kernel
theorem dX7_number_35 : decode cX7_number 35 = .ok (.iconst 0, 1) := by decide +kernel
theorem dX7_number_36 : decode cX7_number 36 = .ok (.istore 4, 2) := by decide +kernel
theorem dX7_number_38 : decode cX7_number 38 = .ok (.aload_n 0, 1) := by decide +kernel
theorem dX7_number_39 : decode cX7_number 39 = .ok (.aload_n 0, 1) := by decide +kernel
theorem dX7_number_40 : decode cX7_number 40 = .ok (.getfield 51, 3) := by decide +kernel
theorem dX7_number_43 : decode cX7_number 43 = .ok (.invokevirtual 54, 3) := by decide +kernel
theorem dX7_number_46 : decode cX7_number 46 = .ok (.invokestatic 89, 3) := by decide +kernel
theorem dX7_number_49 : decode cX7_number 49 = .ok (.ifCond .eq 40, 3) := by decide +kernel
theorem dX7_number_52 : decode cX7_number 52 = .ok (.ldc 93, 2) := by decide +kernel
theorem dX7_number_54 : decode cX7_number 54 = .ok (.bipush 10, 2) := by decide +kernel
theorem dX7_number_56 : decode cX7_number 56 = .ok (.iload 4, 2) := by decide +kernel
theorem dX7_number_58 : decode cX7_number 58 = .ok (.imul, 1) := by decide +kernel
theorem dX7_number_59 : decode cX7_number 59 = .ok (.aload_n 0, 1) := by decide +kernel
theorem dX7_number_60 : decode cX7_number 60 = .ok (.aload_n 0, 1) := by decide +kernel
theorem dX7_number_61 : decode cX7_number 61 = .ok (.getfield 51, 3) := by decide +kernel
theorem dX7_number_64 : decode cX7_number 64 = .ok (.invokevirtual 54, 3) := by decide +kernel
theorem dX7_number_67 : decode cX7_number 67 = .ok (.iadd, 1) := by decide +kernel
theorem dX7_number_68 : decode cX7_number 68 = .ok (.bipush 48, 2) := by decide +kernel
theorem dX7_number_70 : decode cX7_number 70 = .ok (.isub, 1) := by decide +kernel
theorem dX7_number_71 : decode cX7_number 71 = .ok (.invokestatic 94, 3) := by decide +kernel
theorem dX7_number_74 : decode cX7_number 74 = .ok (.istore 4, 2) := by decide +kernel
theorem dX7_number_76 : decode cX7_number 76 = .ok (.aload_n 0, 1) := by decide +kernel
theorem dX7_number_77 : decode cX7_number 77 = .ok (.dup, 1) := by decide +kernel
theorem dX7_number_78 : decode cX7_number 78 = .ok (.getfield 51, 3) := by decide +kernel
theorem dX7_number_81 : decode cX7_number 81 = .ok (.iconst 1, 1) := by decide +kernel
theorem dX7_number_82 : decode cX7_number 82 = .ok (.iadd, 1) := by decide +kernel
theorem dX7_number_83 : decode cX7_number 83 = .ok (.putfield 51, 3) := by decide +kernel
theorem dX7_number_86 : decode cX7_number 86 = .ok (.goto (-48), 3) := by decide +kernel
theorem dX7_number_89 : decode cX7_number 89 = .ok (.iload 4, 2) := by decide +kernel
theorem dX7_number_91 : decode cX7_number 91 = .ok (.iload_n 1, 1) := by decide +kernel
theorem dX7_number_92 : decode cX7_number 92 = .ok (.iload_n 2, 1) := by decide +kernel
theorem dX7_number_93 : decode cX7_number 93 = .ok (.invokestatic 81, 3) := by decide +kernel
theorem dX7_number_96 : decode cX7_number 96 = .ok (.ifCond .ne 9, 3) := by decide +kernel
theorem dX7_number_99 : decode cX7_number 99 = .ok (.aload_n 0, 1) := by decide +kernel
theorem dX7_number_100 : decode cX7_number 100 = .ok (.iconst 2, 1) := by decide +kernel
theorem dX7_number_101 : decode cX7_number 101 = .ok (.iload_n 3, 1) := by decide +kernel
theorem dX7_number_102 : decode cX7_number 102 = .ok (.invokevirtual 85, 3) := by decide +kernel
theorem dX7_number_105 : decode cX7_number 105 = .ok (.iload 4, 2) := by decide +kernel
theorem dX7_number_107 : decode cX7_number 107 = .ok (.ireturn, 1) := by decide +kernel
theorem dX7_traitTold_0 : decode cX7_traitTold 0 = .ok (.aload_n 0, 1) := by decide +kernel
theorem dX7_traitTold_1 : decode cX7_traitTold 1 = .ok (.iconst 0, 1) := by decide +kernel
theorem dX7_traitTold_2 : decode cX7_traitTold 2 = .ok (.aload_n 0, 1) := by decide +kernel
theorem dX7_traitTold_3 : decode cX7_traitTold 3 = .ok (.getfield 23, 3) := by decide +kernel
theorem dX7_traitTold_6 : decode cX7_traitTold 6 = .ok (.iconst 0, 1) := by decide +kernel
theorem dX7_traitTold_7 : decode cX7_traitTold 7 = .ok (.iaload, 1) := by decide +kernel
theorem dX7_traitTold_8 : decode cX7_traitTold 8 = .ok (.iconst 1, 1) := by decide +kernel
theorem dX7_traitTold_9 : decode cX7_traitTold 9 = .ok (.isub, 1) := by decide +kernel
theorem dX7_traitTold_10 : decode cX7_traitTold 10 = .ok (.invokevirtual 98, 3) := by decide +kernel
theorem dX7_traitTold_13 : decode cX7_traitTold 13 = .ok (.ireturn, 1) := by decide +kernel
theorem dX7_values_0 : decode cX7_values 0 = .ok (.iconst 0, 1) := by decide +kernel
theorem dX7_values_1 : decode cX7_values 1 = .ok (.istore_n 2, 1) := by decide +kernel
theorem dX7_values_2 : decode cX7_values 2 = .ok (.iload_n 2, 1) := by decide +kernel
theorem dX7_values_3 : decode cX7_values 3 = .ok (.aload_n 0, 1) := by decide +kernel
theorem dX7_values_4 : decode cX7_values 4 = .ok (.getfield 23, 3) := by decide +kernel
theorem dX7_values_7 : decode cX7_values 7 = .ok (.iconst 0, 1) := by decide +kernel
theorem dX7_values_8 : decode cX7_values 8 = .ok (.iaload, 1) := by decide +kernel
theorem dX7_values_9 : decode cX7_values 9 = .ok (.if_icmp .ge 36, 3) := by decide +kernel
