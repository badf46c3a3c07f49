theorem dX0_init_0 : decode cX0_init 0 = .ok (.aload_n 0, 1) := by decide +kernel
theorem dX0_init_1 : decode cX0_init 1 = .ok (.invokespecial 3, 3) := by decide +kernel
theorem dX0_init_4 : decode cX0_init 4 = .ok (.aload_n 0, 1) := by decide +kernel
theorem dX0_init_5 : decode cX0_init 5 = .ok (.iconst 0, 1) := by decide +kernel
theorem dX0_init_6 : decode cX0_init 6 = .ok (.putfield 9, 3) := by decide +kernel
theorem dX0_init_9 : decode cX0_init 9 = .ok (.aload_n 0, 1) := by decide +kernel
theorem dX0_init_10 : decode cX0_init 10 = .ok (.lconst 0, 1) := by decide +kernel
theorem dX0_init_11 : decode cX0_init 11 = .ok (.putfield 15, 3) := by decide +kernel
theorem dX0_init_14 : decode cX0_init 14 = .ok (.aload_n 0, 1) := by decide +kernel
theorem dX0_init_15 : decode cX0_init 15 = .ok (.lconst 0, 1) := by decide +kernel
theorem dX0_init_16 : decode cX0_init 16 = .ok (.putfield 19, 3) := by decide +kernel
theorem dX0_init_19 : decode cX0_init 19 = .ok (.aload_n 0, 1) := by decide +kernel
theorem dX0_init_20 : decode cX0_init 20 = .ok (.iconst 0, 1) := by decide +kernel
theorem dX0_init_21 : decode cX0_init 21 = .ok (.putfield 22, 3) := by decide +kernel
theorem dX0_init_24 : decode cX0_init 24 = .ok (.aload_n 0, 1) := by decide +kernel
theorem dX0_init_25 : decode cX0_init 25 = .ok (.iconst 0, 1) := by decide +kernel
theorem dX0_init_26 : decode cX0_init 26 = .ok (.putfield 26, 3) := by decide +kernel
theorem dX0_init_29 : decode cX0_init 29 = .ok (.aload_n 0, 1) := by decide +kernel
theorem dX0_init_30 : decode cX0_init 30 = .ok (.bipush 16, 2) := by decide +kernel
theorem dX0_init_32 : decode cX0_init 32 = .ok (.newarray .int, 2) := by decide +kernel
theorem dX0_init_34 : decode cX0_init 34 = .ok (.putfield 29, 3) := by decide +kernel
theorem dX0_init_37 : decode cX0_init 37 = .ok (.return_, 1) := by decide +kernel
theorem dX0_chooseFrom_0 : decode cX0_chooseFrom 0 = .ok (.aload_n 0, 1) := by decide +kernel
theorem dX0_chooseFrom_1 : decode cX0_chooseFrom 1 = .ok (.iconst 0, 1) := by decide +kernel
theorem dX0_chooseFrom_2 : decode cX0_chooseFrom 2 = .ok (.putfield 22, 3) := by decide +kernel
theorem dX0_chooseFrom_5 : decode cX0_chooseFrom 5 = .ok (.aload_n 0, 1) := by decide +kernel
theorem dX0_chooseFrom_6 : decode cX0_chooseFrom 6 = .ok (.aload_n 1, 1) := by decide +kernel
theorem dX0_chooseFrom_7 : decode cX0_chooseFrom 7 = .ok (.getfield 33, 3) := by decide +kernel
theorem dX0_chooseFrom_10 : decode cX0_chooseFrom 10 = .ok (.putfield 26, 3) := by decide +kernel
theorem dX0_chooseFrom_13 : decode cX0_chooseFrom 13 = .ok (.aload_n 1, 1) := by decide +kernel
theorem dX0_chooseFrom_14 : decode cX0_chooseFrom 14 = .ok (.getfield 36, 3) := by decide +kernel
theorem dX0_chooseFrom_17 : decode cX0_chooseFrom 17 = .ok (.iconst 0, 1) := by decide +kernel
theorem dX0_chooseFrom_18 : decode cX0_chooseFrom 18 = .ok (.aload_n 0, 1) := by decide +kernel
theorem dX0_chooseFrom_19 : decode cX0_chooseFrom 19 = .ok (.getfield 29, 3) := by decide +kernel
theorem dX0_chooseFrom_22 : decode cX0_chooseFrom 22 = .ok (.iconst 0, 1) := by decide +kernel
theorem dX0_chooseFrom_23 : decode cX0_chooseFrom 23 = .ok (.bipush 16, 2) := by decide +kernel
theorem dX0_chooseFrom_25 : decode cX0_chooseFrom 25 = .ok (.invokestatic 37, 3) := by decide +kernel
theorem dX0_chooseFrom_28 : decode cX0_chooseFrom 28 = .ok (.aload_n 0, 1) := by decide +kernel
theorem dX0_chooseFrom_29 : decode cX0_chooseFrom 29 = .ok (.getfield 29, 3) := by decide +kernel
theorem dX0_chooseFrom_32 : decode cX0_chooseFrom 32 = .ok (.iconst 0, 1) := by decide +kernel
theorem dX0_chooseFrom_33 : decode cX0_chooseFrom 33 = .ok (.iaload, 1) := by decide +kernel
theorem dX0_chooseFrom_34 : decode cX0_chooseFrom 34 = .ok (.i2l, 1) := by decide +kernel
theorem dX0_chooseFrom_35 : decode cX0_chooseFrom 35 = .ok (.lstore_n 3, 1) := by decide +kernel
theorem dX0_chooseFrom_36 : decode cX0_chooseFrom 36 = .ok (.aload_n 0, 1) := by decide +kernel
theorem dX0_chooseFrom_37 : decode cX0_chooseFrom 37 = .ok (.iconst 1, 1) := by decide +kernel
theorem dX0_chooseFrom_38 : decode cX0_chooseFrom 38 = .ok (.iload_n 2, 1) := by decide +kernel
theorem dX0_chooseFrom_39 : decode cX0_chooseFrom 39 = .ok (.iconst 0, 1) := by decide +kernel
theorem dX0_chooseFrom_40 : decode cX0_chooseFrom 40 = .ok (.lload_n 3, 1) := by decide +kernel
theorem dX0_chooseFrom_41 : decode cX0_chooseFrom 41 = .ok (.lload_n 3, 1) := by decide +kernel
theorem dX0_chooseFrom_42 : decode cX0_chooseFrom 42 = .ok (.lload_n 3, 1) := by decide +kernel
theorem dX0_chooseFrom_43 : decode cX0_chooseFrom 43 = .ok (.lmul, 1) := by decide +kernel
theorem dX0_chooseFrom_44 : decode cX0_chooseFrom 44 = .ok (.invokevirtual 43, 3) := by decide +kernel
theorem dX0_chooseFrom_47 : decode cX0_chooseFrom 47 = .ok (.return_, 1) := by decide +kernel
theorem dX0_addFillers_0 : decode cX0_addFillers 0 = .ok (.iload_n 2, 1) := by decide +kernel
theorem dX0_addFillers_1 : decode cX0_addFillers 1 = .ok (.ifCond .gt 13, 3) := by decide +kernel
theorem dX0_addFillers_4 : decode cX0_addFillers 4 = .ok (.aload_n 0, 1) := by decide +kernel
theorem dX0_addFillers_5 : decode cX0_addFillers 5 = .ok (.iload_n 3, 1) := by decide +kernel
theorem dX0_addFillers_6 : decode cX0_addFillers 6 = .ok (.lload 4, 2) := by decide +kernel
theorem dX0_addFillers_8 : decode cX0_addFillers 8 = .ok (.lload 6, 2) := by decide +kernel
theorem dX0_addFillers_10 : decode cX0_addFillers 10 = .ok (.invokevirtual 47, 3) := by decide +kernel
theorem dX0_addFillers_13 : decode cX0_addFillers 13 = .ok (.return_, 1) := by decide +kernel
theorem dX0_addFillers_14 : decode cX0_addFillers 14 = .ok (.iload_n 1, 1) := by decide +kernel
theorem dX0_addFillers_15 : decode cX0_addFillers 15 = .ok (.istore 8, 2) := by decide +kernel
theorem dX0_addFillers_17 : decode cX0_addFillers 17 = .ok (.iload 8, 2) := by decide +kernel
theorem dX0_addFillers_19 : decode cX0_addFillers 19 = .ok (.iload_n 2, 1) := by decide +kernel
theorem dX0_addFillers_20 : decode cX0_addFillers 20 = .ok (.iadd, 1) := by decide +kernel
theorem dX0_addFillers_21 : decode cX0_addFillers 21 = .ok (.aload_n 0, 1) := by decide +kernel
theorem dX0_addFillers_22 : decode cX0_addFillers 22 = .ok (.getfield 26, 3) := by decide +kernel
theorem dX0_addFillers_25 : decode cX0_addFillers 25 = .ok (.if_icmp .gt 49, 3) := by decide +kernel
theorem dX0_addFillers_28 : decode cX0_addFillers 28 = .ok (.aload_n 0, 1) := by decide +kernel
theorem dX0_addFillers_29 : decode cX0_addFillers 29 = .ok (.getfield 29, 3) := by decide +kernel
theorem dX0_addFillers_32 : decode cX0_addFillers 32 = .ok (.iload 8, 2) := by decide +kernel
theorem dX0_addFillers_34 : decode cX0_addFillers 34 = .ok (.iaload, 1) := by decide +kernel
theorem dX0_addFillers_35 : decode cX0_addFillers 35 = .ok (.i2l, 1) := by decide +kernel
theorem dX0_addFillers_36 : decode cX0_addFillers 36 = .ok (.lstore 9, 2) := by decide +kernel
theorem dX0_addFillers_38 : decode cX0_addFillers 38 = .ok (.aload_n 0, 1) := by decide +kernel
theorem dX0_addFillers_39 : decode cX0_addFillers 39 = .ok (.iload 8, 2) := by decide +kernel
theorem dX0_addFillers_41 : decode cX0_addFillers 41 = .ok (.iconst 1, 1) := by decide +kernel
theorem dX0_addFillers_42 : decode cX0_addFillers 42 = .ok (.iadd, 1) := by decide +kernel
theorem dX0_addFillers_43 : decode cX0_addFillers 43 = .ok (.iload_n 2, 1) := by decide +kernel
theorem dX0_addFillers_44 : decode cX0_addFillers 44 = .ok (.iconst 1, 1) := by decide +kernel
theorem dX0_addFillers_45 : decode cX0_addFillers 45 = .ok (.isub, 1) := by decide +kernel
theorem dX0_addFillers_46 : decode cX0_addFillers 46 = .ok (.iload_n 3, 1) := by decide +kernel
theorem dX0_addFillers_47 : decode cX0_addFillers 47 = .ok (.iconst 1, 1) := by decide +kernel
theorem dX0_addFillers_48 : decode cX0_addFillers 48 = .ok (.iload 8, 2) := by decide +kernel
theorem dX0_addFillers_50 : decode cX0_addFillers 50 = .ok (.ishl, 1) := by decide +kernel
theorem dX0_addFillers_51 : decode cX0_addFillers 51 = .ok (.ior, 1) := by decide +kernel
theorem dX0_addFillers_52 : decode cX0_addFillers 52 = .ok (.lload 4, 2) := by decide +kernel
theorem dX0_addFillers_54 : decode cX0_addFillers 54 = .ok (.lload 9, 2) := by decide +kernel
theorem dX0_addFillers_56 : decode cX0_addFillers 56 = .ok (.ladd, 1) := by decide +kernel
theorem dX0_addFillers_57 : decode cX0_addFillers 57 = .ok (.lload 6, 2) := by decide +kernel
theorem dX0_addFillers_59 : decode cX0_addFillers 59 = .ok (.lload 9, 2) := by decide +kernel
theorem dX0_addFillers_61 : decode cX0_addFillers 61 = .ok (.lload 9, 2) := by decide +kernel
theorem dX0_addFillers_63 : decode cX0_addFillers 63 = .ok (.lmul, 1) := by decide +kernel
theorem dX0_addFillers_64 : decode cX0_addFillers 64 = .ok (.ladd, 1) := by decide +kernel
theorem dX0_addFillers_65 : decode cX0_addFillers 65 = .ok (.invokevirtual 43, 3) := by decide +kernel
theorem dX0_addFillers_68 : decode cX0_addFillers 68 = .ok (.iinc 8 1, 3) := by decide +kernel
theorem dX0_addFillers_71 : decode cX0_addFillers 71 = .ok (.goto (-54), 3) := by decide +kernel
theorem dX0_addFillers_74 : decode cX0_addFillers 74 = .ok (.return_, 1) := by decide +kernel
theorem dX0_weigh_0 : decode cX0_weigh 0 = .ok (.lconst 1, 1) := by decide +kernel
theorem dX0_weigh_1 : decode cX0_weigh 1 = .ok (.lload 4, 2) := by decide +kernel
theorem dX0_weigh_3 : decode cX0_weigh 3 = .ok (.invokestatic 51, 3) := by decide +kernel
theorem dX0_weigh_6 : decode cX0_weigh 6 = .ok (.lstore 6, 2) := by decide +kernel
theorem dX0_weigh_8 : decode cX0_weigh 8 = .ok (.lload_n 2, 1) := by decide +kernel
theorem dX0_weigh_9 : decode cX0_weigh 9 = .ok (.lload_n 2, 1) := by decide +kernel
theorem dX0_weigh_10 : decode cX0_weigh 10 = .ok (.lmul, 1) := by decide +kernel
theorem dX0_weigh_11 : decode cX0_weigh 11 = .ok (.aload_n 0, 1) := by decide +kernel
theorem dX0_weigh_12 : decode cX0_weigh 12 = .ok (.getfield 19, 3) := by decide +kernel
theorem dX0_weigh_15 : decode cX0_weigh 15 = .ok (.lmul, 1) := by decide +kernel
theorem dX0_weigh_16 : decode cX0_weigh 16 = .ok (.lstore 8, 2) := by decide +kernel
theorem dX0_weigh_18 : decode cX0_weigh 18 = .ok (.aload_n 0, 1) := by decide +kernel
theorem dX0_weigh_19 : decode cX0_weigh 19 = .ok (.getfield 15, 3) := by decide +kernel
theorem dX0_weigh_22 : decode cX0_weigh 22 = .ok (.aload_n 0, 1) := by decide +kernel
theorem dX0_weigh_23 : decode cX0_weigh 23 = .ok (.getfield 15, 3) := by decide +kernel
theorem dX0_weigh_26 : decode cX0_weigh 26 = .ok (.lmul, 1) := by decide +kernel
theorem dX0_weigh_27 : decode cX0_weigh 27 = .ok (.lload 6, 2) := by decide +kernel
theorem dX0_weigh_29 : decode cX0_weigh 29 = .ok (.lmul, 1) := by decide +kernel
theorem dX0_weigh_30 : decode cX0_weigh 30 = .ok (.lstore 10, 2) := by decide +kernel
theorem dX0_weigh_32 : decode cX0_weigh 32 = .ok (.aload_n 0, 1) := by decide +kernel
theorem dX0_weigh_33 : decode cX0_weigh 33 = .ok (.getfield 22, 3) := by decide +kernel
theorem dX0_weigh_36 : decode cX0_weigh 36 = .ok (.ifCond .eq 27, 3) := by decide +kernel
theorem dX0_weigh_39 : decode cX0_weigh 39 = .ok (.lload 8, 2) := by decide +kernel
theorem dX0_weigh_41 : decode cX0_weigh 41 = .ok (.lload 10, 2) := by decide +kernel
theorem dX0_weigh_43 : decode cX0_weigh 43 = .ok (.lcmp, 1) := by decide +kernel
theorem dX0_weigh_44 : decode cX0_weigh 44 = .ok (.ifCond .gt 19, 3) := by decide +kernel
theorem dX0_weigh_47 : decode cX0_weigh 47 = .ok (.lload 8, 2) := by decide +kernel
theorem dX0_weigh_49 : decode cX0_weigh 49 = .ok (.lload 10, 2) := by decide +kernel
theorem dX0_weigh_51 : decode cX0_weigh 51 = .ok (.lcmp, 1) := by decide +kernel
theorem dX0_weigh_52 : decode cX0_weigh 52 = .ok (.ifCond .ne 32, 3) := by decide +kernel
theorem dX0_weigh_55 : decode cX0_weigh 55 = .ok (.iload_n 1, 1) := by decide +kernel
theorem dX0_weigh_56 : decode cX0_weigh 56 = .ok (.aload_n 0, 1) := by decide +kernel
theorem dX0_weigh_57 : decode cX0_weigh 57 = .ok (.getfield 9, 3) := by decide +kernel
theorem dX0_weigh_60 : decode cX0_weigh 60 = .ok (.if_icmp .ge 24, 3) := by decide +kernel
theorem dX0_weigh_63 : decode cX0_weigh 63 = .ok (.aload_n 0, 1) := by decide +kernel
theorem dX0_weigh_64 : decode cX0_weigh 64 = .ok (.iconst 1, 1) := by decide +kernel
theorem dX0_weigh_65 : decode cX0_weigh 65 = .ok (.putfield 22, 3) := by decide +kernel
theorem dX0_weigh_68 : decode cX0_weigh 68 = .ok (.aload_n 0, 1) := by decide +kernel
theorem dX0_weigh_69 : decode cX0_weigh 69 = .ok (.iload_n 1, 1) := by decide +kernel
theorem dX0_weigh_70 : decode cX0_weigh 70 = .ok (.putfield 9, 3) := by decide +kernel
theorem dX0_weigh_73 : decode cX0_weigh 73 = .ok (.aload_n 0, 1) := by decide +kernel
theorem dX0_weigh_74 : decode cX0_weigh 74 = .ok (.lload_n 2, 1) := by decide +kernel
theorem dX0_weigh_75 : decode cX0_weigh 75 = .ok (.putfield 15, 3) := by decide +kernel
theorem dX0_weigh_78 : decode cX0_weigh 78 = .ok (.aload_n 0, 1) := by decide +kernel
theorem dX0_weigh_79 : decode cX0_weigh 79 = .ok (.lload 6, 2) := by decide +kernel
theorem dX0_weigh_81 : decode cX0_weigh 81 = .ok (.putfield 19, 3) := by decide +kernel
theorem dX0_weigh_84 : decode cX0_weigh 84 = .ok (.return_, 1) := by decide +kernel
theorem dX1_init_0 : decode cX1_init 0 = .ok (.aload_n 0, 1) := by decide +kernel
theorem dX1_init_1 : decode cX1_init 1 = .ok (.invokespecial 3, 3) := by decide +kernel
theorem dX1_init_4 : decode cX1_init 4 = .ok (.aload_n 0, 1) := by decide +kernel
theorem dX1_init_5 : decode cX1_init 5 = .ok (.sipush 500, 3) := by decide +kernel
theorem dX1_init_8 : decode cX1_init 8 = .ok (.newarray .int, 2) := by decide +kernel
theorem dX1_init_10 : decode cX1_init 10 = .ok (.putfield 9, 3) := by decide +kernel
theorem dX1_init_13 : decode cX1_init 13 = .ok (.aload_n 0, 1) := by decide +kernel
theorem dX1_init_14 : decode cX1_init 14 = .ok (.bipush 16, 2) := by decide +kernel
theorem dX1_init_16 : decode cX1_init 16 = .ok (.newarray .long, 2) := by decide +kernel
theorem dX1_init_18 : decode cX1_init 18 = .ok (.putfield 15, 3) := by decide +kernel
theorem dX1_init_21 : decode cX1_init 21 = .ok (.aload_n 0, 1) := by decide +kernel
theorem dX1_init_22 : decode cX1_init 22 = .ok (.iconst 0, 1) := by decide +kernel
theorem dX1_init_23 : decode cX1_init 23 = .ok (.putfield 19, 3) := by decide +kernel
theorem dX1_init_26 : decode cX1_init 26 = .ok (.return_, 1) := by decide +kernel
theorem dX1_clear_0 : decode cX1_clear 0 = .ok (.aload_n 0, 1) := by decide +kernel
theorem dX1_clear_1 : decode cX1_clear 1 = .ok (.iconst 0, 1) := by decide +kernel
theorem dX1_clear_2 : decode cX1_clear 2 = .ok (.putfield 19, 3) := by decide +kernel
theorem dX1_clear_5 : decode cX1_clear 5 = .ok (.return_, 1) := by decide +kernel
theorem dX1_add_0 : decode cX1_add 0 = .ok (.aload_n 0, 1) := by decide +kernel
theorem dX1_add_1 : decode cX1_add 1 = .ok (.getfield 19, 3) := by decide +kernel
theorem dX1_add_4 : decode cX1_add 4 = .ok (.aload_n 0, 1) := by decide +kernel
theorem dX1_add_5 : decode cX1_add 5 = .ok (.getfield 9, 3) := by decide +kernel
theorem dX1_add_8 : decode cX1_add 8 = .ok (.arraylength, 1) := by decide +kernel
theorem dX1_add_9 : decode cX1_add 9 = .ok (.if_icmp .ge 28, 3) := by decide +kernel
theorem dX1_add_12 : decode cX1_add 12 = .ok (.aload_n 0, 1) := by decide +kernel
theorem dX1_add_13 : decode cX1_add 13 = .ok (.getfield 9, 3) := by decide +kernel
theorem dX1_add_16 : decode cX1_add 16 = .ok (.aload_n 0, 1) := by decide +kernel
theorem dX1_add_17 : decode cX1_add 17 = .ok (.getfield 19, 3) := by decide +kernel
theorem dX1_add_20 : decode cX1_add 20 = .ok (.iload_n 1, 1) := by decide +kernel
theorem dX1_add_21 : decode cX1_add 21 = .ok (.bipush 7, 2) := by decide +kernel
theorem dX1_add_23 : decode cX1_add 23 = .ok (.ishl, 1) := by decide +kernel
theorem dX1_add_24 : decode cX1_add 24 = .ok (.iload_n 2, 1) := by decide +kernel
theorem dX1_add_25 : decode cX1_add 25 = .ok (.ior, 1) := by decide +kernel
theorem dX1_add_26 : decode cX1_add 26 = .ok (.iastore, 1) := by decide +kernel
theorem dX1_add_27 : decode cX1_add 27 = .ok (.aload_n 0, 1) := by decide +kernel
theorem dX1_add_28 : decode cX1_add 28 = .ok (.dup, 1) := by decide +kernel
theorem dX1_add_29 : decode cX1_add 29 = .ok (.getfield 19, 3) := by decide +kernel
theorem dX1_add_32 : decode cX1_add 32 = .ok (.iconst 1, 1) := by decide +kernel
theorem dX1_add_33 : decode cX1_add 33 = .ok (.iadd, 1) := by decide +kernel
theorem dX1_add_34 : decode cX1_add 34 = .ok (.putfield 19, 3) := by decide +kernel
theorem dX1_add_37 : decode cX1_add 37 = .ok (.return_, 1) := by decide +kernel
theorem dX1_rate_0 : decode cX1_rate 0 = .ok (.iconst 0, 1) := by decide +kernel
theorem dX1_rate_1 : decode cX1_rate 1 = .ok (.istore_n 2, 1) := by decide +kernel
theorem dX1_rate_2 : decode cX1_rate 2 = .ok (.iload_n 2, 1) := by decide +kernel
theorem dX1_rate_3 : decode cX1_rate 3 = .ok (.aload_n 1, 1) := by decide +kernel
theorem dX1_rate_4 : decode cX1_rate 4 = .ok (.getfield 23, 3) := by decide +kernel
theorem dX1_rate_7 : decode cX1_rate 7 = .ok (.if_icmp .ge 35, 3) := by decide +kernel
theorem dX1_rate_10 : decode cX1_rate 10 = .ok (.aload_n 1, 1) := by decide +kernel
theorem dX1_rate_11 : decode cX1_rate 11 = .ok (.getfield 28, 3) := by decide +kernel
theorem dX1_rate_14 : decode cX1_rate 14 = .ok (.iload_n 2, 1) := by decide +kernel
theorem dX1_rate_15 : decode cX1_rate 15 = .ok (.aload_n 0, 1) := by decide +kernel
theorem dX1_rate_16 : decode cX1_rate 16 = .ok (.aload_n 1, 1) := by decide +kernel
theorem dX1_rate_17 : decode cX1_rate 17 = .ok (.iload_n 2, 1) := by decide +kernel
theorem dX1_rate_18 : decode cX1_rate 18 = .ok (.iconst 0, 1) := by decide +kernel
theorem dX1_rate_19 : decode cX1_rate 19 = .ok (.invokevirtual 31, 3) := by decide +kernel
theorem dX1_rate_22 : decode cX1_rate 22 = .ok (.iastore, 1) := by decide +kernel
theorem dX1_rate_23 : decode cX1_rate 23 = .ok (.aload_n 1, 1) := by decide +kernel
theorem dX1_rate_24 : decode cX1_rate 24 = .ok (.getfield 35, 3) := by decide +kernel
theorem dX1_rate_27 : decode cX1_rate 27 = .ok (.iload_n 2, 1) := by decide +kernel
theorem dX1_rate_28 : decode cX1_rate 28 = .ok (.aload_n 0, 1) := by decide +kernel
theorem dX1_rate_29 : decode cX1_rate 29 = .ok (.aload_n 1, 1) := by decide +kernel
theorem dX1_rate_30 : decode cX1_rate 30 = .ok (.iload_n 2, 1) := by decide +kernel
theorem dX1_rate_31 : decode cX1_rate 31 = .ok (.iconst 1, 1) := by decide +kernel
theorem dX1_rate_32 : decode cX1_rate 32 = .ok (.invokevirtual 31, 3) := by decide +kernel
theorem dX1_rate_35 : decode cX1_rate 35 = .ok (.iastore, 1) := by decide +kernel
theorem dX1_rate_36 : decode cX1_rate 36 = .ok (.iinc 2 1, 3) := by decide +kernel
theorem dX1_rate_39 : decode cX1_rate 39 = .ok (.goto (-37), 3) := by decide +kernel
theorem dX1_rate_42 : decode cX1_rate 42 = .ok (.return_, 1) := by decide +kernel
theorem dX1_rateOne_0 : decode cX1_rateOne 0 = .ok (.aload_n 0, 1) := by decide +kernel
theorem dX1_rateOne_1 : decode cX1_rateOne 1 = .ok (.getfield 19, 3) := by decide +kernel
theorem dX1_rateOne_4 : decode cX1_rateOne 4 = .ok (.ifCond .ne 12, 3) := by decide +kernel
theorem dX1_rateOne_7 : decode cX1_rateOne 7 = .ok (.aload_n 1, 1) := by decide +kernel
theorem dX1_rateOne_8 : decode cX1_rateOne 8 = .ok (.iload_n 2, 1) := by decide +kernel
theorem dX1_rateOne_9 : decode cX1_rateOne 9 = .ok (.iload_n 3, 1) := by decide +kernel
theorem dX1_rateOne_10 : decode cX1_rateOne 10 = .ok (.invokestatic 38, 3) := by decide +kernel
theorem dX1_rateOne_13 : decode cX1_rateOne 13 = .ok (.goto 11, 3) := by decide +kernel
theorem dX1_rateOne_16 : decode cX1_rateOne 16 = .ok (.aload_n 0, 1) := by decide +kernel
theorem dX1_rateOne_17 : decode cX1_rateOne 17 = .ok (.aload_n 1, 1) := by decide +kernel
theorem dX1_rateOne_18 : decode cX1_rateOne 18 = .ok (.iload_n 2, 1) := by decide +kernel
theorem dX1_rateOne_19 : decode cX1_rateOne 19 = .ok (.iload_n 3, 1) := by decide +kernel
theorem dX1_rateOne_20 : decode cX1_rateOne 20 = .ok (.invokevirtual 41, 3) := by decide +kernel
theorem dX1_rateOne_23 : decode cX1_rateOne 23 = .ok (.l2i, 1) := by decide +kernel
theorem dX1_rateOne_24 : decode cX1_rateOne 24 = .ok (.istore 4, 2) := by decide +kernel
theorem dX1_rateOne_26 : decode cX1_rateOne 26 = .ok (.iload 4, 2) := by decide +kernel
theorem dX1_rateOne_28 : decode cX1_rateOne 28 = .ok (.iconst 0, 1) := by decide +kernel
theorem dX1_rateOne_29 : decode cX1_rateOne 29 = .ok (.bipush 99, 2) := by decide +kernel
theorem dX1_rateOne_31 : decode cX1_rateOne 31 = .ok (.invokestatic 45, 3) := by decide +kernel
theorem dX1_rateOne_34 : decode cX1_rateOne 34 = .ok (.ireturn, 1) := by decide +kernel
theorem dX1_plainRate_0 : decode cX1_plainRate 0 = .ok (.iconst 0, 1) := by decide +kernel
theorem dX1_plainRate_1 : decode cX1_plainRate 1 = .ok (.istore_n 3, 1) := by decide +kernel
theorem dX1_plainRate_2 : decode cX1_plainRate 2 = .ok (.iconst 0, 1) := by decide +kernel
theorem dX1_plainRate_3 : decode cX1_plainRate 3 = .ok (.istore 4, 2) := by decide +kernel
theorem dX1_plainRate_5 : decode cX1_plainRate 5 = .ok (.iload 4, 2) := by decide +kernel
theorem dX1_plainRate_7 : decode cX1_plainRate 7 = .ok (.aload_n 0, 1) := by decide +kernel
theorem dX1_plainRate_8 : decode cX1_plainRate 8 = .ok (.getfield 49, 3) := by decide +kernel
theorem dX1_plainRate_11 : decode cX1_plainRate 11 = .ok (.if_icmp .ge 31, 3) := by decide +kernel
theorem dX1_plainRate_14 : decode cX1_plainRate 14 = .ok (.iload_n 3, 1) := by decide +kernel
theorem dX1_plainRate_15 : decode cX1_plainRate 15 = .ok (.aload_n 0, 1) := by decide +kernel
theorem dX1_plainRate_16 : decode cX1_plainRate 16 = .ok (.getfield 52, 3) := by decide +kernel
theorem dX1_plainRate_19 : decode cX1_plainRate 19 = .ok (.iload 4, 2) := by decide +kernel
theorem dX1_plainRate_21 : decode cX1_plainRate 21 = .ok (.iaload, 1) := by decide +kernel
theorem dX1_plainRate_22 : decode cX1_plainRate 22 = .ok (.bipush 9, 2) := by decide +kernel
theorem dX1_plainRate_24 : decode cX1_plainRate 24 = .ok (.aload_n 0, 1) := by decide +kernel
theorem dX1_plainRate_25 : decode cX1_plainRate 25 = .ok (.iload_n 1, 1) := by decide +kernel
theorem dX1_plainRate_26 : decode cX1_plainRate 26 = .ok (.iload 4, 2) := by decide +kernel
theorem dX1_plainRate_28 : decode cX1_plainRate 28 = .ok (.iload_n 2, 1) := by decide +kernel
theorem dX1_plainRate_29 : decode cX1_plainRate 29 = .ok (.invokevirtual 55, 3) := by decide +kernel
theorem dX1_plainRate_32 : decode cX1_plainRate 32 = .ok (.isub, 1) := by decide +kernel
theorem dX1_plainRate_33 : decode cX1_plainRate 33 = .ok (.imul, 1) := by decide +kernel
theorem dX1_plainRate_34 : decode cX1_plainRate 34 = .ok (.iadd, 1) := by decide +kernel
theorem dX1_plainRate_35 : decode cX1_plainRate 35 = .ok (.istore_n 3, 1) := by decide +kernel
theorem dX1_plainRate_36 : decode cX1_plainRate 36 = .ok (.iinc 4 1, 3) := by decide +kernel
theorem dX1_plainRate_39 : decode cX1_plainRate 39 = .ok (.goto (-34), 3) := by decide +kernel
theorem dX1_plainRate_42 : decode cX1_plainRate 42 = .ok (.iload_n 3, 1) := by decide +kernel
theorem dX1_plainRate_43 : decode cX1_plainRate 43 = .ok (.ireturn, 1) := by decide +kernel
theorem dX1_run_0 : decode cX1_run 0 = .ok (.iconst 0, 1) := by decide +kernel
theorem dX1_run_1 : decode cX1_run 1 = .ok (.istore 4, 2) := by decide +kernel
theorem dX1_run_3 : decode cX1_run 3 = .ok (.iconst 0, 1) := by decide +kernel
theorem dX1_run_4 : decode cX1_run 4 = .ok (.istore 5, 2) := by decide +kernel
theorem dX1_run_6 : decode cX1_run 6 = .ok (.iload 5, 2) := by decide +kernel
theorem dX1_run_8 : decode cX1_run 8 = .ok (.aload_n 0, 1) := by decide +kernel
theorem dX1_run_9 : decode cX1_run 9 = .ok (.getfield 19, 3) := by decide +kernel
theorem dX1_run_12 : decode cX1_run 12 = .ok (.if_icmp .ge 182, 3) := by decide +kernel
theorem dX1_run_15 : decode cX1_run 15 = .ok (.aload_n 0, 1) := by decide +kernel
theorem dX1_run_16 : decode cX1_run 16 = .ok (.getfield 9, 3) := by decide +kernel
theorem dX1_run_19 : decode cX1_run 19 = .ok (.iload 5, 2) := by decide +kernel
theorem dX1_run_21 : decode cX1_run 21 = .ok (.iaload, 1) := by decide +kernel
theorem dX1_run_22 : decode cX1_run 22 = .ok (.bipush 7, 2) := by decide +kernel
theorem dX1_run_24 : decode cX1_run 24 = .ok (.ishr, 1) := by decide +kernel
theorem dX1_run_25 : decode cX1_run 25 = .ok (.istore 6, 2) := by decide +kernel
theorem dX1_run_27 : decode cX1_run 27 = .ok (.aload_n 0, 1) := by decide +kernel
theorem dX1_run_28 : decode cX1_run 28 = .ok (.getfield 9, 3) := by decide +kernel
theorem dX1_run_31 : decode cX1_run 31 = .ok (.iload 5, 2) := by decide +kernel
theorem dX1_run_33 : decode cX1_run 33 = .ok (.iaload, 1) := by decide +kernel
theorem dX1_run_34 : decode cX1_run 34 = .ok (.bipush 127, 2) := by decide +kernel
theorem dX1_run_36 : decode cX1_run 36 = .ok (.iand, 1) := by decide +kernel
theorem dX1_run_37 : decode cX1_run 37 = .ok (.istore 7, 2) := by decide +kernel
theorem dX1_run_39 : decode cX1_run 39 = .ok (.iload 6, 2) := by decide +kernel
theorem dX1_run_41 : decode cX1_run 41 = .ok (.ifCond .ne 26, 3) := by decide +kernel
theorem dX1_run_44 : decode cX1_run 44 = .ok (.iload 4, 2) := by decide +kernel
theorem dX1_run_46 : decode cX1_run 46 = .ok (.bipush 16, 2) := by decide +kernel
theorem dX1_run_48 : decode cX1_run 48 = .ok (.if_icmp .ge 19, 3) := by decide +kernel
theorem dX1_run_51 : decode cX1_run 51 = .ok (.aload_n 0, 1) := by decide +kernel
theorem dX1_run_52 : decode cX1_run 52 = .ok (.getfield 15, 3) := by decide +kernel
theorem dX1_run_55 : decode cX1_run 55 = .ok (.iload 4, 2) := by decide +kernel
theorem dX1_run_57 : decode cX1_run 57 = .ok (.iload 7, 2) := by decide +kernel
theorem dX1_run_59 : decode cX1_run 59 = .ok (.i2l, 1) := by decide +kernel
theorem dX1_run_60 : decode cX1_run 60 = .ok (.lastore, 1) := by decide +kernel
theorem dX1_run_61 : decode cX1_run 61 = .ok (.iinc 4 1, 3) := by decide +kernel
theorem dX1_run_64 : decode cX1_run 64 = .ok (.goto 124, 3) := by decide +kernel
theorem dX1_run_67 : decode cX1_run 67 = .ok (.iload 6, 2) := by decide +kernel
theorem dX1_run_69 : decode cX1_run 69 = .ok (.iconst 4, 1) := by decide +kernel
theorem dX1_run_70 : decode cX1_run 70 = .ok (.if_icmp .ge 39, 3) := by decide +kernel
theorem dX1_run_73 : decode cX1_run 73 = .ok (.iload 4, 2) := by decide +kernel
theorem dX1_run_75 : decode cX1_run 75 = .ok (.bipush 16, 2) := by decide +kernel
theorem dX1_run_77 : decode cX1_run 77 = .ok (.if_icmp .ge 32, 3) := by decide +kernel
theorem dX1_run_80 : decode cX1_run 80 = .ok (.iload 7, 2) := by decide +kernel
theorem dX1_run_82 : decode cX1_run 82 = .ok (.iconst 5, 1) := by decide +kernel
theorem dX1_run_83 : decode cX1_run 83 = .ok (.if_icmp .ge 26, 3) := by decide +kernel
theorem dX1_run_86 : decode cX1_run 86 = .ok (.aload_n 0, 1) := by decide +kernel
theorem dX1_run_87 : decode cX1_run 87 = .ok (.getfield 15, 3) := by decide +kernel
theorem dX1_run_90 : decode cX1_run 90 = .ok (.iload 4, 2) := by decide +kernel
theorem dX1_run_92 : decode cX1_run 92 = .ok (.iload 6, 2) := by decide +kernel
theorem dX1_run_94 : decode cX1_run 94 = .ok (.iload 7, 2) := by decide +kernel
theorem dX1_run_96 : decode cX1_run 96 = .ok (.aload_n 1, 1) := by decide +kernel
theorem dX1_run_97 : decode cX1_run 97 = .ok (.iload_n 2, 1) := by decide +kernel
theorem dX1_run_98 : decode cX1_run 98 = .ok (.iload_n 3, 1) := by decide +kernel
theorem dX1_run_99 : decode cX1_run 99 = .ok (.invokestatic 59, 3) := by decide +kernel
theorem dX1_run_102 : decode cX1_run 102 = .ok (.lastore, 1) := by decide +kernel
theorem dX1_run_103 : decode cX1_run 103 = .ok (.iinc 4 1, 3) := by decide +kernel
theorem dX1_run_106 : decode cX1_run 106 = .ok (.goto 82, 3) := by decide +kernel
theorem dX1_run_109 : decode cX1_run 109 = .ok (.iload 6, 2) := by decide +kernel
theorem dX1_run_111 : decode cX1_run 111 = .ok (.iconst 4, 1) := by decide +kernel
theorem dX1_run_112 : decode cX1_run 112 = .ok (.if_icmp .ne 31, 3) := by decide +kernel
theorem dX1_run_115 : decode cX1_run 115 = .ok (.iload 4, 2) := by decide +kernel
theorem dX1_run_117 : decode cX1_run 117 = .ok (.iconst 1, 1) := by decide +kernel
theorem dX1_run_118 : decode cX1_run 118 = .ok (.if_icmp .lt 25, 3) := by decide +kernel
theorem dX1_run_121 : decode cX1_run 121 = .ok (.aload_n 0, 1) := by decide +kernel
theorem dX1_run_122 : decode cX1_run 122 = .ok (.getfield 15, 3) := by decide +kernel
theorem dX1_run_125 : decode cX1_run 125 = .ok (.iload 4, 2) := by decide +kernel
theorem dX1_run_127 : decode cX1_run 127 = .ok (.iconst 1, 1) := by decide +kernel
theorem dX1_run_128 : decode cX1_run 128 = .ok (.isub, 1) := by decide +kernel
theorem dX1_run_129 : decode cX1_run 129 = .ok (.aload_n 0, 1) := by decide +kernel
theorem dX1_run_130 : decode cX1_run 130 = .ok (.getfield 15, 3) := by decide +kernel
theorem dX1_run_133 : decode cX1_run 133 = .ok (.iload 4, 2) := by decide +kernel
theorem dX1_run_135 : decode cX1_run 135 = .ok (.iconst 1, 1) := by decide +kernel
theorem dX1_run_136 : decode cX1_run 136 = .ok (.isub, 1) := by decide +kernel
theorem dX1_run_137 : decode cX1_run 137 = .ok (.laload, 1) := by decide +kernel
theorem dX1_run_138 : decode cX1_run 138 = .ok (.lneg, 1) := by decide +kernel
theorem dX1_run_139 : decode cX1_run 139 = .ok (.lastore, 1) := by decide +kernel
theorem dX1_run_140 : decode cX1_run 140 = .ok (.goto 48, 3) := by decide +kernel
theorem dX1_run_143 : decode cX1_run 143 = .ok (.iload 6, 2) := by decide +kernel
theorem dX1_run_145 : decode cX1_run 145 = .ok (.iconst 4, 1) := by decide +kernel
theorem dX1_run_146 : decode cX1_run 146 = .ok (.if_icmp .le 42, 3) := by decide +kernel
theorem dX1_run_149 : decode cX1_run 149 = .ok (.iload 4, 2) := by decide +kernel
theorem dX1_run_151 : decode cX1_run 151 = .ok (.iconst 2, 1) := by decide +kernel
theorem dX1_run_152 : decode cX1_run 152 = .ok (.if_icmp .lt 36, 3) := by decide +kernel
theorem dX1_run_155 : decode cX1_run 155 = .ok (.iinc 4 (-1), 3) := by decide +kernel
theorem dX1_run_158 : decode cX1_run 158 = .ok (.aload_n 0, 1) := by decide +kernel
theorem dX1_run_159 : decode cX1_run 159 = .ok (.getfield 15, 3) := by decide +kernel
theorem dX1_run_162 : decode cX1_run 162 = .ok (.iload 4, 2) := by decide +kernel
theorem dX1_run_164 : decode cX1_run 164 = .ok (.iconst 1, 1) := by decide +kernel
theorem dX1_run_165 : decode cX1_run 165 = .ok (.isub, 1) := by decide +kernel
theorem dX1_run_166 : decode cX1_run 166 = .ok (.iload 6, 2) := by decide +kernel
theorem dX1_run_168 : decode cX1_run 168 = .ok (.aload_n 0, 1) := by decide +kernel
theorem dX1_run_169 : decode cX1_run 169 = .ok (.getfield 15, 3) := by decide +kernel
theorem dX1_run_172 : decode cX1_run 172 = .ok (.iload 4, 2) := by decide +kernel
theorem dX1_run_174 : decode cX1_run 174 = .ok (.iconst 1, 1) := by decide +kernel
theorem dX1_run_175 : decode cX1_run 175 = .ok (.isub, 1) := by decide +kernel
theorem dX1_run_176 : decode cX1_run 176 = .ok (.laload, 1) := by decide +kernel
theorem dX1_run_177 : decode cX1_run 177 = .ok (.aload_n 0, 1) := by decide +kernel
theorem dX1_run_178 : decode cX1_run 178 = .ok (.getfield 15, 3) := by decide +kernel
theorem dX1_run_181 : decode cX1_run 181 = .ok (.iload 4, 2) := by decide +kernel
theorem dX1_run_183 : decode cX1_run 183 = .ok (.laload, 1) := by decide +kernel
theorem dX1_run_184 : decode cX1_run 184 = .ok (.invokestatic 63, 3) := by decide +kernel
theorem dX1_run_187 : decode cX1_run 187 = .ok (.lastore, 1) := by decide +kernel
theorem dX1_run_188 : decode cX1_run 188 = .ok (.iinc 5 1, 3) := by decide +kernel
theorem dX1_run_191 : decode cX1_run 191 = .ok (.goto (-185), 3) := by decide +kernel
theorem dX1_run_194 : decode cX1_run 194 = .ok (.aload_n 0, 1) := by decide +kernel
theorem dX1_run_195 : decode cX1_run 195 = .ok (.getfield 15, 3) := by decide +kernel
theorem dX1_run_198 : decode cX1_run 198 = .ok (.iconst 0, 1) := by decide +kernel
theorem dX1_run_199 : decode cX1_run 199 = .ok (.laload, 1) := by decide +kernel
theorem dX1_run_200 : decode cX1_run 200 = .ok (.lreturn, 1) := by decide +kernel
theorem dX1_ofTrait_0 : decode cX1_ofTrait 0 = .ok (.iload_n 0, 1) := by decide +kernel
theorem dX1_ofTrait_1 : decode cX1_ofTrait 1 = .ok (.iconst 1, 1) := by decide +kernel
theorem dX1_ofTrait_2 : decode cX1_ofTrait 2 = .ok (.if_icmp .ne 11, 3) := by decide +kernel
theorem dX1_ofTrait_5 : decode cX1_ofTrait 5 = .ok (.aload_n 2, 1) := by decide +kernel
theorem dX1_ofTrait_6 : decode cX1_ofTrait 6 = .ok (.iload_n 3, 1) := by decide +kernel
theorem dX1_ofTrait_7 : decode cX1_ofTrait 7 = .ok (.iload_n 1, 1) := by decide +kernel
theorem dX1_ofTrait_8 : decode cX1_ofTrait 8 = .ok (.invokevirtual 67, 3) := by decide +kernel
theorem dX1_ofTrait_11 : decode cX1_ofTrait 11 = .ok (.i2l, 1) := by decide +kernel
theorem dX1_ofTrait_12 : decode cX1_ofTrait 12 = .ok (.lreturn, 1) := by decide +kernel
theorem dX1_ofTrait_13 : decode cX1_ofTrait 13 = .ok (.iload_n 0, 1) := by decide +kernel
theorem dX1_ofTrait_14 : decode cX1_ofTrait 14 = .ok (.iconst 2, 1) := by decide +kernel
theorem dX1_ofTrait_15 : decode cX1_ofTrait 15 = .ok (.if_icmp .ne 15, 3) := by decide +kernel
theorem dX1_ofTrait_18 : decode cX1_ofTrait 18 = .ok (.aload_n 2, 1) := by decide +kernel
theorem dX1_ofTrait_19 : decode cX1_ofTrait 19 = .ok (.iload_n 3, 1) := by decide +kernel
theorem dX1_ofTrait_20 : decode cX1_ofTrait 20 = .ok (.iload_n 1, 1) := by decide +kernel
theorem dX1_ofTrait_21 : decode cX1_ofTrait 21 = .ok (.iload 4, 2) := by decide +kernel
theorem dX1_ofTrait_23 : decode cX1_ofTrait 23 = .ok (.invokevirtual 55, 3) := by decide +kernel
theorem dX1_ofTrait_26 : decode cX1_ofTrait 26 = .ok (.i2l, 1) := by decide +kernel
theorem dX1_ofTrait_27 : decode cX1_ofTrait 27 = .ok (.goto 10, 3) := by decide +kernel
theorem dX1_ofTrait_30 : decode cX1_ofTrait 30 = .ok (.aload_n 2, 1) := by decide +kernel
theorem dX1_ofTrait_31 : decode cX1_ofTrait 31 = .ok (.getfield 52, 3) := by decide +kernel
theorem dX1_ofTrait_34 : decode cX1_ofTrait 34 = .ok (.iload_n 1, 1) := by decide +kernel
theorem dX1_ofTrait_35 : decode cX1_ofTrait 35 = .ok (.iaload, 1) := by decide +kernel
theorem dX1_ofTrait_36 : decode cX1_ofTrait 36 = .ok (.i2l, 1) := by decide +kernel
theorem dX1_ofTrait_37 : decode cX1_ofTrait 37 = .ok (.lreturn, 1) := by decide +kernel
theorem dX1_joined_0 : decode cX1_joined 0 = .ok (.lload_n 1, 1) := by decide +kernel
theorem dX1_joined_1 : decode cX1_joined 1 = .ok (.lload_n 3, 1) := by decide +kernel
theorem dX1_joined_2 : decode cX1_joined 2 = .ok (.lmul, 1) := by decide +kernel
theorem dX1_joined_3 : decode cX1_joined 3 = .ok (.lstore 5, 2) := by decide +kernel
theorem dX1_joined_5 : decode cX1_joined 5 = .ok (.iload_n 0, 1) := by decide +kernel
theorem dX1_joined_6 : decode cX1_joined 6 = .ok (.iconst 5, 1) := by decide +kernel
theorem dX1_joined_7 : decode cX1_joined 7 = .ok (.if_icmp .ne 11, 3) := by decide +kernel
theorem dX1_joined_10 : decode cX1_joined 10 = .ok (.lload_n 1, 1) := by decide +kernel
theorem dX1_joined_11 : decode cX1_joined 11 = .ok (.lload_n 3, 1) := by decide +kernel
theorem dX1_joined_12 : decode cX1_joined 12 = .ok (.ladd, 1) := by decide +kernel
theorem dX1_joined_13 : decode cX1_joined 13 = .ok (.lstore 5, 2) := by decide +kernel
theorem dX1_joined_15 : decode cX1_joined 15 = .ok (.goto 14, 3) := by decide +kernel
theorem dX1_joined_18 : decode cX1_joined 18 = .ok (.iload_n 0, 1) := by decide +kernel
theorem dX1_joined_19 : decode cX1_joined 19 = .ok (.bipush 6, 2) := by decide +kernel
theorem dX1_joined_21 : decode cX1_joined 21 = .ok (.if_icmp .ne 8, 3) := by decide +kernel
theorem dX1_joined_24 : decode cX1_joined 24 = .ok (.lload_n 1, 1) := by decide +kernel
theorem dX1_joined_25 : decode cX1_joined 25 = .ok (.lload_n 3, 1) := by decide +kernel
theorem dX1_joined_26 : decode cX1_joined 26 = .ok (.lsub, 1) := by decide +kernel
theorem dX1_joined_27 : decode cX1_joined 27 = .ok (.lstore 5, 2) := by decide +kernel
theorem dX1_joined_29 : decode cX1_joined 29 = .ok (.ldc2_w 71, 3) := by decide +kernel
theorem dX1_joined_32 : decode cX1_joined 32 = .ok (.ldc2_w 73, 3) := by decide +kernel
theorem dX1_joined_35 : decode cX1_joined 35 = .ok (.lload 5, 2) := by decide +kernel
theorem dX1_joined_37 : decode cX1_joined 37 = .ok (.invokestatic 75, 3) := by decide +kernel
theorem dX1_joined_40 : decode cX1_joined 40 = .ok (.invokestatic 81, 3) := by decide +kernel
theorem dX1_joined_43 : decode cX1_joined 43 = .ok (.lreturn, 1) := by decide +kernel
theorem dX2_init_0 : decode cX2_init 0 = .ok (.aload_n 0, 1) := by decide +kernel
theorem dX2_init_1 : decode cX2_init 1 = .ok (.invokespecial 3, 3) := by decide +kernel
theorem dX2_init_4 : decode cX2_init 4 = .ok (.aload_n 0, 1) := by decide +kernel
theorem dX2_init_5 : decode cX2_init 5 = .ok (.iconst 0, 1) := by decide +kernel
theorem dX2_init_6 : decode cX2_init 6 = .ok (.putfield 9, 3) := by decide +kernel
theorem dX2_init_9 : decode cX2_init 9 = .ok (.aload_n 0, 1) := by decide +kernel
theorem dX2_init_10 : decode cX2_init 10 = .ok (.iconst 1, 1) := by decide +kernel
theorem dX2_init_11 : decode cX2_init 11 = .ok (.putfield 15, 3) := by decide +kernel
theorem dX2_init_14 : decode cX2_init 14 = .ok (.aload_n 0, 1) := by decide +kernel
theorem dX2_init_15 : decode cX2_init 15 = .ok (.iconst 0, 1) := by decide +kernel
theorem dX2_init_16 : decode cX2_init 16 = .ok (.putfield 18, 3) := by decide +kernel
theorem dX2_init_19 : decode cX2_init 19 = .ok (.aload_n 0, 1) := by decide +kernel
theorem dX2_init_20 : decode cX2_init 20 = .ok (.bipush 80, 2) := by decide +kernel
theorem dX2_init_22 : decode cX2_init 22 = .ok (.newarray .int, 2) := by decide +kernel
theorem dX2_init_24 : decode cX2_init 24 = .ok (.putfield 21, 3) := by decide +kernel
theorem dX2_init_27 : decode cX2_init 27 = .ok (.aload_n 0, 1) := by decide +kernel
theorem dX2_init_28 : decode cX2_init 28 = .ok (.iconst 5, 1) := by decide +kernel
theorem dX2_init_29 : decode cX2_init 29 = .ok (.newarray .int, 2) := by decide +kernel
theorem dX2_init_31 : decode cX2_init 31 = .ok (.putfield 25, 3) := by decide +kernel
theorem dX2_init_34 : decode cX2_init 34 = .ok (.aload_n 0, 1) := by decide +kernel
theorem dX2_init_35 : decode cX2_init 35 = .ok (.iconst 5, 1) := by decide +kernel
theorem dX2_init_36 : decode cX2_init 36 = .ok (.newarray .int, 2) := by decide +kernel
theorem dX2_init_38 : decode cX2_init 38 = .ok (.putfield 28, 3) := by decide +kernel
theorem dX2_init_41 : decode cX2_init 41 = .ok (.aload_n 0, 1) := by decide +kernel
theorem dX2_init_42 : decode cX2_init 42 = .ok (.iconst 4, 1) := by decide +kernel
theorem dX2_init_43 : decode cX2_init 43 = .ok (.newarray .int, 2) := by decide +kernel
theorem dX2_init_45 : decode cX2_init 45 = .ok (.putfield 31, 3) := by decide +kernel
theorem dX2_init_48 : decode cX2_init 48 = .ok (.aload_n 0, 1) := by decide +kernel
theorem dX2_init_49 : decode cX2_init 49 = .ok (.bipush 8, 2) := by decide +kernel
theorem dX2_init_51 : decode cX2_init 51 = .ok (.newarray .int, 2) := by decide +kernel
theorem dX2_init_53 : decode cX2_init 53 = .ok (.putfield 34, 3) := by decide +kernel
theorem dX2_init_56 : decode cX2_init 56 = .ok (.aload_n 0, 1) := by decide +kernel
theorem dX2_init_57 : decode cX2_init 57 = .ok (.bipush 16, 2) := by decide +kernel
theorem dX2_init_59 : decode cX2_init 59 = .ok (.newarray .int, 2) := by decide +kernel
theorem dX2_init_61 : decode cX2_init 61 = .ok (.putfield 37, 3) := by decide +kernel
theorem dX2_init_64 : decode cX2_init 64 = .ok (.aload_n 0, 1) := by decide +kernel
theorem dX2_init_65 : decode cX2_init 65 = .ok (.bipush 16, 2) := by decide +kernel
theorem dX2_init_67 : decode cX2_init 67 = .ok (.newarray .int, 2) := by decide +kernel
theorem dX2_init_69 : decode cX2_init 69 = .ok (.putfield 40, 3) := by decide +kernel
theorem dX2_init_72 : decode cX2_init 72 = .ok (.aload_n 0, 1) := by decide +kernel
theorem dX2_init_73 : decode cX2_init 73 = .ok (.bipush 16, 2) := by decide +kernel
theorem dX2_init_75 : decode cX2_init 75 = .ok (.newarray .int, 2) := by decide +kernel
theorem dX2_init_77 : decode cX2_init 77 = .ok (.putfield 43, 3) := by decide +kernel
theorem dX2_init_80 : decode cX2_init 80 = .ok (.aload_n 0, 1) := by decide +kernel
theorem dX2_init_81 : decode cX2_init 81 = .ok (.invokevirtual 46, 3) := by decide +kernel
theorem dX2_init_84 : decode cX2_init 84 = .ok (.return_, 1) := by decide +kernel
theorem dX2_clear_0 : decode cX2_clear 0 = .ok (.aload_n 0, 1) := by decide +kernel
theorem dX2_clear_1 : decode cX2_clear 1 = .ok (.iconst 0, 1) := by decide +kernel
theorem dX2_clear_2 : decode cX2_clear 2 = .ok (.putfield 9, 3) := by decide +kernel
theorem dX2_clear_5 : decode cX2_clear 5 = .ok (.aload_n 0, 1) := by decide +kernel
theorem dX2_clear_6 : decode cX2_clear 6 = .ok (.iconst 1, 1) := by decide +kernel
theorem dX2_clear_7 : decode cX2_clear 7 = .ok (.putfield 15, 3) := by decide +kernel
theorem dX2_clear_10 : decode cX2_clear 10 = .ok (.aload_n 0, 1) := by decide +kernel
theorem dX2_clear_11 : decode cX2_clear 11 = .ok (.iconst 0, 1) := by decide +kernel
theorem dX2_clear_12 : decode cX2_clear 12 = .ok (.putfield 18, 3) := by decide +kernel
theorem dX2_clear_15 : decode cX2_clear 15 = .ok (.iconst 0, 1) := by decide +kernel
theorem dX2_clear_16 : decode cX2_clear 16 = .ok (.istore_n 1, 1) := by decide +kernel
theorem dX2_clear_17 : decode cX2_clear 17 = .ok (.iload_n 1, 1) := by decide +kernel
theorem dX2_clear_18 : decode cX2_clear 18 = .ok (.iconst 5, 1) := by decide +kernel
theorem dX2_clear_19 : decode cX2_clear 19 = .ok (.if_icmp .ge 23, 3) := by decide +kernel
theorem dX2_clear_22 : decode cX2_clear 22 = .ok (.aload_n 0, 1) := by decide +kernel
theorem dX2_clear_23 : decode cX2_clear 23 = .ok (.getfield 25, 3) := by decide +kernel
theorem dX2_clear_26 : decode cX2_clear 26 = .ok (.iload_n 1, 1) := by decide +kernel
theorem dX2_clear_27 : decode cX2_clear 27 = .ok (.iconst (-1), 1) := by decide +kernel
theorem dX2_clear_28 : decode cX2_clear 28 = .ok (.iastore, 1) := by decide +kernel
theorem dX2_clear_29 : decode cX2_clear 29 = .ok (.aload_n 0, 1) := by decide +kernel
theorem dX2_clear_30 : decode cX2_clear 30 = .ok (.getfield 28, 3) := by decide +kernel
theorem dX2_clear_33 : decode cX2_clear 33 = .ok (.iload_n 1, 1) := by decide +kernel
theorem dX2_clear_34 : decode cX2_clear 34 = .ok (.iconst 0, 1) := by decide +kernel
theorem dX2_clear_35 : decode cX2_clear 35 = .ok (.iastore, 1) := by decide +kernel
theorem dX2_clear_36 : decode cX2_clear 36 = .ok (.iinc 1 1, 3) := by decide +kernel
theorem dX2_clear_39 : decode cX2_clear 39 = .ok (.goto (-22), 3) := by decide +kernel
theorem dX2_clear_42 : decode cX2_clear 42 = .ok (.iconst 0, 1) := by decide +kernel
theorem dX2_clear_43 : decode cX2_clear 43 = .ok (.istore_n 1, 1) := by decide +kernel
theorem dX2_clear_44 : decode cX2_clear 44 = .ok (.iload_n 1, 1) := by decide +kernel
theorem dX2_clear_45 : decode cX2_clear 45 = .ok (.iconst 4, 1) := by decide +kernel
theorem dX2_clear_46 : decode cX2_clear 46 = .ok (.if_icmp .ge 20, 3) := by decide +kernel
theorem dX2_clear_49 : decode cX2_clear 49 = .ok (.aload_n 0, 1) := by decide +kernel
theorem dX2_clear_50 : decode cX2_clear 50 = .ok (.getfield 31, 3) := by decide +kernel
theorem dX2_clear_53 : decode cX2_clear 53 = .ok (.iload_n 1, 1) := by decide +kernel
theorem dX2_clear_54 : decode cX2_clear 54 = .ok (.getstatic 49, 3) := by decide +kernel
theorem dX2_clear_57 : decode cX2_clear 57 = .ok (.iload_n 1, 1) := by decide +kernel
theorem dX2_clear_58 : decode cX2_clear 58 = .ok (.iaload, 1) := by decide +kernel
theorem dX2_clear_59 : decode cX2_clear 59 = .ok (.iastore, 1) := by decide +kernel
theorem dX2_clear_60 : decode cX2_clear 60 = .ok (.iinc 1 1, 3) := by decide +kernel
theorem dX2_clear_63 : decode cX2_clear 63 = .ok (.goto (-19), 3) := by decide +kernel
theorem dX2_clear_66 : decode cX2_clear 66 = .ok (.iconst 0, 1) := by decide +kernel
theorem dX2_clear_67 : decode cX2_clear 67 = .ok (.istore_n 1, 1) := by decide +kernel
theorem dX2_clear_68 : decode cX2_clear 68 = .ok (.iload_n 1, 1) := by decide +kernel
theorem dX2_clear_69 : decode cX2_clear 69 = .ok (.bipush 16, 2) := by decide +kernel
theorem dX2_clear_71 : decode cX2_clear 71 = .ok (.if_icmp .ge 16, 3) := by decide +kernel
theorem dX2_clear_74 : decode cX2_clear 74 = .ok (.aload_n 0, 1) := by decide +kernel
theorem dX2_clear_75 : decode cX2_clear 75 = .ok (.getfield 37, 3) := by decide +kernel
theorem dX2_clear_78 : decode cX2_clear 78 = .ok (.iload_n 1, 1) := by decide +kernel
theorem dX2_clear_79 : decode cX2_clear 79 = .ok (.iconst 0, 1) := by decide +kernel
theorem dX2_clear_80 : decode cX2_clear 80 = .ok (.iastore, 1) := by decide +kernel
theorem dX2_clear_81 : decode cX2_clear 81 = .ok (.iinc 1 1, 3) := by decide +kernel
theorem dX2_clear_84 : decode cX2_clear 84 = .ok (.goto (-16), 3) := by decide +kernel
theorem dX2_clear_87 : decode cX2_clear 87 = .ok (.return_, 1) := by decide +kernel
theorem dX2_copyFrom_0 : decode cX2_copyFrom 0 = .ok (.aload_n 0, 1) := by decide +kernel
theorem dX2_copyFrom_1 : decode cX2_copyFrom 1 = .ok (.aload_n 1, 1) := by decide +kernel
theorem dX2_copyFrom_2 : decode cX2_copyFrom 2 = .ok (.getfield 9, 3) := by decide +kernel
theorem dX2_copyFrom_5 : decode cX2_copyFrom 5 = .ok (.putfield 9, 3) := by decide +kernel
theorem dX2_copyFrom_8 : decode cX2_copyFrom 8 = .ok (.aload_n 0, 1) := by decide +kernel
theorem dX2_copyFrom_9 : decode cX2_copyFrom 9 = .ok (.aload_n 1, 1) := by decide +kernel
theorem dX2_copyFrom_10 : decode cX2_copyFrom 10 = .ok (.getfield 15, 3) := by decide +kernel
theorem dX2_copyFrom_13 : decode cX2_copyFrom 13 = .ok (.putfield 15, 3) := by decide +kernel
theorem dX2_copyFrom_16 : decode cX2_copyFrom 16 = .ok (.aload_n 0, 1) := by decide +kernel
theorem dX2_copyFrom_17 : decode cX2_copyFrom 17 = .ok (.aload_n 1, 1) := by decide +kernel
theorem dX2_copyFrom_18 : decode cX2_copyFrom 18 = .ok (.getfield 18, 3) := by decide +kernel
theorem dX2_copyFrom_21 : decode cX2_copyFrom 21 = .ok (.putfield 18, 3) := by decide +kernel
theorem dX2_copyFrom_24 : decode cX2_copyFrom 24 = .ok (.aload_n 1, 1) := by decide +kernel
theorem dX2_copyFrom_25 : decode cX2_copyFrom 25 = .ok (.getfield 21, 3) := by decide +kernel
theorem dX2_copyFrom_28 : decode cX2_copyFrom 28 = .ok (.iconst 0, 1) := by decide +kernel
theorem dX2_copyFrom_29 : decode cX2_copyFrom 29 = .ok (.aload_n 0, 1) := by decide +kernel
theorem dX2_copyFrom_30 : decode cX2_copyFrom 30 = .ok (.getfield 21, 3) := by decide +kernel
theorem dX2_copyFrom_33 : decode cX2_copyFrom 33 = .ok (.iconst 0, 1) := by decide +kernel
theorem dX2_copyFrom_34 : decode cX2_copyFrom 34 = .ok (.bipush 80, 2) := by decide +kernel
theorem dX2_copyFrom_36 : decode cX2_copyFrom 36 = .ok (.invokestatic 52, 3) := by decide +kernel
theorem dX2_copyFrom_39 : decode cX2_copyFrom 39 = .ok (.aload_n 1, 1) := by decide +kernel
theorem dX2_copyFrom_40 : decode cX2_copyFrom 40 = .ok (.getfield 25, 3) := by decide +kernel
theorem dX2_copyFrom_43 : decode cX2_copyFrom 43 = .ok (.iconst 0, 1) := by decide +kernel
theorem dX2_copyFrom_44 : decode cX2_copyFrom 44 = .ok (.aload_n 0, 1) := by decide +kernel
theorem dX2_copyFrom_45 : decode cX2_copyFrom 45 = .ok (.getfield 25, 3) := by decide +kernel
theorem dX2_copyFrom_48 : decode cX2_copyFrom 48 = .ok (.iconst 0, 1) := by decide +kernel
theorem dX2_copyFrom_49 : decode cX2_copyFrom 49 = .ok (.iconst 5, 1) := by decide +kernel
theorem dX2_copyFrom_50 : decode cX2_copyFrom 50 = .ok (.invokestatic 52, 3) := by decide +kernel
theorem dX2_copyFrom_53 : decode cX2_copyFrom 53 = .ok (.aload_n 1, 1) := by decide +kernel
theorem dX2_copyFrom_54 : decode cX2_copyFrom 54 = .ok (.getfield 28, 3) := by decide +kernel
theorem dX2_copyFrom_57 : decode cX2_copyFrom 57 = .ok (.iconst 0, 1) := by decide +kernel
theorem dX2_copyFrom_58 : decode cX2_copyFrom 58 = .ok (.aload_n 0, 1) := by decide +kernel
theorem dX2_copyFrom_59 : decode cX2_copyFrom 59 = .ok (.getfield 28, 3) := by decide +kernel
theorem dX2_copyFrom_62 : decode cX2_copyFrom 62 = .ok (.iconst 0, 1) := by decide +kernel
theorem dX2_copyFrom_63 : decode cX2_copyFrom 63 = .ok (.iconst 5, 1) := by decide +kernel
theorem dX2_copyFrom_64 : decode cX2_copyFrom 64 = .ok (.invokestatic 52, 3) := by decide +kernel
theorem dX2_copyFrom_67 : decode cX2_copyFrom 67 = .ok (.aload_n 1, 1) := by decide +kernel
theorem dX2_copyFrom_68 : decode cX2_copyFrom 68 = .ok (.getfield 31, 3) := by decide +kernel
theorem dX2_copyFrom_71 : decode cX2_copyFrom 71 = .ok (.iconst 0, 1) := by decide +kernel
theorem dX2_copyFrom_72 : decode cX2_copyFrom 72 = .ok (.aload_n 0, 1) := by decide +kernel
theorem dX2_copyFrom_73 : decode cX2_copyFrom 73 = .ok (.getfield 31, 3) := by decide +kernel
theorem dX2_copyFrom_76 : decode cX2_copyFrom 76 = .ok (.iconst 0, 1) := by decide +kernel
theorem dX2_copyFrom_77 : decode cX2_copyFrom 77 = .ok (.iconst 4, 1) := by decide +kernel
theorem dX2_copyFrom_78 : decode cX2_copyFrom 78 = .ok (.invokestatic 52, 3) := by decide +kernel
theorem dX2_copyFrom_81 : decode cX2_copyFrom 81 = .ok (.aload_n 1, 1) := by decide +kernel
theorem dX2_copyFrom_82 : decode cX2_copyFrom 82 = .ok (.getfield 34, 3) := by decide +kernel
theorem dX2_copyFrom_85 : decode cX2_copyFrom 85 = .ok (.iconst 0, 1) := by decide +kernel
theorem dX2_copyFrom_86 : decode cX2_copyFrom 86 = .ok (.aload_n 0, 1) := by decide +kernel
theorem dX2_copyFrom_87 : decode cX2_copyFrom 87 = .ok (.getfield 34, 3) := by decide +kernel
theorem dX2_copyFrom_90 : decode cX2_copyFrom 90 = .ok (.iconst 0, 1) := by decide +kernel
theorem dX2_copyFrom_91 : decode cX2_copyFrom 91 = .ok (.bipush 8, 2) := by decide +kernel
theorem dX2_copyFrom_93 : decode cX2_copyFrom 93 = .ok (.invokestatic 52, 3) := by decide +kernel
theorem dX2_copyFrom_96 : decode cX2_copyFrom 96 = .ok (.aload_n 1, 1) := by decide +kernel
theorem dX2_copyFrom_97 : decode cX2_copyFrom 97 = .ok (.getfield 37, 3) := by decide +kernel
theorem dX2_copyFrom_100 : decode cX2_copyFrom 100 = .ok (.iconst 0, 1) := by decide +kernel
theorem dX2_copyFrom_101 : decode cX2_copyFrom 101 = .ok (.aload_n 0, 1) := by decide +kernel
theorem dX2_copyFrom_102 : decode cX2_copyFrom 102 = .ok (.getfield 37, 3) := by decide +kernel
theorem dX2_copyFrom_105 : decode cX2_copyFrom 105 = .ok (.iconst 0, 1) := by decide +kernel
theorem dX2_copyFrom_106 : decode cX2_copyFrom 106 = .ok (.bipush 16, 2) := by decide +kernel
theorem dX2_copyFrom_108 : decode cX2_copyFrom 108 = .ok (.invokestatic 52, 3) := by decide +kernel
theorem dX2_copyFrom_111 : decode cX2_copyFrom 111 = .ok (.aload_n 1, 1) := by decide +kernel
theorem dX2_copyFrom_112 : decode cX2_copyFrom 112 = .ok (.getfield 40, 3) := by decide +kernel
theorem dX2_copyFrom_115 : decode cX2_copyFrom 115 = .ok (.iconst 0, 1) := by decide +kernel
theorem dX2_copyFrom_116 : decode cX2_copyFrom 116 = .ok (.aload_n 0, 1) := by decide +kernel
theorem dX2_copyFrom_117 : decode cX2_copyFrom 117 = .ok (.getfield 40, 3) := by decide +kernel
theorem dX2_copyFrom_120 : decode cX2_copyFrom 120 = .ok (.iconst 0, 1) := by decide +kernel
theorem dX2_copyFrom_121 : decode cX2_copyFrom 121 = .ok (.bipush 16, 2) := by decide +kernel
theorem dX2_copyFrom_123 : decode cX2_copyFrom 123 = .ok (.invokestatic 52, 3) := by decide +kernel
theorem dX2_copyFrom_126 : decode cX2_copyFrom 126 = .ok (.aload_n 1, 1) := by decide +kernel
theorem dX2_copyFrom_127 : decode cX2_copyFrom 127 = .ok (.getfield 43, 3) := by decide +kernel
theorem dX2_copyFrom_130 : decode cX2_copyFrom 130 = .ok (.iconst 0, 1) := by decide +kernel
theorem dX2_copyFrom_131 : decode cX2_copyFrom 131 = .ok (.aload_n 0, 1) := by decide +kernel
theorem dX2_copyFrom_132 : decode cX2_copyFrom 132 = .ok (.getfield 43, 3) := by decide +kernel
theorem dX2_copyFrom_135 : decode cX2_copyFrom 135 = .ok (.iconst 0, 1) := by decide +kernel
theorem dX2_copyFrom_136 : decode cX2_copyFrom 136 = .ok (.bipush 16, 2) := by decide +kernel
theorem dX2_copyFrom_138 : decode cX2_copyFrom 138 = .ok (.invokestatic 52, 3) := by decide +kernel
theorem dX2_copyFrom_141 : decode cX2_copyFrom 141 = .ok (.return_, 1) := by decide +kernel
theorem dX2_valueOf_0 : decode cX2_valueOf 0 = .ok (.aload_n 0, 1) := by decide +kernel
theorem dX2_valueOf_1 : decode cX2_valueOf 1 = .ok (.getfield 21, 3) := by decide +kernel
theorem dX2_valueOf_4 : decode cX2_valueOf 4 = .ok (.iload_n 1, 1) := by decide +kernel
theorem dX2_valueOf_5 : decode cX2_valueOf 5 = .ok (.iconst 5, 1) := by decide +kernel
theorem dX2_valueOf_6 : decode cX2_valueOf 6 = .ok (.imul, 1) := by decide +kernel
theorem dX2_valueOf_7 : decode cX2_valueOf 7 = .ok (.iload_n 2, 1) := by decide +kernel
theorem dX2_valueOf_8 : decode cX2_valueOf 8 = .ok (.iadd, 1) := by decide +kernel
theorem dX2_valueOf_9 : decode cX2_valueOf 9 = .ok (.iaload, 1) := by decide +kernel
theorem dX2_valueOf_10 : decode cX2_valueOf 10 = .ok (.ireturn, 1) := by decide +kernel
theorem dX2_setValue_0 : decode cX2_setValue 0 = .ok (.aload_n 0, 1) := by decide +kernel
theorem dX2_setValue_1 : decode cX2_setValue 1 = .ok (.getfield 21, 3) := by decide +kernel
theorem dX2_setValue_4 : decode cX2_setValue 4 = .ok (.iload_n 1, 1) := by decide +kernel
theorem dX2_setValue_5 : decode cX2_setValue 5 = .ok (.iconst 5, 1) := by decide +kernel
theorem dX2_setValue_6 : decode cX2_setValue 6 = .ok (.imul, 1) := by decide +kernel
theorem dX2_setValue_7 : decode cX2_setValue 7 = .ok (.iload_n 2, 1) := by decide +kernel
theorem dX2_setValue_8 : decode cX2_setValue 8 = .ok (.iadd, 1) := by decide +kernel
theorem dX2_setValue_9 : decode cX2_setValue 9 = .ok (.iload_n 3, 1) := by decide +kernel
theorem dX2_setValue_10 : decode cX2_setValue 10 = .ok (.iastore, 1) := by decide +kernel
theorem dX2_setValue_11 : decode cX2_setValue 11 = .ok (.return_, 1) := by decide +kernel
theorem dX2_matchOf_0 : decode cX2_matchOf 0 = .ok (.iload_n 2, 1) := by decide +kernel
theorem dX2_matchOf_1 : decode cX2_matchOf 1 = .ok (.ifCond .eq 12, 3) := by decide +kernel
theorem dX2_matchOf_4 : decode cX2_matchOf 4 = .ok (.aload_n 0, 1) := by decide +kernel
theorem dX2_matchOf_5 : decode cX2_matchOf 5 = .ok (.getfield 43, 3) := by decide +kernel
theorem dX2_matchOf_8 : decode cX2_matchOf 8 = .ok (.iload_n 1, 1) := by decide +kernel
theorem dX2_matchOf_9 : decode cX2_matchOf 9 = .ok (.iaload, 1) := by decide +kernel
theorem dX2_matchOf_10 : decode cX2_matchOf 10 = .ok (.goto 9, 3) := by decide +kernel
theorem dX2_matchOf_13 : decode cX2_matchOf 13 = .ok (.aload_n 0, 1) := by decide +kernel
theorem dX2_matchOf_14 : decode cX2_matchOf 14 = .ok (.getfield 40, 3) := by decide +kernel
theorem dX2_matchOf_17 : decode cX2_matchOf 17 = .ok (.iload_n 1, 1) := by decide +kernel
theorem dX2_matchOf_18 : decode cX2_matchOf 18 = .ok (.iaload, 1) := by decide +kernel
theorem dX2_matchOf_19 : decode cX2_matchOf 19 = .ok (.ireturn, 1) := by decide +kernel
theorem dX2_differenceOf_0 : decode cX2_differenceOf 0 = .ok (.aload_n 0, 1) := by decide +kernel
theorem dX2_differenceOf_1 : decode cX2_differenceOf 1 = .ok (.getfield 28, 3) := by decide +kernel
theorem dX2_differenceOf_4 : decode cX2_differenceOf 4 = .ok (.iload_n 2, 1) := by decide +kernel
theorem dX2_differenceOf_5 : decode cX2_differenceOf 5 = .ok (.iaload, 1) := by decide +kernel
theorem dX2_differenceOf_6 : decode cX2_differenceOf 6 = .ok (.ifCond .ne 5, 3) := by decide +kernel
theorem dX2_differenceOf_9 : decode cX2_differenceOf 9 = .ok (.iconst 0, 1) := by decide +kernel
theorem dX2_differenceOf_10 : decode cX2_differenceOf 10 = .ok (.ireturn, 1) := by decide +kernel
theorem dX2_differenceOf_11 : decode cX2_differenceOf 11 = .ok (.iload_n 3, 1) := by decide +kernel
theorem dX2_differenceOf_12 : decode cX2_differenceOf 12 = .ok (.ifCond .eq 14, 3) := by decide +kernel
theorem dX2_differenceOf_15 : decode cX2_differenceOf 15 = .ok (.aload_n 0, 1) := by decide +kernel
theorem dX2_differenceOf_16 : decode cX2_differenceOf 16 = .ok (.getfield 21, 3) := by decide +kernel
theorem dX2_differenceOf_19 : decode cX2_differenceOf 19 = .ok (.iconst 0, 1) := by decide +kernel
theorem dX2_differenceOf_20 : decode cX2_differenceOf 20 = .ok (.iload_n 2, 1) := by decide +kernel
theorem dX2_differenceOf_21 : decode cX2_differenceOf 21 = .ok (.iadd, 1) := by decide +kernel
theorem dX2_differenceOf_22 : decode cX2_differenceOf 22 = .ok (.iaload, 1) := by decide +kernel
theorem dX2_differenceOf_23 : decode cX2_differenceOf 23 = .ok (.goto 9, 3) := by decide +kernel
theorem dX2_differenceOf_26 : decode cX2_differenceOf 26 = .ok (.aload_n 0, 1) := by decide +kernel
theorem dX2_differenceOf_27 : decode cX2_differenceOf 27 = .ok (.getfield 25, 3) := by decide +kernel
theorem dX2_differenceOf_30 : decode cX2_differenceOf 30 = .ok (.iload_n 2, 1) := by decide +kernel
theorem dX2_differenceOf_31 : decode cX2_differenceOf 31 = .ok (.iaload, 1) := by decide +kernel
theorem dX2_differenceOf_32 : decode cX2_differenceOf 32 = .ok (.istore 4, 2) := by decide +kernel
theorem dX2_differenceOf_34 : decode cX2_differenceOf 34 = .ok (.aload_n 0, 1) := by decide +kernel
theorem dX2_differenceOf_35 : decode cX2_differenceOf 35 = .ok (.getfield 21, 3) := by decide +kernel
theorem dX2_differenceOf_38 : decode cX2_differenceOf 38 = .ok (.iload_n 1, 1) := by decide +kernel
theorem dX2_differenceOf_39 : decode cX2_differenceOf 39 = .ok (.iconst 5, 1) := by decide +kernel
theorem dX2_differenceOf_40 : decode cX2_differenceOf 40 = .ok (.imul, 1) := by decide +kernel
theorem dX2_differenceOf_41 : decode cX2_differenceOf 41 = .ok (.iload_n 2, 1) := by decide +kernel
theorem dX2_differenceOf_42 : decode cX2_differenceOf 42 = .ok (.iadd, 1) := by decide +kernel
theorem dX2_differenceOf_43 : decode cX2_differenceOf 43 = .ok (.iaload, 1) := by decide +kernel
theorem dX2_differenceOf_44 : decode cX2_differenceOf 44 = .ok (.iload 4, 2) := by decide +kernel
theorem dX2_differenceOf_46 : decode cX2_differenceOf 46 = .ok (.isub, 1) := by decide +kernel
theorem dX2_differenceOf_47 : decode cX2_differenceOf 47 = .ok (.invokestatic 58, 3) := by decide +kernel
theorem dX2_differenceOf_50 : decode cX2_differenceOf 50 = .ok (.ireturn, 1) := by decide +kernel
theorem dX2_showFirst_0 : decode cX2_showFirst 0 = .ok (.aload_n 0, 1) := by decide +kernel
theorem dX2_showFirst_1 : decode cX2_showFirst 1 = .ok (.aload_n 0, 1) := by decide +kernel
theorem dX2_showFirst_2 : decode cX2_showFirst 2 = .ok (.getfield 15, 3) := by decide +kernel
theorem dX2_showFirst_5 : decode cX2_showFirst 5 = .ok (.bipush 8, 2) := by decide +kernel
theorem dX2_showFirst_7 : decode cX2_showFirst 7 = .ok (.invokestatic 64, 3) := by decide +kernel
theorem dX2_showFirst_10 : decode cX2_showFirst 10 = .ok (.putfield 18, 3) := by decide +kernel
theorem dX2_showFirst_13 : decode cX2_showFirst 13 = .ok (.iconst 0, 1) := by decide +kernel
theorem dX2_showFirst_14 : decode cX2_showFirst 14 = .ok (.istore_n 1, 1) := by decide +kernel
theorem dX2_showFirst_15 : decode cX2_showFirst 15 = .ok (.iload_n 1, 1) := by decide +kernel
theorem dX2_showFirst_16 : decode cX2_showFirst 16 = .ok (.aload_n 0, 1) := by decide +kernel
theorem dX2_showFirst_17 : decode cX2_showFirst 17 = .ok (.getfield 18, 3) := by decide +kernel
theorem dX2_showFirst_20 : decode cX2_showFirst 20 = .ok (.if_icmp .ge 16, 3) := by decide +kernel
theorem dX2_showFirst_23 : decode cX2_showFirst 23 = .ok (.aload_n 0, 1) := by decide +kernel
theorem dX2_showFirst_24 : decode cX2_showFirst 24 = .ok (.getfield 34, 3) := by decide +kernel
theorem dX2_showFirst_27 : decode cX2_showFirst 27 = .ok (.iload_n 1, 1) := by decide +kernel
theorem dX2_showFirst_28 : decode cX2_showFirst 28 = .ok (.iload_n 1, 1) := by decide +kernel
theorem dX2_showFirst_29 : decode cX2_showFirst 29 = .ok (.iastore, 1) := by decide +kernel
theorem dX2_showFirst_30 : decode cX2_showFirst 30 = .ok (.iinc 1 1, 3) := by decide +kernel
theorem dX2_showFirst_33 : decode cX2_showFirst 33 = .ok (.goto (-18), 3) := by decide +kernel
theorem dX2_showFirst_36 : decode cX2_showFirst 36 = .ok (.return_, 1) := by decide +kernel
theorem dX2_placeOf_0 : decode cX2_placeOf 0 = .ok (.iconst 0, 1) := by decide +kernel
theorem dX2_placeOf_1 : decode cX2_placeOf 1 = .ok (.istore_n 2, 1) := by decide +kernel
theorem dX2_placeOf_2 : decode cX2_placeOf 2 = .ok (.iload_n 2, 1) := by decide +kernel
theorem dX2_placeOf_3 : decode cX2_placeOf 3 = .ok (.aload_n 0, 1) := by decide +kernel
theorem dX2_placeOf_4 : decode cX2_placeOf 4 = .ok (.getfield 18, 3) := by decide +kernel
theorem dX2_placeOf_7 : decode cX2_placeOf 7 = .ok (.if_icmp .ge 21, 3) := by decide +kernel
theorem dX2_placeOf_10 : decode cX2_placeOf 10 = .ok (.aload_n 0, 1) := by decide +kernel
theorem dX2_placeOf_11 : decode cX2_placeOf 11 = .ok (.getfield 34, 3) := by decide +kernel
theorem dX2_placeOf_14 : decode cX2_placeOf 14 = .ok (.iload_n 2, 1) := by decide +kernel
theorem dX2_placeOf_15 : decode cX2_placeOf 15 = .ok (.iaload, 1) := by decide +kernel
theorem dX2_placeOf_16 : decode cX2_placeOf 16 = .ok (.iload_n 1, 1) := by decide +kernel
theorem dX2_placeOf_17 : decode cX2_placeOf 17 = .ok (.if_icmp .ne 5, 3) := by decide +kernel
theorem dX2_placeOf_20 : decode cX2_placeOf 20 = .ok (.iload_n 2, 1) := by decide +kernel
theorem dX2_placeOf_21 : decode cX2_placeOf 21 = .ok (.ireturn, 1) := by decide +kernel
theorem dX2_placeOf_22 : decode cX2_placeOf 22 = .ok (.iinc 2 1, 3) := by decide +kernel
theorem dX2_placeOf_25 : decode cX2_placeOf 25 = .ok (.goto (-23), 3) := by decide +kernel
theorem dX2_placeOf_28 : decode cX2_placeOf 28 = .ok (.iconst (-1), 1) := by decide +kernel
theorem dX2_placeOf_29 : decode cX2_placeOf 29 = .ok (.ireturn, 1) := by decide +kernel
theorem dX2_showLast_0 : decode cX2_showLast 0 = .ok (.aload_n 0, 1) := by decide +kernel
theorem dX2_showLast_1 : decode cX2_showLast 1 = .ok (.getfield 18, 3) := by decide +kernel
theorem dX2_showLast_4 : decode cX2_showLast 4 = .ok (.bipush 8, 2) := by decide +kernel
theorem dX2_showLast_6 : decode cX2_showLast 6 = .ok (.if_icmp .ge 23, 3) := by decide +kernel
theorem dX2_showLast_9 : decode cX2_showLast 9 = .ok (.aload_n 0, 1) := by decide +kernel
theorem dX2_showLast_10 : decode cX2_showLast 10 = .ok (.getfield 34, 3) := by decide +kernel
theorem dX2_showLast_13 : decode cX2_showLast 13 = .ok (.aload_n 0, 1) := by decide +kernel
theorem dX2_showLast_14 : decode cX2_showLast 14 = .ok (.getfield 18, 3) := by decide +kernel
theorem dX2_showLast_17 : decode cX2_showLast 17 = .ok (.iload_n 1, 1) := by decide +kernel
theorem dX2_showLast_18 : decode cX2_showLast 18 = .ok (.iastore, 1) := by decide +kernel
theorem dX2_showLast_19 : decode cX2_showLast 19 = .ok (.aload_n 0, 1) := by decide +kernel
theorem dX2_showLast_20 : decode cX2_showLast 20 = .ok (.dup, 1) := by decide +kernel
theorem dX2_showLast_21 : decode cX2_showLast 21 = .ok (.getfield 18, 3) := by decide +kernel
theorem dX2_showLast_24 : decode cX2_showLast 24 = .ok (.iconst 1, 1) := by decide +kernel
theorem dX2_showLast_25 : decode cX2_showLast 25 = .ok (.iadd, 1) := by decide +kernel
theorem dX2_showLast_26 : decode cX2_showLast 26 = .ok (.putfield 18, 3) := by decide +kernel
theorem dX2_showLast_29 : decode cX2_showLast 29 = .ok (.return_, 1) := by decide +kernel
theorem dX2_hideAt_0 : decode cX2_hideAt 0 = .ok (.iload_n 1, 1) := by decide +kernel
theorem dX2_hideAt_1 : decode cX2_hideAt 1 = .ok (.iconst 1, 1) := by decide +kernel
theorem dX2_hideAt_2 : decode cX2_hideAt 2 = .ok (.iadd, 1) := by decide +kernel
theorem dX2_hideAt_3 : decode cX2_hideAt 3 = .ok (.istore_n 2, 1) := by decide +kernel
theorem dX2_hideAt_4 : decode cX2_hideAt 4 = .ok (.iload_n 2, 1) := by decide +kernel
theorem dX2_hideAt_5 : decode cX2_hideAt 5 = .ok (.aload_n 0, 1) := by decide +kernel
theorem dX2_hideAt_6 : decode cX2_hideAt 6 = .ok (.getfield 18, 3) := by decide +kernel
theorem dX2_hideAt_9 : decode cX2_hideAt 9 = .ok (.if_icmp .ge 23, 3) := by decide +kernel
theorem dX2_hideAt_12 : decode cX2_hideAt 12 = .ok (.aload_n 0, 1) := by decide +kernel
theorem dX2_hideAt_13 : decode cX2_hideAt 13 = .ok (.getfield 34, 3) := by decide +kernel
theorem dX2_hideAt_16 : decode cX2_hideAt 16 = .ok (.iload_n 2, 1) := by decide +kernel
theorem dX2_hideAt_17 : decode cX2_hideAt 17 = .ok (.iconst 1, 1) := by decide +kernel
theorem dX2_hideAt_18 : decode cX2_hideAt 18 = .ok (.isub, 1) := by decide +kernel
theorem dX2_hideAt_19 : decode cX2_hideAt 19 = .ok (.aload_n 0, 1) := by decide +kernel
theorem dX2_hideAt_20 : decode cX2_hideAt 20 = .ok (.getfield 34, 3) := by decide +kernel
theorem dX2_hideAt_23 : decode cX2_hideAt 23 = .ok (.iload_n 2, 1) := by decide +kernel
theorem dX2_hideAt_24 : decode cX2_hideAt 24 = .ok (.iaload, 1) := by decide +kernel
theorem dX2_hideAt_25 : decode cX2_hideAt 25 = .ok (.iastore, 1) := by decide +kernel
theorem dX2_hideAt_26 : decode cX2_hideAt 26 = .ok (.iinc 2 1, 3) := by decide +kernel
theorem dX2_hideAt_29 : decode cX2_hideAt 29 = .ok (.goto (-25), 3) := by decide +kernel
theorem dX2_hideAt_32 : decode cX2_hideAt 32 = .ok (.aload_n 0, 1) := by decide +kernel
theorem dX2_hideAt_33 : decode cX2_hideAt 33 = .ok (.dup, 1) := by decide +kernel
theorem dX2_hideAt_34 : decode cX2_hideAt 34 = .ok (.getfield 18, 3) := by decide +kernel
theorem dX2_hideAt_37 : decode cX2_hideAt 37 = .ok (.iconst 1, 1) := by decide +kernel
theorem dX2_hideAt_38 : decode cX2_hideAt 38 = .ok (.isub, 1) := by decide +kernel
theorem dX2_hideAt_39 : decode cX2_hideAt 39 = .ok (.putfield 18, 3) := by decide +kernel
theorem dX2_hideAt_42 : decode cX2_hideAt 42 = .ok (.return_, 1) := by decide +kernel
theorem dX2_allMockPicks_0 : decode cX2_allMockPicks 0 = .ok (.iconst 0, 1) := by decide +kernel
theorem dX2_allMockPicks_1 : decode cX2_allMockPicks 1 = .ok (.istore_n 1, 1) := by decide +kernel
theorem dX2_allMockPicks_2 : decode cX2_allMockPicks 2 = .ok (.iconst 0, 1) := by decide +kernel
theorem dX2_allMockPicks_3 : decode cX2_allMockPicks 3 = .ok (.istore_n 2, 1) := by decide +kernel
theorem dX2_allMockPicks_4 : decode cX2_allMockPicks 4 = .ok (.iload_n 2, 1) := by decide +kernel
theorem dX2_allMockPicks_5 : decode cX2_allMockPicks 5 = .ok (.aload_n 0, 1) := by decide +kernel
theorem dX2_allMockPicks_6 : decode cX2_allMockPicks 6 = .ok (.getfield 15, 3) := by decide +kernel
theorem dX2_allMockPicks_9 : decode cX2_allMockPicks 9 = .ok (.if_icmp .ge 18, 3) := by decide +kernel
theorem dX2_allMockPicks_12 : decode cX2_allMockPicks 12 = .ok (.iload_n 1, 1) := by decide +kernel
theorem dX2_allMockPicks_13 : decode cX2_allMockPicks 13 = .ok (.aload_n 0, 1) := by decide +kernel
theorem dX2_allMockPicks_14 : decode cX2_allMockPicks 14 = .ok (.getfield 37, 3) := by decide +kernel
theorem dX2_allMockPicks_17 : decode cX2_allMockPicks 17 = .ok (.iload_n 2, 1) := by decide +kernel
theorem dX2_allMockPicks_18 : decode cX2_allMockPicks 18 = .ok (.iaload, 1) := by decide +kernel
theorem dX2_allMockPicks_19 : decode cX2_allMockPicks 19 = .ok (.iadd, 1) := by decide +kernel
theorem dX2_allMockPicks_20 : decode cX2_allMockPicks 20 = .ok (.istore_n 1, 1) := by decide +kernel
theorem dX2_allMockPicks_21 : decode cX2_allMockPicks 21 = .ok (.iinc 2 1, 3) := by decide +kernel
theorem dX2_allMockPicks_24 : decode cX2_allMockPicks 24 = .ok (.goto (-20), 3) := by decide +kernel
theorem dX2_allMockPicks_27 : decode cX2_allMockPicks 27 = .ok (.iload_n 1, 1) := by decide +kernel
theorem dX2_allMockPicks_28 : decode cX2_allMockPicks 28 = .ok (.ireturn, 1) := by decide +kernel
theorem dX3_init_0 : decode cX3_init 0 = .ok (.aload_n 0, 1) := by decide +kernel
theorem dX3_init_1 : decode cX3_init 1 = .ok (.invokespecial 3, 3) := by decide +kernel
theorem dX3_init_4 : decode cX3_init 4 = .ok (.aload_n 0, 1) := by decide +kernel
theorem dX3_init_5 : decode cX3_init 5 = .ok (.new 9, 3) := by decide +kernel
theorem dX3_init_8 : decode cX3_init 8 = .ok (.dup, 1) := by decide +kernel
theorem dX3_init_9 : decode cX3_init 9 = .ok (.invokespecial 11, 3) := by decide +kernel
theorem dX3_init_12 : decode cX3_init 12 = .ok (.putfield 12, 3) := by decide +kernel
theorem dX3_init_15 : decode cX3_init 15 = .ok (.aload_n 0, 1) := by decide +kernel
theorem dX3_init_16 : decode cX3_init 16 = .ok (.new 18, 3) := by decide +kernel
theorem dX3_init_19 : decode cX3_init 19 = .ok (.dup, 1) := by decide +kernel
theorem dX3_init_20 : decode cX3_init 20 = .ok (.invokespecial 20, 3) := by decide +kernel
theorem dX3_init_23 : decode cX3_init 23 = .ok (.putfield 21, 3) := by decide +kernel
theorem dX3_init_26 : decode cX3_init 26 = .ok (.aload_n 0, 1) := by decide +kernel
theorem dX3_init_27 : decode cX3_init 27 = .ok (.iconst (-1), 1) := by decide +kernel
theorem dX3_init_28 : decode cX3_init 28 = .ok (.putfield 25, 3) := by decide +kernel
theorem dX3_init_31 : decode cX3_init 31 = .ok (.aload_n 0, 1) := by decide +kernel
theorem dX3_init_32 : decode cX3_init 32 = .ok (.new 29, 3) := by decide +kernel
theorem dX3_init_35 : decode cX3_init 35 = .ok (.dup, 1) := by decide +kernel
theorem dX3_init_36 : decode cX3_init 36 = .ok (.invokespecial 31, 3) := by decide +kernel
theorem dX3_init_39 : decode cX3_init 39 = .ok (.putfield 32, 3) := by decide +kernel
theorem dX3_init_42 : decode cX3_init 42 = .ok (.aload_n 0, 1) := by decide +kernel
theorem dX3_init_43 : decode cX3_init 43 = .ok (.iconst 0, 1) := by decide +kernel
theorem dX3_init_44 : decode cX3_init 44 = .ok (.putfield 36, 3) := by decide +kernel
theorem dX3_init_47 : decode cX3_init 47 = .ok (.aload_n 0, 1) := by decide +kernel
theorem dX3_init_48 : decode cX3_init 48 = .ok (.iconst 0, 1) := by decide +kernel
theorem dX3_init_49 : decode cX3_init 49 = .ok (.putfield 39, 3) := by decide +kernel
theorem dX3_init_52 : decode cX3_init 52 = .ok (.aload_n 0, 1) := by decide +kernel
theorem dX3_init_53 : decode cX3_init 53 = .ok (.iconst 0, 1) := by decide +kernel
theorem dX3_init_54 : decode cX3_init 54 = .ok (.putfield 42, 3) := by decide +kernel
theorem dX3_init_57 : decode cX3_init 57 = .ok (.return_, 1) := by decide +kernel
theorem dX3_read_0 : decode cX3_read 0 = .ok (.aload_n 0, 1) := by decide +kernel
theorem dX3_read_1 : decode cX3_read 1 = .ok (.getfield 32, 3) := by decide +kernel
theorem dX3_read_4 : decode cX3_read 4 = .ok (.aload_n 1, 1) := by decide +kernel
theorem dX3_read_5 : decode cX3_read 5 = .ok (.iload_n 2, 1) := by decide +kernel
theorem dX3_read_6 : decode cX3_read 6 = .ok (.invokevirtual 45, 3) := by decide +kernel
theorem dX3_read_9 : decode cX3_read 9 = .ok (.aload_n 0, 1) := by decide +kernel
theorem dX3_read_10 : decode cX3_read 10 = .ok (.getfield 12, 3) := by decide +kernel
theorem dX3_read_13 : decode cX3_read 13 = .ok (.invokevirtual 49, 3) := by decide +kernel
theorem dX3_read_16 : decode cX3_read 16 = .ok (.aload_n 0, 1) := by decide +kernel
theorem dX3_read_17 : decode cX3_read 17 = .ok (.getfield 21, 3) := by decide +kernel
theorem dX3_read_20 : decode cX3_read 20 = .ok (.invokevirtual 52, 3) := by decide +kernel
theorem dX3_read_23 : decode cX3_read 23 = .ok (.aload_n 0, 1) := by decide +kernel
theorem dX3_read_24 : decode cX3_read 24 = .ok (.iconst 0, 1) := by decide +kernel
theorem dX3_read_25 : decode cX3_read 25 = .ok (.putfield 36, 3) := by decide +kernel
theorem dX3_read_28 : decode cX3_read 28 = .ok (.aload_n 0, 1) := by decide +kernel
theorem dX3_read_29 : decode cX3_read 29 = .ok (.iconst 0, 1) := by decide +kernel
theorem dX3_read_30 : decode cX3_read 30 = .ok (.putfield 39, 3) := by decide +kernel
theorem dX3_read_33 : decode cX3_read 33 = .ok (.aload_n 0, 1) := by decide +kernel
theorem dX3_read_34 : decode cX3_read 34 = .ok (.iconst 0, 1) := by decide +kernel
theorem dX3_read_35 : decode cX3_read 35 = .ok (.putfield 42, 3) := by decide +kernel
theorem dX3_read_38 : decode cX3_read 38 = .ok (.aload_n 0, 1) := by decide +kernel
theorem dX3_read_39 : decode cX3_read 39 = .ok (.invokevirtual 53, 3) := by decide +kernel
theorem dX3_read_42 : decode cX3_read 42 = .ok (.istore_n 3, 1) := by decide +kernel
theorem dX3_read_43 : decode cX3_read 43 = .ok (.iconst 0, 1) := by decide +kernel
theorem dX3_read_44 : decode cX3_read 44 = .ok (.istore 4, 2) := by decide +kernel
theorem dX3_read_46 : decode cX3_read 46 = .ok (.iload 4, 2) := by decide +kernel
theorem dX3_read_48 : decode cX3_read 48 = .ok (.sipush 500, 3) := by decide +kernel
theorem dX3_read_51 : decode cX3_read 51 = .ok (.if_icmp .ge 49, 3) := by decide +kernel
theorem dX3_read_54 : decode cX3_read 54 = .ok (.iload_n 3, 1) := by decide +kernel
theorem dX3_read_55 : decode cX3_read 55 = .ok (.ifCond .eq 45, 3) := by decide +kernel
theorem dX3_read_58 : decode cX3_read 58 = .ok (.aload_n 0, 1) := by decide +kernel
theorem dX3_read_59 : decode cX3_read 59 = .ok (.getfield 32, 3) := by decide +kernel
theorem dX3_read_62 : decode cX3_read 62 = .ok (.aload_n 0, 1) := by decide +kernel
theorem dX3_read_63 : decode cX3_read 63 = .ok (.getfield 39, 3) := by decide +kernel
theorem dX3_read_66 : decode cX3_read 66 = .ok (.invokevirtual 57, 3) := by decide +kernel
theorem dX3_read_69 : decode cX3_read 69 = .ok (.ifCond .ne 31, 3) := by decide +kernel
theorem dX3_read_72 : decode cX3_read 72 = .ok (.aload_n 0, 1) := by decide +kernel
theorem dX3_read_73 : decode cX3_read 73 = .ok (.invokevirtual 61, 3) := by decide +kernel
theorem dX3_read_76 : decode cX3_read 76 = .ok (.ifCond .eq 16, 3) := by decide +kernel
theorem dX3_read_79 : decode cX3_read 79 = .ok (.aload_n 0, 1) := by decide +kernel
theorem dX3_read_80 : decode cX3_read 80 = .ok (.bipush 59, 2) := by decide +kernel
theorem dX3_read_82 : decode cX3_read 82 = .ok (.invokevirtual 64, 3) := by decide +kernel
theorem dX3_read_85 : decode cX3_read 85 = .ok (.ifCond .eq 7, 3) := by decide +kernel
theorem dX3_read_88 : decode cX3_read 88 = .ok (.iconst 1, 1) := by decide +kernel
theorem dX3_read_89 : decode cX3_read 89 = .ok (.goto 4, 3) := by decide +kernel
theorem dX3_read_92 : decode cX3_read 92 = .ok (.iconst 0, 1) := by decide +kernel
theorem dX3_read_93 : decode cX3_read 93 = .ok (.istore_n 3, 1) := by decide +kernel
theorem dX3_read_94 : decode cX3_read 94 = .ok (.iinc 4 1, 3) := by decide +kernel
theorem dX3_read_97 : decode cX3_read 97 = .ok (.goto (-51), 3) := by decide +kernel
theorem dX3_read_100 : decode cX3_read 100 = .ok (.aload_n 0, 1) := by decide +kernel
theorem dX3_read_101 : decode cX3_read 101 = .ok (.getfield 36, 3) := by decide +kernel
theorem dX3_read_104 : decode cX3_read 104 = .ok (.ifCond .ne 19, 3) := by decide +kernel
theorem dX3_read_107 : decode cX3_read 107 = .ok (.aload_n 0, 1) := by decide +kernel
theorem dX3_read_108 : decode cX3_read 108 = .ok (.getfield 42, 3) := by decide +kernel
theorem dX3_read_111 : decode cX3_read 111 = .ok (.bipush 16, 2) := by decide +kernel
theorem dX3_read_113 : decode cX3_read 113 = .ok (.iand, 1) := by decide +kernel
theorem dX3_read_114 : decode cX3_read 114 = .ok (.ifCond .ne 9, 3) := by decide +kernel
theorem dX3_read_117 : decode cX3_read 117 = .ok (.aload_n 0, 1) := by decide +kernel
theorem dX3_read_118 : decode cX3_read 118 = .ok (.iconst 5, 1) := by decide +kernel
theorem dX3_read_119 : decode cX3_read 119 = .ok (.invokevirtual 68, 3) := by decide +kernel
theorem dX3_read_122 : decode cX3_read 122 = .ok (.pop, 1) := by decide +kernel
theorem dX3_read_123 : decode cX3_read 123 = .ok (.aload_n 0, 1) := by decide +kernel
theorem dX3_read_124 : decode cX3_read 124 = .ok (.aload_n 0, 1) := by decide +kernel
theorem dX3_read_125 : decode cX3_read 125 = .ok (.getfield 36, 3) := by decide +kernel
theorem dX3_read_128 : decode cX3_read 128 = .ok (.ifCond .ne 7, 3) := by decide +kernel
theorem dX3_read_131 : decode cX3_read 131 = .ok (.iconst (-1), 1) := by decide +kernel
theorem dX3_read_132 : decode cX3_read 132 = .ok (.goto 14, 3) := by decide +kernel
theorem dX3_read_135 : decode cX3_read 135 = .ok (.aload_n 0, 1) := by decide +kernel
theorem dX3_read_136 : decode cX3_read 136 = .ok (.getfield 32, 3) := by decide +kernel
theorem dX3_read_139 : decode cX3_read 139 = .ok (.aload_n 0, 1) := by decide +kernel
theorem dX3_read_140 : decode cX3_read 140 = .ok (.getfield 39, 3) := by decide +kernel
theorem dX3_read_143 : decode cX3_read 143 = .ok (.invokevirtual 71, 3) := by decide +kernel
theorem dX3_read_146 : decode cX3_read 146 = .ok (.putfield 25, 3) := by decide +kernel
theorem dX3_read_149 : decode cX3_read 149 = .ok (.aload_n 0, 1) := by decide +kernel
theorem dX3_read_150 : decode cX3_read 150 = .ok (.getfield 36, 3) := by decide +kernel
theorem dX3_read_153 : decode cX3_read 153 = .ok (.ifCond .ne 21, 3) := by decide +kernel
theorem dX3_read_156 : decode cX3_read 156 = .ok (.aload_n 0, 1) := by decide +kernel
theorem dX3_read_157 : decode cX3_read 157 = .ok (.getfield 21, 3) := by decide +kernel
theorem dX3_read_160 : decode cX3_read 160 = .ok (.aload_n 0, 1) := by decide +kernel
theorem dX3_read_161 : decode cX3_read 161 = .ok (.getfield 12, 3) := by decide +kernel
theorem dX3_read_164 : decode cX3_read 164 = .ok (.invokevirtual 75, 3) := by decide +kernel
theorem dX3_read_167 : decode cX3_read 167 = .ok (.aload_n 0, 1) := by decide +kernel
theorem dX3_read_168 : decode cX3_read 168 = .ok (.getfield 12, 3) := by decide +kernel
theorem dX3_read_171 : decode cX3_read 171 = .ok (.invokevirtual 79, 3) := by decide +kernel
theorem dX3_read_174 : decode cX3_read 174 = .ok (.aload_n 0, 1) := by decide +kernel
theorem dX3_read_175 : decode cX3_read 175 = .ok (.getfield 36, 3) := by decide +kernel
theorem dX3_read_178 : decode cX3_read 178 = .ok (.ireturn, 1) := by decide +kernel
theorem dX3_fail_0 : decode cX3_fail 0 = .ok (.aload_n 0, 1) := by decide +kernel
theorem dX3_fail_1 : decode cX3_fail 1 = .ok (.iload_n 1, 1) := by decide +kernel
theorem dX3_fail_2 : decode cX3_fail 2 = .ok (.putfield 36, 3) := by decide +kernel
theorem dX3_fail_5 : decode cX3_fail 5 = .ok (.iconst 0, 1) := by decide +kernel
theorem dX3_fail_6 : decode cX3_fail 6 = .ok (.ireturn, 1) := by decide +kernel
theorem dX3_readTraits_0 : decode cX3_readTraits 0 = .ok (.aload_n 0, 1) := by decide +kernel
theorem dX3_readTraits_1 : decode cX3_readTraits 1 = .ok (.getfield 32, 3) := by decide +kernel
theorem dX3_readTraits_4 : decode cX3_readTraits 4 = .ok (.aload_n 0, 1) := by decide +kernel
theorem dX3_readTraits_5 : decode cX3_readTraits 5 = .ok (.getfield 39, 3) := by decide +kernel
theorem dX3_readTraits_8 : decode cX3_readTraits 8 = .ok (.ldc 82, 2) := by decide +kernel
theorem dX3_readTraits_10 : decode cX3_readTraits 10 = .ok (.invokevirtual 84, 3) := by decide +kernel
theorem dX3_readTraits_13 : decode cX3_readTraits 13 = .ok (.ifCond .ne 9, 3) := by decide +kernel
theorem dX3_readTraits_16 : decode cX3_readTraits 16 = .ok (.aload_n 0, 1) := by decide +kernel
theorem dX3_readTraits_17 : decode cX3_readTraits 17 = .ok (.iconst 1, 1) := by decide +kernel
theorem dX3_readTraits_18 : decode cX3_readTraits 18 = .ok (.invokevirtual 68, 3) := by decide +kernel
theorem dX3_readTraits_21 : decode cX3_readTraits 21 = .ok (.ireturn, 1) := by decide +kernel
theorem dX3_readTraits_22 : decode cX3_readTraits 22 = .ok (.aload_n 0, 1) := by decide +kernel
theorem dX3_readTraits_23 : decode cX3_readTraits 23 = .ok (.dup, 1) := by decide +kernel
theorem dX3_readTraits_24 : decode cX3_readTraits 24 = .ok (.getfield 39, 3) := by decide +kernel
theorem dX3_readTraits_27 : decode cX3_readTraits 27 = .ok (.iconst 1, 1) := by decide +kernel
theorem dX3_readTraits_28 : decode cX3_readTraits 28 = .ok (.iadd, 1) := by decide +kernel
theorem dX3_readTraits_29 : decode cX3_readTraits 29 = .ok (.putfield 39, 3) := by decide +kernel
theorem dX3_readTraits_32 : decode cX3_readTraits 32 = .ok (.aload_n 0, 1) := by decide +kernel
theorem dX3_readTraits_33 : decode cX3_readTraits 33 = .ok (.iconst 1, 1) := by decide +kernel
theorem dX3_readTraits_34 : decode cX3_readTraits 34 = .ok (.iconst 5, 1) := by decide +kernel
theorem dX3_readTraits_35 : decode cX3_readTraits 35 = .ok (.invokevirtual 88, 3) := by decide +kernel
theorem dX3_readTraits_38 : decode cX3_readTraits 38 = .ok (.istore_n 1, 1) := by decide +kernel
theorem dX3_readTraits_39 : decode cX3_readTraits 39 = .ok (.iload_n 1, 1) := by decide +kernel
theorem dX3_readTraits_40 : decode cX3_readTraits 40 = .ok (.iconst (-1), 1) := by decide +kernel
theorem dX3_readTraits_41 : decode cX3_readTraits 41 = .ok (.if_icmp .ne 5, 3) := by decide +kernel
theorem dX3_readTraits_44 : decode cX3_readTraits 44 = .ok (.iconst 0, 1) := by decide +kernel
theorem dX3_readTraits_45 : decode cX3_readTraits 45 = .ok (.ireturn, 1) := by decide +kernel
theorem dX3_readTraits_46 : decode cX3_readTraits 46 = .ok (.aload_n 0, 1) := by decide +kernel
theorem dX3_readTraits_47 : decode cX3_readTraits 47 = .ok (.getfield 12, 3) := by decide +kernel
theorem dX3_readTraits_50 : decode cX3_readTraits 50 = .ok (.iload_n 1, 1) := by decide +kernel
theorem dX3_readTraits_51 : decode cX3_readTraits 51 = .ok (.putfield 92, 3) := by decide +kernel
theorem dX3_readTraits_54 : decode cX3_readTraits 54 = .ok (.aload_n 0, 1) := by decide +kernel
theorem dX3_readTraits_55 : decode cX3_readTraits 55 = .ok (.bipush 59, 2) := by decide +kernel
theorem dX3_readTraits_57 : decode cX3_readTraits 57 = .ok (.invokevirtual 64, 3) := by decide +kernel
theorem dX3_readTraits_60 : decode cX3_readTraits 60 = .ok (.ireturn, 1) := by decide +kernel
theorem dX3_readPart_0 : decode cX3_readPart 0 = .ok (.aload_n 0, 1) := by decide +kernel
theorem dX3_readPart_1 : decode cX3_readPart 1 = .ok (.getfield 32, 3) := by decide +kernel
theorem dX3_readPart_4 : decode cX3_readPart 4 = .ok (.aload_n 0, 1) := by decide +kernel
theorem dX3_readPart_5 : decode cX3_readPart 5 = .ok (.getfield 39, 3) := by decide +kernel
theorem dX3_readPart_8 : decode cX3_readPart 8 = .ok (.ldc 94, 2) := by decide +kernel
theorem dX3_readPart_10 : decode cX3_readPart 10 = .ok (.invokevirtual 84, 3) := by decide +kernel
theorem dX3_readPart_13 : decode cX3_readPart 13 = .ok (.ifCond .eq 8, 3) := by decide +kernel
theorem dX3_readPart_16 : decode cX3_readPart 16 = .ok (.aload_n 0, 1) := by decide +kernel
theorem dX3_readPart_17 : decode cX3_readPart 17 = .ok (.invokevirtual 96, 3) := by decide +kernel
theorem dX3_readPart_20 : decode cX3_readPart 20 = .ok (.ireturn, 1) := by decide +kernel
theorem dX3_readPart_21 : decode cX3_readPart 21 = .ok (.aload_n 0, 1) := by decide +kernel
theorem dX3_readPart_22 : decode cX3_readPart 22 = .ok (.getfield 32, 3) := by decide +kernel
theorem dX3_readPart_25 : decode cX3_readPart 25 = .ok (.aload_n 0, 1) := by decide +kernel
theorem dX3_readPart_26 : decode cX3_readPart 26 = .ok (.getfield 39, 3) := by decide +kernel
theorem dX3_readPart_29 : decode cX3_readPart 29 = .ok (.ldc 99, 2) := by decide +kernel
theorem dX3_readPart_31 : decode cX3_readPart 31 = .ok (.invokevirtual 84, 3) := by decide +kernel
theorem dX3_readPart_34 : decode cX3_readPart 34 = .ok (.ifCond .eq 18, 3) := by decide +kernel
theorem dX3_readPart_37 : decode cX3_readPart 37 = .ok (.aload_n 0, 1) := by decide +kernel
theorem dX3_readPart_38 : decode cX3_readPart 38 = .ok (.dup, 1) := by decide +kernel
theorem dX3_readPart_39 : decode cX3_readPart 39 = .ok (.getfield 39, 3) := by decide +kernel
theorem dX3_readPart_42 : decode cX3_readPart 42 = .ok (.iconst 1, 1) := by decide +kernel
theorem dX3_readPart_43 : decode cX3_readPart 43 = .ok (.iadd, 1) := by decide +kernel
theorem dX3_readPart_44 : decode cX3_readPart 44 = .ok (.putfield 39, 3) := by decide +kernel
theorem dX3_readPart_47 : decode cX3_readPart 47 = .ok (.aload_n 0, 1) := by decide +kernel
theorem dX3_readPart_48 : decode cX3_readPart 48 = .ok (.invokevirtual 101, 3) := by decide +kernel
theorem dX3_readPart_51 : decode cX3_readPart 51 = .ok (.ireturn, 1) := by decide +kernel
theorem dX3_readPart_52 : decode cX3_readPart 52 = .ok (.aload_n 0, 1) := by decide +kernel
theorem dX3_readPart_53 : decode cX3_readPart 53 = .ok (.getfield 32, 3) := by decide +kernel
theorem dX3_readPart_56 : decode cX3_readPart 56 = .ok (.aload_n 0, 1) := by decide +kernel
theorem dX3_readPart_57 : decode cX3_readPart 57 = .ok (.getfield 39, 3) := by decide +kernel
theorem dX3_readPart_60 : decode cX3_readPart 60 = .ok (.ldc 104, 2) := by decide +kernel
theorem dX3_readPart_62 : decode cX3_readPart 62 = .ok (.invokevirtual 84, 3) := by decide +kernel
theorem dX3_readPart_65 : decode cX3_readPart 65 = .ok (.ifCond .eq 26, 3) := by decide +kernel
theorem dX3_readPart_68 : decode cX3_readPart 68 = .ok (.aload_n 0, 1) := by decide +kernel
theorem dX3_readPart_69 : decode cX3_readPart 69 = .ok (.bipush 16, 2) := by decide +kernel
theorem dX3_readPart_71 : decode cX3_readPart 71 = .ok (.invokevirtual 106, 3) := by decide +kernel
theorem dX3_readPart_74 : decode cX3_readPart 74 = .ok (.ifCond .eq 15, 3) := by decide +kernel
theorem dX3_readPart_77 : decode cX3_readPart 77 = .ok (.aload_n 0, 1) := by decide +kernel
theorem dX3_readPart_78 : decode cX3_readPart 78 = .ok (.iconst 0, 1) := by decide +kernel
theorem dX3_readPart_79 : decode cX3_readPart 79 = .ok (.invokevirtual 109, 3) := by decide +kernel
theorem dX3_readPart_82 : decode cX3_readPart 82 = .ok (.ifCond .eq 7, 3) := by decide +kernel
theorem dX3_readPart_85 : decode cX3_readPart 85 = .ok (.iconst 1, 1) := by decide +kernel
theorem dX3_readPart_86 : decode cX3_readPart 86 = .ok (.goto 4, 3) := by decide +kernel
theorem dX3_readPart_89 : decode cX3_readPart 89 = .ok (.iconst 0, 1) := by decide +kernel
theorem dX3_readPart_90 : decode cX3_readPart 90 = .ok (.ireturn, 1) := by decide +kernel
theorem dX3_readPart_91 : decode cX3_readPart 91 = .ok (.aload_n 0, 1) := by decide +kernel
theorem dX3_readPart_92 : decode cX3_readPart 92 = .ok (.getfield 32, 3) := by decide +kernel
theorem dX3_readPart_95 : decode cX3_readPart 95 = .ok (.aload_n 0, 1) := by decide +kernel
theorem dX3_readPart_96 : decode cX3_readPart 96 = .ok (.getfield 39, 3) := by decide +kernel
theorem dX3_readPart_99 : decode cX3_readPart 99 = .ok (.ldc 112, 2) := by decide +kernel
theorem dX3_readPart_101 : decode cX3_readPart 101 = .ok (.invokevirtual 84, 3) := by decide +kernel
theorem dX3_readPart_104 : decode cX3_readPart 104 = .ok (.ifCond .eq 26, 3) := by decide +kernel
theorem dX3_readPart_107 : decode cX3_readPart 107 = .ok (.aload_n 0, 1) := by decide +kernel
theorem dX3_readPart_108 : decode cX3_readPart 108 = .ok (.bipush 32, 2) := by decide +kernel
theorem dX3_readPart_110 : decode cX3_readPart 110 = .ok (.invokevirtual 106, 3) := by decide +kernel
theorem dX3_readPart_113 : decode cX3_readPart 113 = .ok (.ifCond .eq 15, 3) := by decide +kernel
theorem dX3_readPart_116 : decode cX3_readPart 116 = .ok (.aload_n 0, 1) := by decide +kernel
theorem dX3_readPart_117 : decode cX3_readPart 117 = .ok (.iconst 0, 1) := by decide +kernel
theorem dX3_readPart_118 : decode cX3_readPart 118 = .ok (.invokevirtual 114, 3) := by decide +kernel
theorem dX3_readPart_121 : decode cX3_readPart 121 = .ok (.ifCond .eq 7, 3) := by decide +kernel
theorem dX3_readPart_124 : decode cX3_readPart 124 = .ok (.iconst 1, 1) := by decide +kernel
theorem dX3_readPart_125 : decode cX3_readPart 125 = .ok (.goto 4, 3) := by decide +kernel
theorem dX3_readPart_128 : decode cX3_readPart 128 = .ok (.iconst 0, 1) := by decide +kernel
theorem dX3_readPart_129 : decode cX3_readPart 129 = .ok (.ireturn, 1) := by decide +kernel
theorem dX3_readPart_130 : decode cX3_readPart 130 = .ok (.aload_n 0, 1) := by decide +kernel
theorem dX3_readPart_131 : decode cX3_readPart 131 = .ok (.invokevirtual 117, 3) := by decide +kernel
theorem dX3_readPart_134 : decode cX3_readPart 134 = .ok (.istore_n 1, 1) := by decide +kernel
theorem dX3_readPart_135 : decode cX3_readPart 135 = .ok (.iload_n 1, 1) := by decide +kernel
theorem dX3_readPart_136 : decode cX3_readPart 136 = .ok (.iconst (-1), 1) := by decide +kernel
theorem dX3_readPart_137 : decode cX3_readPart 137 = .ok (.if_icmp .ne 9, 3) := by decide +kernel
theorem dX3_readPart_140 : decode cX3_readPart 140 = .ok (.aload_n 0, 1) := by decide +kernel
theorem dX3_readPart_141 : decode cX3_readPart 141 = .ok (.iconst 1, 1) := by decide +kernel
theorem dX3_readPart_142 : decode cX3_readPart 142 = .ok (.invokevirtual 68, 3) := by decide +kernel
theorem dX3_readPart_145 : decode cX3_readPart 145 = .ok (.ireturn, 1) := by decide +kernel
theorem dX3_readPart_146 : decode cX3_readPart 146 = .ok (.aload_n 0, 1) := by decide +kernel
theorem dX3_readPart_147 : decode cX3_readPart 147 = .ok (.iconst 1, 1) := by decide +kernel
theorem dX3_readPart_148 : decode cX3_readPart 148 = .ok (.iload_n 1, 1) := by decide +kernel
theorem dX3_readPart_149 : decode cX3_readPart 149 = .ok (.ishl, 1) := by decide +kernel
theorem dX3_readPart_150 : decode cX3_readPart 150 = .ok (.invokevirtual 106, 3) := by decide +kernel
theorem dX3_readPart_153 : decode cX3_readPart 153 = .ok (.ifCond .eq 15, 3) := by decide +kernel
theorem dX3_readPart_156 : decode cX3_readPart 156 = .ok (.aload_n 0, 1) := by decide +kernel
theorem dX3_readPart_157 : decode cX3_readPart 157 = .ok (.iload_n 1, 1) := by decide +kernel
theorem dX3_readPart_158 : decode cX3_readPart 158 = .ok (.invokevirtual 121, 3) := by decide +kernel
theorem dX3_readPart_161 : decode cX3_readPart 161 = .ok (.ifCond .eq 7, 3) := by decide +kernel
theorem dX3_readPart_164 : decode cX3_readPart 164 = .ok (.iconst 1, 1) := by decide +kernel
theorem dX3_readPart_165 : decode cX3_readPart 165 = .ok (.goto 4, 3) := by decide +kernel
theorem dX3_readPart_168 : decode cX3_readPart 168 = .ok (.iconst 0, 1) := by decide +kernel
theorem dX3_readPart_169 : decode cX3_readPart 169 = .ok (.ireturn, 1) := by decide +kernel
theorem dX3_settingAt_0 : decode cX3_settingAt 0 = .ok (.aload_n 0, 1) := by decide +kernel
theorem dX3_settingAt_1 : decode cX3_settingAt 1 = .ok (.getfield 32, 3) := by decide +kernel
theorem dX3_settingAt_4 : decode cX3_settingAt 4 = .ok (.aload_n 0, 1) := by decide +kernel
theorem dX3_settingAt_5 : decode cX3_settingAt 5 = .ok (.getfield 39, 3) := by decide +kernel
theorem dX3_settingAt_8 : decode cX3_settingAt 8 = .ok (.ldc 124, 2) := by decide +kernel
theorem dX3_settingAt_10 : decode cX3_settingAt 10 = .ok (.invokevirtual 84, 3) := by decide +kernel
theorem dX3_settingAt_13 : decode cX3_settingAt 13 = .ok (.ifCond .eq 5, 3) := by decide +kernel
theorem dX3_settingAt_16 : decode cX3_settingAt 16 = .ok (.iconst 0, 1) := by decide +kernel
theorem dX3_settingAt_17 : decode cX3_settingAt 17 = .ok (.ireturn, 1) := by decide +kernel
theorem dX3_settingAt_18 : decode cX3_settingAt 18 = .ok (.aload_n 0, 1) := by decide +kernel
theorem dX3_settingAt_19 : decode cX3_settingAt 19 = .ok (.getfield 32, 3) := by decide +kernel
theorem dX3_settingAt_22 : decode cX3_settingAt 22 = .ok (.aload_n 0, 1) := by decide +kernel
theorem dX3_settingAt_23 : decode cX3_settingAt 23 = .ok (.getfield 39, 3) := by decide +kernel
theorem dX3_settingAt_26 : decode cX3_settingAt 26 = .ok (.ldc 126, 2) := by decide +kernel
theorem dX3_settingAt_28 : decode cX3_settingAt 28 = .ok (.invokevirtual 84, 3) := by decide +kernel
theorem dX3_settingAt_31 : decode cX3_settingAt 31 = .ok (.ifCond .eq 5, 3) := by decide +kernel
theorem dX3_settingAt_34 : decode cX3_settingAt 34 = .ok (.iconst 1, 1) := by decide +kernel
theorem dX3_settingAt_35 : decode cX3_settingAt 35 = .ok (.ireturn, 1) := by decide +kernel
theorem dX3_settingAt_36 : decode cX3_settingAt 36 = .ok (.aload_n 0, 1) := by decide +kernel
theorem dX3_settingAt_37 : decode cX3_settingAt 37 = .ok (.getfield 32, 3) := by decide +kernel
theorem dX3_settingAt_40 : decode cX3_settingAt 40 = .ok (.aload_n 0, 1) := by decide +kernel
theorem dX3_settingAt_41 : decode cX3_settingAt 41 = .ok (.getfield 39, 3) := by decide +kernel
theorem dX3_settingAt_44 : decode cX3_settingAt 44 = .ok (.ldc 128, 2) := by decide +kernel
theorem dX3_settingAt_46 : decode cX3_settingAt 46 = .ok (.invokevirtual 84, 3) := by decide +kernel
theorem dX3_settingAt_49 : decode cX3_settingAt 49 = .ok (.ifCond .eq 5, 3) := by decide +kernel
theorem dX3_settingAt_52 : decode cX3_settingAt 52 = .ok (.iconst 2, 1) := by decide +kernel
theorem dX3_settingAt_53 : decode cX3_settingAt 53 = .ok (.ireturn, 1) := by decide +kernel
theorem dX3_settingAt_54 : decode cX3_settingAt 54 = .ok (.aload_n 0, 1) := by decide +kernel
theorem dX3_settingAt_55 : decode cX3_settingAt 55 = .ok (.getfield 32, 3) := by decide +kernel
theorem dX3_settingAt_58 : decode cX3_settingAt 58 = .ok (.aload_n 0, 1) := by decide +kernel
theorem dX3_settingAt_59 : decode cX3_settingAt 59 = .ok (.getfield 39, 3) := by decide +kernel
theorem dX3_settingAt_62 : decode cX3_settingAt 62 = .ok (.ldc 130, 2) := by decide +kernel
theorem dX3_settingAt_64 : decode cX3_settingAt 64 = .ok (.invokevirtual 84, 3) := by decide +kernel
theorem dX3_settingAt_67 : decode cX3_settingAt 67 = .ok (.ifCond .eq 7, 3) := by decide +kernel
theorem dX3_settingAt_70 : decode cX3_settingAt 70 = .ok (.iconst 3, 1) := by decide +kernel
theorem dX3_settingAt_71 : decode cX3_settingAt 71 = .ok (.goto 4, 3) := by decide +kernel
theorem dX3_settingAt_74 : decode cX3_settingAt 74 = .ok (.iconst (-1), 1) := by decide +kernel
theorem dX3_settingAt_75 : decode cX3_settingAt 75 = .ok (.ireturn, 1) := by decide +kernel
theorem dX3_readOnce_0 : decode cX3_readOnce 0 = .ok (.aload_n 0, 1) := by decide +kernel
theorem dX3_readOnce_1 : decode cX3_readOnce 1 = .ok (.getfield 42, 3) := by decide +kernel
theorem dX3_readOnce_4 : decode cX3_readOnce 4 = .ok (.iload_n 1, 1) := by decide +kernel
theorem dX3_readOnce_5 : decode cX3_readOnce 5 = .ok (.iand, 1) := by decide +kernel
theorem dX3_readOnce_6 : decode cX3_readOnce 6 = .ok (.ifCond .eq 9, 3) := by decide +kernel
theorem dX3_readOnce_9 : decode cX3_readOnce 9 = .ok (.aload_n 0, 1) := by decide +kernel
theorem dX3_readOnce_10 : decode cX3_readOnce 10 = .ok (.iconst 1, 1) := by decide +kernel
theorem dX3_readOnce_11 : decode cX3_readOnce 11 = .ok (.invokevirtual 68, 3) := by decide +kernel
theorem dX3_readOnce_14 : decode cX3_readOnce 14 = .ok (.ireturn, 1) := by decide +kernel
theorem dX3_readOnce_15 : decode cX3_readOnce 15 = .ok (.aload_n 0, 1) := by decide +kernel
theorem dX3_readOnce_16 : decode cX3_readOnce 16 = .ok (.dup, 1) := by decide +kernel
theorem dX3_readOnce_17 : decode cX3_readOnce 17 = .ok (.getfield 42, 3) := by decide +kernel
theorem dX3_readOnce_20 : decode cX3_readOnce 20 = .ok (.iload_n 1, 1) := by decide +kernel
theorem dX3_readOnce_21 : decode cX3_readOnce 21 = .ok (.ior, 1) := by decide +kernel
theorem dX3_readOnce_22 : decode cX3_readOnce 22 = .ok (.putfield 42, 3) := by decide +kernel
theorem dX3_readOnce_25 : decode cX3_readOnce 25 = .ok (.aload_n 0, 1) := by decide +kernel
theorem dX3_readOnce_26 : decode cX3_readOnce 26 = .ok (.dup, 1) := by decide +kernel
theorem dX3_readOnce_27 : decode cX3_readOnce 27 = .ok (.getfield 39, 3) := by decide +kernel
theorem dX3_readOnce_30 : decode cX3_readOnce 30 = .ok (.iconst 1, 1) := by decide +kernel
theorem dX3_readOnce_31 : decode cX3_readOnce 31 = .ok (.iadd, 1) := by decide +kernel
theorem dX3_readOnce_32 : decode cX3_readOnce 32 = .ok (.putfield 39, 3) := by decide +kernel
theorem dX3_readOnce_35 : decode cX3_readOnce 35 = .ok (.iconst 1, 1) := by decide +kernel
theorem dX3_readOnce_36 : decode cX3_readOnce 36 = .ok (.ireturn, 1) := by decide +kernel
theorem dX3_readSetting_0 : decode cX3_readSetting 0 = .ok (.aload_n 0, 1) := by decide +kernel
theorem dX3_readSetting_1 : decode cX3_readSetting 1 = .ok (.getstatic 132, 3) := by decide +kernel
theorem dX3_readSetting_4 : decode cX3_readSetting 4 = .ok (.iload_n 1, 1) := by decide +kernel
theorem dX3_readSetting_5 : decode cX3_readSetting 5 = .ok (.iaload, 1) := by decide +kernel
theorem dX3_readSetting_6 : decode cX3_readSetting 6 = .ok (.getstatic 136, 3) := by decide +kernel
theorem dX3_readSetting_9 : decode cX3_readSetting 9 = .ok (.iload_n 1, 1) := by decide +kernel
theorem dX3_readSetting_10 : decode cX3_readSetting 10 = .ok (.iaload, 1) := by decide +kernel
theorem dX3_readSetting_11 : decode cX3_readSetting 11 = .ok (.invokevirtual 88, 3) := by decide +kernel
theorem dX3_readSetting_14 : decode cX3_readSetting 14 = .ok (.istore_n 2, 1) := by decide +kernel
theorem dX3_readSetting_15 : decode cX3_readSetting 15 = .ok (.iload_n 2, 1) := by decide +kernel
theorem dX3_readSetting_16 : decode cX3_readSetting 16 = .ok (.iconst (-1), 1) := by decide +kernel
theorem dX3_readSetting_17 : decode cX3_readSetting 17 = .ok (.if_icmp .ne 5, 3) := by decide +kernel
theorem dX3_readSetting_20 : decode cX3_readSetting 20 = .ok (.iconst 0, 1) := by decide +kernel
theorem dX3_readSetting_21 : decode cX3_readSetting 21 = .ok (.ireturn, 1) := by decide +kernel
theorem dX3_readSetting_22 : decode cX3_readSetting 22 = .ok (.aload_n 0, 1) := by decide +kernel
theorem dX3_readSetting_23 : decode cX3_readSetting 23 = .ok (.getfield 12, 3) := by decide +kernel
theorem dX3_readSetting_26 : decode cX3_readSetting 26 = .ok (.getfield 139, 3) := by decide +kernel
theorem dX3_readSetting_29 : decode cX3_readSetting 29 = .ok (.iload_n 1, 1) := by decide +kernel
theorem dX3_readSetting_30 : decode cX3_readSetting 30 = .ok (.iload_n 2, 1) := by decide +kernel
theorem dX3_readSetting_31 : decode cX3_readSetting 31 = .ok (.iastore, 1) := by decide +kernel
theorem dX3_readSetting_32 : decode cX3_readSetting 32 = .ok (.iconst 1, 1) := by decide +kernel
theorem dX3_readSetting_33 : decode cX3_readSetting 33 = .ok (.ireturn, 1) := by decide +kernel
theorem dX3_readFiller_0 : decode cX3_readFiller 0 = .ok (.aload_n 0, 1) := by decide +kernel
theorem dX3_readFiller_1 : decode cX3_readFiller 1 = .ok (.getfield 12, 3) := by decide +kernel
theorem dX3_readFiller_4 : decode cX3_readFiller 4 = .ok (.getfield 142, 3) := by decide +kernel
theorem dX3_readFiller_7 : decode cX3_readFiller 7 = .ok (.bipush 16, 2) := by decide +kernel
theorem dX3_readFiller_9 : decode cX3_readFiller 9 = .ok (.if_icmp .lt 9, 3) := by decide +kernel
theorem dX3_readFiller_12 : decode cX3_readFiller 12 = .ok (.aload_n 0, 1) := by decide +kernel
theorem dX3_readFiller_13 : decode cX3_readFiller 13 = .ok (.iconst 3, 1) := by decide +kernel
theorem dX3_readFiller_14 : decode cX3_readFiller 14 = .ok (.invokevirtual 68, 3) := by decide +kernel
theorem dX3_readFiller_17 : decode cX3_readFiller 17 = .ok (.ireturn, 1) := by decide +kernel
theorem dX3_readFiller_18 : decode cX3_readFiller 18 = .ok (.aload_n 0, 1) := by decide +kernel
theorem dX3_readFiller_19 : decode cX3_readFiller 19 = .ok (.dup, 1) := by decide +kernel
theorem dX3_readFiller_20 : decode cX3_readFiller 20 = .ok (.getfield 39, 3) := by decide +kernel
theorem dX3_readFiller_23 : decode cX3_readFiller 23 = .ok (.iconst 1, 1) := by decide +kernel
theorem dX3_readFiller_24 : decode cX3_readFiller 24 = .ok (.iadd, 1) := by decide +kernel
theorem dX3_readFiller_25 : decode cX3_readFiller 25 = .ok (.putfield 39, 3) := by decide +kernel
theorem dX3_readFiller_28 : decode cX3_readFiller 28 = .ok (.aload_n 0, 1) := by decide +kernel
theorem dX3_readFiller_29 : decode cX3_readFiller 29 = .ok (.getfield 12, 3) := by decide +kernel
theorem dX3_readFiller_32 : decode cX3_readFiller 32 = .ok (.dup, 1) := by decide +kernel
theorem dX3_readFiller_33 : decode cX3_readFiller 33 = .ok (.getfield 142, 3) := by decide +kernel
theorem dX3_readFiller_36 : decode cX3_readFiller 36 = .ok (.iconst 1, 1) := by decide +kernel
theorem dX3_readFiller_37 : decode cX3_readFiller 37 = .ok (.iadd, 1) := by decide +kernel
theorem dX3_readFiller_38 : decode cX3_readFiller 38 = .ok (.putfield 142, 3) := by decide +kernel
theorem dX3_readFiller_41 : decode cX3_readFiller 41 = .ok (.aload_n 0, 1) := by decide +kernel
theorem dX3_readFiller_42 : decode cX3_readFiller 42 = .ok (.aload_n 0, 1) := by decide +kernel
theorem dX3_readFiller_43 : decode cX3_readFiller 43 = .ok (.getfield 12, 3) := by decide +kernel
theorem dX3_readFiller_46 : decode cX3_readFiller 46 = .ok (.getfield 142, 3) := by decide +kernel
theorem dX3_readFiller_49 : decode cX3_readFiller 49 = .ok (.iconst 1, 1) := by decide +kernel
theorem dX3_readFiller_50 : decode cX3_readFiller 50 = .ok (.isub, 1) := by decide +kernel
theorem dX3_readFiller_51 : decode cX3_readFiller 51 = .ok (.invokevirtual 109, 3) := by decide +kernel
theorem dX3_readFiller_54 : decode cX3_readFiller 54 = .ok (.ireturn, 1) := by decide +kernel
theorem dX3_readValues_0 : decode cX3_readValues 0 = .ok (.iconst 0, 1) := by decide +kernel
theorem dX3_readValues_1 : decode cX3_readValues 1 = .ok (.istore_n 2, 1) := by decide +kernel
theorem dX3_readValues_2 : decode cX3_readValues 2 = .ok (.iload_n 2, 1) := by decide +kernel
theorem dX3_readValues_3 : decode cX3_readValues 3 = .ok (.aload_n 0, 1) := by decide +kernel
theorem dX3_readValues_4 : decode cX3_readValues 4 = .ok (.getfield 12, 3) := by decide +kernel
theorem dX3_readValues_7 : decode cX3_readValues 7 = .ok (.getfield 92, 3) := by decide +kernel
theorem dX3_readValues_10 : decode cX3_readValues 10 = .ok (.if_icmp .ge 34, 3) := by decide +kernel
theorem dX3_readValues_13 : decode cX3_readValues 13 = .ok (.aload_n 0, 1) := by decide +kernel
theorem dX3_readValues_14 : decode cX3_readValues 14 = .ok (.iconst 0, 1) := by decide +kernel
theorem dX3_readValues_15 : decode cX3_readValues 15 = .ok (.bipush 9, 2) := by decide +kernel
theorem dX3_readValues_17 : decode cX3_readValues 17 = .ok (.invokevirtual 88, 3) := by decide +kernel
theorem dX3_readValues_20 : decode cX3_readValues 20 = .ok (.istore_n 3, 1) := by decide +kernel
theorem dX3_readValues_21 : decode cX3_readValues 21 = .ok (.iload_n 3, 1) := by decide +kernel
theorem dX3_readValues_22 : decode cX3_readValues 22 = .ok (.iconst (-1), 1) := by decide +kernel
theorem dX3_readValues_23 : decode cX3_readValues 23 = .ok (.if_icmp .ne 5, 3) := by decide +kernel
theorem dX3_readValues_26 : decode cX3_readValues 26 = .ok (.iconst 0, 1) := by decide +kernel
theorem dX3_readValues_27 : decode cX3_readValues 27 = .ok (.ireturn, 1) := by decide +kernel
theorem dX3_readValues_28 : decode cX3_readValues 28 = .ok (.aload_n 0, 1) := by decide +kernel
theorem dX3_readValues_29 : decode cX3_readValues 29 = .ok (.getfield 12, 3) := by decide +kernel
theorem dX3_readValues_32 : decode cX3_readValues 32 = .ok (.iload_n 1, 1) := by decide +kernel
theorem dX3_readValues_33 : decode cX3_readValues 33 = .ok (.iload_n 2, 1) := by decide +kernel
theorem dX3_readValues_34 : decode cX3_readValues 34 = .ok (.iload_n 3, 1) := by decide +kernel
theorem dX3_readValues_35 : decode cX3_readValues 35 = .ok (.invokevirtual 145, 3) := by decide +kernel
theorem dX3_readValues_38 : decode cX3_readValues 38 = .ok (.iinc 2 1, 3) := by decide +kernel
theorem dX3_readValues_41 : decode cX3_readValues 41 = .ok (.goto (-39), 3) := by decide +kernel
theorem dX3_readValues_44 : decode cX3_readValues 44 = .ok (.iconst 1, 1) := by decide +kernel
theorem dX3_readValues_45 : decode cX3_readValues 45 = .ok (.ireturn, 1) := by decide +kernel
theorem dX3_readTold_0 : decode cX3_readTold 0 = .ok (.aload_n 0, 1) := by decide +kernel
theorem dX3_readTold_1 : decode cX3_readTold 1 = .ok (.iconst 0, 1) := by decide +kernel
theorem dX3_readTold_2 : decode cX3_readTold 2 = .ok (.aload_n 0, 1) := by decide +kernel
theorem dX3_readTold_3 : decode cX3_readTold 3 = .ok (.getfield 12, 3) := by decide +kernel
theorem dX3_readTold_6 : decode cX3_readTold 6 = .ok (.getfield 92, 3) := by decide +kernel
theorem dX3_readTold_9 : decode cX3_readTold 9 = .ok (.iconst 1, 1) := by decide +kernel
theorem dX3_readTold_10 : decode cX3_readTold 10 = .ok (.isub, 1) := by decide +kernel
theorem dX3_readTold_11 : decode cX3_readTold 11 = .ok (.invokevirtual 88, 3) := by decide +kernel
theorem dX3_readTold_14 : decode cX3_readTold 14 = .ok (.istore_n 1, 1) := by decide +kernel
theorem dX3_readTold_15 : decode cX3_readTold 15 = .ok (.iload_n 1, 1) := by decide +kernel
theorem dX3_readTold_16 : decode cX3_readTold 16 = .ok (.iconst (-1), 1) := by decide +kernel
theorem dX3_readTold_17 : decode cX3_readTold 17 = .ok (.if_icmp .ne 7, 3) := by decide +kernel
theorem dX3_readTold_20 : decode cX3_readTold 20 = .ok (.iconst (-1), 1) := by decide +kernel
theorem dX3_readTold_21 : decode cX3_readTold 21 = .ok (.goto 10, 3) := by decide +kernel
theorem dX3_readTold_24 : decode cX3_readTold 24 = .ok (.aload_n 0, 1) := by decide +kernel
theorem dX3_readTold_25 : decode cX3_readTold 25 = .ok (.iconst 0, 1) := by decide +kernel
theorem dX3_readTold_26 : decode cX3_readTold 26 = .ok (.bipush 9, 2) := by decide +kernel
theorem dX3_readTold_28 : decode cX3_readTold 28 = .ok (.invokevirtual 88, 3) := by decide +kernel
theorem dX3_readTold_31 : decode cX3_readTold 31 = .ok (.istore_n 2, 1) := by decide +kernel
theorem dX3_readTold_32 : decode cX3_readTold 32 = .ok (.iload_n 2, 1) := by decide +kernel
theorem dX3_readTold_33 : decode cX3_readTold 33 = .ok (.iconst (-1), 1) := by decide +kernel
theorem dX3_readTold_34 : decode cX3_readTold 34 = .ok (.if_icmp .ne 7, 3) := by decide +kernel
theorem dX3_readTold_37 : decode cX3_readTold 37 = .ok (.iconst (-1), 1) := by decide +kernel
theorem dX3_readTold_38 : decode cX3_readTold 38 = .ok (.goto 10, 3) := by decide +kernel
theorem dX3_readTold_41 : decode cX3_readTold 41 = .ok (.aload_n 0, 1) := by decide +kernel
theorem dX3_readTold_42 : decode cX3_readTold 42 = .ok (.iconst 1, 1) := by decide +kernel
theorem dX3_readTold_43 : decode cX3_readTold 43 = .ok (.bipush 9, 2) := by decide +kernel
theorem dX3_readTold_45 : decode cX3_readTold 45 = .ok (.invokevirtual 88, 3) := by decide +kernel
theorem dX3_readTold_48 : decode cX3_readTold 48 = .ok (.istore_n 3, 1) := by decide +kernel
theorem dX3_readTold_49 : decode cX3_readTold 49 = .ok (.iload_n 3, 1) := by decide +kernel
theorem dX3_readTold_50 : decode cX3_readTold 50 = .ok (.iconst (-1), 1) := by decide +kernel
theorem dX3_readTold_51 : decode cX3_readTold 51 = .ok (.if_icmp .ne 5, 3) := by decide +kernel
theorem dX3_readTold_54 : decode cX3_readTold 54 = .ok (.iconst 0, 1) := by decide +kernel
theorem dX3_readTold_55 : decode cX3_readTold 55 = .ok (.ireturn, 1) := by decide +kernel
theorem dX3_readTold_56 : decode cX3_readTold 56 = .ok (.aload_n 0, 1) := by decide +kernel
theorem dX3_readTold_57 : decode cX3_readTold 57 = .ok (.getfield 12, 3) := by decide +kernel
theorem dX3_readTold_60 : decode cX3_readTold 60 = .ok (.getfield 149, 3) := by decide +kernel
theorem dX3_readTold_63 : decode cX3_readTold 63 = .ok (.iload_n 1, 1) := by decide +kernel
theorem dX3_readTold_64 : decode cX3_readTold 64 = .ok (.iload_n 2, 1) := by decide +kernel
theorem dX3_readTold_65 : decode cX3_readTold 65 = .ok (.iastore, 1) := by decide +kernel
theorem dX3_readTold_66 : decode cX3_readTold 66 = .ok (.aload_n 0, 1) := by decide +kernel
theorem dX3_readTold_67 : decode cX3_readTold 67 = .ok (.getfield 12, 3) := by decide +kernel
theorem dX3_readTold_70 : decode cX3_readTold 70 = .ok (.getfield 152, 3) := by decide +kernel
theorem dX3_readTold_73 : decode cX3_readTold 73 = .ok (.iload_n 1, 1) := by decide +kernel
theorem dX3_readTold_74 : decode cX3_readTold 74 = .ok (.iload_n 3, 1) := by decide +kernel
theorem dX3_readTold_75 : decode cX3_readTold 75 = .ok (.iastore, 1) := by decide +kernel
theorem dX3_readTold_76 : decode cX3_readTold 76 = .ok (.iconst 1, 1) := by decide +kernel
theorem dX3_readTold_77 : decode cX3_readTold 77 = .ok (.ireturn, 1) := by decide +kernel
theorem dX3_readSign_0 : decode cX3_readSign 0 = .ok (.aload_n 0, 1) := by decide +kernel
theorem dX3_readSign_1 : decode cX3_readSign 1 = .ok (.getfield 32, 3) := by decide +kernel
theorem dX3_readSign_4 : decode cX3_readSign 4 = .ok (.aload_n 0, 1) := by decide +kernel
theorem dX3_readSign_5 : decode cX3_readSign 5 = .ok (.getfield 39, 3) := by decide +kernel
theorem dX3_readSign_8 : decode cX3_readSign 8 = .ok (.iload_n 1, 1) := by decide +kernel
theorem dX3_readSign_9 : decode cX3_readSign 9 = .ok (.invokevirtual 155, 3) := by decide +kernel
theorem dX3_readSign_12 : decode cX3_readSign 12 = .ok (.ifCond .ne 9, 3) := by decide +kernel
theorem dX3_readSign_15 : decode cX3_readSign 15 = .ok (.aload_n 0, 1) := by decide +kernel
theorem dX3_readSign_16 : decode cX3_readSign 16 = .ok (.iconst 1, 1) := by decide +kernel
theorem dX3_readSign_17 : decode cX3_readSign 17 = .ok (.invokevirtual 68, 3) := by decide +kernel
theorem dX3_readSign_20 : decode cX3_readSign 20 = .ok (.ireturn, 1) := by decide +kernel
theorem dX3_readSign_21 : decode cX3_readSign 21 = .ok (.aload_n 0, 1) := by decide +kernel
theorem dX3_readSign_22 : decode cX3_readSign 22 = .ok (.dup, 1) := by decide +kernel
theorem dX3_readSign_23 : decode cX3_readSign 23 = .ok (.getfield 39, 3) := by decide +kernel
theorem dX3_readSign_26 : decode cX3_readSign 26 = .ok (.iconst 1, 1) := by decide +kernel
theorem dX3_readSign_27 : decode cX3_readSign 27 = .ok (.iadd, 1) := by decide +kernel
theorem dX3_readSign_28 : decode cX3_readSign 28 = .ok (.putfield 39, 3) := by decide +kernel
theorem dX3_readSign_31 : decode cX3_readSign 31 = .ok (.iconst 1, 1) := by decide +kernel
theorem dX3_readSign_32 : decode cX3_readSign 32 = .ok (.ireturn, 1) := by decide +kernel
theorem dX3_readNumber_0 : decode cX3_readNumber 0 = .ok (.aload_n 0, 1) := by decide +kernel
theorem dX3_readNumber_1 : decode cX3_readNumber 1 = .ok (.getfield 32, 3) := by decide +kernel
theorem dX3_readNumber_4 : decode cX3_readNumber 4 = .ok (.aload_n 0, 1) := by decide +kernel
theorem dX3_readNumber_5 : decode cX3_readNumber 5 = .ok (.getfield 39, 3) := by decide +kernel
theorem dX3_readNumber_8 : decode cX3_readNumber 8 = .ok (.invokevirtual 159, 3) := by decide +kernel
theorem dX3_readNumber_11 : decode cX3_readNumber 11 = .ok (.ifCond .ne 11, 3) := by decide +kernel
theorem dX3_readNumber_14 : decode cX3_readNumber 14 = .ok (.aload_n 0, 1) := by decide +kernel
theorem dX3_readNumber_15 : decode cX3_readNumber 15 = .ok (.iconst 1, 1) := by decide +kernel
theorem dX3_readNumber_16 : decode cX3_readNumber 16 = .ok (.invokevirtual 68, 3) := by decide +kernel
theorem dX3_readNumber_19 : decode cX3_readNumber 19 = .ok (.pop, 1) := by decide +kernel
theorem dX3_readNumber_20 : decode cX3_readNumber 20 = .ok (.iconst (-1), 1) := by decide +kernel
theorem dX3_readNumber_21 : decode cX3_readNumber 21 = .ok (.ireturn, 1) := by decide +kernel
theorem dX3_readNumber_22 : decode cX3_readNumber 22 = .ok (.aload_n 0, 1) := by decide +kernel
theorem dX3_readNumber_23 : decode cX3_readNumber 23 = .ok (.getfield 32, 3) := by decide +kernel
theorem dX3_readNumber_26 : decode cX3_readNumber 26 = .ok (.aload_n 0, 1) := by decide +kernel
theorem dX3_readNumber_27 : decode cX3_readNumber 27 = .ok (.getfield 39, 3) := by decide +kernel
theorem dX3_readNumber_30 : decode cX3_readNumber 30 = .ok (.invokevirtual 162, 3) := by decide +kernel
theorem dX3_readNumber_33 : decode cX3_readNumber 33 = .ok (.istore_n 3, 1) := by decide +kernel
theorem dX3_readNumber_34 : decode cX3_readNumber 34 = .ok (.iload_n 3, 1) := by decide +kernel
theorem dX3_readNumber_35 : decode cX3_readNumber 35 = .ok (.iload_n 1, 1) := by decide +kernel
theorem dX3_readNumber_36 : decode cX3_readNumber 36 = .ok (.if_icmp .lt 8, 3) := by decide +kernel
theorem dX3_readNumber_39 : decode cX3_readNumber 39 = .ok (.iload_n 3, 1) := by decide +kernel
theorem dX3_readNumber_40 : decode cX3_readNumber 40 = .ok (.iload_n 2, 1) := by decide +kernel
theorem dX3_readNumber_41 : decode cX3_readNumber 41 = .ok (.if_icmp .le 11, 3) := by decide +kernel
theorem dX3_readNumber_44 : decode cX3_readNumber 44 = .ok (.aload_n 0, 1) := by decide +kernel
theorem dX3_readNumber_45 : decode cX3_readNumber 45 = .ok (.iconst 2, 1) := by decide +kernel
theorem dX3_readNumber_46 : decode cX3_readNumber 46 = .ok (.invokevirtual 68, 3) := by decide +kernel
theorem dX3_readNumber_49 : decode cX3_readNumber 49 = .ok (.pop, 1) := by decide +kernel
theorem dX3_readNumber_50 : decode cX3_readNumber 50 = .ok (.iconst (-1), 1) := by decide +kernel
theorem dX3_readNumber_51 : decode cX3_readNumber 51 = .ok (.ireturn, 1) := by decide +kernel
theorem dX3_readNumber_52 : decode cX3_readNumber 52 = .ok (.aload_n 0, 1) := by decide +kernel
theorem dX3_readNumber_53 : decode cX3_readNumber 53 = .ok (.dup, 1) := by decide +kernel
theorem dX3_readNumber_54 : decode cX3_readNumber 54 = .ok (.getfield 39, 3) := by decide +kernel
theorem dX3_readNumber_57 : decode cX3_readNumber 57 = .ok (.iconst 1, 1) := by decide +kernel
theorem dX3_readNumber_58 : decode cX3_readNumber 58 = .ok (.iadd, 1) := by decide +kernel
theorem dX3_readNumber_59 : decode cX3_readNumber 59 = .ok (.putfield 39, 3) := by decide +kernel
theorem dX3_readNumber_62 : decode cX3_readNumber 62 = .ok (.iload_n 3, 1) := by decide +kernel
theorem dX3_readNumber_63 : decode cX3_readNumber 63 = .ok (.ireturn, 1) := by decide +kernel
theorem dX3_readSum_0 : decode cX3_readSum 0 = .ok (.aload_n 0, 1) := by decide +kernel
theorem dX3_readSum_1 : decode cX3_readSum 1 = .ok (.iload_n 1, 1) := by decide +kernel
theorem dX3_readSum_2 : decode cX3_readSum 2 = .ok (.invokevirtual 165, 3) := by decide +kernel
theorem dX3_readSum_5 : decode cX3_readSum 5 = .ok (.istore_n 2, 1) := by decide +kernel
theorem dX3_readSum_6 : decode cX3_readSum 6 = .ok (.iconst 0, 1) := by decide +kernel
theorem dX3_readSum_7 : decode cX3_readSum 7 = .ok (.istore_n 3, 1) := by decide +kernel
theorem dX3_readSum_8 : decode cX3_readSum 8 = .ok (.iload_n 3, 1) := by decide +kernel
theorem dX3_readSum_9 : decode cX3_readSum 9 = .ok (.sipush 500, 3) := by decide +kernel
theorem dX3_readSum_12 : decode cX3_readSum 12 = .ok (.if_icmp .ge 86, 3) := by decide +kernel
theorem dX3_readSum_15 : decode cX3_readSum 15 = .ok (.iload_n 2, 1) := by decide +kernel
theorem dX3_readSum_16 : decode cX3_readSum 16 = .ok (.ifCond .eq 82, 3) := by decide +kernel
theorem dX3_readSum_19 : decode cX3_readSum 19 = .ok (.aload_n 0, 1) := by decide +kernel
theorem dX3_readSum_20 : decode cX3_readSum 20 = .ok (.getfield 32, 3) := by decide +kernel
theorem dX3_readSum_23 : decode cX3_readSum 23 = .ok (.aload_n 0, 1) := by decide +kernel
theorem dX3_readSum_24 : decode cX3_readSum 24 = .ok (.getfield 39, 3) := by decide +kernel
theorem dX3_readSum_27 : decode cX3_readSum 27 = .ok (.bipush 43, 2) := by decide +kernel
theorem dX3_readSum_29 : decode cX3_readSum 29 = .ok (.invokevirtual 155, 3) := by decide +kernel
theorem dX3_readSum_32 : decode cX3_readSum 32 = .ok (.istore 4, 2) := by decide +kernel
theorem dX3_readSum_34 : decode cX3_readSum 34 = .ok (.iload 4, 2) := by decide +kernel
theorem dX3_readSum_36 : decode cX3_readSum 36 = .ok (.ifCond .ne 21, 3) := by decide +kernel
theorem dX3_readSum_39 : decode cX3_readSum 39 = .ok (.aload_n 0, 1) := by decide +kernel
theorem dX3_readSum_40 : decode cX3_readSum 40 = .ok (.getfield 32, 3) := by decide +kernel
theorem dX3_readSum_43 : decode cX3_readSum 43 = .ok (.aload_n 0, 1) := by decide +kernel
theorem dX3_readSum_44 : decode cX3_readSum 44 = .ok (.getfield 39, 3) := by decide +kernel
theorem dX3_readSum_47 : decode cX3_readSum 47 = .ok (.bipush 45, 2) := by decide +kernel
theorem dX3_readSum_49 : decode cX3_readSum 49 = .ok (.invokevirtual 155, 3) := by decide +kernel
theorem dX3_readSum_52 : decode cX3_readSum 52 = .ok (.ifCond .ne 5, 3) := by decide +kernel
theorem dX3_readSum_55 : decode cX3_readSum 55 = .ok (.iconst 1, 1) := by decide +kernel
theorem dX3_readSum_56 : decode cX3_readSum 56 = .ok (.ireturn, 1) := by decide +kernel
theorem dX3_readSum_57 : decode cX3_readSum 57 = .ok (.aload_n 0, 1) := by decide +kernel
theorem dX3_readSum_58 : decode cX3_readSum 58 = .ok (.dup, 1) := by decide +kernel
theorem dX3_readSum_59 : decode cX3_readSum 59 = .ok (.getfield 39, 3) := by decide +kernel
theorem dX3_readSum_62 : decode cX3_readSum 62 = .ok (.iconst 1, 1) := by decide +kernel
theorem dX3_readSum_63 : decode cX3_readSum 63 = .ok (.iadd, 1) := by decide +kernel
theorem dX3_readSum_64 : decode cX3_readSum 64 = .ok (.putfield 39, 3) := by decide +kernel
theorem dX3_readSum_67 : decode cX3_readSum 67 = .ok (.aload_n 0, 1) := by decide +kernel
theorem dX3_readSum_68 : decode cX3_readSum 68 = .ok (.iload_n 1, 1) := by decide +kernel
theorem dX3_readSum_69 : decode cX3_readSum 69 = .ok (.invokevirtual 165, 3) := by decide +kernel
theorem dX3_readSum_72 : decode cX3_readSum 72 = .ok (.istore_n 2, 1) := by decide +kernel
theorem dX3_readSum_73 : decode cX3_readSum 73 = .ok (.aload_n 0, 1) := by decide +kernel
theorem dX3_readSum_74 : decode cX3_readSum 74 = .ok (.getfield 21, 3) := by decide +kernel
theorem dX3_readSum_77 : decode cX3_readSum 77 = .ok (.iload 4, 2) := by decide +kernel
theorem dX3_readSum_79 : decode cX3_readSum 79 = .ok (.ifCond .eq 7, 3) := by decide +kernel
theorem dX3_readSum_82 : decode cX3_readSum 82 = .ok (.iconst 5, 1) := by decide +kernel
theorem dX3_readSum_83 : decode cX3_readSum 83 = .ok (.goto 5, 3) := by decide +kernel
theorem dX3_readSum_86 : decode cX3_readSum 86 = .ok (.bipush 6, 2) := by decide +kernel
theorem dX3_readSum_88 : decode cX3_readSum 88 = .ok (.iconst 0, 1) := by decide +kernel
theorem dX3_readSum_89 : decode cX3_readSum 89 = .ok (.invokevirtual 168, 3) := by decide +kernel
theorem dX3_readSum_92 : decode cX3_readSum 92 = .ok (.iinc 3 1, 3) := by decide +kernel
theorem dX3_readSum_95 : decode cX3_readSum 95 = .ok (.goto (-87), 3) := by decide +kernel
theorem dX3_readSum_98 : decode cX3_readSum 98 = .ok (.iload_n 2, 1) := by decide +kernel
theorem dX3_readSum_99 : decode cX3_readSum 99 = .ok (.ireturn, 1) := by decide +kernel
theorem dX3_readProduct_0 : decode cX3_readProduct 0 = .ok (.aload_n 0, 1) := by decide +kernel
theorem dX3_readProduct_1 : decode cX3_readProduct 1 = .ok (.iload_n 1, 1) := by decide +kernel
theorem dX3_readProduct_2 : decode cX3_readProduct 2 = .ok (.invokevirtual 172, 3) := by decide +kernel
theorem dX3_readProduct_5 : decode cX3_readProduct 5 = .ok (.istore_n 2, 1) := by decide +kernel
theorem dX3_readProduct_6 : decode cX3_readProduct 6 = .ok (.iconst 0, 1) := by decide +kernel
theorem dX3_readProduct_7 : decode cX3_readProduct 7 = .ok (.istore_n 3, 1) := by decide +kernel
theorem dX3_readProduct_8 : decode cX3_readProduct 8 = .ok (.iload_n 3, 1) := by decide +kernel
theorem dX3_readProduct_9 : decode cX3_readProduct 9 = .ok (.sipush 500, 3) := by decide +kernel
theorem dX3_readProduct_12 : decode cX3_readProduct 12 = .ok (.if_icmp .ge 55, 3) := by decide +kernel
theorem dX3_readProduct_15 : decode cX3_readProduct 15 = .ok (.iload_n 2, 1) := by decide +kernel
theorem dX3_readProduct_16 : decode cX3_readProduct 16 = .ok (.ifCond .eq 51, 3) := by decide +kernel
theorem dX3_readProduct_19 : decode cX3_readProduct 19 = .ok (.aload_n 0, 1) := by decide +kernel
theorem dX3_readProduct_20 : decode cX3_readProduct 20 = .ok (.getfield 32, 3) := by decide +kernel
theorem dX3_readProduct_23 : decode cX3_readProduct 23 = .ok (.aload_n 0, 1) := by decide +kernel
theorem dX3_readProduct_24 : decode cX3_readProduct 24 = .ok (.getfield 39, 3) := by decide +kernel
theorem dX3_readProduct_27 : decode cX3_readProduct 27 = .ok (.bipush 42, 2) := by decide +kernel
theorem dX3_readProduct_29 : decode cX3_readProduct 29 = .ok (.invokevirtual 155, 3) := by decide +kernel
theorem dX3_readProduct_32 : decode cX3_readProduct 32 = .ok (.ifCond .eq 35, 3) := by decide +kernel
theorem dX3_readProduct_35 : decode cX3_readProduct 35 = .ok (.aload_n 0, 1) := by decide +kernel
theorem dX3_readProduct_36 : decode cX3_readProduct 36 = .ok (.dup, 1) := by decide +kernel
theorem dX3_readProduct_37 : decode cX3_readProduct 37 = .ok (.getfield 39, 3) := by decide +kernel
theorem dX3_readProduct_40 : decode cX3_readProduct 40 = .ok (.iconst 1, 1) := by decide +kernel
theorem dX3_readProduct_41 : decode cX3_readProduct 41 = .ok (.iadd, 1) := by decide +kernel
theorem dX3_readProduct_42 : decode cX3_readProduct 42 = .ok (.putfield 39, 3) := by decide +kernel
theorem dX3_readProduct_45 : decode cX3_readProduct 45 = .ok (.aload_n 0, 1) := by decide +kernel
theorem dX3_readProduct_46 : decode cX3_readProduct 46 = .ok (.iload_n 1, 1) := by decide +kernel
theorem dX3_readProduct_47 : decode cX3_readProduct 47 = .ok (.invokevirtual 172, 3) := by decide +kernel
theorem dX3_readProduct_50 : decode cX3_readProduct 50 = .ok (.istore_n 2, 1) := by decide +kernel
theorem dX3_readProduct_51 : decode cX3_readProduct 51 = .ok (.aload_n 0, 1) := by decide +kernel
theorem dX3_readProduct_52 : decode cX3_readProduct 52 = .ok (.getfield 21, 3) := by decide +kernel
theorem dX3_readProduct_55 : decode cX3_readProduct 55 = .ok (.bipush 7, 2) := by decide +kernel
theorem dX3_readProduct_57 : decode cX3_readProduct 57 = .ok (.iconst 0, 1) := by decide +kernel
theorem dX3_readProduct_58 : decode cX3_readProduct 58 = .ok (.invokevirtual 168, 3) := by decide +kernel
theorem dX3_readProduct_61 : decode cX3_readProduct 61 = .ok (.iinc 3 1, 3) := by decide +kernel
theorem dX3_readProduct_64 : decode cX3_readProduct 64 = .ok (.goto (-56), 3) := by decide +kernel
theorem dX3_readProduct_67 : decode cX3_readProduct 67 = .ok (.iload_n 2, 1) := by decide +kernel
theorem dX3_readProduct_68 : decode cX3_readProduct 68 = .ok (.ireturn, 1) := by decide +kernel
theorem dX3_readUnit_0 : decode cX3_readUnit 0 = .ok (.aload_n 0, 1) := by decide +kernel
theorem dX3_readUnit_1 : decode cX3_readUnit 1 = .ok (.getfield 32, 3) := by decide +kernel
theorem dX3_readUnit_4 : decode cX3_readUnit 4 = .ok (.aload_n 0, 1) := by decide +kernel
theorem dX3_readUnit_5 : decode cX3_readUnit 5 = .ok (.getfield 39, 3) := by decide +kernel
theorem dX3_readUnit_8 : decode cX3_readUnit 8 = .ok (.bipush 45, 2) := by decide +kernel
theorem dX3_readUnit_10 : decode cX3_readUnit 10 = .ok (.invokevirtual 155, 3) := by decide +kernel
theorem dX3_readUnit_13 : decode cX3_readUnit 13 = .ok (.istore_n 2, 1) := by decide +kernel
theorem dX3_readUnit_14 : decode cX3_readUnit 14 = .ok (.iload_n 2, 1) := by decide +kernel
theorem dX3_readUnit_15 : decode cX3_readUnit 15 = .ok (.ifCond .ne 24, 3) := by decide +kernel
theorem dX3_readUnit_18 : decode cX3_readUnit 18 = .ok (.aload_n 0, 1) := by decide +kernel
theorem dX3_readUnit_19 : decode cX3_readUnit 19 = .ok (.getfield 32, 3) := by decide +kernel
theorem dX3_readUnit_22 : decode cX3_readUnit 22 = .ok (.aload_n 0, 1) := by decide +kernel
theorem dX3_readUnit_23 : decode cX3_readUnit 23 = .ok (.getfield 39, 3) := by decide +kernel
theorem dX3_readUnit_26 : decode cX3_readUnit 26 = .ok (.bipush 40, 2) := by decide +kernel
theorem dX3_readUnit_28 : decode cX3_readUnit 28 = .ok (.invokevirtual 155, 3) := by decide +kernel
theorem dX3_readUnit_31 : decode cX3_readUnit 31 = .ok (.ifCond .ne 8, 3) := by decide +kernel
theorem dX3_readUnit_34 : decode cX3_readUnit 34 = .ok (.aload_n 0, 1) := by decide +kernel
theorem dX3_readUnit_35 : decode cX3_readUnit 35 = .ok (.invokevirtual 175, 3) := by decide +kernel
theorem dX3_readUnit_38 : decode cX3_readUnit 38 = .ok (.ireturn, 1) := by decide +kernel
theorem dX3_readUnit_39 : decode cX3_readUnit 39 = .ok (.iload_n 1, 1) := by decide +kernel
theorem dX3_readUnit_40 : decode cX3_readUnit 40 = .ok (.iconst 4, 1) := by decide +kernel
theorem dX3_readUnit_41 : decode cX3_readUnit 41 = .ok (.if_icmp .lt 9, 3) := by decide +kernel
theorem dX3_readUnit_44 : decode cX3_readUnit 44 = .ok (.aload_n 0, 1) := by decide +kernel
theorem dX3_readUnit_45 : decode cX3_readUnit 45 = .ok (.iconst 4, 1) := by decide +kernel
theorem dX3_readUnit_46 : decode cX3_readUnit 46 = .ok (.invokevirtual 68, 3) := by decide +kernel
theorem dX3_readUnit_49 : decode cX3_readUnit 49 = .ok (.ireturn, 1) := by decide +kernel
theorem dX3_readUnit_50 : decode cX3_readUnit 50 = .ok (.aload_n 0, 1) := by decide +kernel
theorem dX3_readUnit_51 : decode cX3_readUnit 51 = .ok (.dup, 1) := by decide +kernel
theorem dX3_readUnit_52 : decode cX3_readUnit 52 = .ok (.getfield 39, 3) := by decide +kernel
theorem dX3_readUnit_55 : decode cX3_readUnit 55 = .ok (.iconst 1, 1) := by decide +kernel
theorem dX3_readUnit_56 : decode cX3_readUnit 56 = .ok (.iadd, 1) := by decide +kernel
theorem dX3_readUnit_57 : decode cX3_readUnit 57 = .ok (.putfield 39, 3) := by decide +kernel
theorem dX3_readUnit_60 : decode cX3_readUnit 60 = .ok (.iload_n 2, 1) := by decide +kernel
theorem dX3_readUnit_61 : decode cX3_readUnit 61 = .ok (.ifCond .ne 28, 3) := by decide +kernel
theorem dX3_readUnit_64 : decode cX3_readUnit 64 = .ok (.aload_n 0, 1) := by decide +kernel
theorem dX3_readUnit_65 : decode cX3_readUnit 65 = .ok (.iload_n 1, 1) := by decide +kernel
theorem dX3_readUnit_66 : decode cX3_readUnit 66 = .ok (.iconst 1, 1) := by decide +kernel
theorem dX3_readUnit_67 : decode cX3_readUnit 67 = .ok (.iadd, 1) := by decide +kernel
theorem dX3_readUnit_68 : decode cX3_readUnit 68 = .ok (.invokevirtual 114, 3) := by decide +kernel
theorem dX3_readUnit_71 : decode cX3_readUnit 71 = .ok (.ifCond .eq 16, 3) := by decide +kernel
theorem dX3_readUnit_74 : decode cX3_readUnit 74 = .ok (.aload_n 0, 1) := by decide +kernel
theorem dX3_readUnit_75 : decode cX3_readUnit 75 = .ok (.bipush 41, 2) := by decide +kernel
theorem dX3_readUnit_77 : decode cX3_readUnit 77 = .ok (.invokevirtual 64, 3) := by decide +kernel
theorem dX3_readUnit_80 : decode cX3_readUnit 80 = .ok (.ifCond .eq 7, 3) := by decide +kernel
theorem dX3_readUnit_83 : decode cX3_readUnit 83 = .ok (.iconst 1, 1) := by decide +kernel
theorem dX3_readUnit_84 : decode cX3_readUnit 84 = .ok (.goto 4, 3) := by decide +kernel
theorem dX3_readUnit_87 : decode cX3_readUnit 87 = .ok (.iconst 0, 1) := by decide +kernel
theorem dX3_readUnit_88 : decode cX3_readUnit 88 = .ok (.ireturn, 1) := by decide +kernel
theorem dX3_readUnit_89 : decode cX3_readUnit 89 = .ok (.aload_n 0, 1) := by decide +kernel
theorem dX3_readUnit_90 : decode cX3_readUnit 90 = .ok (.iload_n 1, 1) := by decide +kernel
theorem dX3_readUnit_91 : decode cX3_readUnit 91 = .ok (.iconst 1, 1) := by decide +kernel
theorem dX3_readUnit_92 : decode cX3_readUnit 92 = .ok (.iadd, 1) := by decide +kernel
theorem dX3_readUnit_93 : decode cX3_readUnit 93 = .ok (.invokevirtual 172, 3) := by decide +kernel
theorem dX3_readUnit_96 : decode cX3_readUnit 96 = .ok (.istore_n 3, 1) := by decide +kernel
theorem dX3_readUnit_97 : decode cX3_readUnit 97 = .ok (.aload_n 0, 1) := by decide +kernel
theorem dX3_readUnit_98 : decode cX3_readUnit 98 = .ok (.getfield 21, 3) := by decide +kernel
theorem dX3_readUnit_101 : decode cX3_readUnit 101 = .ok (.iconst 4, 1) := by decide +kernel
theorem dX3_readUnit_102 : decode cX3_readUnit 102 = .ok (.iconst 0, 1) := by decide +kernel
theorem dX3_readUnit_103 : decode cX3_readUnit 103 = .ok (.invokevirtual 168, 3) := by decide +kernel
theorem dX3_readUnit_106 : decode cX3_readUnit 106 = .ok (.iload_n 3, 1) := by decide +kernel
theorem dX3_readUnit_107 : decode cX3_readUnit 107 = .ok (.ireturn, 1) := by decide +kernel
theorem dX3_readLeaf_0 : decode cX3_readLeaf 0 = .ok (.aload_n 0, 1) := by decide +kernel
theorem dX3_readLeaf_1 : decode cX3_readLeaf 1 = .ok (.invokevirtual 178, 3) := by decide +kernel
theorem dX3_readLeaf_4 : decode cX3_readLeaf 4 = .ok (.istore_n 1, 1) := by decide +kernel
theorem dX3_readLeaf_5 : decode cX3_readLeaf 5 = .ok (.iload_n 1, 1) := by decide +kernel
theorem dX3_readLeaf_6 : decode cX3_readLeaf 6 = .ok (.iconst (-1), 1) := by decide +kernel
theorem dX3_readLeaf_7 : decode cX3_readLeaf 7 = .ok (.if_icmp .ne 9, 3) := by decide +kernel
theorem dX3_readLeaf_10 : decode cX3_readLeaf 10 = .ok (.aload_n 0, 1) := by decide +kernel
theorem dX3_readLeaf_11 : decode cX3_readLeaf 11 = .ok (.iconst 1, 1) := by decide +kernel
theorem dX3_readLeaf_12 : decode cX3_readLeaf 12 = .ok (.invokevirtual 68, 3) := by decide +kernel
theorem dX3_readLeaf_15 : decode cX3_readLeaf 15 = .ok (.ireturn, 1) := by decide +kernel
theorem dX3_readLeaf_16 : decode cX3_readLeaf 16 = .ok (.iload_n 1, 1) := by decide +kernel
theorem dX3_readLeaf_17 : decode cX3_readLeaf 17 = .ok (.ifCond .eq 13, 3) := by decide +kernel
theorem dX3_readLeaf_20 : decode cX3_readLeaf 20 = .ok (.aload_n 0, 1) := by decide +kernel
theorem dX3_readLeaf_21 : decode cX3_readLeaf 21 = .ok (.dup, 1) := by decide +kernel
theorem dX3_readLeaf_22 : decode cX3_readLeaf 22 = .ok (.getfield 39, 3) := by decide +kernel
theorem dX3_readLeaf_25 : decode cX3_readLeaf 25 = .ok (.iconst 1, 1) := by decide +kernel
theorem dX3_readLeaf_26 : decode cX3_readLeaf 26 = .ok (.iadd, 1) := by decide +kernel
theorem dX3_readLeaf_27 : decode cX3_readLeaf 27 = .ok (.putfield 39, 3) := by decide +kernel
theorem dX3_readLeaf_30 : decode cX3_readLeaf 30 = .ok (.aload_n 0, 1) := by decide +kernel
theorem dX3_readLeaf_31 : decode cX3_readLeaf 31 = .ok (.iconst 0, 1) := by decide +kernel
theorem dX3_readLeaf_32 : decode cX3_readLeaf 32 = .ok (.iload_n 1, 1) := by decide +kernel
theorem dX3_readLeaf_33 : decode cX3_readLeaf 33 = .ok (.ifCond .ne 8, 3) := by decide +kernel
theorem dX3_readLeaf_36 : decode cX3_readLeaf 36 = .ok (.bipush 99, 2) := by decide +kernel
theorem dX3_readLeaf_38 : decode cX3_readLeaf 38 = .ok (.goto 12, 3) := by decide +kernel
theorem dX3_readLeaf_41 : decode cX3_readLeaf 41 = .ok (.aload_n 0, 1) := by decide +kernel
theorem dX3_readLeaf_42 : decode cX3_readLeaf 42 = .ok (.getfield 12, 3) := by decide +kernel
theorem dX3_readLeaf_45 : decode cX3_readLeaf 45 = .ok (.getfield 92, 3) := by decide +kernel
theorem dX3_readLeaf_48 : decode cX3_readLeaf 48 = .ok (.iconst 1, 1) := by decide +kernel
theorem dX3_readLeaf_49 : decode cX3_readLeaf 49 = .ok (.isub, 1) := by decide +kernel
theorem dX3_readLeaf_50 : decode cX3_readLeaf 50 = .ok (.invokevirtual 88, 3) := by decide +kernel
theorem dX3_readLeaf_53 : decode cX3_readLeaf 53 = .ok (.istore_n 2, 1) := by decide +kernel
theorem dX3_readLeaf_54 : decode cX3_readLeaf 54 = .ok (.iload_n 2, 1) := by decide +kernel
theorem dX3_readLeaf_55 : decode cX3_readLeaf 55 = .ok (.iconst (-1), 1) := by decide +kernel
theorem dX3_readLeaf_56 : decode cX3_readLeaf 56 = .ok (.if_icmp .ne 5, 3) := by decide +kernel
theorem dX3_readLeaf_59 : decode cX3_readLeaf 59 = .ok (.iconst 0, 1) := by decide +kernel
theorem dX3_readLeaf_60 : decode cX3_readLeaf 60 = .ok (.ireturn, 1) := by decide +kernel
theorem dX3_readLeaf_61 : decode cX3_readLeaf 61 = .ok (.aload_n 0, 1) := by decide +kernel
theorem dX3_readLeaf_62 : decode cX3_readLeaf 62 = .ok (.getfield 21, 3) := by decide +kernel
theorem dX3_readLeaf_65 : decode cX3_readLeaf 65 = .ok (.iload_n 1, 1) := by decide +kernel
theorem dX3_readLeaf_66 : decode cX3_readLeaf 66 = .ok (.iload_n 2, 1) := by decide +kernel
theorem dX3_readLeaf_67 : decode cX3_readLeaf 67 = .ok (.invokevirtual 168, 3) := by decide +kernel
theorem dX3_readLeaf_70 : decode cX3_readLeaf 70 = .ok (.iconst 1, 1) := by decide +kernel
theorem dX3_readLeaf_71 : decode cX3_readLeaf 71 = .ok (.ireturn, 1) := by decide +kernel
theorem dX3_leafKindAt_0 : decode cX3_leafKindAt 0 = .ok (.aload_n 0, 1) := by decide +kernel
theorem dX3_leafKindAt_1 : decode cX3_leafKindAt 1 = .ok (.getfield 32, 3) := by decide +kernel
theorem dX3_leafKindAt_4 : decode cX3_leafKindAt 4 = .ok (.aload_n 0, 1) := by decide +kernel
theorem dX3_leafKindAt_5 : decode cX3_leafKindAt 5 = .ok (.getfield 39, 3) := by decide +kernel
theorem dX3_leafKindAt_8 : decode cX3_leafKindAt 8 = .ok (.invokevirtual 159, 3) := by decide +kernel
theorem dX3_leafKindAt_11 : decode cX3_leafKindAt 11 = .ok (.ifCond .eq 5, 3) := by decide +kernel
theorem dX3_leafKindAt_14 : decode cX3_leafKindAt 14 = .ok (.iconst 0, 1) := by decide +kernel
theorem dX3_leafKindAt_15 : decode cX3_leafKindAt 15 = .ok (.ireturn, 1) := by decide +kernel
theorem dX3_leafKindAt_16 : decode cX3_leafKindAt 16 = .ok (.aload_n 0, 1) := by decide +kernel
theorem dX3_leafKindAt_17 : decode cX3_leafKindAt 17 = .ok (.getfield 32, 3) := by decide +kernel
theorem dX3_leafKindAt_20 : decode cX3_leafKindAt 20 = .ok (.aload_n 0, 1) := by decide +kernel
theorem dX3_leafKindAt_21 : decode cX3_leafKindAt 21 = .ok (.getfield 39, 3) := by decide +kernel
theorem dX3_leafKindAt_24 : decode cX3_leafKindAt 24 = .ok (.ldc 181, 2) := by decide +kernel
theorem dX3_leafKindAt_26 : decode cX3_leafKindAt 26 = .ok (.invokevirtual 84, 3) := by decide +kernel
theorem dX3_leafKindAt_29 : decode cX3_leafKindAt 29 = .ok (.ifCond .eq 5, 3) := by decide +kernel
theorem dX3_leafKindAt_32 : decode cX3_leafKindAt 32 = .ok (.iconst 1, 1) := by decide +kernel
theorem dX3_leafKindAt_33 : decode cX3_leafKindAt 33 = .ok (.ireturn, 1) := by decide +kernel
theorem dX3_leafKindAt_34 : decode cX3_leafKindAt 34 = .ok (.aload_n 0, 1) := by decide +kernel
theorem dX3_leafKindAt_35 : decode cX3_leafKindAt 35 = .ok (.getfield 32, 3) := by decide +kernel
theorem dX3_leafKindAt_38 : decode cX3_leafKindAt 38 = .ok (.aload_n 0, 1) := by decide +kernel
theorem dX3_leafKindAt_39 : decode cX3_leafKindAt 39 = .ok (.getfield 39, 3) := by decide +kernel
theorem dX3_leafKindAt_42 : decode cX3_leafKindAt 42 = .ok (.ldc 183, 2) := by decide +kernel
theorem dX3_leafKindAt_44 : decode cX3_leafKindAt 44 = .ok (.invokevirtual 84, 3) := by decide +kernel
theorem dX3_leafKindAt_47 : decode cX3_leafKindAt 47 = .ok (.ifCond .eq 5, 3) := by decide +kernel
theorem dX3_leafKindAt_50 : decode cX3_leafKindAt 50 = .ok (.iconst 2, 1) := by decide +kernel
theorem dX3_leafKindAt_51 : decode cX3_leafKindAt 51 = .ok (.ireturn, 1) := by decide +kernel
theorem dX3_leafKindAt_52 : decode cX3_leafKindAt 52 = .ok (.aload_n 0, 1) := by decide +kernel
theorem dX3_leafKindAt_53 : decode cX3_leafKindAt 53 = .ok (.getfield 32, 3) := by decide +kernel
theorem dX3_leafKindAt_56 : decode cX3_leafKindAt 56 = .ok (.aload_n 0, 1) := by decide +kernel
theorem dX3_leafKindAt_57 : decode cX3_leafKindAt 57 = .ok (.getfield 39, 3) := by decide +kernel
theorem dX3_leafKindAt_60 : decode cX3_leafKindAt 60 = .ok (.ldc 185, 2) := by decide +kernel
theorem dX3_leafKindAt_62 : decode cX3_leafKindAt 62 = .ok (.invokevirtual 84, 3) := by decide +kernel
theorem dX3_leafKindAt_65 : decode cX3_leafKindAt 65 = .ok (.ifCond .eq 7, 3) := by decide +kernel
theorem dX3_leafKindAt_68 : decode cX3_leafKindAt 68 = .ok (.iconst 3, 1) := by decide +kernel
theorem dX3_leafKindAt_69 : decode cX3_leafKindAt 69 = .ok (.goto 4, 3) := by decide +kernel
theorem dX3_leafKindAt_72 : decode cX3_leafKindAt 72 = .ok (.iconst (-1), 1) := by decide +kernel
theorem dX3_leafKindAt_73 : decode cX3_leafKindAt 73 = .ok (.ireturn, 1) := by decide +kernel
theorem dX4_init_0 : decode cX4_init 0 = .ok (.aload_n 0, 1) := by decide +kernel
theorem dX4_init_1 : decode cX4_init 1 = .ok (.invokespecial 3, 3) := by decide +kernel
theorem dX4_init_4 : decode cX4_init 4 = .ok (.aload_n 0, 1) := by decide +kernel
theorem dX4_init_5 : decode cX4_init 5 = .ok (.sipush 501, 3) := by decide +kernel
theorem dX4_init_8 : decode cX4_init 8 = .ok (.newarray .int, 2) := by decide +kernel
theorem dX4_init_10 : decode cX4_init 10 = .ok (.putfield 9, 3) := by decide +kernel
theorem dX4_init_13 : decode cX4_init 13 = .ok (.aload_n 0, 1) := by decide +kernel
theorem dX4_init_14 : decode cX4_init 14 = .ok (.sipush 501, 3) := by decide +kernel
theorem dX4_init_17 : decode cX4_init 17 = .ok (.newarray .int, 2) := by decide +kernel
theorem dX4_init_19 : decode cX4_init 19 = .ok (.putfield 15, 3) := by decide +kernel
theorem dX4_init_22 : decode cX4_init 22 = .ok (.aload_n 0, 1) := by decide +kernel
theorem dX4_init_23 : decode cX4_init 23 = .ok (.sipush 501, 3) := by decide +kernel
theorem dX4_init_26 : decode cX4_init 26 = .ok (.newarray .int, 2) := by decide +kernel
theorem dX4_init_28 : decode cX4_init 28 = .ok (.putfield 18, 3) := by decide +kernel
theorem dX4_init_31 : decode cX4_init 31 = .ok (.aload_n 0, 1) := by decide +kernel
theorem dX4_init_32 : decode cX4_init 32 = .ok (.iconst 0, 1) := by decide +kernel
theorem dX4_init_33 : decode cX4_init 33 = .ok (.putfield 21, 3) := by decide +kernel
theorem dX4_init_36 : decode cX4_init 36 = .ok (.aload_n 0, 1) := by decide +kernel
theorem dX4_init_37 : decode cX4_init 37 = .ok (.iconst 0, 1) := by decide +kernel
theorem dX4_init_38 : decode cX4_init 38 = .ok (.newarray .byte, 2) := by decide +kernel
theorem dX4_init_40 : decode cX4_init 40 = .ok (.putfield 25, 3) := by decide +kernel
theorem dX4_init_43 : decode cX4_init 43 = .ok (.aload_n 0, 1) := by decide +kernel
theorem dX4_init_44 : decode cX4_init 44 = .ok (.iconst 0, 1) := by decide +kernel
theorem dX4_init_45 : decode cX4_init 45 = .ok (.putfield 29, 3) := by decide +kernel
theorem dX4_init_48 : decode cX4_init 48 = .ok (.return_, 1) := by decide +kernel
theorem dX4_scan_0 : decode cX4_scan 0 = .ok (.aload_n 0, 1) := by decide +kernel
theorem dX4_scan_1 : decode cX4_scan 1 = .ok (.aload_n 1, 1) := by decide +kernel
theorem dX4_scan_2 : decode cX4_scan 2 = .ok (.putfield 25, 3) := by decide +kernel
theorem dX4_scan_5 : decode cX4_scan 5 = .ok (.aload_n 0, 1) := by decide +kernel
theorem dX4_scan_6 : decode cX4_scan 6 = .ok (.iload_n 2, 1) := by decide +kernel
theorem dX4_scan_7 : decode cX4_scan 7 = .ok (.iconst 0, 1) := by decide +kernel
theorem dX4_scan_8 : decode cX4_scan 8 = .ok (.sipush 500, 3) := by decide +kernel
theorem dX4_scan_11 : decode cX4_scan 11 = .ok (.aload_n 1, 1) := by decide +kernel
theorem dX4_scan_12 : decode cX4_scan 12 = .ok (.arraylength, 1) := by decide +kernel
theorem dX4_scan_13 : decode cX4_scan 13 = .ok (.invokestatic 32, 3) := by decide +kernel
theorem dX4_scan_16 : decode cX4_scan 16 = .ok (.invokestatic 38, 3) := by decide +kernel
theorem dX4_scan_19 : decode cX4_scan 19 = .ok (.putfield 29, 3) := by decide +kernel
theorem dX4_scan_22 : decode cX4_scan 22 = .ok (.aload_n 0, 1) := by decide +kernel
theorem dX4_scan_23 : decode cX4_scan 23 = .ok (.iconst 0, 1) := by decide +kernel
theorem dX4_scan_24 : decode cX4_scan 24 = .ok (.putfield 21, 3) := by decide +kernel
theorem dX4_scan_27 : decode cX4_scan 27 = .ok (.iconst 0, 1) := by decide +kernel
theorem dX4_scan_28 : decode cX4_scan 28 = .ok (.istore_n 3, 1) := by decide +kernel
theorem dX4_scan_29 : decode cX4_scan 29 = .ok (.iconst 0, 1) := by decide +kernel
theorem dX4_scan_30 : decode cX4_scan 30 = .ok (.istore 4, 2) := by decide +kernel
theorem dX4_scan_32 : decode cX4_scan 32 = .ok (.iload 4, 2) := by decide +kernel
theorem dX4_scan_34 : decode cX4_scan 34 = .ok (.sipush 500, 3) := by decide +kernel
theorem dX4_scan_37 : decode cX4_scan 37 = .ok (.if_icmp .ge 40, 3) := by decide +kernel
theorem dX4_scan_40 : decode cX4_scan 40 = .ok (.iload_n 3, 1) := by decide +kernel
theorem dX4_scan_41 : decode cX4_scan 41 = .ok (.aload_n 0, 1) := by decide +kernel
theorem dX4_scan_42 : decode cX4_scan 42 = .ok (.getfield 29, 3) := by decide +kernel
theorem dX4_scan_45 : decode cX4_scan 45 = .ok (.if_icmp .ge 32, 3) := by decide +kernel
theorem dX4_scan_48 : decode cX4_scan 48 = .ok (.aload_n 0, 1) := by decide +kernel
theorem dX4_scan_49 : decode cX4_scan 49 = .ok (.getfield 25, 3) := by decide +kernel
theorem dX4_scan_52 : decode cX4_scan 52 = .ok (.iload_n 3, 1) := by decide +kernel
theorem dX4_scan_53 : decode cX4_scan 53 = .ok (.baload, 1) := by decide +kernel
theorem dX4_scan_54 : decode cX4_scan 54 = .ok (.bipush 32, 2) := by decide +kernel
theorem dX4_scan_56 : decode cX4_scan 56 = .ok (.if_icmp .ne 9, 3) := by decide +kernel
theorem dX4_scan_59 : decode cX4_scan 59 = .ok (.iinc 3 1, 3) := by decide +kernel
theorem dX4_scan_62 : decode cX4_scan 62 = .ok (.goto 9, 3) := by decide +kernel
theorem dX4_scan_65 : decode cX4_scan 65 = .ok (.aload_n 0, 1) := by decide +kernel
theorem dX4_scan_66 : decode cX4_scan 66 = .ok (.iload_n 3, 1) := by decide +kernel
theorem dX4_scan_67 : decode cX4_scan 67 = .ok (.invokevirtual 42, 3) := by decide +kernel
theorem dX4_scan_70 : decode cX4_scan 70 = .ok (.istore_n 3, 1) := by decide +kernel
theorem dX4_scan_71 : decode cX4_scan 71 = .ok (.iinc 4 1, 3) := by decide +kernel
theorem dX4_scan_74 : decode cX4_scan 74 = .ok (.goto (-42), 3) := by decide +kernel
theorem dX4_scan_77 : decode cX4_scan 77 = .ok (.aload_n 0, 1) := by decide +kernel
theorem dX4_scan_78 : decode cX4_scan 78 = .ok (.iconst 0, 1) := by decide +kernel
theorem dX4_scan_79 : decode cX4_scan 79 = .ok (.aload_n 0, 1) := by decide +kernel
theorem dX4_scan_80 : decode cX4_scan 80 = .ok (.getfield 29, 3) := by decide +kernel
theorem dX4_scan_83 : decode cX4_scan 83 = .ok (.iconst 0, 1) := by decide +kernel
theorem dX4_scan_84 : decode cX4_scan 84 = .ok (.invokevirtual 46, 3) := by decide +kernel
theorem dX4_scan_87 : decode cX4_scan 87 = .ok (.return_, 1) := by decide +kernel
theorem dX4_scanOne_0 : decode cX4_scanOne 0 = .ok (.iload_n 1, 1) := by decide +kernel
theorem dX4_scanOne_1 : decode cX4_scanOne 1 = .ok (.istore_n 2, 1) := by decide +kernel
theorem dX4_scanOne_2 : decode cX4_scanOne 2 = .ok (.aload_n 0, 1) := by decide +kernel
theorem dX4_scanOne_3 : decode cX4_scanOne 3 = .ok (.iload_n 1, 1) := by decide +kernel
theorem dX4_scanOne_4 : decode cX4_scanOne 4 = .ok (.invokevirtual 50, 3) := by decide +kernel
theorem dX4_scanOne_7 : decode cX4_scanOne 7 = .ok (.ifCond .eq 36, 3) := by decide +kernel
theorem dX4_scanOne_10 : decode cX4_scanOne 10 = .ok (.iload_n 2, 1) := by decide +kernel
theorem dX4_scanOne_11 : decode cX4_scanOne 11 = .ok (.aload_n 0, 1) := by decide +kernel
theorem dX4_scanOne_12 : decode cX4_scanOne 12 = .ok (.getfield 29, 3) := by decide +kernel
theorem dX4_scanOne_15 : decode cX4_scanOne 15 = .ok (.if_icmp .ge 17, 3) := by decide +kernel
theorem dX4_scanOne_18 : decode cX4_scanOne 18 = .ok (.aload_n 0, 1) := by decide +kernel
theorem dX4_scanOne_19 : decode cX4_scanOne 19 = .ok (.iload_n 2, 1) := by decide +kernel
theorem dX4_scanOne_20 : decode cX4_scanOne 20 = .ok (.invokevirtual 50, 3) := by decide +kernel
theorem dX4_scanOne_23 : decode cX4_scanOne 23 = .ok (.ifCond .eq 9, 3) := by decide +kernel
theorem dX4_scanOne_26 : decode cX4_scanOne 26 = .ok (.iinc 2 1, 3) := by decide +kernel
theorem dX4_scanOne_29 : decode cX4_scanOne 29 = .ok (.goto (-19), 3) := by decide +kernel
theorem dX4_scanOne_32 : decode cX4_scanOne 32 = .ok (.aload_n 0, 1) := by decide +kernel
theorem dX4_scanOne_33 : decode cX4_scanOne 33 = .ok (.iconst 1, 1) := by decide +kernel
theorem dX4_scanOne_34 : decode cX4_scanOne 34 = .ok (.iload_n 1, 1) := by decide +kernel
theorem dX4_scanOne_35 : decode cX4_scanOne 35 = .ok (.iload_n 2, 1) := by decide +kernel
theorem dX4_scanOne_36 : decode cX4_scanOne 36 = .ok (.iload_n 1, 1) := by decide +kernel
theorem dX4_scanOne_37 : decode cX4_scanOne 37 = .ok (.isub, 1) := by decide +kernel
theorem dX4_scanOne_38 : decode cX4_scanOne 38 = .ok (.invokevirtual 46, 3) := by decide +kernel
theorem dX4_scanOne_41 : decode cX4_scanOne 41 = .ok (.iload_n 2, 1) := by decide +kernel
theorem dX4_scanOne_42 : decode cX4_scanOne 42 = .ok (.ireturn, 1) := by decide +kernel
theorem dX4_scanOne_43 : decode cX4_scanOne 43 = .ok (.aload_n 0, 1) := by decide +kernel
theorem dX4_scanOne_44 : decode cX4_scanOne 44 = .ok (.iload_n 1, 1) := by decide +kernel
theorem dX4_scanOne_45 : decode cX4_scanOne 45 = .ok (.invokevirtual 54, 3) := by decide +kernel
theorem dX4_scanOne_48 : decode cX4_scanOne 48 = .ok (.ifCond .ne 19, 3) := by decide +kernel
theorem dX4_scanOne_51 : decode cX4_scanOne 51 = .ok (.aload_n 0, 1) := by decide +kernel
theorem dX4_scanOne_52 : decode cX4_scanOne 52 = .ok (.iconst 3, 1) := by decide +kernel
theorem dX4_scanOne_53 : decode cX4_scanOne 53 = .ok (.iload_n 1, 1) := by decide +kernel
theorem dX4_scanOne_54 : decode cX4_scanOne 54 = .ok (.aload_n 0, 1) := by decide +kernel
theorem dX4_scanOne_55 : decode cX4_scanOne 55 = .ok (.getfield 25, 3) := by decide +kernel
theorem dX4_scanOne_58 : decode cX4_scanOne 58 = .ok (.iload_n 1, 1) := by decide +kernel
theorem dX4_scanOne_59 : decode cX4_scanOne 59 = .ok (.baload, 1) := by decide +kernel
theorem dX4_scanOne_60 : decode cX4_scanOne 60 = .ok (.invokevirtual 46, 3) := by decide +kernel
theorem dX4_scanOne_63 : decode cX4_scanOne 63 = .ok (.iload_n 1, 1) := by decide +kernel
theorem dX4_scanOne_64 : decode cX4_scanOne 64 = .ok (.iconst 1, 1) := by decide +kernel
theorem dX4_scanOne_65 : decode cX4_scanOne 65 = .ok (.iadd, 1) := by decide +kernel
theorem dX4_scanOne_66 : decode cX4_scanOne 66 = .ok (.ireturn, 1) := by decide +kernel
theorem dX4_scanOne_67 : decode cX4_scanOne 67 = .ok (.iconst 0, 1) := by decide +kernel
theorem dX4_scanOne_68 : decode cX4_scanOne 68 = .ok (.istore_n 3, 1) := by decide +kernel
theorem dX4_scanOne_69 : decode cX4_scanOne 69 = .ok (.iload_n 2, 1) := by decide +kernel
theorem dX4_scanOne_70 : decode cX4_scanOne 70 = .ok (.aload_n 0, 1) := by decide +kernel
theorem dX4_scanOne_71 : decode cX4_scanOne 71 = .ok (.getfield 29, 3) := by decide +kernel
theorem dX4_scanOne_74 : decode cX4_scanOne 74 = .ok (.if_icmp .ge 38, 3) := by decide +kernel
theorem dX4_scanOne_77 : decode cX4_scanOne 77 = .ok (.aload_n 0, 1) := by decide +kernel
theorem dX4_scanOne_78 : decode cX4_scanOne 78 = .ok (.iload_n 2, 1) := by decide +kernel
theorem dX4_scanOne_79 : decode cX4_scanOne 79 = .ok (.invokevirtual 54, 3) := by decide +kernel
theorem dX4_scanOne_82 : decode cX4_scanOne 82 = .ok (.ifCond .eq 30, 3) := by decide +kernel
theorem dX4_scanOne_85 : decode cX4_scanOne 85 = .ok (.sipush 1000, 3) := by decide +kernel
theorem dX4_scanOne_88 : decode cX4_scanOne 88 = .ok (.bipush 10, 2) := by decide +kernel
theorem dX4_scanOne_90 : decode cX4_scanOne 90 = .ok (.iload_n 3, 1) := by decide +kernel
theorem dX4_scanOne_91 : decode cX4_scanOne 91 = .ok (.imul, 1) := by decide +kernel
theorem dX4_scanOne_92 : decode cX4_scanOne 92 = .ok (.aload_n 0, 1) := by decide +kernel
theorem dX4_scanOne_93 : decode cX4_scanOne 93 = .ok (.getfield 25, 3) := by decide +kernel
theorem dX4_scanOne_96 : decode cX4_scanOne 96 = .ok (.iload_n 2, 1) := by decide +kernel
theorem dX4_scanOne_97 : decode cX4_scanOne 97 = .ok (.baload, 1) := by decide +kernel
theorem dX4_scanOne_98 : decode cX4_scanOne 98 = .ok (.iadd, 1) := by decide +kernel
theorem dX4_scanOne_99 : decode cX4_scanOne 99 = .ok (.bipush 48, 2) := by decide +kernel
theorem dX4_scanOne_101 : decode cX4_scanOne 101 = .ok (.isub, 1) := by decide +kernel
theorem dX4_scanOne_102 : decode cX4_scanOne 102 = .ok (.invokestatic 32, 3) := by decide +kernel
theorem dX4_scanOne_105 : decode cX4_scanOne 105 = .ok (.istore_n 3, 1) := by decide +kernel
theorem dX4_scanOne_106 : decode cX4_scanOne 106 = .ok (.iinc 2 1, 3) := by decide +kernel
theorem dX4_scanOne_109 : decode cX4_scanOne 109 = .ok (.goto (-40), 3) := by decide +kernel
theorem dX4_scanOne_112 : decode cX4_scanOne 112 = .ok (.aload_n 0, 1) := by decide +kernel
theorem dX4_scanOne_113 : decode cX4_scanOne 113 = .ok (.iconst 2, 1) := by decide +kernel
theorem dX4_scanOne_114 : decode cX4_scanOne 114 = .ok (.iload_n 1, 1) := by decide +kernel
theorem dX4_scanOne_115 : decode cX4_scanOne 115 = .ok (.iload_n 3, 1) := by decide +kernel
theorem dX4_scanOne_116 : decode cX4_scanOne 116 = .ok (.invokevirtual 46, 3) := by decide +kernel
theorem dX4_scanOne_119 : decode cX4_scanOne 119 = .ok (.iload_n 2, 1) := by decide +kernel
theorem dX4_scanOne_120 : decode cX4_scanOne 120 = .ok (.ireturn, 1) := by decide +kernel
theorem dX4_put_0 : decode cX4_put 0 = .ok (.aload_n 0, 1) := by decide +kernel
theorem dX4_put_1 : decode cX4_put 1 = .ok (.getfield 21, 3) := by decide +kernel
theorem dX4_put_4 : decode cX4_put 4 = .ok (.aload_n 0, 1) := by decide +kernel
theorem dX4_put_5 : decode cX4_put 5 = .ok (.getfield 9, 3) := by decide +kernel
theorem dX4_put_8 : decode cX4_put 8 = .ok (.arraylength, 1) := by decide +kernel
theorem dX4_put_9 : decode cX4_put 9 = .ok (.if_icmp .ge 43, 3) := by decide +kernel
theorem dX4_put_12 : decode cX4_put 12 = .ok (.aload_n 0, 1) := by decide +kernel
theorem dX4_put_13 : decode cX4_put 13 = .ok (.getfield 9, 3) := by decide +kernel
theorem dX4_put_16 : decode cX4_put 16 = .ok (.aload_n 0, 1) := by decide +kernel
theorem dX4_put_17 : decode cX4_put 17 = .ok (.getfield 21, 3) := by decide +kernel
theorem dX4_put_20 : decode cX4_put 20 = .ok (.iload_n 1, 1) := by decide +kernel
theorem dX4_put_21 : decode cX4_put 21 = .ok (.iastore, 1) := by decide +kernel
theorem dX4_put_22 : decode cX4_put 22 = .ok (.aload_n 0, 1) := by decide +kernel
theorem dX4_put_23 : decode cX4_put 23 = .ok (.getfield 15, 3) := by decide +kernel
theorem dX4_put_26 : decode cX4_put 26 = .ok (.aload_n 0, 1) := by decide +kernel
theorem dX4_put_27 : decode cX4_put 27 = .ok (.getfield 21, 3) := by decide +kernel
theorem dX4_put_30 : decode cX4_put 30 = .ok (.iload_n 2, 1) := by decide +kernel
theorem dX4_put_31 : decode cX4_put 31 = .ok (.iastore, 1) := by decide +kernel
theorem dX4_put_32 : decode cX4_put 32 = .ok (.aload_n 0, 1) := by decide +kernel
theorem dX4_put_33 : decode cX4_put 33 = .ok (.getfield 18, 3) := by decide +kernel
theorem dX4_put_36 : decode cX4_put 36 = .ok (.aload_n 0, 1) := by decide +kernel
theorem dX4_put_37 : decode cX4_put 37 = .ok (.getfield 21, 3) := by decide +kernel
theorem dX4_put_40 : decode cX4_put 40 = .ok (.iload_n 3, 1) := by decide +kernel
theorem dX4_put_41 : decode cX4_put 41 = .ok (.iastore, 1) := by decide +kernel
theorem dX4_put_42 : decode cX4_put 42 = .ok (.aload_n 0, 1) := by decide +kernel
theorem dX4_put_43 : decode cX4_put 43 = .ok (.dup, 1) := by decide +kernel
theorem dX4_put_44 : decode cX4_put 44 = .ok (.getfield 21, 3) := by decide +kernel
theorem dX4_put_47 : decode cX4_put 47 = .ok (.iconst 1, 1) := by decide +kernel
theorem dX4_put_48 : decode cX4_put 48 = .ok (.iadd, 1) := by decide +kernel
theorem dX4_put_49 : decode cX4_put 49 = .ok (.putfield 21, 3) := by decide +kernel
theorem dX4_put_52 : decode cX4_put 52 = .ok (.return_, 1) := by decide +kernel
theorem dX4_isLetter_0 : decode cX4_isLetter 0 = .ok (.aload_n 0, 1) := by decide +kernel
theorem dX4_isLetter_1 : decode cX4_isLetter 1 = .ok (.getfield 25, 3) := by decide +kernel
theorem dX4_isLetter_4 : decode cX4_isLetter 4 = .ok (.iload_n 1, 1) := by decide +kernel
theorem dX4_isLetter_5 : decode cX4_isLetter 5 = .ok (.baload, 1) := by decide +kernel
theorem dX4_isLetter_6 : decode cX4_isLetter 6 = .ok (.bipush 97, 2) := by decide +kernel
theorem dX4_isLetter_8 : decode cX4_isLetter 8 = .ok (.if_icmp .lt 18, 3) := by decide +kernel
theorem dX4_isLetter_11 : decode cX4_isLetter 11 = .ok (.aload_n 0, 1) := by decide +kernel
theorem dX4_isLetter_12 : decode cX4_isLetter 12 = .ok (.getfield 25, 3) := by decide +kernel
theorem dX4_isLetter_15 : decode cX4_isLetter 15 = .ok (.iload_n 1, 1) := by decide +kernel
theorem dX4_isLetter_16 : decode cX4_isLetter 16 = .ok (.baload, 1) := by decide +kernel
theorem dX4_isLetter_17 : decode cX4_isLetter 17 = .ok (.bipush 122, 2) := by decide +kernel
theorem dX4_isLetter_19 : decode cX4_isLetter 19 = .ok (.if_icmp .gt 7, 3) := by decide +kernel
theorem dX4_isLetter_22 : decode cX4_isLetter 22 = .ok (.iconst 1, 1) := by decide +kernel
theorem dX4_isLetter_23 : decode cX4_isLetter 23 = .ok (.goto 4, 3) := by decide +kernel
theorem dX4_isLetter_26 : decode cX4_isLetter 26 = .ok (.iconst 0, 1) := by decide +kernel
theorem dX4_isLetter_27 : decode cX4_isLetter 27 = .ok (.ireturn, 1) := by decide +kernel
theorem dX4_isDigit_0 : decode cX4_isDigit 0 = .ok (.aload_n 0, 1) := by decide +kernel
theorem dX4_isDigit_1 : decode cX4_isDigit 1 = .ok (.getfield 25, 3) := by decide +kernel
theorem dX4_isDigit_4 : decode cX4_isDigit 4 = .ok (.iload_n 1, 1) := by decide +kernel
theorem dX4_isDigit_5 : decode cX4_isDigit 5 = .ok (.baload, 1) := by decide +kernel
theorem dX4_isDigit_6 : decode cX4_isDigit 6 = .ok (.bipush 48, 2) := by decide +kernel
theorem dX4_isDigit_8 : decode cX4_isDigit 8 = .ok (.if_icmp .lt 18, 3) := by decide +kernel
theorem dX4_isDigit_11 : decode cX4_isDigit 11 = .ok (.aload_n 0, 1) := by decide +kernel
theorem dX4_isDigit_12 : decode cX4_isDigit 12 = .ok (.getfield 25, 3) := by decide +kernel
theorem dX4_isDigit_15 : decode cX4_isDigit 15 = .ok (.iload_n 1, 1) := by decide +kernel
theorem dX4_isDigit_16 : decode cX4_isDigit 16 = .ok (.baload, 1) := by decide +kernel
theorem dX4_isDigit_17 : decode cX4_isDigit 17 = .ok (.bipush 57, 2) := by decide +kernel
theorem dX4_isDigit_19 : decode cX4_isDigit 19 = .ok (.if_icmp .gt 7, 3) := by decide +kernel
theorem dX4_isDigit_22 : decode cX4_isDigit 22 = .ok (.iconst 1, 1) := by decide +kernel
theorem dX4_isDigit_23 : decode cX4_isDigit 23 = .ok (.goto 4, 3) := by decide +kernel
theorem dX4_isDigit_26 : decode cX4_isDigit 26 = .ok (.iconst 0, 1) := by decide +kernel
theorem dX4_isDigit_27 : decode cX4_isDigit 27 = .ok (.ireturn, 1) := by decide +kernel
theorem dX4_isEnd_0 : decode cX4_isEnd 0 = .ok (.iload_n 1, 1) := by decide +kernel
theorem dX4_isEnd_1 : decode cX4_isEnd 1 = .ok (.aload_n 0, 1) := by decide +kernel
theorem dX4_isEnd_2 : decode cX4_isEnd 2 = .ok (.getfield 21, 3) := by decide +kernel
theorem dX4_isEnd_5 : decode cX4_isEnd 5 = .ok (.if_icmp .ge 12, 3) := by decide +kernel
theorem dX4_isEnd_8 : decode cX4_isEnd 8 = .ok (.aload_n 0, 1) := by decide +kernel
theorem dX4_isEnd_9 : decode cX4_isEnd 9 = .ok (.getfield 9, 3) := by decide +kernel
theorem dX4_isEnd_12 : decode cX4_isEnd 12 = .ok (.iload_n 1, 1) := by decide +kernel
theorem dX4_isEnd_13 : decode cX4_isEnd 13 = .ok (.iaload, 1) := by decide +kernel
theorem dX4_isEnd_14 : decode cX4_isEnd 14 = .ok (.ifCond .ne 7, 3) := by decide +kernel
theorem dX4_isEnd_17 : decode cX4_isEnd 17 = .ok (.iconst 1, 1) := by decide +kernel
theorem dX4_isEnd_18 : decode cX4_isEnd 18 = .ok (.goto 4, 3) := by decide +kernel
theorem dX4_isEnd_21 : decode cX4_isEnd 21 = .ok (.iconst 0, 1) := by decide +kernel
theorem dX4_isEnd_22 : decode cX4_isEnd 22 = .ok (.ireturn, 1) := by decide +kernel
theorem dX4_isSign_0 : decode cX4_isSign 0 = .ok (.iload_n 1, 1) := by decide +kernel
theorem dX4_isSign_1 : decode cX4_isSign 1 = .ok (.aload_n 0, 1) := by decide +kernel
theorem dX4_isSign_2 : decode cX4_isSign 2 = .ok (.getfield 21, 3) := by decide +kernel
theorem dX4_isSign_5 : decode cX4_isSign 5 = .ok (.if_icmp .ge 27, 3) := by decide +kernel
theorem dX4_isSign_8 : decode cX4_isSign 8 = .ok (.aload_n 0, 1) := by decide +kernel
theorem dX4_isSign_9 : decode cX4_isSign 9 = .ok (.getfield 9, 3) := by decide +kernel
theorem dX4_isSign_12 : decode cX4_isSign 12 = .ok (.iload_n 1, 1) := by decide +kernel
theorem dX4_isSign_13 : decode cX4_isSign 13 = .ok (.iaload, 1) := by decide +kernel
theorem dX4_isSign_14 : decode cX4_isSign 14 = .ok (.iconst 3, 1) := by decide +kernel
theorem dX4_isSign_15 : decode cX4_isSign 15 = .ok (.if_icmp .ne 17, 3) := by decide +kernel
theorem dX4_isSign_18 : decode cX4_isSign 18 = .ok (.aload_n 0, 1) := by decide +kernel
theorem dX4_isSign_19 : decode cX4_isSign 19 = .ok (.getfield 18, 3) := by decide +kernel
theorem dX4_isSign_22 : decode cX4_isSign 22 = .ok (.iload_n 1, 1) := by decide +kernel
theorem dX4_isSign_23 : decode cX4_isSign 23 = .ok (.iaload, 1) := by decide +kernel
theorem dX4_isSign_24 : decode cX4_isSign 24 = .ok (.iload_n 2, 1) := by decide +kernel
theorem dX4_isSign_25 : decode cX4_isSign 25 = .ok (.if_icmp .ne 7, 3) := by decide +kernel
theorem dX4_isSign_28 : decode cX4_isSign 28 = .ok (.iconst 1, 1) := by decide +kernel
theorem dX4_isSign_29 : decode cX4_isSign 29 = .ok (.goto 4, 3) := by decide +kernel
theorem dX4_isSign_32 : decode cX4_isSign 32 = .ok (.iconst 0, 1) := by decide +kernel
theorem dX4_isSign_33 : decode cX4_isSign 33 = .ok (.ireturn, 1) := by decide +kernel
theorem dX4_isNumber_0 : decode cX4_isNumber 0 = .ok (.iload_n 1, 1) := by decide +kernel
theorem dX4_isNumber_1 : decode cX4_isNumber 1 = .ok (.aload_n 0, 1) := by decide +kernel
theorem dX4_isNumber_2 : decode cX4_isNumber 2 = .ok (.getfield 21, 3) := by decide +kernel
theorem dX4_isNumber_5 : decode cX4_isNumber 5 = .ok (.if_icmp .ge 17, 3) := by decide +kernel
theorem dX4_isNumber_8 : decode cX4_isNumber 8 = .ok (.aload_n 0, 1) := by decide +kernel
theorem dX4_isNumber_9 : decode cX4_isNumber 9 = .ok (.getfield 9, 3) := by decide +kernel
theorem dX4_isNumber_12 : decode cX4_isNumber 12 = .ok (.iload_n 1, 1) := by decide +kernel
theorem dX4_isNumber_13 : decode cX4_isNumber 13 = .ok (.iaload, 1) := by decide +kernel
theorem dX4_isNumber_14 : decode cX4_isNumber 14 = .ok (.iconst 2, 1) := by decide +kernel
theorem dX4_isNumber_15 : decode cX4_isNumber 15 = .ok (.if_icmp .ne 7, 3) := by decide +kernel
theorem dX4_isNumber_18 : decode cX4_isNumber 18 = .ok (.iconst 1, 1) := by decide +kernel
theorem dX4_isNumber_19 : decode cX4_isNumber 19 = .ok (.goto 4, 3) := by decide +kernel
theorem dX4_isNumber_22 : decode cX4_isNumber 22 = .ok (.iconst 0, 1) := by decide +kernel
theorem dX4_isNumber_23 : decode cX4_isNumber 23 = .ok (.ireturn, 1) := by decide +kernel
theorem dX4_isWord_0 : decode cX4_isWord 0 = .ok (.iload_n 1, 1) := by decide +kernel
theorem dX4_isWord_1 : decode cX4_isWord 1 = .ok (.aload_n 0, 1) := by decide +kernel
theorem dX4_isWord_2 : decode cX4_isWord 2 = .ok (.getfield 21, 3) := by decide +kernel
theorem dX4_isWord_5 : decode cX4_isWord 5 = .ok (.if_icmp .ge 26, 3) := by decide +kernel
theorem dX4_isWord_8 : decode cX4_isWord 8 = .ok (.aload_n 0, 1) := by decide +kernel
theorem dX4_isWord_9 : decode cX4_isWord 9 = .ok (.getfield 9, 3) := by decide +kernel
theorem dX4_isWord_12 : decode cX4_isWord 12 = .ok (.iload_n 1, 1) := by decide +kernel
theorem dX4_isWord_13 : decode cX4_isWord 13 = .ok (.iaload, 1) := by decide +kernel
theorem dX4_isWord_14 : decode cX4_isWord 14 = .ok (.iconst 1, 1) := by decide +kernel
theorem dX4_isWord_15 : decode cX4_isWord 15 = .ok (.if_icmp .ne 16, 3) := by decide +kernel
theorem dX4_isWord_18 : decode cX4_isWord 18 = .ok (.aload_n 0, 1) := by decide +kernel
theorem dX4_isWord_19 : decode cX4_isWord 19 = .ok (.getfield 18, 3) := by decide +kernel
theorem dX4_isWord_22 : decode cX4_isWord 22 = .ok (.iload_n 1, 1) := by decide +kernel
theorem dX4_isWord_23 : decode cX4_isWord 23 = .ok (.iaload, 1) := by decide +kernel
theorem dX4_isWord_24 : decode cX4_isWord 24 = .ok (.aload_n 2, 1) := by decide +kernel
theorem dX4_isWord_25 : decode cX4_isWord 25 = .ok (.invokevirtual 57, 3) := by decide +kernel
theorem dX4_isWord_28 : decode cX4_isWord 28 = .ok (.if_icmp .eq 5, 3) := by decide +kernel
theorem dX4_isWord_31 : decode cX4_isWord 31 = .ok (.iconst 0, 1) := by decide +kernel
theorem dX4_isWord_32 : decode cX4_isWord 32 = .ok (.ireturn, 1) := by decide +kernel
theorem dX4_isWord_33 : decode cX4_isWord 33 = .ok (.iconst 0, 1) := by decide +kernel
theorem dX4_isWord_34 : decode cX4_isWord 34 = .ok (.istore_n 3, 1) := by decide +kernel
theorem dX4_isWord_35 : decode cX4_isWord 35 = .ok (.iload_n 3, 1) := by decide +kernel
theorem dX4_isWord_36 : decode cX4_isWord 36 = .ok (.aload_n 0, 1) := by decide +kernel
theorem dX4_isWord_37 : decode cX4_isWord 37 = .ok (.getfield 18, 3) := by decide +kernel
theorem dX4_isWord_40 : decode cX4_isWord 40 = .ok (.iload_n 1, 1) := by decide +kernel
theorem dX4_isWord_41 : decode cX4_isWord 41 = .ok (.iaload, 1) := by decide +kernel
theorem dX4_isWord_42 : decode cX4_isWord 42 = .ok (.if_icmp .ge 32, 3) := by decide +kernel
theorem dX4_isWord_45 : decode cX4_isWord 45 = .ok (.aload_n 0, 1) := by decide +kernel
theorem dX4_isWord_46 : decode cX4_isWord 46 = .ok (.getfield 25, 3) := by decide +kernel
theorem dX4_isWord_49 : decode cX4_isWord 49 = .ok (.aload_n 0, 1) := by decide +kernel
theorem dX4_isWord_50 : decode cX4_isWord 50 = .ok (.getfield 15, 3) := by decide +kernel
theorem dX4_isWord_53 : decode cX4_isWord 53 = .ok (.iload_n 1, 1) := by decide +kernel
theorem dX4_isWord_54 : decode cX4_isWord 54 = .ok (.iaload, 1) := by decide +kernel
theorem dX4_isWord_55 : decode cX4_isWord 55 = .ok (.iload_n 3, 1) := by decide +kernel
theorem dX4_isWord_56 : decode cX4_isWord 56 = .ok (.iadd, 1) := by decide +kernel
theorem dX4_isWord_57 : decode cX4_isWord 57 = .ok (.baload, 1) := by decide +kernel
theorem dX4_isWord_58 : decode cX4_isWord 58 = .ok (.aload_n 2, 1) := by decide +kernel
theorem dX4_isWord_59 : decode cX4_isWord 59 = .ok (.iload_n 3, 1) := by decide +kernel
theorem dX4_isWord_60 : decode cX4_isWord 60 = .ok (.invokevirtual 62, 3) := by decide +kernel
theorem dX4_isWord_63 : decode cX4_isWord 63 = .ok (.if_icmp .eq 5, 3) := by decide +kernel
theorem dX4_isWord_66 : decode cX4_isWord 66 = .ok (.iconst 0, 1) := by decide +kernel
theorem dX4_isWord_67 : decode cX4_isWord 67 = .ok (.ireturn, 1) := by decide +kernel
theorem dX4_isWord_68 : decode cX4_isWord 68 = .ok (.iinc 3 1, 3) := by decide +kernel
theorem dX4_isWord_71 : decode cX4_isWord 71 = .ok (.goto (-36), 3) := by decide +kernel
theorem dX4_isWord_74 : decode cX4_isWord 74 = .ok (.iconst 1, 1) := by decide +kernel
theorem dX4_isWord_75 : decode cX4_isWord 75 = .ok (.ireturn, 1) := by decide +kernel
theorem dX4_placeAt_0 : decode cX4_placeAt 0 = .ok (.iload_n 1, 1) := by decide +kernel
theorem dX4_placeAt_1 : decode cX4_placeAt 1 = .ok (.aload_n 0, 1) := by decide +kernel
theorem dX4_placeAt_2 : decode cX4_placeAt 2 = .ok (.getfield 21, 3) := by decide +kernel
theorem dX4_placeAt_5 : decode cX4_placeAt 5 = .ok (.if_icmp .ge 12, 3) := by decide +kernel
theorem dX4_placeAt_8 : decode cX4_placeAt 8 = .ok (.aload_n 0, 1) := by decide +kernel
theorem dX4_placeAt_9 : decode cX4_placeAt 9 = .ok (.getfield 15, 3) := by decide +kernel
theorem dX4_placeAt_12 : decode cX4_placeAt 12 = .ok (.iload_n 1, 1) := by decide +kernel
theorem dX4_placeAt_13 : decode cX4_placeAt 13 = .ok (.iaload, 1) := by decide +kernel
theorem dX4_placeAt_14 : decode cX4_placeAt 14 = .ok (.goto 7, 3) := by decide +kernel
theorem dX4_placeAt_17 : decode cX4_placeAt 17 = .ok (.aload_n 0, 1) := by decide +kernel
theorem dX4_placeAt_18 : decode cX4_placeAt 18 = .ok (.getfield 29, 3) := by decide +kernel
theorem dX4_placeAt_21 : decode cX4_placeAt 21 = .ok (.ireturn, 1) := by decide +kernel
theorem dX4_contentAt_0 : decode cX4_contentAt 0 = .ok (.iload_n 1, 1) := by decide +kernel
theorem dX4_contentAt_1 : decode cX4_contentAt 1 = .ok (.aload_n 0, 1) := by decide +kernel
theorem dX4_contentAt_2 : decode cX4_contentAt 2 = .ok (.getfield 21, 3) := by decide +kernel
theorem dX4_contentAt_5 : decode cX4_contentAt 5 = .ok (.if_icmp .ge 12, 3) := by decide +kernel
theorem dX4_contentAt_8 : decode cX4_contentAt 8 = .ok (.aload_n 0, 1) := by decide +kernel
theorem dX4_contentAt_9 : decode cX4_contentAt 9 = .ok (.getfield 18, 3) := by decide +kernel
theorem dX4_contentAt_12 : decode cX4_contentAt 12 = .ok (.iload_n 1, 1) := by decide +kernel
