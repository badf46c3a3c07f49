theorem dX7_values_12 : decode cX7_values 12 = .ok (.aload_n 0, 1) := by decide +kernel
theorem dX7_values_13 : decode cX7_values 13 = .ok (.invokevirtual 64, 3) := by decide +kernel
theorem dX7_values_16 : decode cX7_values 16 = .ok (.ifCond .eq 29, 3) := by decide +kernel
theorem dX7_values_19 : decode cX7_values 19 = .ok (.aload_n 0, 1) := by decide +kernel
theorem dX7_values_20 : decode cX7_values 20 = .ok (.getfield 23, 3) := by decide +kernel
theorem dX7_values_23 : decode cX7_values 23 = .ok (.bipush 9, 2) := by decide +kernel
theorem dX7_values_25 : decode cX7_values 25 = .ok (.iconst 5, 1) := by decide +kernel
theorem dX7_values_26 : decode cX7_values 26 = .ok (.iload_n 1, 1) := by decide +kernel
theorem dX7_values_27 : decode cX7_values 27 = .ok (.imul, 1) := by decide +kernel
theorem dX7_values_28 : decode cX7_values 28 = .ok (.iadd, 1) := by decide +kernel
theorem dX7_values_29 : decode cX7_values 29 = .ok (.iload_n 2, 1) := by decide +kernel
theorem dX7_values_30 : decode cX7_values 30 = .ok (.iadd, 1) := by decide +kernel
theorem dX7_values_31 : decode cX7_values 31 = .ok (.aload_n 0, 1) := by decide +kernel
theorem dX7_values_32 : decode cX7_values 32 = .ok (.iconst 0, 1) := by decide +kernel
theorem dX7_values_33 : decode cX7_values 33 = .ok (.bipush 9, 2) := by decide +kernel
theorem dX7_values_35 : decode cX7_values 35 = .ok (.invokevirtual 98, 3) := by decide +kernel
theorem dX7_values_38 : decode cX7_values 38 = .ok (.iastore, 1) := by decide +kernel
theorem dX7_values_39 : decode cX7_values 39 = .ok (.iinc 2 1, 3) := by decide +kernel
theorem dX7_values_42 : decode cX7_values 42 = .ok (.goto (-40), 3) := by decide +kernel
theorem dX7_values_45 : decode cX7_values 45 = .ok (.return_, 1) := by decide +kernel
theorem dX7_tells_0 : decode cX7_tells 0 = .ok (.aload_n 0, 1) := by decide +kernel
theorem dX7_tells_1 : decode cX7_tells 1 = .ok (.invokevirtual 64, 3) := by decide +kernel
theorem dX7_tells_4 : decode cX7_tells 4 = .ok (.ifCond .ne 4, 3) := by decide +kernel
theorem dX7_tells_7 : decode cX7_tells 7 = .ok (.return_, 1) := by decide +kernel
theorem dX7_tells_8 : decode cX7_tells 8 = .ok (.aload_n 0, 1) := by decide +kernel
theorem dX7_tells_9 : decode cX7_tells 9 = .ok (.getfield 23, 3) := by decide +kernel
theorem dX7_tells_12 : decode cX7_tells 12 = .ok (.bipush 123, 2) := by decide +kernel
theorem dX7_tells_14 : decode cX7_tells 14 = .ok (.aload_n 0, 1) := by decide +kernel
theorem dX7_tells_15 : decode cX7_tells 15 = .ok (.getfield 101, 3) := by decide +kernel
theorem dX7_tells_18 : decode cX7_tells 18 = .ok (.iadd, 1) := by decide +kernel
theorem dX7_tells_19 : decode cX7_tells 19 = .ok (.iload_n 1, 1) := by decide +kernel
theorem dX7_tells_20 : decode cX7_tells 20 = .ok (.iastore, 1) := by decide +kernel
theorem dX7_tells_21 : decode cX7_tells 21 = .ok (.aload_n 0, 1) := by decide +kernel
theorem dX7_tells_22 : decode cX7_tells 22 = .ok (.dup, 1) := by decide +kernel
theorem dX7_tells_23 : decode cX7_tells 23 = .ok (.getfield 101, 3) := by decide +kernel
theorem dX7_tells_26 : decode cX7_tells 26 = .ok (.iconst 1, 1) := by decide +kernel
theorem dX7_tells_27 : decode cX7_tells 27 = .ok (.iadd, 1) := by decide +kernel
theorem dX7_tells_28 : decode cX7_tells 28 = .ok (.putfield 101, 3) := by decide +kernel
theorem dX7_tells_31 : decode cX7_tells 31 = .ok (.return_, 1) := by decide +kernel
theorem dX7_opens_0 : decode cX7_opens 0 = .ok (.aload_n 0, 1) := by decide +kernel
theorem dX7_opens_1 : decode cX7_opens 1 = .ok (.getfield 104, 3) := by decide +kernel
theorem dX7_opens_4 : decode cX7_opens 4 = .ok (.iconst 4, 1) := by decide +kernel
theorem dX7_opens_5 : decode cX7_opens 5 = .ok (.if_icmp .ne 12, 3) := by decide +kernel
theorem dX7_opens_8 : decode cX7_opens 8 = .ok (.aload_n 0, 1) := by decide +kernel
theorem dX7_opens_9 : decode cX7_opens 9 = .ok (.iconst 4, 1) := by decide +kernel
theorem dX7_opens_10 : decode cX7_opens 10 = .ok (.aload_n 0, 1) := by decide +kernel
theorem dX7_opens_11 : decode cX7_opens 11 = .ok (.getfield 51, 3) := by decide +kernel
theorem dX7_opens_14 : decode cX7_opens 14 = .ok (.invokevirtual 85, 3) := by decide +kernel
theorem dX7_opens_17 : decode cX7_opens 17 = .ok (.aload_n 0, 1) := by decide +kernel
theorem dX7_opens_18 : decode cX7_opens 18 = .ok (.dup, 1) := by decide +kernel
theorem dX7_opens_19 : decode cX7_opens 19 = .ok (.getfield 51, 3) := by decide +kernel
theorem dX7_opens_22 : decode cX7_opens 22 = .ok (.iconst 1, 1) := by decide +kernel
theorem dX7_opens_23 : decode cX7_opens 23 = .ok (.iadd, 1) := by decide +kernel
theorem dX7_opens_24 : decode cX7_opens 24 = .ok (.putfield 51, 3) := by decide +kernel
theorem dX7_opens_27 : decode cX7_opens 27 = .ok (.aload_n 0, 1) := by decide +kernel
theorem dX7_opens_28 : decode cX7_opens 28 = .ok (.dup, 1) := by decide +kernel
theorem dX7_opens_29 : decode cX7_opens 29 = .ok (.getfield 104, 3) := by decide +kernel
theorem dX7_opens_32 : decode cX7_opens 32 = .ok (.iconst 1, 1) := by decide +kernel
theorem dX7_opens_33 : decode cX7_opens 33 = .ok (.iadd, 1) := by decide +kernel
theorem dX7_opens_34 : decode cX7_opens 34 = .ok (.putfield 104, 3) := by decide +kernel
theorem dX7_opens_37 : decode cX7_opens 37 = .ok (.return_, 1) := by decide +kernel
theorem dX7_part_0 : decode cX7_part 0 = .ok (.aload_n 0, 1) := by decide +kernel
theorem dX7_part_1 : decode cX7_part 1 = .ok (.invokevirtual 64, 3) := by decide +kernel
theorem dX7_part_4 : decode cX7_part 4 = .ok (.ifCond .ne 4, 3) := by decide +kernel
theorem dX7_part_7 : decode cX7_part 7 = .ok (.return_, 1) := by decide +kernel
theorem dX7_part_8 : decode cX7_part 8 = .ok (.aload_n 0, 1) := by decide +kernel
theorem dX7_part_9 : decode cX7_part 9 = .ok (.invokevirtual 68, 3) := by decide +kernel
theorem dX7_part_12 : decode cX7_part 12 = .ok (.istore_n 1, 1) := by decide +kernel
theorem dX7_part_13 : decode cX7_part 13 = .ok (.iload_n 1, 1) := by decide +kernel
theorem dX7_part_14 : decode cX7_part 14 = .ok (.bipush 45, 2) := by decide +kernel
theorem dX7_part_16 : decode cX7_part 16 = .ok (.if_icmp .ne 28, 3) := by decide +kernel
theorem dX7_part_19 : decode cX7_part 19 = .ok (.aload_n 0, 1) := by decide +kernel
theorem dX7_part_20 : decode cX7_part 20 = .ok (.invokevirtual 107, 3) := by decide +kernel
theorem dX7_part_23 : decode cX7_part 23 = .ok (.aload_n 0, 1) := by decide +kernel
theorem dX7_part_24 : decode cX7_part 24 = .ok (.invokevirtual 110, 3) := by decide +kernel
theorem dX7_part_27 : decode cX7_part 27 = .ok (.aload_n 0, 1) := by decide +kernel
theorem dX7_part_28 : decode cX7_part 28 = .ok (.bipush 8, 2) := by decide +kernel
theorem dX7_part_30 : decode cX7_part 30 = .ok (.invokevirtual 113, 3) := by decide +kernel
theorem dX7_part_33 : decode cX7_part 33 = .ok (.aload_n 0, 1) := by decide +kernel
theorem dX7_part_34 : decode cX7_part 34 = .ok (.dup, 1) := by decide +kernel
theorem dX7_part_35 : decode cX7_part 35 = .ok (.getfield 104, 3) := by decide +kernel
theorem dX7_part_38 : decode cX7_part 38 = .ok (.iconst 1, 1) := by decide +kernel
theorem dX7_part_39 : decode cX7_part 39 = .ok (.isub, 1) := by decide +kernel
theorem dX7_part_40 : decode cX7_part 40 = .ok (.putfield 104, 3) := by decide +kernel
theorem dX7_part_43 : decode cX7_part 43 = .ok (.return_, 1) := by decide +kernel
theorem dX7_part_44 : decode cX7_part 44 = .ok (.iload_n 1, 1) := by decide +kernel
theorem dX7_part_45 : decode cX7_part 45 = .ok (.bipush 40, 2) := by decide +kernel
theorem dX7_part_47 : decode cX7_part 47 = .ok (.if_icmp .ne 28, 3) := by decide +kernel
theorem dX7_part_50 : decode cX7_part 50 = .ok (.aload_n 0, 1) := by decide +kernel
theorem dX7_part_51 : decode cX7_part 51 = .ok (.invokevirtual 107, 3) := by decide +kernel
theorem dX7_part_54 : decode cX7_part 54 = .ok (.aload_n 0, 1) := by decide +kernel
theorem dX7_part_55 : decode cX7_part 55 = .ok (.invokevirtual 117, 3) := by decide +kernel
theorem dX7_part_58 : decode cX7_part 58 = .ok (.aload_n 0, 1) := by decide +kernel
theorem dX7_part_59 : decode cX7_part 59 = .ok (.bipush 41, 2) := by decide +kernel
theorem dX7_part_61 : decode cX7_part 61 = .ok (.invokevirtual 120, 3) := by decide +kernel
theorem dX7_part_64 : decode cX7_part 64 = .ok (.aload_n 0, 1) := by decide +kernel
theorem dX7_part_65 : decode cX7_part 65 = .ok (.dup, 1) := by decide +kernel
theorem dX7_part_66 : decode cX7_part 66 = .ok (.getfield 104, 3) := by decide +kernel
theorem dX7_part_69 : decode cX7_part 69 = .ok (.iconst 1, 1) := by decide +kernel
theorem dX7_part_70 : decode cX7_part 70 = .ok (.isub, 1) := by decide +kernel
theorem dX7_part_71 : decode cX7_part 71 = .ok (.putfield 104, 3) := by decide +kernel
theorem dX7_part_74 : decode cX7_part 74 = .ok (.return_, 1) := by decide +kernel
theorem dX7_part_75 : decode cX7_part 75 = .ok (.iload_n 1, 1) := by decide +kernel
theorem dX7_part_76 : decode cX7_part 76 = .ok (.invokestatic 89, 3) := by decide +kernel
theorem dX7_part_79 : decode cX7_part 79 = .ok (.ifCond .eq 7, 3) := by decide +kernel
theorem dX7_part_82 : decode cX7_part 82 = .ok (.iconst 1, 1) := by decide +kernel
theorem dX7_part_83 : decode cX7_part 83 = .ok (.goto 43, 3) := by decide +kernel
theorem dX7_part_86 : decode cX7_part 86 = .ok (.aload_n 0, 1) := by decide +kernel
theorem dX7_part_87 : decode cX7_part 87 = .ok (.ldc 123, 2) := by decide +kernel
theorem dX7_part_89 : decode cX7_part 89 = .ok (.invokevirtual 125, 3) := by decide +kernel
theorem dX7_part_92 : decode cX7_part 92 = .ok (.ifCond .eq 7, 3) := by decide +kernel
theorem dX7_part_95 : decode cX7_part 95 = .ok (.iconst 2, 1) := by decide +kernel
theorem dX7_part_96 : decode cX7_part 96 = .ok (.goto 30, 3) := by decide +kernel
theorem dX7_part_99 : decode cX7_part 99 = .ok (.aload_n 0, 1) := by decide +kernel
theorem dX7_part_100 : decode cX7_part 100 = .ok (.ldc 129, 2) := by decide +kernel
theorem dX7_part_102 : decode cX7_part 102 = .ok (.invokevirtual 125, 3) := by decide +kernel
theorem dX7_part_105 : decode cX7_part 105 = .ok (.ifCond .eq 7, 3) := by decide +kernel
theorem dX7_part_108 : decode cX7_part 108 = .ok (.iconst 3, 1) := by decide +kernel
theorem dX7_part_109 : decode cX7_part 109 = .ok (.goto 17, 3) := by decide +kernel
theorem dX7_part_112 : decode cX7_part 112 = .ok (.aload_n 0, 1) := by decide +kernel
theorem dX7_part_113 : decode cX7_part 113 = .ok (.ldc 131, 2) := by decide +kernel
theorem dX7_part_115 : decode cX7_part 115 = .ok (.invokevirtual 125, 3) := by decide +kernel
theorem dX7_part_118 : decode cX7_part 118 = .ok (.ifCond .eq 7, 3) := by decide +kernel
theorem dX7_part_121 : decode cX7_part 121 = .ok (.iconst 4, 1) := by decide +kernel
theorem dX7_part_122 : decode cX7_part 122 = .ok (.goto 4, 3) := by decide +kernel
theorem dX7_part_125 : decode cX7_part 125 = .ok (.iconst 0, 1) := by decide +kernel
theorem dX7_part_126 : decode cX7_part 126 = .ok (.istore_n 2, 1) := by decide +kernel
theorem dX7_part_127 : decode cX7_part 127 = .ok (.iload_n 2, 1) := by decide +kernel
theorem dX7_part_128 : decode cX7_part 128 = .ok (.ifCond .ne 12, 3) := by decide +kernel
theorem dX7_part_131 : decode cX7_part 131 = .ok (.aload_n 0, 1) := by decide +kernel
theorem dX7_part_132 : decode cX7_part 132 = .ok (.iconst 1, 1) := by decide +kernel
theorem dX7_part_133 : decode cX7_part 133 = .ok (.aload_n 0, 1) := by decide +kernel
theorem dX7_part_134 : decode cX7_part 134 = .ok (.getfield 51, 3) := by decide +kernel
theorem dX7_part_137 : decode cX7_part 137 = .ok (.invokevirtual 85, 3) := by decide +kernel
theorem dX7_part_140 : decode cX7_part 140 = .ok (.iload_n 2, 1) := by decide +kernel
theorem dX7_part_141 : decode cX7_part 141 = .ok (.iconst 1, 1) := by decide +kernel
theorem dX7_part_142 : decode cX7_part 142 = .ok (.if_icmp .ne 13, 3) := by decide +kernel
theorem dX7_part_145 : decode cX7_part 145 = .ok (.aload_n 0, 1) := by decide +kernel
theorem dX7_part_146 : decode cX7_part 146 = .ok (.iconst 0, 1) := by decide +kernel
theorem dX7_part_147 : decode cX7_part 147 = .ok (.bipush 99, 2) := by decide +kernel
theorem dX7_part_149 : decode cX7_part 149 = .ok (.invokevirtual 98, 3) := by decide +kernel
theorem dX7_part_152 : decode cX7_part 152 = .ok (.goto 7, 3) := by decide +kernel
theorem dX7_part_155 : decode cX7_part 155 = .ok (.aload_n 0, 1) := by decide +kernel
theorem dX7_part_156 : decode cX7_part 156 = .ok (.invokevirtual 133, 3) := by decide +kernel
theorem dX7_part_159 : decode cX7_part 159 = .ok (.istore_n 3, 1) := by decide +kernel
theorem dX7_part_160 : decode cX7_part 160 = .ok (.aload_n 0, 1) := by decide +kernel
theorem dX7_part_161 : decode cX7_part 161 = .ok (.iload_n 2, 1) := by decide +kernel
theorem dX7_part_162 : decode cX7_part 162 = .ok (.invokevirtual 113, 3) := by decide +kernel
theorem dX7_part_165 : decode cX7_part 165 = .ok (.aload_n 0, 1) := by decide +kernel
theorem dX7_part_166 : decode cX7_part 166 = .ok (.iload_n 3, 1) := by decide +kernel
theorem dX7_part_167 : decode cX7_part 167 = .ok (.invokevirtual 113, 3) := by decide +kernel
theorem dX7_part_170 : decode cX7_part 170 = .ok (.return_, 1) := by decide +kernel
theorem dX7_product_0 : decode cX7_product 0 = .ok (.aload_n 0, 1) := by decide +kernel
theorem dX7_product_1 : decode cX7_product 1 = .ok (.invokevirtual 110, 3) := by decide +kernel
theorem dX7_product_4 : decode cX7_product 4 = .ok (.aload_n 0, 1) := by decide +kernel
theorem dX7_product_5 : decode cX7_product 5 = .ok (.invokevirtual 64, 3) := by decide +kernel
theorem dX7_product_8 : decode cX7_product 8 = .ok (.ifCond .eq 35, 3) := by decide +kernel
theorem dX7_product_11 : decode cX7_product 11 = .ok (.aload_n 0, 1) := by decide +kernel
theorem dX7_product_12 : decode cX7_product 12 = .ok (.invokevirtual 68, 3) := by decide +kernel
theorem dX7_product_15 : decode cX7_product 15 = .ok (.bipush 42, 2) := by decide +kernel
theorem dX7_product_17 : decode cX7_product 17 = .ok (.if_icmp .ne 26, 3) := by decide +kernel
theorem dX7_product_20 : decode cX7_product 20 = .ok (.aload_n 0, 1) := by decide +kernel
theorem dX7_product_21 : decode cX7_product 21 = .ok (.dup, 1) := by decide +kernel
theorem dX7_product_22 : decode cX7_product 22 = .ok (.getfield 51, 3) := by decide +kernel
theorem dX7_product_25 : decode cX7_product 25 = .ok (.iconst 1, 1) := by decide +kernel
theorem dX7_product_26 : decode cX7_product 26 = .ok (.iadd, 1) := by decide +kernel
theorem dX7_product_27 : decode cX7_product 27 = .ok (.putfield 51, 3) := by decide +kernel
theorem dX7_product_30 : decode cX7_product 30 = .ok (.aload_n 0, 1) := by decide +kernel
theorem dX7_product_31 : decode cX7_product 31 = .ok (.invokevirtual 110, 3) := by decide +kernel
theorem dX7_product_34 : decode cX7_product 34 = .ok (.aload_n 0, 1) := by decide +kernel
theorem dX7_product_35 : decode cX7_product 35 = .ok (.bipush 7, 2) := by decide +kernel
theorem dX7_product_37 : decode cX7_product 37 = .ok (.invokevirtual 113, 3) := by decide +kernel
theorem dX7_product_40 : decode cX7_product 40 = .ok (.goto (-36), 3) := by decide +kernel
theorem dX7_product_43 : decode cX7_product 43 = .ok (.return_, 1) := by decide +kernel
theorem dX7_sum_0 : decode cX7_sum 0 = .ok (.aload_n 0, 1) := by decide +kernel
theorem dX7_sum_1 : decode cX7_sum 1 = .ok (.invokevirtual 136, 3) := by decide +kernel
theorem dX7_sum_4 : decode cX7_sum 4 = .ok (.aload_n 0, 1) := by decide +kernel
theorem dX7_sum_5 : decode cX7_sum 5 = .ok (.invokevirtual 64, 3) := by decide +kernel
theorem dX7_sum_8 : decode cX7_sum 8 = .ok (.ifCond .eq 59, 3) := by decide +kernel
theorem dX7_sum_11 : decode cX7_sum 11 = .ok (.aload_n 0, 1) := by decide +kernel
theorem dX7_sum_12 : decode cX7_sum 12 = .ok (.invokevirtual 68, 3) := by decide +kernel
theorem dX7_sum_15 : decode cX7_sum 15 = .ok (.bipush 43, 2) := by decide +kernel
theorem dX7_sum_17 : decode cX7_sum 17 = .ok (.if_icmp .eq 12, 3) := by decide +kernel
theorem dX7_sum_20 : decode cX7_sum 20 = .ok (.aload_n 0, 1) := by decide +kernel
theorem dX7_sum_21 : decode cX7_sum 21 = .ok (.invokevirtual 68, 3) := by decide +kernel
theorem dX7_sum_24 : decode cX7_sum 24 = .ok (.bipush 45, 2) := by decide +kernel
theorem dX7_sum_26 : decode cX7_sum 26 = .ok (.if_icmp .ne 41, 3) := by decide +kernel
theorem dX7_sum_29 : decode cX7_sum 29 = .ok (.aload_n 0, 1) := by decide +kernel
theorem dX7_sum_30 : decode cX7_sum 30 = .ok (.invokevirtual 68, 3) := by decide +kernel
theorem dX7_sum_33 : decode cX7_sum 33 = .ok (.istore_n 1, 1) := by decide +kernel
theorem dX7_sum_34 : decode cX7_sum 34 = .ok (.aload_n 0, 1) := by decide +kernel
theorem dX7_sum_35 : decode cX7_sum 35 = .ok (.dup, 1) := by decide +kernel
theorem dX7_sum_36 : decode cX7_sum 36 = .ok (.getfield 51, 3) := by decide +kernel
theorem dX7_sum_39 : decode cX7_sum 39 = .ok (.iconst 1, 1) := by decide +kernel
theorem dX7_sum_40 : decode cX7_sum 40 = .ok (.iadd, 1) := by decide +kernel
theorem dX7_sum_41 : decode cX7_sum 41 = .ok (.putfield 51, 3) := by decide +kernel
theorem dX7_sum_44 : decode cX7_sum 44 = .ok (.aload_n 0, 1) := by decide +kernel
theorem dX7_sum_45 : decode cX7_sum 45 = .ok (.invokevirtual 136, 3) := by decide +kernel
theorem dX7_sum_48 : decode cX7_sum 48 = .ok (.aload_n 0, 1) := by decide +kernel
theorem dX7_sum_49 : decode cX7_sum 49 = .ok (.iload_n 1, 1) := by decide +kernel
theorem dX7_sum_50 : decode cX7_sum 50 = .ok (.bipush 43, 2) := by decide +kernel
theorem dX7_sum_52 : decode cX7_sum 52 = .ok (.if_icmp .ne 7, 3) := by decide +kernel
theorem dX7_sum_55 : decode cX7_sum 55 = .ok (.iconst 5, 1) := by decide +kernel
theorem dX7_sum_56 : decode cX7_sum 56 = .ok (.goto 5, 3) := by decide +kernel
theorem dX7_sum_59 : decode cX7_sum 59 = .ok (.bipush 6, 2) := by decide +kernel
theorem dX7_sum_61 : decode cX7_sum 61 = .ok (.invokevirtual 113, 3) := by decide +kernel
theorem dX7_sum_64 : decode cX7_sum 64 = .ok (.goto (-60), 3) := by decide +kernel
theorem dX7_sum_67 : decode cX7_sum 67 = .ok (.return_, 1) := by decide +kernel
theorem dX7_takesOnce_0 : decode cX7_takesOnce 0 = .ok (.aload_n 0, 1) := by decide +kernel
theorem dX7_takesOnce_1 : decode cX7_takesOnce 1 = .ok (.getfield 139, 3) := by decide +kernel
theorem dX7_takesOnce_4 : decode cX7_takesOnce 4 = .ok (.iload_n 2, 1) := by decide +kernel
theorem dX7_takesOnce_5 : decode cX7_takesOnce 5 = .ok (.ishr, 1) := by decide +kernel
theorem dX7_takesOnce_6 : decode cX7_takesOnce 6 = .ok (.iconst 1, 1) := by decide +kernel
theorem dX7_takesOnce_7 : decode cX7_takesOnce 7 = .ok (.iand, 1) := by decide +kernel
theorem dX7_takesOnce_8 : decode cX7_takesOnce 8 = .ok (.iconst 1, 1) := by decide +kernel
theorem dX7_takesOnce_9 : decode cX7_takesOnce 9 = .ok (.if_icmp .eq 11, 3) := by decide +kernel
theorem dX7_takesOnce_12 : decode cX7_takesOnce 12 = .ok (.aload_n 0, 1) := by decide +kernel
theorem dX7_takesOnce_13 : decode cX7_takesOnce 13 = .ok (.aload_n 1, 1) := by decide +kernel
theorem dX7_takesOnce_14 : decode cX7_takesOnce 14 = .ok (.invokevirtual 125, 3) := by decide +kernel
theorem dX7_takesOnce_17 : decode cX7_takesOnce 17 = .ok (.ifCond .ne 5, 3) := by decide +kernel
theorem dX7_takesOnce_20 : decode cX7_takesOnce 20 = .ok (.iconst 0, 1) := by decide +kernel
theorem dX7_takesOnce_21 : decode cX7_takesOnce 21 = .ok (.ireturn, 1) := by decide +kernel
theorem dX7_takesOnce_22 : decode cX7_takesOnce 22 = .ok (.aload_n 0, 1) := by decide +kernel
theorem dX7_takesOnce_23 : decode cX7_takesOnce 23 = .ok (.dup, 1) := by decide +kernel
theorem dX7_takesOnce_24 : decode cX7_takesOnce 24 = .ok (.getfield 139, 3) := by decide +kernel
theorem dX7_takesOnce_27 : decode cX7_takesOnce 27 = .ok (.iconst 1, 1) := by decide +kernel
theorem dX7_takesOnce_28 : decode cX7_takesOnce 28 = .ok (.iload_n 2, 1) := by decide +kernel
theorem dX7_takesOnce_29 : decode cX7_takesOnce 29 = .ok (.ishl, 1) := by decide +kernel
theorem dX7_takesOnce_30 : decode cX7_takesOnce 30 = .ok (.ior, 1) := by decide +kernel
theorem dX7_takesOnce_31 : decode cX7_takesOnce 31 = .ok (.putfield 139, 3) := by decide +kernel
theorem dX7_takesOnce_34 : decode cX7_takesOnce 34 = .ok (.iconst 1, 1) := by decide +kernel
theorem dX7_takesOnce_35 : decode cX7_takesOnce 35 = .ok (.ireturn, 1) := by decide +kernel
theorem dX7_readsLine_0 : decode cX7_readsLine 0 = .ok (.aload_n 0, 1) := by decide +kernel
theorem dX7_readsLine_1 : decode cX7_readsLine 1 = .ok (.invokevirtual 68, 3) := by decide +kernel
theorem dX7_readsLine_4 : decode cX7_readsLine 4 = .ok (.pop, 1) := by decide +kernel
theorem dX7_readsLine_5 : decode cX7_readsLine 5 = .ok (.aload_n 0, 1) := by decide +kernel
theorem dX7_readsLine_6 : decode cX7_readsLine 6 = .ok (.getfield 51, 3) := by decide +kernel
theorem dX7_readsLine_9 : decode cX7_readsLine 9 = .ok (.istore_n 1, 1) := by decide +kernel
theorem dX7_readsLine_10 : decode cX7_readsLine 10 = .ok (.aload_n 0, 1) := by decide +kernel
theorem dX7_readsLine_11 : decode cX7_readsLine 11 = .ok (.ldc 142, 2) := by decide +kernel
theorem dX7_readsLine_13 : decode cX7_readsLine 13 = .ok (.iconst 0, 1) := by decide +kernel
theorem dX7_readsLine_14 : decode cX7_readsLine 14 = .ok (.invokevirtual 144, 3) := by decide +kernel
theorem dX7_readsLine_17 : decode cX7_readsLine 17 = .ok (.ifCond .eq 18, 3) := by decide +kernel
theorem dX7_readsLine_20 : decode cX7_readsLine 20 = .ok (.aload_n 0, 1) := by decide +kernel
theorem dX7_readsLine_21 : decode cX7_readsLine 21 = .ok (.iconst 0, 1) := by decide +kernel
theorem dX7_readsLine_22 : decode cX7_readsLine 22 = .ok (.invokevirtual 148, 3) := by decide +kernel
theorem dX7_readsLine_25 : decode cX7_readsLine 25 = .ok (.aload_n 0, 1) := by decide +kernel
theorem dX7_readsLine_26 : decode cX7_readsLine 26 = .ok (.getfield 23, 3) := by decide +kernel
theorem dX7_readsLine_29 : decode cX7_readsLine 29 = .ok (.iconst 2, 1) := by decide +kernel
theorem dX7_readsLine_30 : decode cX7_readsLine 30 = .ok (.iconst 1, 1) := by decide +kernel
theorem dX7_readsLine_31 : decode cX7_readsLine 31 = .ok (.iastore, 1) := by decide +kernel
theorem dX7_readsLine_32 : decode cX7_readsLine 32 = .ok (.goto 253, 3) := by decide +kernel
theorem dX7_readsLine_35 : decode cX7_readsLine 35 = .ok (.aload_n 0, 1) := by decide +kernel
theorem dX7_readsLine_36 : decode cX7_readsLine 36 = .ok (.ldc 151, 2) := by decide +kernel
theorem dX7_readsLine_38 : decode cX7_readsLine 38 = .ok (.invokevirtual 125, 3) := by decide +kernel
theorem dX7_readsLine_41 : decode cX7_readsLine 41 = .ok (.ifCond .eq 46, 3) := by decide +kernel
theorem dX7_readsLine_44 : decode cX7_readsLine 44 = .ok (.aload_n 0, 1) := by decide +kernel
theorem dX7_readsLine_45 : decode cX7_readsLine 45 = .ok (.getfield 23, 3) := by decide +kernel
theorem dX7_readsLine_48 : decode cX7_readsLine 48 = .ok (.iconst 1, 1) := by decide +kernel
theorem dX7_readsLine_49 : decode cX7_readsLine 49 = .ok (.iaload, 1) := by decide +kernel
theorem dX7_readsLine_50 : decode cX7_readsLine 50 = .ok (.bipush 15, 2) := by decide +kernel
theorem dX7_readsLine_52 : decode cX7_readsLine 52 = .ok (.if_icmp .ne 12, 3) := by decide +kernel
theorem dX7_readsLine_55 : decode cX7_readsLine 55 = .ok (.aload_n 0, 1) := by decide +kernel
theorem dX7_readsLine_56 : decode cX7_readsLine 56 = .ok (.iconst 3, 1) := by decide +kernel
theorem dX7_readsLine_57 : decode cX7_readsLine 57 = .ok (.iload_n 1, 1) := by decide +kernel
theorem dX7_readsLine_58 : decode cX7_readsLine 58 = .ok (.invokevirtual 85, 3) := by decide +kernel
theorem dX7_readsLine_61 : decode cX7_readsLine 61 = .ok (.goto 224, 3) := by decide +kernel
theorem dX7_readsLine_64 : decode cX7_readsLine 64 = .ok (.aload_n 0, 1) := by decide +kernel
theorem dX7_readsLine_65 : decode cX7_readsLine 65 = .ok (.getfield 23, 3) := by decide +kernel
theorem dX7_readsLine_68 : decode cX7_readsLine 68 = .ok (.iconst 1, 1) := by decide +kernel
theorem dX7_readsLine_69 : decode cX7_readsLine 69 = .ok (.dup2, 1) := by decide +kernel
theorem dX7_readsLine_70 : decode cX7_readsLine 70 = .ok (.iaload, 1) := by decide +kernel
theorem dX7_readsLine_71 : decode cX7_readsLine 71 = .ok (.iconst 1, 1) := by decide +kernel
theorem dX7_readsLine_72 : decode cX7_readsLine 72 = .ok (.iadd, 1) := by decide +kernel
theorem dX7_readsLine_73 : decode cX7_readsLine 73 = .ok (.iastore, 1) := by decide +kernel
theorem dX7_readsLine_74 : decode cX7_readsLine 74 = .ok (.aload_n 0, 1) := by decide +kernel
theorem dX7_readsLine_75 : decode cX7_readsLine 75 = .ok (.aload_n 0, 1) := by decide +kernel
theorem dX7_readsLine_76 : decode cX7_readsLine 76 = .ok (.getfield 23, 3) := by decide +kernel
theorem dX7_readsLine_79 : decode cX7_readsLine 79 = .ok (.iconst 1, 1) := by decide +kernel
theorem dX7_readsLine_80 : decode cX7_readsLine 80 = .ok (.iaload, 1) := by decide +kernel
theorem dX7_readsLine_81 : decode cX7_readsLine 81 = .ok (.invokevirtual 148, 3) := by decide +kernel
theorem dX7_readsLine_84 : decode cX7_readsLine 84 = .ok (.goto 201, 3) := by decide +kernel
theorem dX7_readsLine_87 : decode cX7_readsLine 87 = .ok (.aload_n 0, 1) := by decide +kernel
theorem dX7_readsLine_88 : decode cX7_readsLine 88 = .ok (.ldc 153, 2) := by decide +kernel
theorem dX7_readsLine_90 : decode cX7_readsLine 90 = .ok (.invokevirtual 125, 3) := by decide +kernel
theorem dX7_readsLine_93 : decode cX7_readsLine 93 = .ok (.ifCond .eq 56, 3) := by decide +kernel
theorem dX7_readsLine_96 : decode cX7_readsLine 96 = .ok (.aload_n 0, 1) := by decide +kernel
theorem dX7_readsLine_97 : decode cX7_readsLine 97 = .ok (.invokevirtual 133, 3) := by decide +kernel
theorem dX7_readsLine_100 : decode cX7_readsLine 100 = .ok (.istore_n 2, 1) := by decide +kernel
theorem dX7_readsLine_101 : decode cX7_readsLine 101 = .ok (.aload_n 0, 1) := by decide +kernel
theorem dX7_readsLine_102 : decode cX7_readsLine 102 = .ok (.iconst 0, 1) := by decide +kernel
theorem dX7_readsLine_103 : decode cX7_readsLine 103 = .ok (.bipush 9, 2) := by decide +kernel
theorem dX7_readsLine_105 : decode cX7_readsLine 105 = .ok (.invokevirtual 98, 3) := by decide +kernel
theorem dX7_readsLine_108 : decode cX7_readsLine 108 = .ok (.istore_n 3, 1) := by decide +kernel
theorem dX7_readsLine_109 : decode cX7_readsLine 109 = .ok (.aload_n 0, 1) := by decide +kernel
theorem dX7_readsLine_110 : decode cX7_readsLine 110 = .ok (.iconst 1, 1) := by decide +kernel
theorem dX7_readsLine_111 : decode cX7_readsLine 111 = .ok (.bipush 9, 2) := by decide +kernel
theorem dX7_readsLine_113 : decode cX7_readsLine 113 = .ok (.invokevirtual 98, 3) := by decide +kernel
theorem dX7_readsLine_116 : decode cX7_readsLine 116 = .ok (.istore 4, 2) := by decide +kernel
theorem dX7_readsLine_118 : decode cX7_readsLine 118 = .ok (.aload_n 0, 1) := by decide +kernel
theorem dX7_readsLine_119 : decode cX7_readsLine 119 = .ok (.invokevirtual 64, 3) := by decide +kernel
theorem dX7_readsLine_122 : decode cX7_readsLine 122 = .ok (.ifCond .eq 24, 3) := by decide +kernel
theorem dX7_readsLine_125 : decode cX7_readsLine 125 = .ok (.aload_n 0, 1) := by decide +kernel
theorem dX7_readsLine_126 : decode cX7_readsLine 126 = .ok (.getfield 23, 3) := by decide +kernel
theorem dX7_readsLine_129 : decode cX7_readsLine 129 = .ok (.bipush 89, 2) := by decide +kernel
theorem dX7_readsLine_131 : decode cX7_readsLine 131 = .ok (.iload_n 2, 1) := by decide +kernel
theorem dX7_readsLine_132 : decode cX7_readsLine 132 = .ok (.iadd, 1) := by decide +kernel
theorem dX7_readsLine_133 : decode cX7_readsLine 133 = .ok (.iload_n 3, 1) := by decide +kernel
theorem dX7_readsLine_134 : decode cX7_readsLine 134 = .ok (.iastore, 1) := by decide +kernel
theorem dX7_readsLine_135 : decode cX7_readsLine 135 = .ok (.aload_n 0, 1) := by decide +kernel
theorem dX7_readsLine_136 : decode cX7_readsLine 136 = .ok (.getfield 23, 3) := by decide +kernel
theorem dX7_readsLine_139 : decode cX7_readsLine 139 = .ok (.bipush 94, 2) := by decide +kernel
theorem dX7_readsLine_141 : decode cX7_readsLine 141 = .ok (.iload_n 2, 1) := by decide +kernel
theorem dX7_readsLine_142 : decode cX7_readsLine 142 = .ok (.iadd, 1) := by decide +kernel
theorem dX7_readsLine_143 : decode cX7_readsLine 143 = .ok (.iload 4, 2) := by decide +kernel
theorem dX7_readsLine_145 : decode cX7_readsLine 145 = .ok (.iastore, 1) := by decide +kernel
theorem dX7_readsLine_146 : decode cX7_readsLine 146 = .ok (.goto 139, 3) := by decide +kernel
theorem dX7_readsLine_149 : decode cX7_readsLine 149 = .ok (.aload_n 0, 1) := by decide +kernel
theorem dX7_readsLine_150 : decode cX7_readsLine 150 = .ok (.ldc 154, 2) := by decide +kernel
theorem dX7_readsLine_152 : decode cX7_readsLine 152 = .ok (.iconst 1, 1) := by decide +kernel
theorem dX7_readsLine_153 : decode cX7_readsLine 153 = .ok (.invokevirtual 144, 3) := by decide +kernel
theorem dX7_readsLine_156 : decode cX7_readsLine 156 = .ok (.ifCond .eq 18, 3) := by decide +kernel
theorem dX7_readsLine_159 : decode cX7_readsLine 159 = .ok (.aload_n 0, 1) := by decide +kernel
theorem dX7_readsLine_160 : decode cX7_readsLine 160 = .ok (.getfield 23, 3) := by decide +kernel
theorem dX7_readsLine_163 : decode cX7_readsLine 163 = .ok (.iconst 4, 1) := by decide +kernel
theorem dX7_readsLine_164 : decode cX7_readsLine 164 = .ok (.aload_n 0, 1) := by decide +kernel
theorem dX7_readsLine_165 : decode cX7_readsLine 165 = .ok (.iconst 0, 1) := by decide +kernel
theorem dX7_readsLine_166 : decode cX7_readsLine 166 = .ok (.iconst 5, 1) := by decide +kernel
theorem dX7_readsLine_167 : decode cX7_readsLine 167 = .ok (.invokevirtual 98, 3) := by decide +kernel
theorem dX7_readsLine_170 : decode cX7_readsLine 170 = .ok (.iastore, 1) := by decide +kernel
theorem dX7_readsLine_171 : decode cX7_readsLine 171 = .ok (.goto 114, 3) := by decide +kernel
theorem dX7_readsLine_174 : decode cX7_readsLine 174 = .ok (.aload_n 0, 1) := by decide +kernel
theorem dX7_readsLine_175 : decode cX7_readsLine 175 = .ok (.ldc 156, 2) := by decide +kernel
theorem dX7_readsLine_177 : decode cX7_readsLine 177 = .ok (.iconst 2, 1) := by decide +kernel
theorem dX7_readsLine_178 : decode cX7_readsLine 178 = .ok (.invokevirtual 144, 3) := by decide +kernel
theorem dX7_readsLine_181 : decode cX7_readsLine 181 = .ok (.ifCond .eq 19, 3) := by decide +kernel
theorem dX7_readsLine_184 : decode cX7_readsLine 184 = .ok (.aload_n 0, 1) := by decide +kernel
theorem dX7_readsLine_185 : decode cX7_readsLine 185 = .ok (.getfield 23, 3) := by decide +kernel
theorem dX7_readsLine_188 : decode cX7_readsLine 188 = .ok (.iconst 5, 1) := by decide +kernel
theorem dX7_readsLine_189 : decode cX7_readsLine 189 = .ok (.aload_n 0, 1) := by decide +kernel
theorem dX7_readsLine_190 : decode cX7_readsLine 190 = .ok (.iconst 0, 1) := by decide +kernel
theorem dX7_readsLine_191 : decode cX7_readsLine 191 = .ok (.bipush 120, 2) := by decide +kernel
theorem dX7_readsLine_193 : decode cX7_readsLine 193 = .ok (.invokevirtual 98, 3) := by decide +kernel
theorem dX7_readsLine_196 : decode cX7_readsLine 196 = .ok (.iastore, 1) := by decide +kernel
theorem dX7_readsLine_197 : decode cX7_readsLine 197 = .ok (.goto 88, 3) := by decide +kernel
theorem dX7_readsLine_200 : decode cX7_readsLine 200 = .ok (.aload_n 0, 1) := by decide +kernel
theorem dX7_readsLine_201 : decode cX7_readsLine 201 = .ok (.ldc 158, 2) := by decide +kernel
theorem dX7_readsLine_203 : decode cX7_readsLine 203 = .ok (.iconst 3, 1) := by decide +kernel
theorem dX7_readsLine_204 : decode cX7_readsLine 204 = .ok (.invokevirtual 144, 3) := by decide +kernel
theorem dX7_readsLine_207 : decode cX7_readsLine 207 = .ok (.ifCond .eq 20, 3) := by decide +kernel
theorem dX7_readsLine_210 : decode cX7_readsLine 210 = .ok (.aload_n 0, 1) := by decide +kernel
theorem dX7_readsLine_211 : decode cX7_readsLine 211 = .ok (.getfield 23, 3) := by decide +kernel
theorem dX7_readsLine_214 : decode cX7_readsLine 214 = .ok (.bipush 6, 2) := by decide +kernel
theorem dX7_readsLine_216 : decode cX7_readsLine 216 = .ok (.aload_n 0, 1) := by decide +kernel
theorem dX7_readsLine_217 : decode cX7_readsLine 217 = .ok (.iconst 0, 1) := by decide +kernel
theorem dX7_readsLine_218 : decode cX7_readsLine 218 = .ok (.bipush 20, 2) := by decide +kernel
theorem dX7_readsLine_220 : decode cX7_readsLine 220 = .ok (.invokevirtual 98, 3) := by decide +kernel
theorem dX7_readsLine_223 : decode cX7_readsLine 223 = .ok (.iastore, 1) := by decide +kernel
theorem dX7_readsLine_224 : decode cX7_readsLine 224 = .ok (.goto 61, 3) := by decide +kernel
theorem dX7_readsLine_227 : decode cX7_readsLine 227 = .ok (.aload_n 0, 1) := by decide +kernel
theorem dX7_readsLine_228 : decode cX7_readsLine 228 = .ok (.ldc 160, 2) := by decide +kernel
theorem dX7_readsLine_230 : decode cX7_readsLine 230 = .ok (.iconst 4, 1) := by decide +kernel
theorem dX7_readsLine_231 : decode cX7_readsLine 231 = .ok (.invokevirtual 144, 3) := by decide +kernel
theorem dX7_readsLine_234 : decode cX7_readsLine 234 = .ok (.ifCond .eq 20, 3) := by decide +kernel
theorem dX7_readsLine_237 : decode cX7_readsLine 237 = .ok (.aload_n 0, 1) := by decide +kernel
theorem dX7_readsLine_238 : decode cX7_readsLine 238 = .ok (.getfield 23, 3) := by decide +kernel
theorem dX7_readsLine_241 : decode cX7_readsLine 241 = .ok (.bipush 7, 2) := by decide +kernel
theorem dX7_readsLine_243 : decode cX7_readsLine 243 = .ok (.aload_n 0, 1) := by decide +kernel
theorem dX7_readsLine_244 : decode cX7_readsLine 244 = .ok (.iconst 1, 1) := by decide +kernel
theorem dX7_readsLine_245 : decode cX7_readsLine 245 = .ok (.bipush 99, 2) := by decide +kernel
theorem dX7_readsLine_247 : decode cX7_readsLine 247 = .ok (.invokevirtual 98, 3) := by decide +kernel
theorem dX7_readsLine_250 : decode cX7_readsLine 250 = .ok (.iastore, 1) := by decide +kernel
theorem dX7_readsLine_251 : decode cX7_readsLine 251 = .ok (.goto 34, 3) := by decide +kernel
theorem dX7_readsLine_254 : decode cX7_readsLine 254 = .ok (.aload_n 0, 1) := by decide +kernel
theorem dX7_readsLine_255 : decode cX7_readsLine 255 = .ok (.ldc 162, 2) := by decide +kernel
theorem dX7_readsLine_257 : decode cX7_readsLine 257 = .ok (.iconst 5, 1) := by decide +kernel
theorem dX7_readsLine_258 : decode cX7_readsLine 258 = .ok (.invokevirtual 144, 3) := by decide +kernel
theorem dX7_readsLine_261 : decode cX7_readsLine 261 = .ok (.ifCond .eq 18, 3) := by decide +kernel
theorem dX7_readsLine_264 : decode cX7_readsLine 264 = .ok (.aload_n 0, 1) := by decide +kernel
theorem dX7_readsLine_265 : decode cX7_readsLine 265 = .ok (.invokevirtual 117, 3) := by decide +kernel
theorem dX7_readsLine_268 : decode cX7_readsLine 268 = .ok (.aload_n 0, 1) := by decide +kernel
theorem dX7_readsLine_269 : decode cX7_readsLine 269 = .ok (.getfield 23, 3) := by decide +kernel
theorem dX7_readsLine_272 : decode cX7_readsLine 272 = .ok (.bipush 8, 2) := by decide +kernel
theorem dX7_readsLine_274 : decode cX7_readsLine 274 = .ok (.iconst 1, 1) := by decide +kernel
theorem dX7_readsLine_275 : decode cX7_readsLine 275 = .ok (.iastore, 1) := by decide +kernel
theorem dX7_readsLine_276 : decode cX7_readsLine 276 = .ok (.goto 9, 3) := by decide +kernel
theorem dX7_readsLine_279 : decode cX7_readsLine 279 = .ok (.aload_n 0, 1) := by decide +kernel
theorem dX7_readsLine_280 : decode cX7_readsLine 280 = .ok (.iconst 1, 1) := by decide +kernel
theorem dX7_readsLine_281 : decode cX7_readsLine 281 = .ok (.iload_n 1, 1) := by decide +kernel
theorem dX7_readsLine_282 : decode cX7_readsLine 282 = .ok (.invokevirtual 85, 3) := by decide +kernel
theorem dX7_readsLine_285 : decode cX7_readsLine 285 = .ok (.aload_n 0, 1) := by decide +kernel
theorem dX7_readsLine_286 : decode cX7_readsLine 286 = .ok (.bipush 59, 2) := by decide +kernel
theorem dX7_readsLine_288 : decode cX7_readsLine 288 = .ok (.invokevirtual 120, 3) := by decide +kernel
theorem dX7_readsLine_291 : decode cX7_readsLine 291 = .ok (.return_, 1) := by decide +kernel
theorem dX7_text_0 : decode cX7_text 0 = .ok (.aload_n 0, 1) := by decide +kernel
theorem dX7_text_1 : decode cX7_text 1 = .ok (.iconst 0, 1) := by decide +kernel
theorem dX7_text_2 : decode cX7_text 2 = .ok (.putfield 42, 3) := by decide +kernel
theorem dX7_text_5 : decode cX7_text 5 = .ok (.aload_n 0, 1) := by decide +kernel
theorem dX7_text_6 : decode cX7_text 6 = .ok (.iload_n 1, 1) := by decide +kernel
theorem dX7_text_7 : decode cX7_text 7 = .ok (.iconst 0, 1) := by decide +kernel
theorem dX7_text_8 : decode cX7_text 8 = .ok (.aload_n 0, 1) := by decide +kernel
theorem dX7_text_9 : decode cX7_text 9 = .ok (.getfield 45, 3) := by decide +kernel
theorem dX7_text_12 : decode cX7_text 12 = .ok (.invokestatic 81, 3) := by decide +kernel
theorem dX7_text_15 : decode cX7_text 15 = .ok (.ifCond .ne 7, 3) := by decide +kernel
theorem dX7_text_18 : decode cX7_text 18 = .ok (.iconst 1, 1) := by decide +kernel
theorem dX7_text_19 : decode cX7_text 19 = .ok (.goto 4, 3) := by decide +kernel
theorem dX7_text_22 : decode cX7_text 22 = .ok (.iconst 0, 1) := by decide +kernel
theorem dX7_text_23 : decode cX7_text 23 = .ok (.iconst 1, 1) := by decide +kernel
theorem dX7_text_24 : decode cX7_text 24 = .ok (.iconst 1, 1) := by decide +kernel
theorem dX7_text_25 : decode cX7_text 25 = .ok (.invokevirtual 164, 3) := by decide +kernel
theorem dX7_text_28 : decode cX7_text 28 = .ok (.ifCond .eq 5, 3) := by decide +kernel
theorem dX7_text_31 : decode cX7_text 31 = .ok (.iconst 0, 1) := by decide +kernel
theorem dX7_text_32 : decode cX7_text 32 = .ok (.ireturn, 1) := by decide +kernel
theorem dX7_text_33 : decode cX7_text 33 = .ok (.aload_n 0, 1) := by decide +kernel
theorem dX7_text_34 : decode cX7_text 34 = .ok (.iconst 0, 1) := by decide +kernel
theorem dX7_text_35 : decode cX7_text 35 = .ok (.putfield 45, 3) := by decide +kernel
theorem dX7_text_38 : decode cX7_text 38 = .ok (.aload_n 0, 1) := by decide +kernel
theorem dX7_text_39 : decode cX7_text 39 = .ok (.iload_n 1, 1) := by decide +kernel
theorem dX7_text_40 : decode cX7_text 40 = .ok (.putfield 48, 3) := by decide +kernel
theorem dX7_text_43 : decode cX7_text 43 = .ok (.aload_n 0, 1) := by decide +kernel
theorem dX7_text_44 : decode cX7_text 44 = .ok (.iconst 0, 1) := by decide +kernel
theorem dX7_text_45 : decode cX7_text 45 = .ok (.putfield 51, 3) := by decide +kernel
theorem dX7_text_48 : decode cX7_text 48 = .ok (.aload_n 0, 1) := by decide +kernel
theorem dX7_text_49 : decode cX7_text 49 = .ok (.iconst 0, 1) := by decide +kernel
theorem dX7_text_50 : decode cX7_text 50 = .ok (.putfield 58, 3) := by decide +kernel
theorem dX7_text_53 : decode cX7_text 53 = .ok (.aload_n 0, 1) := by decide +kernel
theorem dX7_text_54 : decode cX7_text 54 = .ok (.iconst (-1), 1) := by decide +kernel
theorem dX7_text_55 : decode cX7_text 55 = .ok (.putfield 61, 3) := by decide +kernel
theorem dX7_text_58 : decode cX7_text 58 = .ok (.aload_n 0, 1) := by decide +kernel
theorem dX7_text_59 : decode cX7_text 59 = .ok (.iconst 0, 1) := by decide +kernel
theorem dX7_text_60 : decode cX7_text 60 = .ok (.putfield 101, 3) := by decide +kernel
theorem dX7_text_63 : decode cX7_text 63 = .ok (.aload_n 0, 1) := by decide +kernel
theorem dX7_text_64 : decode cX7_text 64 = .ok (.iconst 0, 1) := by decide +kernel
theorem dX7_text_65 : decode cX7_text 65 = .ok (.putfield 104, 3) := by decide +kernel
theorem dX7_text_68 : decode cX7_text 68 = .ok (.aload_n 0, 1) := by decide +kernel
theorem dX7_text_69 : decode cX7_text 69 = .ok (.iconst 0, 1) := by decide +kernel
theorem dX7_text_70 : decode cX7_text 70 = .ok (.putfield 139, 3) := by decide +kernel
theorem dX7_text_73 : decode cX7_text 73 = .ok (.aload_n 0, 1) := by decide +kernel
theorem dX7_text_74 : decode cX7_text 74 = .ok (.getfield 23, 3) := by decide +kernel
theorem dX7_text_77 : decode cX7_text 77 = .ok (.invokestatic 38, 3) := by decide +kernel
theorem dX7_text_80 : decode cX7_text 80 = .ok (.aload_n 0, 1) := by decide +kernel
theorem dX7_text_81 : decode cX7_text 81 = .ok (.ldc 168, 2) := by decide +kernel
theorem dX7_text_83 : decode cX7_text 83 = .ok (.invokevirtual 125, 3) := by decide +kernel
theorem dX7_text_86 : decode cX7_text 86 = .ok (.ifCond .ne 12, 3) := by decide +kernel
theorem dX7_text_89 : decode cX7_text 89 = .ok (.aload_n 0, 1) := by decide +kernel
theorem dX7_text_90 : decode cX7_text 90 = .ok (.iconst 1, 1) := by decide +kernel
theorem dX7_text_91 : decode cX7_text 91 = .ok (.aload_n 0, 1) := by decide +kernel
theorem dX7_text_92 : decode cX7_text 92 = .ok (.getfield 51, 3) := by decide +kernel
theorem dX7_text_95 : decode cX7_text 95 = .ok (.invokevirtual 85, 3) := by decide +kernel
theorem dX7_text_98 : decode cX7_text 98 = .ok (.aload_n 0, 1) := by decide +kernel
theorem dX7_text_99 : decode cX7_text 99 = .ok (.getfield 23, 3) := by decide +kernel
theorem dX7_text_102 : decode cX7_text 102 = .ok (.iconst 0, 1) := by decide +kernel
theorem dX7_text_103 : decode cX7_text 103 = .ok (.aload_n 0, 1) := by decide +kernel
theorem dX7_text_104 : decode cX7_text 104 = .ok (.iconst 1, 1) := by decide +kernel
theorem dX7_text_105 : decode cX7_text 105 = .ok (.iconst 5, 1) := by decide +kernel
theorem dX7_text_106 : decode cX7_text 106 = .ok (.invokevirtual 98, 3) := by decide +kernel
theorem dX7_text_109 : decode cX7_text 109 = .ok (.iastore, 1) := by decide +kernel
theorem dX7_text_110 : decode cX7_text 110 = .ok (.aload_n 0, 1) := by decide +kernel
theorem dX7_text_111 : decode cX7_text 111 = .ok (.bipush 59, 2) := by decide +kernel
theorem dX7_text_113 : decode cX7_text 113 = .ok (.invokevirtual 120, 3) := by decide +kernel
theorem dX7_text_116 : decode cX7_text 116 = .ok (.aload_n 0, 1) := by decide +kernel
theorem dX7_text_117 : decode cX7_text 117 = .ok (.invokevirtual 64, 3) := by decide +kernel
theorem dX7_text_120 : decode cX7_text 120 = .ok (.ifCond .eq 18, 3) := by decide +kernel
theorem dX7_text_123 : decode cX7_text 123 = .ok (.aload_n 0, 1) := by decide +kernel
theorem dX7_text_124 : decode cX7_text 124 = .ok (.invokevirtual 68, 3) := by decide +kernel
theorem dX7_text_127 : decode cX7_text 127 = .ok (.iconst (-1), 1) := by decide +kernel
theorem dX7_text_128 : decode cX7_text 128 = .ok (.if_icmp .eq 10, 3) := by decide +kernel
theorem dX7_text_131 : decode cX7_text 131 = .ok (.aload_n 0, 1) := by decide +kernel
theorem dX7_text_132 : decode cX7_text 132 = .ok (.invokevirtual 170, 3) := by decide +kernel
theorem dX7_text_135 : decode cX7_text 135 = .ok (.goto (-19), 3) := by decide +kernel
theorem dX7_text_138 : decode cX7_text 138 = .ok (.aload_n 0, 1) := by decide +kernel
theorem dX7_text_139 : decode cX7_text 139 = .ok (.invokevirtual 64, 3) := by decide +kernel
theorem dX7_text_142 : decode cX7_text 142 = .ok (.ifCond .eq 21, 3) := by decide +kernel
theorem dX7_text_145 : decode cX7_text 145 = .ok (.aload_n 0, 1) := by decide +kernel
theorem dX7_text_146 : decode cX7_text 146 = .ok (.getfield 23, 3) := by decide +kernel
theorem dX7_text_149 : decode cX7_text 149 = .ok (.iconst 2, 1) := by decide +kernel
theorem dX7_text_150 : decode cX7_text 150 = .ok (.iaload, 1) := by decide +kernel
theorem dX7_text_151 : decode cX7_text 151 = .ok (.ifCond .ne 12, 3) := by decide +kernel
theorem dX7_text_154 : decode cX7_text 154 = .ok (.aload_n 0, 1) := by decide +kernel
theorem dX7_text_155 : decode cX7_text 155 = .ok (.iconst 5, 1) := by decide +kernel
theorem dX7_text_156 : decode cX7_text 156 = .ok (.aload_n 0, 1) := by decide +kernel
theorem dX7_text_157 : decode cX7_text 157 = .ok (.getfield 48, 3) := by decide +kernel
theorem dX7_text_160 : decode cX7_text 160 = .ok (.invokevirtual 85, 3) := by decide +kernel
theorem dX7_text_163 : decode cX7_text 163 = .ok (.aload_n 0, 1) := by decide +kernel
theorem dX7_text_164 : decode cX7_text 164 = .ok (.aload_n 0, 1) := by decide +kernel
theorem dX7_text_165 : decode cX7_text 165 = .ok (.getfield 61, 3) := by decide +kernel
theorem dX7_text_168 : decode cX7_text 168 = .ok (.putfield 13, 3) := by decide +kernel
theorem dX7_text_171 : decode cX7_text 171 = .ok (.aload_n 0, 1) := by decide +kernel
theorem dX7_text_172 : decode cX7_text 172 = .ok (.invokevirtual 64, 3) := by decide +kernel
theorem dX7_text_175 : decode cX7_text 175 = .ok (.ifCond .ne 11, 3) := by decide +kernel
theorem dX7_text_178 : decode cX7_text 178 = .ok (.aload_n 0, 1) := by decide +kernel
theorem dX7_text_179 : decode cX7_text 179 = .ok (.getfield 58, 3) := by decide +kernel
theorem dX7_text_182 : decode cX7_text 182 = .ok (.bipush 10, 2) := by decide +kernel
theorem dX7_text_184 : decode cX7_text 184 = .ok (.isub, 1) := by decide +kernel
theorem dX7_text_185 : decode cX7_text 185 = .ok (.ireturn, 1) := by decide +kernel
theorem dX7_text_186 : decode cX7_text 186 = .ok (.aload_n 0, 1) := by decide +kernel
theorem dX7_text_187 : decode cX7_text 187 = .ok (.getfield 23, 3) := by decide +kernel
theorem dX7_text_190 : decode cX7_text 190 = .ok (.iconst 3, 1) := by decide +kernel
theorem dX7_text_191 : decode cX7_text 191 = .ok (.bipush 8, 2) := by decide +kernel
theorem dX7_text_193 : decode cX7_text 193 = .ok (.iconst 1, 1) := by decide +kernel
theorem dX7_text_194 : decode cX7_text 194 = .ok (.aload_n 0, 1) := by decide +kernel
theorem dX7_text_195 : decode cX7_text 195 = .ok (.getfield 23, 3) := by decide +kernel
theorem dX7_text_198 : decode cX7_text 198 = .ok (.iconst 1, 1) := by decide +kernel
theorem dX7_text_199 : decode cX7_text 199 = .ok (.iaload, 1) := by decide +kernel
theorem dX7_text_200 : decode cX7_text 200 = .ok (.iadd, 1) := by decide +kernel
theorem dX7_text_201 : decode cX7_text 201 = .ok (.invokestatic 94, 3) := by decide +kernel
theorem dX7_text_204 : decode cX7_text 204 = .ok (.iastore, 1) := by decide +kernel
theorem dX7_text_205 : decode cX7_text 205 = .ok (.iconst 0, 1) := by decide +kernel
theorem dX7_text_206 : decode cX7_text 206 = .ok (.istore_n 2, 1) := by decide +kernel
theorem dX7_text_207 : decode cX7_text 207 = .ok (.iload_n 2, 1) := by decide +kernel
theorem dX7_text_208 : decode cX7_text 208 = .ok (.aload_n 0, 1) := by decide +kernel
theorem dX7_text_209 : decode cX7_text 209 = .ok (.getfield 23, 3) := by decide +kernel
theorem dX7_text_212 : decode cX7_text 212 = .ok (.iconst 3, 1) := by decide +kernel
theorem dX7_text_213 : decode cX7_text 213 = .ok (.iaload, 1) := by decide +kernel
theorem dX7_text_214 : decode cX7_text 214 = .ok (.if_icmp .ge 19, 3) := by decide +kernel
theorem dX7_text_217 : decode cX7_text 217 = .ok (.aload_n 0, 1) := by decide +kernel
theorem dX7_text_218 : decode cX7_text 218 = .ok (.getfield 23, 3) := by decide +kernel
theorem dX7_text_221 : decode cX7_text 221 = .ok (.bipush 99, 2) := by decide +kernel
theorem dX7_text_223 : decode cX7_text 223 = .ok (.iload_n 2, 1) := by decide +kernel
theorem dX7_text_224 : decode cX7_text 224 = .ok (.iadd, 1) := by decide +kernel
theorem dX7_text_225 : decode cX7_text 225 = .ok (.iload_n 2, 1) := by decide +kernel
theorem dX7_text_226 : decode cX7_text 226 = .ok (.iastore, 1) := by decide +kernel
theorem dX7_text_227 : decode cX7_text 227 = .ok (.iinc 2 1, 3) := by decide +kernel
theorem dX7_text_230 : decode cX7_text 230 = .ok (.goto (-23), 3) := by decide +kernel
theorem dX7_text_233 : decode cX7_text 233 = .ok (.aload_n 0, 1) := by decide +kernel
theorem dX7_text_234 : decode cX7_text 234 = .ok (.invokevirtual 173, 3) := by decide +kernel
theorem dX7_text_237 : decode cX7_text 237 = .ok (.aload_n 0, 1) := by decide +kernel
theorem dX7_text_238 : decode cX7_text 238 = .ok (.getfield 23, 3) := by decide +kernel
theorem dX7_text_241 : decode cX7_text 241 = .ok (.aload_n 0, 1) := by decide +kernel
theorem dX7_text_242 : decode cX7_text 242 = .ok (.getfield 20, 3) := by decide +kernel
theorem dX7_text_245 : decode cX7_text 245 = .ok (.invokestatic 176, 3) := by decide +kernel
theorem dX7_text_248 : decode cX7_text 248 = .ok (.aload_n 0, 1) := by decide +kernel
theorem dX7_text_249 : decode cX7_text 249 = .ok (.invokevirtual 180, 3) := by decide +kernel
theorem dX7_text_252 : decode cX7_text 252 = .ok (.ireturn, 1) := by decide +kernel
theorem dX7_fault_0 : decode cX7_fault 0 = .ok (.aload_n 0, 1) := by decide +kernel
theorem dX7_fault_1 : decode cX7_fault 1 = .ok (.iconst 0, 1) := by decide +kernel
theorem dX7_fault_2 : decode cX7_fault 2 = .ok (.putfield 42, 3) := by decide +kernel
theorem dX7_fault_5 : decode cX7_fault 5 = .ok (.aload_n 0, 1) := by decide +kernel
theorem dX7_fault_6 : decode cX7_fault 6 = .ok (.getfield 13, 3) := by decide +kernel
theorem dX7_fault_9 : decode cX7_fault 9 = .ok (.ireturn, 1) := by decide +kernel
theorem dX7_persons_0 : decode cX7_persons 0 = .ok (.iconst 1, 1) := by decide +kernel
theorem dX7_persons_1 : decode cX7_persons 1 = .ok (.aload_n 0, 1) := by decide +kernel
theorem dX7_persons_2 : decode cX7_persons 2 = .ok (.getfield 20, 3) := by decide +kernel
theorem dX7_persons_5 : decode cX7_persons 5 = .ok (.iconst 1, 1) := by decide +kernel
theorem dX7_persons_6 : decode cX7_persons 6 = .ok (.iaload, 1) := by decide +kernel
theorem dX7_persons_7 : decode cX7_persons 7 = .ok (.iadd, 1) := by decide +kernel
theorem dX7_persons_8 : decode cX7_persons 8 = .ok (.ireturn, 1) := by decide +kernel
theorem dX7_valueOf_0 : decode cX7_valueOf 0 = .ok (.aload_n 0, 1) := by decide +kernel
theorem dX7_valueOf_1 : decode cX7_valueOf 1 = .ok (.getfield 20, 3) := by decide +kernel
theorem dX7_valueOf_4 : decode cX7_valueOf 4 = .ok (.bipush 9, 2) := by decide +kernel
theorem dX7_valueOf_6 : decode cX7_valueOf 6 = .ok (.iconst 5, 1) := by decide +kernel
theorem dX7_valueOf_7 : decode cX7_valueOf 7 = .ok (.iload_n 1, 1) := by decide +kernel
theorem dX7_valueOf_8 : decode cX7_valueOf 8 = .ok (.imul, 1) := by decide +kernel
theorem dX7_valueOf_9 : decode cX7_valueOf 9 = .ok (.iadd, 1) := by decide +kernel
theorem dX7_valueOf_10 : decode cX7_valueOf 10 = .ok (.iload_n 2, 1) := by decide +kernel
theorem dX7_valueOf_11 : decode cX7_valueOf 11 = .ok (.iadd, 1) := by decide +kernel
theorem dX7_valueOf_12 : decode cX7_valueOf 12 = .ok (.iaload, 1) := by decide +kernel
theorem dX7_valueOf_13 : decode cX7_valueOf 13 = .ok (.ireturn, 1) := by decide +kernel
theorem dX7_offOf_0 : decode cX7_offOf 0 = .ok (.aload_n 0, 1) := by decide +kernel
theorem dX7_offOf_1 : decode cX7_offOf 1 = .ok (.getfield 20, 3) := by decide +kernel
theorem dX7_offOf_4 : decode cX7_offOf 4 = .ok (.bipush 89, 2) := by decide +kernel
theorem dX7_offOf_6 : decode cX7_offOf 6 = .ok (.iload_n 2, 1) := by decide +kernel
theorem dX7_offOf_7 : decode cX7_offOf 7 = .ok (.iadd, 1) := by decide +kernel
theorem dX7_offOf_8 : decode cX7_offOf 8 = .ok (.iaload, 1) := by decide +kernel
theorem dX7_offOf_9 : decode cX7_offOf 9 = .ok (.iconst (-1), 1) := by decide +kernel
theorem dX7_offOf_10 : decode cX7_offOf 10 = .ok (.if_icmp .ne 5, 3) := by decide +kernel
theorem dX7_offOf_13 : decode cX7_offOf 13 = .ok (.iconst 0, 1) := by decide +kernel
theorem dX7_offOf_14 : decode cX7_offOf 14 = .ok (.ireturn, 1) := by decide +kernel
theorem dX7_offOf_15 : decode cX7_offOf 15 = .ok (.aload_n 0, 1) := by decide +kernel
theorem dX7_offOf_16 : decode cX7_offOf 16 = .ok (.iload_n 1, 1) := by decide +kernel
theorem dX7_offOf_17 : decode cX7_offOf 17 = .ok (.iload_n 2, 1) := by decide +kernel
theorem dX7_offOf_18 : decode cX7_offOf 18 = .ok (.invokevirtual 183, 3) := by decide +kernel
theorem dX7_offOf_21 : decode cX7_offOf 21 = .ok (.iload_n 3, 1) := by decide +kernel
theorem dX7_offOf_22 : decode cX7_offOf 22 = .ok (.ifCond .eq 12, 3) := by decide +kernel
theorem dX7_offOf_25 : decode cX7_offOf 25 = .ok (.aload_n 0, 1) := by decide +kernel
theorem dX7_offOf_26 : decode cX7_offOf 26 = .ok (.iconst 0, 1) := by decide +kernel
theorem dX7_offOf_27 : decode cX7_offOf 27 = .ok (.iload_n 2, 1) := by decide +kernel
theorem dX7_offOf_28 : decode cX7_offOf 28 = .ok (.invokevirtual 183, 3) := by decide +kernel
theorem dX7_offOf_31 : decode cX7_offOf 31 = .ok (.goto 12, 3) := by decide +kernel
theorem dX7_offOf_34 : decode cX7_offOf 34 = .ok (.aload_n 0, 1) := by decide +kernel
theorem dX7_offOf_35 : decode cX7_offOf 35 = .ok (.getfield 20, 3) := by decide +kernel
theorem dX7_offOf_38 : decode cX7_offOf 38 = .ok (.bipush 89, 2) := by decide +kernel
theorem dX7_offOf_40 : decode cX7_offOf 40 = .ok (.iload_n 2, 1) := by decide +kernel
theorem dX7_offOf_41 : decode cX7_offOf 41 = .ok (.iadd, 1) := by decide +kernel
theorem dX7_offOf_42 : decode cX7_offOf 42 = .ok (.iaload, 1) := by decide +kernel
theorem dX7_offOf_43 : decode cX7_offOf 43 = .ok (.isub, 1) := by decide +kernel
theorem dX7_offOf_44 : decode cX7_offOf 44 = .ok (.istore 4, 2) := by decide +kernel
theorem dX7_offOf_46 : decode cX7_offOf 46 = .ok (.iload 4, 2) := by decide +kernel
theorem dX7_offOf_48 : decode cX7_offOf 48 = .ok (.ifCond .ge 9, 3) := by decide +kernel
theorem dX7_offOf_51 : decode cX7_offOf 51 = .ok (.iload 4, 2) := by decide +kernel
theorem dX7_offOf_53 : decode cX7_offOf 53 = .ok (.ineg, 1) := by decide +kernel
theorem dX7_offOf_54 : decode cX7_offOf 54 = .ok (.goto 5, 3) := by decide +kernel
theorem dX7_offOf_57 : decode cX7_offOf 57 = .ok (.iload 4, 2) := by decide +kernel
theorem dX7_offOf_59 : decode cX7_offOf 59 = .ok (.ireturn, 1) := by decide +kernel
theorem dX7_held_0 : decode cX7_held 0 = .ok (.lload_n 0, 1) := by decide +kernel
theorem dX7_held_1 : decode cX7_held 1 = .ok (.ldc2_w 186, 3) := by decide +kernel
theorem dX7_held_4 : decode cX7_held 4 = .ok (.lcmp, 1) := by decide +kernel
theorem dX7_held_5 : decode cX7_held 5 = .ok (.ifCond .le 9, 3) := by decide +kernel
theorem dX7_held_8 : decode cX7_held 8 = .ok (.ldc2_w 186, 3) := by decide +kernel
theorem dX7_held_11 : decode cX7_held 11 = .ok (.goto 18, 3) := by decide +kernel
theorem dX7_held_14 : decode cX7_held 14 = .ok (.lload_n 0, 1) := by decide +kernel
theorem dX7_held_15 : decode cX7_held 15 = .ok (.ldc2_w 188, 3) := by decide +kernel
theorem dX7_held_18 : decode cX7_held 18 = .ok (.lcmp, 1) := by decide +kernel
theorem dX7_held_19 : decode cX7_held 19 = .ok (.ifCond .ge 9, 3) := by decide +kernel
theorem dX7_held_22 : decode cX7_held 22 = .ok (.ldc2_w 188, 3) := by decide +kernel
theorem dX7_held_25 : decode cX7_held 25 = .ok (.goto 4, 3) := by decide +kernel
theorem dX7_held_28 : decode cX7_held 28 = .ok (.lload_n 0, 1) := by decide +kernel
theorem dX7_held_29 : decode cX7_held 29 = .ok (.lreturn, 1) := by decide +kernel
theorem dX7_formed_0 : decode cX7_formed 0 = .ok (.iconst 0, 1) := by decide +kernel
theorem dX7_formed_1 : decode cX7_formed 1 = .ok (.istore_n 3, 1) := by decide +kernel
theorem dX7_formed_2 : decode cX7_formed 2 = .ok (.bipush 123, 2) := by decide +kernel
theorem dX7_formed_4 : decode cX7_formed 4 = .ok (.istore 4, 2) := by decide +kernel
theorem dX7_formed_6 : decode cX7_formed 6 = .ok (.aload_n 0, 1) := by decide +kernel
theorem dX7_formed_7 : decode cX7_formed 7 = .ok (.getfield 20, 3) := by decide +kernel
theorem dX7_formed_10 : decode cX7_formed 10 = .ok (.iload 4, 2) := by decide +kernel
theorem dX7_formed_12 : decode cX7_formed 12 = .ok (.iaload, 1) := by decide +kernel
theorem dX7_formed_13 : decode cX7_formed 13 = .ok (.ifCond .eq 199, 3) := by decide +kernel
theorem dX7_formed_16 : decode cX7_formed 16 = .ok (.aload_n 0, 1) := by decide +kernel
theorem dX7_formed_17 : decode cX7_formed 17 = .ok (.getfield 20, 3) := by decide +kernel
theorem dX7_formed_20 : decode cX7_formed 20 = .ok (.iload 4, 2) := by decide +kernel
theorem dX7_formed_22 : decode cX7_formed 22 = .ok (.iaload, 1) := by decide +kernel
theorem dX7_formed_23 : decode cX7_formed 23 = .ok (.istore 5, 2) := by decide +kernel
theorem dX7_formed_25 : decode cX7_formed 25 = .ok (.iload 5, 2) := by decide +kernel
theorem dX7_formed_27 : decode cX7_formed 27 = .ok (.iconst 5, 1) := by decide +kernel
theorem dX7_formed_28 : decode cX7_formed 28 = .ok (.if_icmp .ge 85, 3) := by decide +kernel
theorem dX7_formed_31 : decode cX7_formed 31 = .ok (.iinc 4 1, 3) := by decide +kernel
theorem dX7_formed_34 : decode cX7_formed 34 = .ok (.aload_n 0, 1) := by decide +kernel
theorem dX7_formed_35 : decode cX7_formed 35 = .ok (.getfield 20, 3) := by decide +kernel
theorem dX7_formed_38 : decode cX7_formed 38 = .ok (.iload 4, 2) := by decide +kernel
theorem dX7_formed_40 : decode cX7_formed 40 = .ok (.iaload, 1) := by decide +kernel
theorem dX7_formed_41 : decode cX7_formed 41 = .ok (.istore 6, 2) := by decide +kernel
theorem dX7_formed_43 : decode cX7_formed 43 = .ok (.aload_n 0, 1) := by decide +kernel
theorem dX7_formed_44 : decode cX7_formed 44 = .ok (.getfield 31, 3) := by decide +kernel
theorem dX7_formed_47 : decode cX7_formed 47 = .ok (.iload_n 3, 1) := by decide +kernel
theorem dX7_formed_48 : decode cX7_formed 48 = .ok (.iload 5, 2) := by decide +kernel
theorem dX7_formed_50 : decode cX7_formed 50 = .ok (.iconst 1, 1) := by decide +kernel
theorem dX7_formed_51 : decode cX7_formed 51 = .ok (.if_icmp .ne 9, 3) := by decide +kernel
theorem dX7_formed_54 : decode cX7_formed 54 = .ok (.iload 6, 2) := by decide +kernel
theorem dX7_formed_56 : decode cX7_formed 56 = .ok (.i2l, 1) := by decide +kernel
theorem dX7_formed_57 : decode cX7_formed 57 = .ok (.goto 49, 3) := by decide +kernel
theorem dX7_formed_60 : decode cX7_formed 60 = .ok (.iload 5, 2) := by decide +kernel
theorem dX7_formed_62 : decode cX7_formed 62 = .ok (.iconst 2, 1) := by decide +kernel
theorem dX7_formed_63 : decode cX7_formed 63 = .ok (.if_icmp .ne 14, 3) := by decide +kernel
theorem dX7_formed_66 : decode cX7_formed 66 = .ok (.aload_n 0, 1) := by decide +kernel
theorem dX7_formed_67 : decode cX7_formed 67 = .ok (.iload_n 1, 1) := by decide +kernel
theorem dX7_formed_68 : decode cX7_formed 68 = .ok (.iload 6, 2) := by decide +kernel
theorem dX7_formed_70 : decode cX7_formed 70 = .ok (.invokevirtual 183, 3) := by decide +kernel
theorem dX7_formed_73 : decode cX7_formed 73 = .ok (.i2l, 1) := by decide +kernel
theorem dX7_formed_74 : decode cX7_formed 74 = .ok (.goto 32, 3) := by decide +kernel
theorem dX7_formed_77 : decode cX7_formed 77 = .ok (.iload 5, 2) := by decide +kernel
theorem dX7_formed_79 : decode cX7_formed 79 = .ok (.iconst 3, 1) := by decide +kernel
theorem dX7_formed_80 : decode cX7_formed 80 = .ok (.if_icmp .ne 15, 3) := by decide +kernel
theorem dX7_formed_83 : decode cX7_formed 83 = .ok (.aload_n 0, 1) := by decide +kernel
theorem dX7_formed_84 : decode cX7_formed 84 = .ok (.iload_n 1, 1) := by decide +kernel
theorem dX7_formed_85 : decode cX7_formed 85 = .ok (.iload 6, 2) := by decide +kernel
theorem dX7_formed_87 : decode cX7_formed 87 = .ok (.iload_n 2, 1) := by decide +kernel
theorem dX7_formed_88 : decode cX7_formed 88 = .ok (.invokevirtual 190, 3) := by decide +kernel
theorem dX7_formed_91 : decode cX7_formed 91 = .ok (.i2l, 1) := by decide +kernel
theorem dX7_formed_92 : decode cX7_formed 92 = .ok (.goto 14, 3) := by decide +kernel
theorem dX7_formed_95 : decode cX7_formed 95 = .ok (.aload_n 0, 1) := by decide +kernel
theorem dX7_formed_96 : decode cX7_formed 96 = .ok (.getfield 20, 3) := by decide +kernel
theorem dX7_formed_99 : decode cX7_formed 99 = .ok (.bipush 94, 2) := by decide +kernel
theorem dX7_formed_101 : decode cX7_formed 101 = .ok (.iload 6, 2) := by decide +kernel
theorem dX7_formed_103 : decode cX7_formed 103 = .ok (.iadd, 1) := by decide +kernel
theorem dX7_formed_104 : decode cX7_formed 104 = .ok (.iaload, 1) := by decide +kernel
theorem dX7_formed_105 : decode cX7_formed 105 = .ok (.i2l, 1) := by decide +kernel
theorem dX7_formed_106 : decode cX7_formed 106 = .ok (.lastore, 1) := by decide +kernel
theorem dX7_formed_107 : decode cX7_formed 107 = .ok (.iinc 3 1, 3) := by decide +kernel
theorem dX7_formed_110 : decode cX7_formed 110 = .ok (.goto 96, 3) := by decide +kernel
theorem dX7_formed_113 : decode cX7_formed 113 = .ok (.iload 5, 2) := by decide +kernel
theorem dX7_formed_115 : decode cX7_formed 115 = .ok (.bipush 8, 2) := by decide +kernel
theorem dX7_formed_117 : decode cX7_formed 117 = .ok (.if_icmp .ne 23, 3) := by decide +kernel
theorem dX7_formed_120 : decode cX7_formed 120 = .ok (.aload_n 0, 1) := by decide +kernel
theorem dX7_formed_121 : decode cX7_formed 121 = .ok (.getfield 31, 3) := by decide +kernel
theorem dX7_formed_124 : decode cX7_formed 124 = .ok (.iload_n 3, 1) := by decide +kernel
theorem dX7_formed_125 : decode cX7_formed 125 = .ok (.iconst 1, 1) := by decide +kernel
theorem dX7_formed_126 : decode cX7_formed 126 = .ok (.isub, 1) := by decide +kernel
theorem dX7_formed_127 : decode cX7_formed 127 = .ok (.aload_n 0, 1) := by decide +kernel
theorem dX7_formed_128 : decode cX7_formed 128 = .ok (.getfield 31, 3) := by decide +kernel
theorem dX7_formed_131 : decode cX7_formed 131 = .ok (.iload_n 3, 1) := by decide +kernel
theorem dX7_formed_132 : decode cX7_formed 132 = .ok (.iconst 1, 1) := by decide +kernel
theorem dX7_formed_133 : decode cX7_formed 133 = .ok (.isub, 1) := by decide +kernel
theorem dX7_formed_134 : decode cX7_formed 134 = .ok (.laload, 1) := by decide +kernel
theorem dX7_formed_135 : decode cX7_formed 135 = .ok (.lneg, 1) := by decide +kernel
theorem dX7_formed_136 : decode cX7_formed 136 = .ok (.lastore, 1) := by decide +kernel
theorem dX7_formed_137 : decode cX7_formed 137 = .ok (.goto 69, 3) := by decide +kernel
theorem dX7_formed_140 : decode cX7_formed 140 = .ok (.iinc 3 (-1), 3) := by decide +kernel
theorem dX7_formed_143 : decode cX7_formed 143 = .ok (.aload_n 0, 1) := by decide +kernel
theorem dX7_formed_144 : decode cX7_formed 144 = .ok (.getfield 31, 3) := by decide +kernel
theorem dX7_formed_147 : decode cX7_formed 147 = .ok (.iload_n 3, 1) := by decide +kernel
theorem dX7_formed_148 : decode cX7_formed 148 = .ok (.iconst 1, 1) := by decide +kernel
theorem dX7_formed_149 : decode cX7_formed 149 = .ok (.isub, 1) := by decide +kernel
theorem dX7_formed_150 : decode cX7_formed 150 = .ok (.laload, 1) := by decide +kernel
theorem dX7_formed_151 : decode cX7_formed 151 = .ok (.lstore 6, 2) := by decide +kernel
theorem dX7_formed_153 : decode cX7_formed 153 = .ok (.aload_n 0, 1) := by decide +kernel
theorem dX7_formed_154 : decode cX7_formed 154 = .ok (.getfield 31, 3) := by decide +kernel
theorem dX7_formed_157 : decode cX7_formed 157 = .ok (.iload_n 3, 1) := by decide +kernel
theorem dX7_formed_158 : decode cX7_formed 158 = .ok (.laload, 1) := by decide +kernel
theorem dX7_formed_159 : decode cX7_formed 159 = .ok (.lstore 8, 2) := by decide +kernel
theorem dX7_formed_161 : decode cX7_formed 161 = .ok (.aload_n 0, 1) := by decide +kernel
theorem dX7_formed_162 : decode cX7_formed 162 = .ok (.getfield 31, 3) := by decide +kernel
theorem dX7_formed_165 : decode cX7_formed 165 = .ok (.iload_n 3, 1) := by decide +kernel
theorem dX7_formed_166 : decode cX7_formed 166 = .ok (.iconst 1, 1) := by decide +kernel
theorem dX7_formed_167 : decode cX7_formed 167 = .ok (.isub, 1) := by decide +kernel
theorem dX7_formed_168 : decode cX7_formed 168 = .ok (.iload 5, 2) := by decide +kernel
theorem dX7_formed_170 : decode cX7_formed 170 = .ok (.iconst 5, 1) := by decide +kernel
theorem dX7_formed_171 : decode cX7_formed 171 = .ok (.if_icmp .ne 11, 3) := by decide +kernel
theorem dX7_formed_174 : decode cX7_formed 174 = .ok (.lload 6, 2) := by decide +kernel
theorem dX7_formed_176 : decode cX7_formed 176 = .ok (.lload 8, 2) := by decide +kernel
theorem dX7_formed_178 : decode cX7_formed 178 = .ok (.ladd, 1) := by decide +kernel
theorem dX7_formed_179 : decode cX7_formed 179 = .ok (.goto 23, 3) := by decide +kernel
theorem dX7_formed_182 : decode cX7_formed 182 = .ok (.iload 5, 2) := by decide +kernel
theorem dX7_formed_184 : decode cX7_formed 184 = .ok (.bipush 6, 2) := by decide +kernel
theorem dX7_formed_186 : decode cX7_formed 186 = .ok (.if_icmp .ne 11, 3) := by decide +kernel
theorem dX7_formed_189 : decode cX7_formed 189 = .ok (.lload 6, 2) := by decide +kernel
theorem dX7_formed_191 : decode cX7_formed 191 = .ok (.lload 8, 2) := by decide +kernel
theorem dX7_formed_193 : decode cX7_formed 193 = .ok (.lsub, 1) := by decide +kernel
theorem dX7_formed_194 : decode cX7_formed 194 = .ok (.goto 8, 3) := by decide +kernel
theorem dX7_formed_197 : decode cX7_formed 197 = .ok (.lload 6, 2) := by decide +kernel
theorem dX7_formed_199 : decode cX7_formed 199 = .ok (.lload 8, 2) := by decide +kernel
theorem dX7_formed_201 : decode cX7_formed 201 = .ok (.lmul, 1) := by decide +kernel
theorem dX7_formed_202 : decode cX7_formed 202 = .ok (.invokestatic 194, 3) := by decide +kernel
theorem dX7_formed_205 : decode cX7_formed 205 = .ok (.lastore, 1) := by decide +kernel
theorem dX7_formed_206 : decode cX7_formed 206 = .ok (.iinc 4 1, 3) := by decide +kernel
theorem dX7_formed_209 : decode cX7_formed 209 = .ok (.goto (-203), 3) := by decide +kernel
theorem dX7_formed_212 : decode cX7_formed 212 = .ok (.aload_n 0, 1) := by decide +kernel
theorem dX7_formed_213 : decode cX7_formed 213 = .ok (.getfield 31, 3) := by decide +kernel
theorem dX7_formed_216 : decode cX7_formed 216 = .ok (.iconst 0, 1) := by decide +kernel
theorem dX7_formed_217 : decode cX7_formed 217 = .ok (.laload, 1) := by decide +kernel
theorem dX7_formed_218 : decode cX7_formed 218 = .ok (.lreturn, 1) := by decide +kernel
theorem dX7_matchOf_0 : decode cX7_matchOf 0 = .ok (.lconst 0, 1) := by decide +kernel
theorem dX7_matchOf_1 : decode cX7_matchOf 1 = .ok (.lstore_n 3, 1) := by decide +kernel
theorem dX7_matchOf_2 : decode cX7_matchOf 2 = .ok (.iconst 0, 1) := by decide +kernel
theorem dX7_matchOf_3 : decode cX7_matchOf 3 = .ok (.istore 5, 2) := by decide +kernel
theorem dX7_matchOf_5 : decode cX7_matchOf 5 = .ok (.iload 5, 2) := by decide +kernel
theorem dX7_matchOf_7 : decode cX7_matchOf 7 = .ok (.aload_n 0, 1) := by decide +kernel
theorem dX7_matchOf_8 : decode cX7_matchOf 8 = .ok (.getfield 20, 3) := by decide +kernel
theorem dX7_matchOf_11 : decode cX7_matchOf 11 = .ok (.iconst 0, 1) := by decide +kernel
theorem dX7_matchOf_12 : decode cX7_matchOf 12 = .ok (.iaload, 1) := by decide +kernel
theorem dX7_matchOf_13 : decode cX7_matchOf 13 = .ok (.if_icmp .ge 35, 3) := by decide +kernel
theorem dX7_matchOf_16 : decode cX7_matchOf 16 = .ok (.lload_n 3, 1) := by decide +kernel
theorem dX7_matchOf_17 : decode cX7_matchOf 17 = .ok (.aload_n 0, 1) := by decide +kernel
theorem dX7_matchOf_18 : decode cX7_matchOf 18 = .ok (.getfield 20, 3) := by decide +kernel
theorem dX7_matchOf_21 : decode cX7_matchOf 21 = .ok (.bipush 94, 2) := by decide +kernel
theorem dX7_matchOf_23 : decode cX7_matchOf 23 = .ok (.iload 5, 2) := by decide +kernel
theorem dX7_matchOf_25 : decode cX7_matchOf 25 = .ok (.iadd, 1) := by decide +kernel
theorem dX7_matchOf_26 : decode cX7_matchOf 26 = .ok (.iaload, 1) := by decide +kernel
theorem dX7_matchOf_27 : decode cX7_matchOf 27 = .ok (.bipush 9, 2) := by decide +kernel
theorem dX7_matchOf_29 : decode cX7_matchOf 29 = .ok (.aload_n 0, 1) := by decide +kernel
theorem dX7_matchOf_30 : decode cX7_matchOf 30 = .ok (.iload_n 1, 1) := by decide +kernel
theorem dX7_matchOf_31 : decode cX7_matchOf 31 = .ok (.iload 5, 2) := by decide +kernel
theorem dX7_matchOf_33 : decode cX7_matchOf 33 = .ok (.iload_n 2, 1) := by decide +kernel
theorem dX7_matchOf_34 : decode cX7_matchOf 34 = .ok (.invokevirtual 190, 3) := by decide +kernel
theorem dX7_matchOf_37 : decode cX7_matchOf 37 = .ok (.isub, 1) := by decide +kernel
theorem dX7_matchOf_38 : decode cX7_matchOf 38 = .ok (.imul, 1) := by decide +kernel
theorem dX7_matchOf_39 : decode cX7_matchOf 39 = .ok (.i2l, 1) := by decide +kernel
theorem dX7_matchOf_40 : decode cX7_matchOf 40 = .ok (.ladd, 1) := by decide +kernel
theorem dX7_matchOf_41 : decode cX7_matchOf 41 = .ok (.lstore_n 3, 1) := by decide +kernel
theorem dX7_matchOf_42 : decode cX7_matchOf 42 = .ok (.iinc 5 1, 3) := by decide +kernel
theorem dX7_matchOf_45 : decode cX7_matchOf 45 = .ok (.goto (-40), 3) := by decide +kernel
theorem dX7_matchOf_48 : decode cX7_matchOf 48 = .ok (.aload_n 0, 1) := by decide +kernel
theorem dX7_matchOf_49 : decode cX7_matchOf 49 = .ok (.getfield 20, 3) := by decide +kernel
theorem dX7_matchOf_52 : decode cX7_matchOf 52 = .ok (.bipush 8, 2) := by decide +kernel
theorem dX7_matchOf_54 : decode cX7_matchOf 54 = .ok (.iaload, 1) := by decide +kernel
theorem dX7_matchOf_55 : decode cX7_matchOf 55 = .ok (.iconst 1, 1) := by decide +kernel
theorem dX7_matchOf_56 : decode cX7_matchOf 56 = .ok (.if_icmp .ne 10, 3) := by decide +kernel
theorem dX7_matchOf_59 : decode cX7_matchOf 59 = .ok (.aload_n 0, 1) := by decide +kernel
theorem dX7_matchOf_60 : decode cX7_matchOf 60 = .ok (.iload_n 1, 1) := by decide +kernel
theorem dX7_matchOf_61 : decode cX7_matchOf 61 = .ok (.iload_n 2, 1) := by decide +kernel
theorem dX7_matchOf_62 : decode cX7_matchOf 62 = .ok (.invokevirtual 198, 3) := by decide +kernel
theorem dX7_matchOf_65 : decode cX7_matchOf 65 = .ok (.lstore_n 3, 1) := by decide +kernel
theorem dX7_matchOf_66 : decode cX7_matchOf 66 = .ok (.lload_n 3, 1) := by decide +kernel
theorem dX7_matchOf_67 : decode cX7_matchOf 67 = .ok (.lconst 0, 1) := by decide +kernel
theorem dX7_matchOf_68 : decode cX7_matchOf 68 = .ok (.lcmp, 1) := by decide +kernel
theorem dX7_matchOf_69 : decode cX7_matchOf 69 = .ok (.ifCond .ge 7, 3) := by decide +kernel
theorem dX7_matchOf_72 : decode cX7_matchOf 72 = .ok (.iconst 0, 1) := by decide +kernel
theorem dX7_matchOf_73 : decode cX7_matchOf 73 = .ok (.goto 18, 3) := by decide +kernel
theorem dX7_matchOf_76 : decode cX7_matchOf 76 = .ok (.lload_n 3, 1) := by decide +kernel
theorem dX7_matchOf_77 : decode cX7_matchOf 77 = .ok (.ldc2_w 202, 3) := by decide +kernel
theorem dX7_matchOf_80 : decode cX7_matchOf 80 = .ok (.lcmp, 1) := by decide +kernel
theorem dX7_matchOf_81 : decode cX7_matchOf 81 = .ok (.ifCond .le 8, 3) := by decide +kernel
theorem dX7_matchOf_84 : decode cX7_matchOf 84 = .ok (.bipush 99, 2) := by decide +kernel
theorem dX7_matchOf_86 : decode cX7_matchOf 86 = .ok (.goto 5, 3) := by decide +kernel
theorem dX7_matchOf_89 : decode cX7_matchOf 89 = .ok (.lload_n 3, 1) := by decide +kernel
theorem dX7_matchOf_90 : decode cX7_matchOf 90 = .ok (.l2i, 1) := by decide +kernel
theorem dX7_matchOf_91 : decode cX7_matchOf 91 = .ok (.ireturn, 1) := by decide +kernel
theorem dX7_remembers_0 : decode cX7_remembers 0 = .ok (.aload_n 0, 1) := by decide +kernel
theorem dX7_remembers_1 : decode cX7_remembers 1 = .ok (.getfield 204, 3) := by decide +kernel
theorem dX7_remembers_4 : decode cX7_remembers 4 = .ok (.bipush 8, 2) := by decide +kernel
theorem dX7_remembers_6 : decode cX7_remembers 6 = .ok (.if_icmp .ne 44, 3) := by decide +kernel
theorem dX7_remembers_9 : decode cX7_remembers 9 = .ok (.iconst 1, 1) := by decide +kernel
theorem dX7_remembers_10 : decode cX7_remembers 10 = .ok (.istore_n 1, 1) := by decide +kernel
theorem dX7_remembers_11 : decode cX7_remembers 11 = .ok (.iload_n 1, 1) := by decide +kernel
theorem dX7_remembers_12 : decode cX7_remembers 12 = .ok (.bipush 8, 2) := by decide +kernel
theorem dX7_remembers_14 : decode cX7_remembers 14 = .ok (.if_icmp .ge 26, 3) := by decide +kernel
theorem dX7_remembers_17 : decode cX7_remembers 17 = .ok (.aload_n 0, 1) := by decide +kernel
theorem dX7_remembers_18 : decode cX7_remembers 18 = .ok (.getfield 28, 3) := by decide +kernel
theorem dX7_remembers_21 : decode cX7_remembers 21 = .ok (.iload_n 1, 1) := by decide +kernel
theorem dX7_remembers_22 : decode cX7_remembers 22 = .ok (.aaload, 1) := by decide +kernel
theorem dX7_remembers_23 : decode cX7_remembers 23 = .ok (.aload_n 0, 1) := by decide +kernel
theorem dX7_remembers_24 : decode cX7_remembers 24 = .ok (.getfield 28, 3) := by decide +kernel
theorem dX7_remembers_27 : decode cX7_remembers 27 = .ok (.iload_n 1, 1) := by decide +kernel
theorem dX7_remembers_28 : decode cX7_remembers 28 = .ok (.iconst 1, 1) := by decide +kernel
theorem dX7_remembers_29 : decode cX7_remembers 29 = .ok (.isub, 1) := by decide +kernel
theorem dX7_remembers_30 : decode cX7_remembers 30 = .ok (.aaload, 1) := by decide +kernel
theorem dX7_remembers_31 : decode cX7_remembers 31 = .ok (.invokestatic 176, 3) := by decide +kernel
theorem dX7_remembers_34 : decode cX7_remembers 34 = .ok (.iinc 1 1, 3) := by decide +kernel
theorem dX7_remembers_37 : decode cX7_remembers 37 = .ok (.goto (-26), 3) := by decide +kernel
theorem dX7_remembers_40 : decode cX7_remembers 40 = .ok (.aload_n 0, 1) := by decide +kernel
theorem dX7_remembers_41 : decode cX7_remembers 41 = .ok (.dup, 1) := by decide +kernel
theorem dX7_remembers_42 : decode cX7_remembers 42 = .ok (.getfield 204, 3) := by decide +kernel
theorem dX7_remembers_45 : decode cX7_remembers 45 = .ok (.iconst 1, 1) := by decide +kernel
theorem dX7_remembers_46 : decode cX7_remembers 46 = .ok (.isub, 1) := by decide +kernel
theorem dX7_remembers_47 : decode cX7_remembers 47 = .ok (.putfield 204, 3) := by decide +kernel
theorem dX7_remembers_50 : decode cX7_remembers 50 = .ok (.aload_n 0, 1) := by decide +kernel
theorem dX7_remembers_51 : decode cX7_remembers 51 = .ok (.getfield 20, 3) := by decide +kernel
theorem dX7_remembers_54 : decode cX7_remembers 54 = .ok (.aload_n 0, 1) := by decide +kernel
theorem dX7_remembers_55 : decode cX7_remembers 55 = .ok (.getfield 28, 3) := by decide +kernel
theorem dX7_remembers_58 : decode cX7_remembers 58 = .ok (.aload_n 0, 1) := by decide +kernel
theorem dX7_remembers_59 : decode cX7_remembers 59 = .ok (.getfield 204, 3) := by decide +kernel
theorem dX7_remembers_62 : decode cX7_remembers 62 = .ok (.aaload, 1) := by decide +kernel
theorem dX7_remembers_63 : decode cX7_remembers 63 = .ok (.invokestatic 176, 3) := by decide +kernel
theorem dX7_remembers_66 : decode cX7_remembers 66 = .ok (.aload_n 0, 1) := by decide +kernel
theorem dX7_remembers_67 : decode cX7_remembers 67 = .ok (.dup, 1) := by decide +kernel
theorem dX7_remembers_68 : decode cX7_remembers 68 = .ok (.getfield 204, 3) := by decide +kernel
theorem dX7_remembers_71 : decode cX7_remembers 71 = .ok (.iconst 1, 1) := by decide +kernel
theorem dX7_remembers_72 : decode cX7_remembers 72 = .ok (.iadd, 1) := by decide +kernel
theorem dX7_remembers_73 : decode cX7_remembers 73 = .ok (.putfield 204, 3) := by decide +kernel
theorem dX7_remembers_76 : decode cX7_remembers 76 = .ok (.return_, 1) := by decide +kernel
theorem dX7_undo_0 : decode cX7_undo 0 = .ok (.aload_n 0, 1) := by decide +kernel
theorem dX7_undo_1 : decode cX7_undo 1 = .ok (.iconst 0, 1) := by decide +kernel
theorem dX7_undo_2 : decode cX7_undo 2 = .ok (.putfield 42, 3) := by decide +kernel
theorem dX7_undo_5 : decode cX7_undo 5 = .ok (.aload_n 0, 1) := by decide +kernel
theorem dX7_undo_6 : decode cX7_undo 6 = .ok (.getfield 204, 3) := by decide +kernel
theorem dX7_undo_9 : decode cX7_undo 9 = .ok (.ifCond .ne 5, 3) := by decide +kernel
theorem dX7_undo_12 : decode cX7_undo 12 = .ok (.iconst (-1), 1) := by decide +kernel
theorem dX7_undo_13 : decode cX7_undo 13 = .ok (.ireturn, 1) := by decide +kernel
theorem dX7_undo_14 : decode cX7_undo 14 = .ok (.aload_n 0, 1) := by decide +kernel
theorem dX7_undo_15 : decode cX7_undo 15 = .ok (.dup, 1) := by decide +kernel
theorem dX7_undo_16 : decode cX7_undo 16 = .ok (.getfield 204, 3) := by decide +kernel
theorem dX7_undo_19 : decode cX7_undo 19 = .ok (.iconst 1, 1) := by decide +kernel
theorem dX7_undo_20 : decode cX7_undo 20 = .ok (.isub, 1) := by decide +kernel
theorem dX7_undo_21 : decode cX7_undo 21 = .ok (.putfield 204, 3) := by decide +kernel
theorem dX7_undo_24 : decode cX7_undo 24 = .ok (.aload_n 0, 1) := by decide +kernel
theorem dX7_undo_25 : decode cX7_undo 25 = .ok (.getfield 28, 3) := by decide +kernel
theorem dX7_undo_28 : decode cX7_undo 28 = .ok (.aload_n 0, 1) := by decide +kernel
theorem dX7_undo_29 : decode cX7_undo 29 = .ok (.getfield 204, 3) := by decide +kernel
theorem dX7_undo_32 : decode cX7_undo 32 = .ok (.aaload, 1) := by decide +kernel
theorem dX7_undo_33 : decode cX7_undo 33 = .ok (.aload_n 0, 1) := by decide +kernel
theorem dX7_undo_34 : decode cX7_undo 34 = .ok (.getfield 20, 3) := by decide +kernel
theorem dX7_undo_37 : decode cX7_undo 37 = .ok (.invokestatic 176, 3) := by decide +kernel
theorem dX7_undo_40 : decode cX7_undo 40 = .ok (.aload_n 0, 1) := by decide +kernel
theorem dX7_undo_41 : decode cX7_undo 41 = .ok (.getfield 204, 3) := by decide +kernel
theorem dX7_undo_44 : decode cX7_undo 44 = .ok (.ireturn, 1) := by decide +kernel
theorem dX7_isPerson_0 : decode cX7_isPerson 0 = .ok (.iload_n 1, 1) := by decide +kernel
theorem dX7_isPerson_1 : decode cX7_isPerson 1 = .ok (.iconst 0, 1) := by decide +kernel
theorem dX7_isPerson_2 : decode cX7_isPerson 2 = .ok (.aload_n 0, 1) := by decide +kernel
theorem dX7_isPerson_3 : decode cX7_isPerson 3 = .ok (.getfield 20, 3) := by decide +kernel
theorem dX7_isPerson_6 : decode cX7_isPerson 6 = .ok (.iconst 1, 1) := by decide +kernel
theorem dX7_isPerson_7 : decode cX7_isPerson 7 = .ok (.iaload, 1) := by decide +kernel
theorem dX7_isPerson_8 : decode cX7_isPerson 8 = .ok (.invokestatic 81, 3) := by decide +kernel
theorem dX7_isPerson_11 : decode cX7_isPerson 11 = .ok (.ireturn, 1) := by decide +kernel
theorem dX7_isTrait_0 : decode cX7_isTrait 0 = .ok (.iload_n 1, 1) := by decide +kernel
theorem dX7_isTrait_1 : decode cX7_isTrait 1 = .ok (.iconst 0, 1) := by decide +kernel
theorem dX7_isTrait_2 : decode cX7_isTrait 2 = .ok (.aload_n 0, 1) := by decide +kernel
theorem dX7_isTrait_3 : decode cX7_isTrait 3 = .ok (.getfield 20, 3) := by decide +kernel
theorem dX7_isTrait_6 : decode cX7_isTrait 6 = .ok (.iconst 0, 1) := by decide +kernel
theorem dX7_isTrait_7 : decode cX7_isTrait 7 = .ok (.iaload, 1) := by decide +kernel
theorem dX7_isTrait_8 : decode cX7_isTrait 8 = .ok (.iconst 1, 1) := by decide +kernel
theorem dX7_isTrait_9 : decode cX7_isTrait 9 = .ok (.isub, 1) := by decide +kernel
theorem dX7_isTrait_10 : decode cX7_isTrait 10 = .ok (.invokestatic 81, 3) := by decide +kernel
theorem dX7_isTrait_13 : decode cX7_isTrait 13 = .ok (.ireturn, 1) := by decide +kernel
theorem dX7_placeOf_0 : decode cX7_placeOf 0 = .ok (.iconst 0, 1) := by decide +kernel
theorem dX7_placeOf_1 : decode cX7_placeOf 1 = .ok (.istore_n 2, 1) := by decide +kernel
theorem dX7_placeOf_2 : decode cX7_placeOf 2 = .ok (.iload_n 2, 1) := by decide +kernel
theorem dX7_placeOf_3 : decode cX7_placeOf 3 = .ok (.aload_n 0, 1) := by decide +kernel
theorem dX7_placeOf_4 : decode cX7_placeOf 4 = .ok (.getfield 20, 3) := by decide +kernel
theorem dX7_placeOf_7 : decode cX7_placeOf 7 = .ok (.iconst 3, 1) := by decide +kernel
theorem dX7_placeOf_8 : decode cX7_placeOf 8 = .ok (.iaload, 1) := by decide +kernel
theorem dX7_placeOf_9 : decode cX7_placeOf 9 = .ok (.if_icmp .ge 24, 3) := by decide +kernel
theorem dX7_placeOf_12 : decode cX7_placeOf 12 = .ok (.aload_n 0, 1) := by decide +kernel
theorem dX7_placeOf_13 : decode cX7_placeOf 13 = .ok (.getfield 20, 3) := by decide +kernel
theorem dX7_placeOf_16 : decode cX7_placeOf 16 = .ok (.bipush 99, 2) := by decide +kernel
theorem dX7_placeOf_18 : decode cX7_placeOf 18 = .ok (.iload_n 2, 1) := by decide +kernel
theorem dX7_placeOf_19 : decode cX7_placeOf 19 = .ok (.iadd, 1) := by decide +kernel
theorem dX7_placeOf_20 : decode cX7_placeOf 20 = .ok (.iaload, 1) := by decide +kernel
theorem dX7_placeOf_21 : decode cX7_placeOf 21 = .ok (.iload_n 1, 1) := by decide +kernel
theorem dX7_placeOf_22 : decode cX7_placeOf 22 = .ok (.if_icmp .ne 5, 3) := by decide +kernel
theorem dX7_placeOf_25 : decode cX7_placeOf 25 = .ok (.iload_n 2, 1) := by decide +kernel
theorem dX7_placeOf_26 : decode cX7_placeOf 26 = .ok (.ireturn, 1) := by decide +kernel
theorem dX7_placeOf_27 : decode cX7_placeOf 27 = .ok (.iinc 2 1, 3) := by decide +kernel
theorem dX7_placeOf_30 : decode cX7_placeOf 30 = .ok (.goto (-28), 3) := by decide +kernel
theorem dX7_placeOf_33 : decode cX7_placeOf 33 = .ok (.iconst (-1), 1) := by decide +kernel
theorem dX7_placeOf_34 : decode cX7_placeOf 34 = .ok (.ireturn, 1) := by decide +kernel
theorem dX7_show_0 : decode cX7_show 0 = .ok (.aload_n 0, 1) := by decide +kernel
theorem dX7_show_1 : decode cX7_show 1 = .ok (.iconst 0, 1) := by decide +kernel
theorem dX7_show_2 : decode cX7_show 2 = .ok (.putfield 42, 3) := by decide +kernel
theorem dX7_show_5 : decode cX7_show 5 = .ok (.aload_n 0, 1) := by decide +kernel
theorem dX7_show_6 : decode cX7_show 6 = .ok (.aload_n 0, 1) := by decide +kernel
theorem dX7_show_7 : decode cX7_show 7 = .ok (.iload_n 1, 1) := by decide +kernel
theorem dX7_show_8 : decode cX7_show 8 = .ok (.invokevirtual 207, 3) := by decide +kernel
theorem dX7_show_11 : decode cX7_show 11 = .ok (.ifCond .ne 7, 3) := by decide +kernel
theorem dX7_show_14 : decode cX7_show 14 = .ok (.iconst 1, 1) := by decide +kernel
theorem dX7_show_15 : decode cX7_show 15 = .ok (.goto 4, 3) := by decide +kernel
theorem dX7_show_18 : decode cX7_show 18 = .ok (.iconst 0, 1) := by decide +kernel
theorem dX7_show_19 : decode cX7_show 19 = .ok (.iconst 1, 1) := by decide +kernel
theorem dX7_show_20 : decode cX7_show 20 = .ok (.iconst 0, 1) := by decide +kernel
theorem dX7_show_21 : decode cX7_show 21 = .ok (.invokevirtual 164, 3) := by decide +kernel
theorem dX7_show_24 : decode cX7_show 24 = .ok (.ifCond .ne 37, 3) := by decide +kernel
theorem dX7_show_27 : decode cX7_show 27 = .ok (.aload_n 0, 1) := by decide +kernel
theorem dX7_show_28 : decode cX7_show 28 = .ok (.aload_n 0, 1) := by decide +kernel
theorem dX7_show_29 : decode cX7_show 29 = .ok (.iload_n 1, 1) := by decide +kernel
theorem dX7_show_30 : decode cX7_show 30 = .ok (.invokevirtual 210, 3) := by decide +kernel
theorem dX7_show_33 : decode cX7_show 33 = .ok (.iconst (-1), 1) := by decide +kernel
theorem dX7_show_34 : decode cX7_show 34 = .ok (.if_icmp .ne 14, 3) := by decide +kernel
theorem dX7_show_37 : decode cX7_show 37 = .ok (.aload_n 0, 1) := by decide +kernel
theorem dX7_show_38 : decode cX7_show 38 = .ok (.getfield 20, 3) := by decide +kernel
theorem dX7_show_41 : decode cX7_show 41 = .ok (.iconst 3, 1) := by decide +kernel
theorem dX7_show_42 : decode cX7_show 42 = .ok (.iaload, 1) := by decide +kernel
theorem dX7_show_43 : decode cX7_show 43 = .ok (.bipush 8, 2) := by decide +kernel
theorem dX7_show_45 : decode cX7_show 45 = .ok (.if_icmp .ne 7, 3) := by decide +kernel
theorem dX7_show_48 : decode cX7_show 48 = .ok (.iconst 1, 1) := by decide +kernel
theorem dX7_show_49 : decode cX7_show 49 = .ok (.goto 4, 3) := by decide +kernel
theorem dX7_show_52 : decode cX7_show 52 = .ok (.iconst 0, 1) := by decide +kernel
theorem dX7_show_53 : decode cX7_show 53 = .ok (.iconst 2, 1) := by decide +kernel
theorem dX7_show_54 : decode cX7_show 54 = .ok (.iconst 2, 1) := by decide +kernel
theorem dX7_show_55 : decode cX7_show 55 = .ok (.invokevirtual 164, 3) := by decide +kernel
theorem dX7_show_58 : decode cX7_show 58 = .ok (.ifCond .eq 5, 3) := by decide +kernel
theorem dX7_show_61 : decode cX7_show 61 = .ok (.iconst 0, 1) := by decide +kernel
theorem dX7_show_62 : decode cX7_show 62 = .ok (.ireturn, 1) := by decide +kernel
theorem dX7_show_63 : decode cX7_show 63 = .ok (.aload_n 0, 1) := by decide +kernel
theorem dX7_show_64 : decode cX7_show 64 = .ok (.invokevirtual 173, 3) := by decide +kernel
theorem dX7_show_67 : decode cX7_show 67 = .ok (.aload_n 0, 1) := by decide +kernel
theorem dX7_show_68 : decode cX7_show 68 = .ok (.getfield 20, 3) := by decide +kernel
theorem dX7_show_71 : decode cX7_show 71 = .ok (.bipush 99, 2) := by decide +kernel
theorem dX7_show_73 : decode cX7_show 73 = .ok (.aload_n 0, 1) := by decide +kernel
theorem dX7_show_74 : decode cX7_show 74 = .ok (.getfield 20, 3) := by decide +kernel
theorem dX7_show_77 : decode cX7_show 77 = .ok (.iconst 3, 1) := by decide +kernel
theorem dX7_show_78 : decode cX7_show 78 = .ok (.iaload, 1) := by decide +kernel
theorem dX7_show_79 : decode cX7_show 79 = .ok (.iadd, 1) := by decide +kernel
theorem dX7_show_80 : decode cX7_show 80 = .ok (.iload_n 1, 1) := by decide +kernel
theorem dX7_show_81 : decode cX7_show 81 = .ok (.iastore, 1) := by decide +kernel
theorem dX7_show_82 : decode cX7_show 82 = .ok (.aload_n 0, 1) := by decide +kernel
theorem dX7_show_83 : decode cX7_show 83 = .ok (.getfield 20, 3) := by decide +kernel
theorem dX7_show_86 : decode cX7_show 86 = .ok (.iconst 3, 1) := by decide +kernel
theorem dX7_show_87 : decode cX7_show 87 = .ok (.dup2, 1) := by decide +kernel
theorem dX7_show_88 : decode cX7_show 88 = .ok (.iaload, 1) := by decide +kernel
theorem dX7_show_89 : decode cX7_show 89 = .ok (.iconst 1, 1) := by decide +kernel
theorem dX7_show_90 : decode cX7_show 90 = .ok (.iadd, 1) := by decide +kernel
theorem dX7_show_91 : decode cX7_show 91 = .ok (.iastore, 1) := by decide +kernel
theorem dX7_show_92 : decode cX7_show 92 = .ok (.aload_n 0, 1) := by decide +kernel
theorem dX7_show_93 : decode cX7_show 93 = .ok (.getfield 20, 3) := by decide +kernel
theorem dX7_show_96 : decode cX7_show 96 = .ok (.iconst 3, 1) := by decide +kernel
theorem dX7_show_97 : decode cX7_show 97 = .ok (.iaload, 1) := by decide +kernel
theorem dX7_show_98 : decode cX7_show 98 = .ok (.ireturn, 1) := by decide +kernel
theorem dX7_isPlace_0 : decode cX7_isPlace 0 = .ok (.iload_n 1, 1) := by decide +kernel
theorem dX7_isPlace_1 : decode cX7_isPlace 1 = .ok (.iconst 0, 1) := by decide +kernel
theorem dX7_isPlace_2 : decode cX7_isPlace 2 = .ok (.aload_n 0, 1) := by decide +kernel
theorem dX7_isPlace_3 : decode cX7_isPlace 3 = .ok (.getfield 20, 3) := by decide +kernel
theorem dX7_isPlace_6 : decode cX7_isPlace 6 = .ok (.iconst 3, 1) := by decide +kernel
theorem dX7_isPlace_7 : decode cX7_isPlace 7 = .ok (.iaload, 1) := by decide +kernel
theorem dX7_isPlace_8 : decode cX7_isPlace 8 = .ok (.iconst 1, 1) := by decide +kernel
theorem dX7_isPlace_9 : decode cX7_isPlace 9 = .ok (.isub, 1) := by decide +kernel
theorem dX7_isPlace_10 : decode cX7_isPlace 10 = .ok (.invokestatic 81, 3) := by decide +kernel
theorem dX7_isPlace_13 : decode cX7_isPlace 13 = .ok (.ireturn, 1) := by decide +kernel
theorem dX7_hide_0 : decode cX7_hide 0 = .ok (.aload_n 0, 1) := by decide +kernel
theorem dX7_hide_1 : decode cX7_hide 1 = .ok (.iconst 0, 1) := by decide +kernel
theorem dX7_hide_2 : decode cX7_hide 2 = .ok (.putfield 42, 3) := by decide +kernel
theorem dX7_hide_5 : decode cX7_hide 5 = .ok (.aload_n 0, 1) := by decide +kernel
theorem dX7_hide_6 : decode cX7_hide 6 = .ok (.aload_n 0, 1) := by decide +kernel
theorem dX7_hide_7 : decode cX7_hide 7 = .ok (.iload_n 1, 1) := by decide +kernel
theorem dX7_hide_8 : decode cX7_hide 8 = .ok (.invokevirtual 213, 3) := by decide +kernel
theorem dX7_hide_11 : decode cX7_hide 11 = .ok (.ifCond .ne 7, 3) := by decide +kernel
theorem dX7_hide_14 : decode cX7_hide 14 = .ok (.iconst 1, 1) := by decide +kernel
theorem dX7_hide_15 : decode cX7_hide 15 = .ok (.goto 4, 3) := by decide +kernel
theorem dX7_hide_18 : decode cX7_hide 18 = .ok (.iconst 0, 1) := by decide +kernel
theorem dX7_hide_19 : decode cX7_hide 19 = .ok (.iconst 1, 1) := by decide +kernel
theorem dX7_hide_20 : decode cX7_hide 20 = .ok (.iconst 0, 1) := by decide +kernel
theorem dX7_hide_21 : decode cX7_hide 21 = .ok (.invokevirtual 164, 3) := by decide +kernel
theorem dX7_hide_24 : decode cX7_hide 24 = .ok (.ifCond .eq 5, 3) := by decide +kernel
theorem dX7_hide_27 : decode cX7_hide 27 = .ok (.iconst 0, 1) := by decide +kernel
theorem dX7_hide_28 : decode cX7_hide 28 = .ok (.ireturn, 1) := by decide +kernel
theorem dX7_hide_29 : decode cX7_hide 29 = .ok (.aload_n 0, 1) := by decide +kernel
theorem dX7_hide_30 : decode cX7_hide 30 = .ok (.invokevirtual 173, 3) := by decide +kernel
theorem dX7_hide_33 : decode cX7_hide 33 = .ok (.aload_n 0, 1) := by decide +kernel
theorem dX7_hide_34 : decode cX7_hide 34 = .ok (.getfield 20, 3) := by decide +kernel
theorem dX7_hide_37 : decode cX7_hide 37 = .ok (.iconst 3, 1) := by decide +kernel
theorem dX7_hide_38 : decode cX7_hide 38 = .ok (.dup2, 1) := by decide +kernel
theorem dX7_hide_39 : decode cX7_hide 39 = .ok (.iaload, 1) := by decide +kernel
theorem dX7_hide_40 : decode cX7_hide 40 = .ok (.iconst 1, 1) := by decide +kernel
theorem dX7_hide_41 : decode cX7_hide 41 = .ok (.isub, 1) := by decide +kernel
theorem dX7_hide_42 : decode cX7_hide 42 = .ok (.iastore, 1) := by decide +kernel
theorem dX7_hide_43 : decode cX7_hide 43 = .ok (.iload_n 1, 1) := by decide +kernel
theorem dX7_hide_44 : decode cX7_hide 44 = .ok (.istore_n 2, 1) := by decide +kernel
theorem dX7_hide_45 : decode cX7_hide 45 = .ok (.iload_n 2, 1) := by decide +kernel
theorem dX7_hide_46 : decode cX7_hide 46 = .ok (.aload_n 0, 1) := by decide +kernel
theorem dX7_hide_47 : decode cX7_hide 47 = .ok (.getfield 20, 3) := by decide +kernel
theorem dX7_hide_50 : decode cX7_hide 50 = .ok (.iconst 3, 1) := by decide +kernel
theorem dX7_hide_51 : decode cX7_hide 51 = .ok (.iaload, 1) := by decide +kernel
theorem dX7_hide_52 : decode cX7_hide 52 = .ok (.if_icmp .ge 29, 3) := by decide +kernel
theorem dX7_hide_55 : decode cX7_hide 55 = .ok (.aload_n 0, 1) := by decide +kernel
theorem dX7_hide_56 : decode cX7_hide 56 = .ok (.getfield 20, 3) := by decide +kernel
theorem dX7_hide_59 : decode cX7_hide 59 = .ok (.bipush 99, 2) := by decide +kernel
theorem dX7_hide_61 : decode cX7_hide 61 = .ok (.iload_n 2, 1) := by decide +kernel
theorem dX7_hide_62 : decode cX7_hide 62 = .ok (.iadd, 1) := by decide +kernel
theorem dX7_hide_63 : decode cX7_hide 63 = .ok (.aload_n 0, 1) := by decide +kernel
theorem dX7_hide_64 : decode cX7_hide 64 = .ok (.getfield 20, 3) := by decide +kernel
theorem dX7_hide_67 : decode cX7_hide 67 = .ok (.bipush 99, 2) := by decide +kernel
theorem dX7_hide_69 : decode cX7_hide 69 = .ok (.iload_n 2, 1) := by decide +kernel
theorem dX7_hide_70 : decode cX7_hide 70 = .ok (.iadd, 1) := by decide +kernel
theorem dX7_hide_71 : decode cX7_hide 71 = .ok (.iconst 1, 1) := by decide +kernel
theorem dX7_hide_72 : decode cX7_hide 72 = .ok (.iadd, 1) := by decide +kernel
theorem dX7_hide_73 : decode cX7_hide 73 = .ok (.iaload, 1) := by decide +kernel
theorem dX7_hide_74 : decode cX7_hide 74 = .ok (.iastore, 1) := by decide +kernel
theorem dX7_hide_75 : decode cX7_hide 75 = .ok (.iinc 2 1, 3) := by decide +kernel
theorem dX7_hide_78 : decode cX7_hide 78 = .ok (.goto (-33), 3) := by decide +kernel
theorem dX7_hide_81 : decode cX7_hide 81 = .ok (.aload_n 0, 1) := by decide +kernel
theorem dX7_hide_82 : decode cX7_hide 82 = .ok (.getfield 20, 3) := by decide +kernel
theorem dX7_hide_85 : decode cX7_hide 85 = .ok (.iconst 3, 1) := by decide +kernel
theorem dX7_hide_86 : decode cX7_hide 86 = .ok (.iaload, 1) := by decide +kernel
theorem dX7_hide_87 : decode cX7_hide 87 = .ok (.ireturn, 1) := by decide +kernel
theorem dX7_change_0 : decode cX7_change 0 = .ok (.aload_n 0, 1) := by decide +kernel
theorem dX7_change_1 : decode cX7_change 1 = .ok (.iconst 0, 1) := by decide +kernel
theorem dX7_change_2 : decode cX7_change 2 = .ok (.putfield 42, 3) := by decide +kernel
theorem dX7_change_5 : decode cX7_change 5 = .ok (.iload_n 1, 1) := by decide +kernel
theorem dX7_change_6 : decode cX7_change 6 = .ok (.ifCond .ne 7, 3) := by decide +kernel
theorem dX7_change_9 : decode cX7_change 9 = .ok (.iconst 5, 1) := by decide +kernel
theorem dX7_change_10 : decode cX7_change 10 = .ok (.goto 25, 3) := by decide +kernel
theorem dX7_change_13 : decode cX7_change 13 = .ok (.iload_n 1, 1) := by decide +kernel
theorem dX7_change_14 : decode cX7_change 14 = .ok (.iconst 1, 1) := by decide +kernel
theorem dX7_change_15 : decode cX7_change 15 = .ok (.if_icmp .ne 8, 3) := by decide +kernel
theorem dX7_change_18 : decode cX7_change 18 = .ok (.bipush 120, 2) := by decide +kernel
theorem dX7_change_20 : decode cX7_change 20 = .ok (.goto 15, 3) := by decide +kernel
theorem dX7_change_23 : decode cX7_change 23 = .ok (.iload_n 1, 1) := by decide +kernel
theorem dX7_change_24 : decode cX7_change 24 = .ok (.iconst 2, 1) := by decide +kernel
theorem dX7_change_25 : decode cX7_change 25 = .ok (.if_icmp .ne 8, 3) := by decide +kernel
theorem dX7_change_28 : decode cX7_change 28 = .ok (.bipush 20, 2) := by decide +kernel
theorem dX7_change_30 : decode cX7_change 30 = .ok (.goto 5, 3) := by decide +kernel
theorem dX7_change_33 : decode cX7_change 33 = .ok (.bipush 99, 2) := by decide +kernel
theorem dX7_change_35 : decode cX7_change 35 = .ok (.istore_n 3, 1) := by decide +kernel
theorem dX7_change_36 : decode cX7_change 36 = .ok (.aload_n 0, 1) := by decide +kernel
theorem dX7_change_37 : decode cX7_change 37 = .ok (.iload_n 1, 1) := by decide +kernel
theorem dX7_change_38 : decode cX7_change 38 = .ok (.iconst 0, 1) := by decide +kernel
theorem dX7_change_39 : decode cX7_change 39 = .ok (.iconst 3, 1) := by decide +kernel
theorem dX7_change_40 : decode cX7_change 40 = .ok (.invokestatic 81, 3) := by decide +kernel
theorem dX7_change_43 : decode cX7_change 43 = .ok (.ifCond .eq 21, 3) := by decide +kernel
theorem dX7_change_46 : decode cX7_change 46 = .ok (.iload_n 2, 1) := by decide +kernel
theorem dX7_change_47 : decode cX7_change 47 = .ok (.iload_n 1, 1) := by decide +kernel
theorem dX7_change_48 : decode cX7_change 48 = .ok (.iconst 3, 1) := by decide +kernel
theorem dX7_change_49 : decode cX7_change 49 = .ok (.if_icmp .ne 7, 3) := by decide +kernel
theorem dX7_change_52 : decode cX7_change 52 = .ok (.iconst 1, 1) := by decide +kernel
theorem dX7_change_53 : decode cX7_change 53 = .ok (.goto 4, 3) := by decide +kernel
theorem dX7_change_56 : decode cX7_change 56 = .ok (.iconst 0, 1) := by decide +kernel
theorem dX7_change_57 : decode cX7_change 57 = .ok (.iload_n 3, 1) := by decide +kernel
theorem dX7_change_58 : decode cX7_change 58 = .ok (.invokestatic 81, 3) := by decide +kernel
theorem dX7_change_61 : decode cX7_change 61 = .ok (.ifCond .ne 7, 3) := by decide +kernel
theorem dX7_change_64 : decode cX7_change 64 = .ok (.iconst 1, 1) := by decide +kernel
theorem dX7_change_65 : decode cX7_change 65 = .ok (.goto 4, 3) := by decide +kernel
theorem dX7_change_68 : decode cX7_change 68 = .ok (.iconst 0, 1) := by decide +kernel
theorem dX7_change_69 : decode cX7_change 69 = .ok (.iconst 1, 1) := by decide +kernel
theorem dX7_change_70 : decode cX7_change 70 = .ok (.iconst 1, 1) := by decide +kernel
theorem dX7_change_71 : decode cX7_change 71 = .ok (.invokevirtual 164, 3) := by decide +kernel
theorem dX7_change_74 : decode cX7_change 74 = .ok (.ifCond .eq 5, 3) := by decide +kernel
theorem dX7_change_77 : decode cX7_change 77 = .ok (.iconst 0, 1) := by decide +kernel
theorem dX7_change_78 : decode cX7_change 78 = .ok (.ireturn, 1) := by decide +kernel
theorem dX7_change_79 : decode cX7_change 79 = .ok (.aload_n 0, 1) := by decide +kernel
theorem dX7_change_80 : decode cX7_change 80 = .ok (.invokevirtual 173, 3) := by decide +kernel
theorem dX7_change_83 : decode cX7_change 83 = .ok (.aload_n 0, 1) := by decide +kernel
theorem dX7_change_84 : decode cX7_change 84 = .ok (.getfield 20, 3) := by decide +kernel
theorem dX7_change_87 : decode cX7_change 87 = .ok (.iconst 4, 1) := by decide +kernel
theorem dX7_change_88 : decode cX7_change 88 = .ok (.iload_n 1, 1) := by decide +kernel
theorem dX7_change_89 : decode cX7_change 89 = .ok (.iadd, 1) := by decide +kernel
theorem dX7_change_90 : decode cX7_change 90 = .ok (.iaload, 1) := by decide +kernel
theorem dX7_change_91 : decode cX7_change 91 = .ok (.istore 4, 2) := by decide +kernel
theorem dX7_change_93 : decode cX7_change 93 = .ok (.aload_n 0, 1) := by decide +kernel
theorem dX7_change_94 : decode cX7_change 94 = .ok (.getfield 20, 3) := by decide +kernel
theorem dX7_change_97 : decode cX7_change 97 = .ok (.iconst 4, 1) := by decide +kernel
theorem dX7_change_98 : decode cX7_change 98 = .ok (.iload_n 1, 1) := by decide +kernel
theorem dX7_change_99 : decode cX7_change 99 = .ok (.iadd, 1) := by decide +kernel
theorem dX7_change_100 : decode cX7_change 100 = .ok (.iload_n 2, 1) := by decide +kernel
theorem dX7_change_101 : decode cX7_change 101 = .ok (.iastore, 1) := by decide +kernel
theorem dX7_change_102 : decode cX7_change 102 = .ok (.iload 4, 2) := by decide +kernel
theorem dX7_change_104 : decode cX7_change 104 = .ok (.ireturn, 1) := by decide +kernel
theorem dX7_mock_0 : decode cX7_mock 0 = .ok (.aload_n 0, 1) := by decide +kernel
theorem dX7_mock_1 : decode cX7_mock 1 = .ok (.iconst 0, 1) := by decide +kernel
theorem dX7_mock_2 : decode cX7_mock 2 = .ok (.putfield 42, 3) := by decide +kernel
theorem dX7_mock_5 : decode cX7_mock 5 = .ok (.aload_n 0, 1) := by decide +kernel
theorem dX7_mock_6 : decode cX7_mock 6 = .ok (.aload_n 0, 1) := by decide +kernel
theorem dX7_mock_7 : decode cX7_mock 7 = .ok (.iload_n 1, 1) := by decide +kernel
theorem dX7_mock_8 : decode cX7_mock 8 = .ok (.invokevirtual 207, 3) := by decide +kernel
theorem dX7_mock_11 : decode cX7_mock 11 = .ok (.ifCond .ne 7, 3) := by decide +kernel
theorem dX7_mock_14 : decode cX7_mock 14 = .ok (.iconst 1, 1) := by decide +kernel
theorem dX7_mock_15 : decode cX7_mock 15 = .ok (.goto 4, 3) := by decide +kernel
theorem dX7_mock_18 : decode cX7_mock 18 = .ok (.iconst 0, 1) := by decide +kernel
theorem dX7_mock_19 : decode cX7_mock 19 = .ok (.iconst 1, 1) := by decide +kernel
theorem dX7_mock_20 : decode cX7_mock 20 = .ok (.iconst 0, 1) := by decide +kernel
theorem dX7_mock_21 : decode cX7_mock 21 = .ok (.invokevirtual 164, 3) := by decide +kernel
theorem dX7_mock_24 : decode cX7_mock 24 = .ok (.ifCond .ne 41, 3) := by decide +kernel
theorem dX7_mock_27 : decode cX7_mock 27 = .ok (.aload_n 0, 1) := by decide +kernel
theorem dX7_mock_28 : decode cX7_mock 28 = .ok (.aload_n 0, 1) := by decide +kernel
theorem dX7_mock_29 : decode cX7_mock 29 = .ok (.iload_n 1, 1) := by decide +kernel
theorem dX7_mock_30 : decode cX7_mock 30 = .ok (.invokevirtual 210, 3) := by decide +kernel
theorem dX7_mock_33 : decode cX7_mock 33 = .ok (.iconst (-1), 1) := by decide +kernel
theorem dX7_mock_34 : decode cX7_mock 34 = .ok (.if_icmp .eq 18, 3) := by decide +kernel
theorem dX7_mock_37 : decode cX7_mock 37 = .ok (.aload_n 0, 1) := by decide +kernel
theorem dX7_mock_38 : decode cX7_mock 38 = .ok (.getfield 20, 3) := by decide +kernel
theorem dX7_mock_41 : decode cX7_mock 41 = .ok (.bipush 107, 2) := by decide +kernel
theorem dX7_mock_43 : decode cX7_mock 43 = .ok (.iload_n 1, 1) := by decide +kernel
theorem dX7_mock_44 : decode cX7_mock 44 = .ok (.iadd, 1) := by decide +kernel
theorem dX7_mock_45 : decode cX7_mock 45 = .ok (.iaload, 1) := by decide +kernel
theorem dX7_mock_46 : decode cX7_mock 46 = .ok (.sipush 999, 3) := by decide +kernel
theorem dX7_mock_49 : decode cX7_mock 49 = .ok (.if_icmp .ne 7, 3) := by decide +kernel
theorem dX7_mock_52 : decode cX7_mock 52 = .ok (.iconst 1, 1) := by decide +kernel
theorem dX7_mock_53 : decode cX7_mock 53 = .ok (.goto 4, 3) := by decide +kernel
theorem dX7_mock_56 : decode cX7_mock 56 = .ok (.iconst 0, 1) := by decide +kernel
theorem dX7_mock_57 : decode cX7_mock 57 = .ok (.iconst 2, 1) := by decide +kernel
theorem dX7_mock_58 : decode cX7_mock 58 = .ok (.iconst 2, 1) := by decide +kernel
theorem dX7_mock_59 : decode cX7_mock 59 = .ok (.invokevirtual 164, 3) := by decide +kernel
theorem dX7_mock_62 : decode cX7_mock 62 = .ok (.ifCond .eq 5, 3) := by decide +kernel
theorem dX7_mock_65 : decode cX7_mock 65 = .ok (.iconst 0, 1) := by decide +kernel
theorem dX7_mock_66 : decode cX7_mock 66 = .ok (.ireturn, 1) := by decide +kernel
theorem dX7_mock_67 : decode cX7_mock 67 = .ok (.aload_n 0, 1) := by decide +kernel
theorem dX7_mock_68 : decode cX7_mock 68 = .ok (.invokevirtual 173, 3) := by decide +kernel
theorem dX7_mock_71 : decode cX7_mock 71 = .ok (.aload_n 0, 1) := by decide +kernel
theorem dX7_mock_72 : decode cX7_mock 72 = .ok (.getfield 20, 3) := by decide +kernel
theorem dX7_mock_75 : decode cX7_mock 75 = .ok (.bipush 107, 2) := by decide +kernel
theorem dX7_mock_77 : decode cX7_mock 77 = .ok (.iload_n 1, 1) := by decide +kernel
theorem dX7_mock_78 : decode cX7_mock 78 = .ok (.iadd, 1) := by decide +kernel
theorem dX7_mock_79 : decode cX7_mock 79 = .ok (.dup2, 1) := by decide +kernel
theorem dX7_mock_80 : decode cX7_mock 80 = .ok (.iaload, 1) := by decide +kernel
theorem dX7_mock_81 : decode cX7_mock 81 = .ok (.iconst 1, 1) := by decide +kernel
theorem dX7_mock_82 : decode cX7_mock 82 = .ok (.iadd, 1) := by decide +kernel
theorem dX7_mock_83 : decode cX7_mock 83 = .ok (.iastore, 1) := by decide +kernel
theorem dX7_mock_84 : decode cX7_mock 84 = .ok (.aload_n 0, 1) := by decide +kernel
theorem dX7_mock_85 : decode cX7_mock 85 = .ok (.getfield 20, 3) := by decide +kernel
theorem dX7_mock_88 : decode cX7_mock 88 = .ok (.bipush 107, 2) := by decide +kernel
theorem dX7_mock_90 : decode cX7_mock 90 = .ok (.iload_n 1, 1) := by decide +kernel
theorem dX7_mock_91 : decode cX7_mock 91 = .ok (.iadd, 1) := by decide +kernel
theorem dX7_mock_92 : decode cX7_mock 92 = .ok (.iaload, 1) := by decide +kernel
theorem dX7_mock_93 : decode cX7_mock 93 = .ok (.ireturn, 1) := by decide +kernel
theorem dX7_told_0 : decode cX7_told 0 = .ok (.aload_n 0, 1) := by decide +kernel
theorem dX7_told_1 : decode cX7_told 1 = .ok (.iconst 0, 1) := by decide +kernel
theorem dX7_told_2 : decode cX7_told 2 = .ok (.putfield 42, 3) := by decide +kernel
theorem dX7_told_5 : decode cX7_told 5 = .ok (.aload_n 0, 1) := by decide +kernel
theorem dX7_told_6 : decode cX7_told 6 = .ok (.iload_n 1, 1) := by decide +kernel
theorem dX7_told_7 : decode cX7_told 7 = .ok (.iconst 0, 1) := by decide +kernel
theorem dX7_told_8 : decode cX7_told 8 = .ok (.bipush 9, 2) := by decide +kernel
theorem dX7_told_10 : decode cX7_told 10 = .ok (.invokestatic 81, 3) := by decide +kernel
theorem dX7_told_13 : decode cX7_told 13 = .ok (.ifCond .ne 7, 3) := by decide +kernel
theorem dX7_told_16 : decode cX7_told 16 = .ok (.iconst 1, 1) := by decide +kernel
theorem dX7_told_17 : decode cX7_told 17 = .ok (.goto 4, 3) := by decide +kernel
theorem dX7_told_20 : decode cX7_told 20 = .ok (.iconst 0, 1) := by decide +kernel
theorem dX7_told_21 : decode cX7_told 21 = .ok (.iconst 1, 1) := by decide +kernel
theorem dX7_told_22 : decode cX7_told 22 = .ok (.iconst 1, 1) := by decide +kernel
theorem dX7_told_23 : decode cX7_told 23 = .ok (.invokevirtual 164, 3) := by decide +kernel
theorem dX7_told_26 : decode cX7_told 26 = .ok (.ifCond .eq 5, 3) := by decide +kernel
theorem dX7_told_29 : decode cX7_told 29 = .ok (.iconst 0, 1) := by decide +kernel
theorem dX7_told_30 : decode cX7_told 30 = .ok (.ireturn, 1) := by decide +kernel
theorem dX7_told_31 : decode cX7_told 31 = .ok (.iconst 0, 1) := by decide +kernel
theorem dX7_told_32 : decode cX7_told 32 = .ok (.istore_n 2, 1) := by decide +kernel
theorem dX7_told_33 : decode cX7_told 33 = .ok (.iconst 0, 1) := by decide +kernel
theorem dX7_told_34 : decode cX7_told 34 = .ok (.istore_n 3, 1) := by decide +kernel
theorem dX7_told_35 : decode cX7_told 35 = .ok (.iload_n 3, 1) := by decide +kernel
theorem dX7_told_36 : decode cX7_told 36 = .ok (.bipush 16, 2) := by decide +kernel
theorem dX7_told_38 : decode cX7_told 38 = .ok (.if_icmp .ge 21, 3) := by decide +kernel
theorem dX7_told_41 : decode cX7_told 41 = .ok (.iload_n 2, 1) := by decide +kernel
theorem dX7_told_42 : decode cX7_told 42 = .ok (.aload_n 0, 1) := by decide +kernel
theorem dX7_told_43 : decode cX7_told 43 = .ok (.getfield 20, 3) := by decide +kernel
theorem dX7_told_46 : decode cX7_told 46 = .ok (.bipush 107, 2) := by decide +kernel
theorem dX7_told_48 : decode cX7_told 48 = .ok (.iload_n 3, 1) := by decide +kernel
theorem dX7_told_49 : decode cX7_told 49 = .ok (.iadd, 1) := by decide +kernel
theorem dX7_told_50 : decode cX7_told 50 = .ok (.iaload, 1) := by decide +kernel
theorem dX7_told_51 : decode cX7_told 51 = .ok (.iadd, 1) := by decide +kernel
theorem dX7_told_52 : decode cX7_told 52 = .ok (.istore_n 2, 1) := by decide +kernel
theorem dX7_told_53 : decode cX7_told 53 = .ok (.iinc 3 1, 3) := by decide +kernel
theorem dX7_told_56 : decode cX7_told 56 = .ok (.goto (-21), 3) := by decide +kernel
theorem dX7_told_59 : decode cX7_told 59 = .ok (.iload_n 1, 1) := by decide +kernel
theorem dX7_told_60 : decode cX7_told 60 = .ok (.tableswitch 87 0 9 #[56, 63, 68, 87, 87, 87, 87, 75, 77, 82], 56) := by decide +kernel
theorem dX7_told_116 : decode cX7_told 116 = .ok (.aload_n 0, 1) := by decide +kernel
theorem dX7_told_117 : decode cX7_told 117 = .ok (.getfield 20, 3) := by decide +kernel
theorem dX7_told_120 : decode cX7_told 120 = .ok (.iconst 0, 1) := by decide +kernel
theorem dX7_told_121 : decode cX7_told 121 = .ok (.iaload, 1) := by decide +kernel
theorem dX7_told_122 : decode cX7_told 122 = .ok (.ireturn, 1) := by decide +kernel
theorem dX7_told_123 : decode cX7_told 123 = .ok (.aload_n 0, 1) := by decide +kernel
theorem dX7_told_124 : decode cX7_told 124 = .ok (.invokevirtual 180, 3) := by decide +kernel
theorem dX7_told_127 : decode cX7_told 127 = .ok (.ireturn, 1) := by decide +kernel
theorem dX7_told_128 : decode cX7_told 128 = .ok (.aload_n 0, 1) := by decide +kernel
theorem dX7_told_129 : decode cX7_told 129 = .ok (.getfield 20, 3) := by decide +kernel
theorem dX7_told_132 : decode cX7_told 132 = .ok (.iconst 3, 1) := by decide +kernel
theorem dX7_told_133 : decode cX7_told 133 = .ok (.iaload, 1) := by decide +kernel
theorem dX7_told_134 : decode cX7_told 134 = .ok (.ireturn, 1) := by decide +kernel
theorem dX7_told_135 : decode cX7_told 135 = .ok (.iload_n 2, 1) := by decide +kernel
theorem dX7_told_136 : decode cX7_told 136 = .ok (.ireturn, 1) := by decide +kernel
theorem dX7_told_137 : decode cX7_told 137 = .ok (.aload_n 0, 1) := by decide +kernel
theorem dX7_told_138 : decode cX7_told 138 = .ok (.getfield 45, 3) := by decide +kernel
theorem dX7_told_141 : decode cX7_told 141 = .ok (.ireturn, 1) := by decide +kernel
theorem dX7_told_142 : decode cX7_told 142 = .ok (.aload_n 0, 1) := by decide +kernel
theorem dX7_told_143 : decode cX7_told 143 = .ok (.getfield 204, 3) := by decide +kernel
theorem dX7_told_146 : decode cX7_told 146 = .ok (.ireturn, 1) := by decide +kernel
theorem dX7_told_147 : decode cX7_told 147 = .ok (.aload_n 0, 1) := by decide +kernel
theorem dX7_told_148 : decode cX7_told 148 = .ok (.getfield 20, 3) := by decide +kernel
theorem dX7_told_151 : decode cX7_told 151 = .ok (.iconst 4, 1) := by decide +kernel
theorem dX7_told_152 : decode cX7_told 152 = .ok (.iload_n 1, 1) := by decide +kernel
theorem dX7_told_153 : decode cX7_told 153 = .ok (.iadd, 1) := by decide +kernel
theorem dX7_told_154 : decode cX7_told 154 = .ok (.iconst 3, 1) := by decide +kernel
theorem dX7_told_155 : decode cX7_told 155 = .ok (.isub, 1) := by decide +kernel
theorem dX7_told_156 : decode cX7_told 156 = .ok (.iaload, 1) := by decide +kernel
theorem dX7_told_157 : decode cX7_told 157 = .ok (.ireturn, 1) := by decide +kernel
theorem dX7_trait_0 : decode cX7_trait 0 = .ok (.aload_n 0, 1) := by decide +kernel
theorem dX7_trait_1 : decode cX7_trait 1 = .ok (.iconst 0, 1) := by decide +kernel
theorem dX7_trait_2 : decode cX7_trait 2 = .ok (.putfield 42, 3) := by decide +kernel
theorem dX7_trait_5 : decode cX7_trait 5 = .ok (.aload_n 0, 1) := by decide +kernel
theorem dX7_trait_6 : decode cX7_trait 6 = .ok (.aload_n 0, 1) := by decide +kernel
theorem dX7_trait_7 : decode cX7_trait 7 = .ok (.iload_n 1, 1) := by decide +kernel
theorem dX7_trait_8 : decode cX7_trait 8 = .ok (.invokevirtual 216, 3) := by decide +kernel
theorem dX7_trait_11 : decode cX7_trait 11 = .ok (.ifCond .ne 7, 3) := by decide +kernel
theorem dX7_trait_14 : decode cX7_trait 14 = .ok (.iconst 1, 1) := by decide +kernel
theorem dX7_trait_15 : decode cX7_trait 15 = .ok (.goto 4, 3) := by decide +kernel
theorem dX7_trait_18 : decode cX7_trait 18 = .ok (.iconst 0, 1) := by decide +kernel
theorem dX7_trait_19 : decode cX7_trait 19 = .ok (.iconst 1, 1) := by decide +kernel
theorem dX7_trait_20 : decode cX7_trait 20 = .ok (.iconst 0, 1) := by decide +kernel
theorem dX7_trait_21 : decode cX7_trait 21 = .ok (.invokevirtual 164, 3) := by decide +kernel
theorem dX7_trait_24 : decode cX7_trait 24 = .ok (.ifCond .ne 26, 3) := by decide +kernel
theorem dX7_trait_27 : decode cX7_trait 27 = .ok (.aload_n 0, 1) := by decide +kernel
theorem dX7_trait_28 : decode cX7_trait 28 = .ok (.iload_n 2, 1) := by decide +kernel
theorem dX7_trait_29 : decode cX7_trait 29 = .ok (.iconst 0, 1) := by decide +kernel
theorem dX7_trait_30 : decode cX7_trait 30 = .ok (.iconst 1, 1) := by decide +kernel
theorem dX7_trait_31 : decode cX7_trait 31 = .ok (.invokestatic 81, 3) := by decide +kernel
theorem dX7_trait_34 : decode cX7_trait 34 = .ok (.ifCond .ne 7, 3) := by decide +kernel
theorem dX7_trait_37 : decode cX7_trait 37 = .ok (.iconst 1, 1) := by decide +kernel
theorem dX7_trait_38 : decode cX7_trait 38 = .ok (.goto 4, 3) := by decide +kernel
theorem dX7_trait_41 : decode cX7_trait 41 = .ok (.iconst 0, 1) := by decide +kernel
theorem dX7_trait_42 : decode cX7_trait 42 = .ok (.iconst 2, 1) := by decide +kernel
theorem dX7_trait_43 : decode cX7_trait 43 = .ok (.iconst 1, 1) := by decide +kernel
theorem dX7_trait_44 : decode cX7_trait 44 = .ok (.invokevirtual 164, 3) := by decide +kernel
theorem dX7_trait_47 : decode cX7_trait 47 = .ok (.ifCond .eq 5, 3) := by decide +kernel
theorem dX7_trait_50 : decode cX7_trait 50 = .ok (.iconst 0, 1) := by decide +kernel
theorem dX7_trait_51 : decode cX7_trait 51 = .ok (.ireturn, 1) := by decide +kernel
theorem dX7_trait_52 : decode cX7_trait 52 = .ok (.aload_n 0, 1) := by decide +kernel
theorem dX7_trait_53 : decode cX7_trait 53 = .ok (.getfield 20, 3) := by decide +kernel
theorem dX7_trait_56 : decode cX7_trait 56 = .ok (.iload_n 2, 1) := by decide +kernel
theorem dX7_trait_57 : decode cX7_trait 57 = .ok (.ifCond .ne 8, 3) := by decide +kernel
theorem dX7_trait_60 : decode cX7_trait 60 = .ok (.bipush 89, 2) := by decide +kernel
theorem dX7_trait_62 : decode cX7_trait 62 = .ok (.goto 5, 3) := by decide +kernel
theorem dX7_trait_65 : decode cX7_trait 65 = .ok (.bipush 94, 2) := by decide +kernel
theorem dX7_trait_67 : decode cX7_trait 67 = .ok (.iload_n 1, 1) := by decide +kernel
theorem dX7_trait_68 : decode cX7_trait 68 = .ok (.iadd, 1) := by decide +kernel
theorem dX7_trait_69 : decode cX7_trait 69 = .ok (.iaload, 1) := by decide +kernel
theorem dX7_trait_70 : decode cX7_trait 70 = .ok (.ireturn, 1) := by decide +kernel
theorem dX7_value_0 : decode cX7_value 0 = .ok (.aload_n 0, 1) := by decide +kernel
theorem dX7_value_1 : decode cX7_value 1 = .ok (.iconst 0, 1) := by decide +kernel
theorem dX7_value_2 : decode cX7_value 2 = .ok (.putfield 42, 3) := by decide +kernel
theorem dX7_value_5 : decode cX7_value 5 = .ok (.aload_n 0, 1) := by decide +kernel
theorem dX7_value_6 : decode cX7_value 6 = .ok (.aload_n 0, 1) := by decide +kernel
theorem dX7_value_7 : decode cX7_value 7 = .ok (.iload_n 1, 1) := by decide +kernel
theorem dX7_value_8 : decode cX7_value 8 = .ok (.invokevirtual 207, 3) := by decide +kernel
theorem dX7_value_11 : decode cX7_value 11 = .ok (.ifCond .eq 11, 3) := by decide +kernel
theorem dX7_value_14 : decode cX7_value 14 = .ok (.aload_n 0, 1) := by decide +kernel
theorem dX7_value_15 : decode cX7_value 15 = .ok (.iload_n 2, 1) := by decide +kernel
theorem dX7_value_16 : decode cX7_value 16 = .ok (.invokevirtual 216, 3) := by decide +kernel
theorem dX7_value_19 : decode cX7_value 19 = .ok (.ifCond .ne 7, 3) := by decide +kernel
theorem dX7_value_22 : decode cX7_value 22 = .ok (.iconst 1, 1) := by decide +kernel
theorem dX7_value_23 : decode cX7_value 23 = .ok (.goto 4, 3) := by decide +kernel
theorem dX7_value_26 : decode cX7_value 26 = .ok (.iconst 0, 1) := by decide +kernel
theorem dX7_value_27 : decode cX7_value 27 = .ok (.iconst 1, 1) := by decide +kernel
theorem dX7_value_28 : decode cX7_value 28 = .ok (.iconst 0, 1) := by decide +kernel
theorem dX7_value_29 : decode cX7_value 29 = .ok (.invokevirtual 164, 3) := by decide +kernel
theorem dX7_value_32 : decode cX7_value 32 = .ok (.ifCond .eq 7, 3) := by decide +kernel
theorem dX7_value_35 : decode cX7_value 35 = .ok (.iconst 0, 1) := by decide +kernel
theorem dX7_value_36 : decode cX7_value 36 = .ok (.goto 9, 3) := by decide +kernel
theorem dX7_value_39 : decode cX7_value 39 = .ok (.aload_n 0, 1) := by decide +kernel
theorem dX7_value_40 : decode cX7_value 40 = .ok (.iload_n 1, 1) := by decide +kernel
theorem dX7_value_41 : decode cX7_value 41 = .ok (.iload_n 2, 1) := by decide +kernel
theorem dX7_value_42 : decode cX7_value 42 = .ok (.invokevirtual 183, 3) := by decide +kernel
theorem dX7_value_45 : decode cX7_value 45 = .ok (.ireturn, 1) := by decide +kernel
theorem dX7_shown_0 : decode cX7_shown 0 = .ok (.aload_n 0, 1) := by decide +kernel
theorem dX7_shown_1 : decode cX7_shown 1 = .ok (.iconst 0, 1) := by decide +kernel
theorem dX7_shown_2 : decode cX7_shown 2 = .ok (.putfield 42, 3) := by decide +kernel
theorem dX7_shown_5 : decode cX7_shown 5 = .ok (.aload_n 0, 1) := by decide +kernel
theorem dX7_shown_6 : decode cX7_shown 6 = .ok (.aload_n 0, 1) := by decide +kernel
theorem dX7_shown_7 : decode cX7_shown 7 = .ok (.iload_n 1, 1) := by decide +kernel
theorem dX7_shown_8 : decode cX7_shown 8 = .ok (.invokevirtual 213, 3) := by decide +kernel
theorem dX7_shown_11 : decode cX7_shown 11 = .ok (.ifCond .ne 7, 3) := by decide +kernel
theorem dX7_shown_14 : decode cX7_shown 14 = .ok (.iconst 1, 1) := by decide +kernel
theorem dX7_shown_15 : decode cX7_shown 15 = .ok (.goto 4, 3) := by decide +kernel
theorem dX7_shown_18 : decode cX7_shown 18 = .ok (.iconst 0, 1) := by decide +kernel
theorem dX7_shown_19 : decode cX7_shown 19 = .ok (.iconst 1, 1) := by decide +kernel
theorem dX7_shown_20 : decode cX7_shown 20 = .ok (.iconst 0, 1) := by decide +kernel
theorem dX7_shown_21 : decode cX7_shown 21 = .ok (.invokevirtual 164, 3) := by decide +kernel
theorem dX7_shown_24 : decode cX7_shown 24 = .ok (.ifCond .eq 7, 3) := by decide +kernel
theorem dX7_shown_27 : decode cX7_shown 27 = .ok (.iconst 0, 1) := by decide +kernel
theorem dX7_shown_28 : decode cX7_shown 28 = .ok (.goto 12, 3) := by decide +kernel
theorem dX7_shown_31 : decode cX7_shown 31 = .ok (.aload_n 0, 1) := by decide +kernel
theorem dX7_shown_32 : decode cX7_shown 32 = .ok (.getfield 20, 3) := by decide +kernel
theorem dX7_shown_35 : decode cX7_shown 35 = .ok (.bipush 99, 2) := by decide +kernel
theorem dX7_shown_37 : decode cX7_shown 37 = .ok (.iload_n 1, 1) := by decide +kernel
theorem dX7_shown_38 : decode cX7_shown 38 = .ok (.iadd, 1) := by decide +kernel
theorem dX7_shown_39 : decode cX7_shown 39 = .ok (.iaload, 1) := by decide +kernel
theorem dX7_shown_40 : decode cX7_shown 40 = .ok (.ireturn, 1) := by decide +kernel
theorem dX7_match_0 : decode cX7_match 0 = .ok (.aload_n 0, 1) := by decide +kernel
theorem dX7_match_1 : decode cX7_match 1 = .ok (.iconst 0, 1) := by decide +kernel
theorem dX7_match_2 : decode cX7_match 2 = .ok (.putfield 42, 3) := by decide +kernel
theorem dX7_match_5 : decode cX7_match 5 = .ok (.aload_n 0, 1) := by decide +kernel
theorem dX7_match_6 : decode cX7_match 6 = .ok (.aload_n 0, 1) := by decide +kernel
theorem dX7_match_7 : decode cX7_match 7 = .ok (.iload_n 1, 1) := by decide +kernel
theorem dX7_match_8 : decode cX7_match 8 = .ok (.invokevirtual 207, 3) := by decide +kernel
theorem dX7_match_11 : decode cX7_match 11 = .ok (.ifCond .ne 7, 3) := by decide +kernel
theorem dX7_match_14 : decode cX7_match 14 = .ok (.iconst 1, 1) := by decide +kernel
theorem dX7_match_15 : decode cX7_match 15 = .ok (.goto 4, 3) := by decide +kernel
theorem dX7_match_18 : decode cX7_match 18 = .ok (.iconst 0, 1) := by decide +kernel
theorem dX7_match_19 : decode cX7_match 19 = .ok (.iconst 1, 1) := by decide +kernel
theorem dX7_match_20 : decode cX7_match 20 = .ok (.iconst 0, 1) := by decide +kernel
theorem dX7_match_21 : decode cX7_match 21 = .ok (.invokevirtual 164, 3) := by decide +kernel
theorem dX7_match_24 : decode cX7_match 24 = .ok (.ifCond .eq 7, 3) := by decide +kernel
theorem dX7_match_27 : decode cX7_match 27 = .ok (.iconst 0, 1) := by decide +kernel
theorem dX7_match_28 : decode cX7_match 28 = .ok (.goto 9, 3) := by decide +kernel
theorem dX7_match_31 : decode cX7_match 31 = .ok (.aload_n 0, 1) := by decide +kernel
theorem dX7_match_32 : decode cX7_match 32 = .ok (.iload_n 1, 1) := by decide +kernel
theorem dX7_match_33 : decode cX7_match 33 = .ok (.iload_n 2, 1) := by decide +kernel
theorem dX7_match_34 : decode cX7_match 34 = .ok (.invokevirtual 219, 3) := by decide +kernel
theorem dX7_match_37 : decode cX7_match 37 = .ok (.ireturn, 1) := by decide +kernel
theorem dX7_mocks_0 : decode cX7_mocks 0 = .ok (.aload_n 0, 1) := by decide +kernel
theorem dX7_mocks_1 : decode cX7_mocks 1 = .ok (.iconst 0, 1) := by decide +kernel
theorem dX7_mocks_2 : decode cX7_mocks 2 = .ok (.putfield 42, 3) := by decide +kernel
theorem dX7_mocks_5 : decode cX7_mocks 5 = .ok (.aload_n 0, 1) := by decide +kernel
theorem dX7_mocks_6 : decode cX7_mocks 6 = .ok (.aload_n 0, 1) := by decide +kernel
theorem dX7_mocks_7 : decode cX7_mocks 7 = .ok (.iload_n 1, 1) := by decide +kernel
theorem dX7_mocks_8 : decode cX7_mocks 8 = .ok (.invokevirtual 207, 3) := by decide +kernel
theorem dX7_mocks_11 : decode cX7_mocks 11 = .ok (.ifCond .ne 7, 3) := by decide +kernel
theorem dX7_mocks_14 : decode cX7_mocks 14 = .ok (.iconst 1, 1) := by decide +kernel
theorem dX7_mocks_15 : decode cX7_mocks 15 = .ok (.goto 4, 3) := by decide +kernel
theorem dX7_mocks_18 : decode cX7_mocks 18 = .ok (.iconst 0, 1) := by decide +kernel
theorem dX7_mocks_19 : decode cX7_mocks 19 = .ok (.iconst 1, 1) := by decide +kernel
theorem dX7_mocks_20 : decode cX7_mocks 20 = .ok (.iconst 0, 1) := by decide +kernel
theorem dX7_mocks_21 : decode cX7_mocks 21 = .ok (.invokevirtual 164, 3) := by decide +kernel
theorem dX7_mocks_24 : decode cX7_mocks 24 = .ok (.ifCond .eq 7, 3) := by decide +kernel
theorem dX7_mocks_27 : decode cX7_mocks 27 = .ok (.iconst 0, 1) := by decide +kernel
theorem dX7_mocks_28 : decode cX7_mocks 28 = .ok (.goto 12, 3) := by decide +kernel
theorem dX7_mocks_31 : decode cX7_mocks 31 = .ok (.aload_n 0, 1) := by decide +kernel
theorem dX7_mocks_32 : decode cX7_mocks 32 = .ok (.getfield 20, 3) := by decide +kernel
theorem dX7_mocks_35 : decode cX7_mocks 35 = .ok (.bipush 107, 2) := by decide +kernel
theorem dX7_mocks_37 : decode cX7_mocks 37 = .ok (.iload_n 1, 1) := by decide +kernel
theorem dX7_mocks_38 : decode cX7_mocks 38 = .ok (.iadd, 1) := by decide +kernel
theorem dX7_mocks_39 : decode cX7_mocks 39 = .ok (.iaload, 1) := by decide +kernel
theorem dX7_mocks_40 : decode cX7_mocks 40 = .ok (.ireturn, 1) := by decide +kernel
theorem dX7_alike_0 : decode cX7_alike 0 = .ok (.aload_n 0, 1) := by decide +kernel
theorem dX7_alike_1 : decode cX7_alike 1 = .ok (.iconst 0, 1) := by decide +kernel
theorem dX7_alike_2 : decode cX7_alike 2 = .ok (.putfield 42, 3) := by decide +kernel
theorem dX7_alike_5 : decode cX7_alike 5 = .ok (.aload_n 0, 1) := by decide +kernel
theorem dX7_alike_6 : decode cX7_alike 6 = .ok (.aload_n 0, 1) := by decide +kernel
theorem dX7_alike_7 : decode cX7_alike 7 = .ok (.iload_n 1, 1) := by decide +kernel
theorem dX7_alike_8 : decode cX7_alike 8 = .ok (.invokevirtual 207, 3) := by decide +kernel
theorem dX7_alike_11 : decode cX7_alike 11 = .ok (.ifCond .eq 11, 3) := by decide +kernel
theorem dX7_alike_14 : decode cX7_alike 14 = .ok (.aload_n 0, 1) := by decide +kernel
theorem dX7_alike_15 : decode cX7_alike 15 = .ok (.iload_n 2, 1) := by decide +kernel
theorem dX7_alike_16 : decode cX7_alike 16 = .ok (.invokevirtual 207, 3) := by decide +kernel
theorem dX7_alike_19 : decode cX7_alike 19 = .ok (.ifCond .ne 7, 3) := by decide +kernel
theorem dX7_alike_22 : decode cX7_alike 22 = .ok (.iconst 1, 1) := by decide +kernel
theorem dX7_alike_23 : decode cX7_alike 23 = .ok (.goto 4, 3) := by decide +kernel
theorem dX7_alike_26 : decode cX7_alike 26 = .ok (.iconst 0, 1) := by decide +kernel
theorem dX7_alike_27 : decode cX7_alike 27 = .ok (.iconst 1, 1) := by decide +kernel
theorem dX7_alike_28 : decode cX7_alike 28 = .ok (.iconst 0, 1) := by decide +kernel
theorem dX7_alike_29 : decode cX7_alike 29 = .ok (.invokevirtual 164, 3) := by decide +kernel
theorem dX7_alike_32 : decode cX7_alike 32 = .ok (.ifCond .eq 5, 3) := by decide +kernel
theorem dX7_alike_35 : decode cX7_alike 35 = .ok (.iconst 0, 1) := by decide +kernel
theorem dX7_alike_36 : decode cX7_alike 36 = .ok (.ireturn, 1) := by decide +kernel
theorem dX7_alike_37 : decode cX7_alike 37 = .ok (.iconst 0, 1) := by decide +kernel
theorem dX7_alike_38 : decode cX7_alike 38 = .ok (.istore_n 3, 1) := by decide +kernel
theorem dX7_alike_39 : decode cX7_alike 39 = .ok (.iconst 0, 1) := by decide +kernel
theorem dX7_alike_40 : decode cX7_alike 40 = .ok (.istore 4, 2) := by decide +kernel
theorem dX7_alike_42 : decode cX7_alike 42 = .ok (.iload 4, 2) := by decide +kernel
theorem dX7_alike_44 : decode cX7_alike 44 = .ok (.aload_n 0, 1) := by decide +kernel
theorem dX7_alike_45 : decode cX7_alike 45 = .ok (.getfield 20, 3) := by decide +kernel
theorem dX7_alike_48 : decode cX7_alike 48 = .ok (.iconst 0, 1) := by decide +kernel
theorem dX7_alike_49 : decode cX7_alike 49 = .ok (.iaload, 1) := by decide +kernel
theorem dX7_alike_50 : decode cX7_alike 50 = .ok (.if_icmp .ge 37, 3) := by decide +kernel
theorem dX7_alike_53 : decode cX7_alike 53 = .ok (.iload_n 3, 1) := by decide +kernel
theorem dX7_alike_54 : decode cX7_alike 54 = .ok (.aload_n 0, 1) := by decide +kernel
theorem dX7_alike_55 : decode cX7_alike 55 = .ok (.iload_n 1, 1) := by decide +kernel
theorem dX7_alike_56 : decode cX7_alike 56 = .ok (.iload 4, 2) := by decide +kernel
theorem dX7_alike_58 : decode cX7_alike 58 = .ok (.invokevirtual 183, 3) := by decide +kernel
theorem dX7_alike_61 : decode cX7_alike 61 = .ok (.aload_n 0, 1) := by decide +kernel
theorem dX7_alike_62 : decode cX7_alike 62 = .ok (.iload_n 2, 1) := by decide +kernel
theorem dX7_alike_63 : decode cX7_alike 63 = .ok (.iload 4, 2) := by decide +kernel
theorem dX7_alike_65 : decode cX7_alike 65 = .ok (.invokevirtual 183, 3) := by decide +kernel
theorem dX7_alike_68 : decode cX7_alike 68 = .ok (.if_icmp .ne 10, 3) := by decide +kernel
theorem dX7_alike_71 : decode cX7_alike 71 = .ok (.iconst 1, 1) := by decide +kernel
theorem dX7_alike_72 : decode cX7_alike 72 = .ok (.iload 4, 2) := by decide +kernel
theorem dX7_alike_74 : decode cX7_alike 74 = .ok (.ishl, 1) := by decide +kernel
theorem dX7_alike_75 : decode cX7_alike 75 = .ok (.goto 4, 3) := by decide +kernel
theorem dX7_alike_78 : decode cX7_alike 78 = .ok (.iconst 0, 1) := by decide +kernel
theorem dX7_alike_79 : decode cX7_alike 79 = .ok (.ior, 1) := by decide +kernel
theorem dX7_alike_80 : decode cX7_alike 80 = .ok (.istore_n 3, 1) := by decide +kernel
theorem dX7_alike_81 : decode cX7_alike 81 = .ok (.iinc 4 1, 3) := by decide +kernel
theorem dX7_alike_84 : decode cX7_alike 84 = .ok (.goto (-42), 3) := by decide +kernel
theorem dX7_alike_87 : decode cX7_alike 87 = .ok (.iload_n 3, 1) := by decide +kernel
theorem dX7_alike_88 : decode cX7_alike 88 = .ok (.ireturn, 1) := by decide +kernel
theorem dX7_feels_0 : decode cX7_feels 0 = .ok (.iconst 0, 1) := by decide +kernel
theorem dX7_feels_1 : decode cX7_feels 1 = .ok (.istore_n 3, 1) := by decide +kernel
theorem dX7_feels_2 : decode cX7_feels 2 = .ok (.iload_n 3, 1) := by decide +kernel
theorem dX7_feels_3 : decode cX7_feels 3 = .ok (.aload_n 0, 1) := by decide +kernel
theorem dX7_feels_4 : decode cX7_feels 4 = .ok (.getfield 20, 3) := by decide +kernel
theorem dX7_feels_7 : decode cX7_feels 7 = .ok (.iconst 3, 1) := by decide +kernel
theorem dX7_feels_8 : decode cX7_feels 8 = .ok (.iaload, 1) := by decide +kernel
theorem dX7_feels_9 : decode cX7_feels 9 = .ok (.if_icmp .ge 57, 3) := by decide +kernel
theorem dX7_feels_12 : decode cX7_feels 12 = .ok (.aload_n 0, 1) := by decide +kernel
theorem dX7_feels_13 : decode cX7_feels 13 = .ok (.getfield 35, 3) := by decide +kernel
theorem dX7_feels_16 : decode cX7_feels 16 = .ok (.iload_n 3, 1) := by decide +kernel
theorem dX7_feels_17 : decode cX7_feels 17 = .ok (.aload_n 0, 1) := by decide +kernel
theorem dX7_feels_18 : decode cX7_feels 18 = .ok (.aload_n 0, 1) := by decide +kernel
theorem dX7_feels_19 : decode cX7_feels 19 = .ok (.getfield 20, 3) := by decide +kernel
theorem dX7_feels_22 : decode cX7_feels 22 = .ok (.bipush 99, 2) := by decide +kernel
theorem dX7_feels_24 : decode cX7_feels 24 = .ok (.iload_n 3, 1) := by decide +kernel
theorem dX7_feels_25 : decode cX7_feels 25 = .ok (.iadd, 1) := by decide +kernel
theorem dX7_feels_26 : decode cX7_feels 26 = .ok (.iaload, 1) := by decide +kernel
theorem dX7_feels_27 : decode cX7_feels 27 = .ok (.iload_n 1, 1) := by decide +kernel
theorem dX7_feels_28 : decode cX7_feels 28 = .ok (.invokevirtual 219, 3) := by decide +kernel
theorem dX7_feels_31 : decode cX7_feels 31 = .ok (.aload_n 0, 1) := by decide +kernel
theorem dX7_feels_32 : decode cX7_feels 32 = .ok (.getfield 20, 3) := by decide +kernel
theorem dX7_feels_35 : decode cX7_feels 35 = .ok (.bipush 99, 2) := by decide +kernel
theorem dX7_feels_37 : decode cX7_feels 37 = .ok (.iload_n 3, 1) := by decide +kernel
theorem dX7_feels_38 : decode cX7_feels 38 = .ok (.iadd, 1) := by decide +kernel
theorem dX7_feels_39 : decode cX7_feels 39 = .ok (.iaload, 1) := by decide +kernel
theorem dX7_feels_40 : decode cX7_feels 40 = .ok (.ifCond .ne 17, 3) := by decide +kernel
theorem dX7_feels_43 : decode cX7_feels 43 = .ok (.iload_n 2, 1) := by decide +kernel
theorem dX7_feels_44 : decode cX7_feels 44 = .ok (.ifCond .ne 13, 3) := by decide +kernel
theorem dX7_feels_47 : decode cX7_feels 47 = .ok (.aload_n 0, 1) := by decide +kernel
theorem dX7_feels_48 : decode cX7_feels 48 = .ok (.getfield 20, 3) := by decide +kernel
theorem dX7_feels_51 : decode cX7_feels 51 = .ok (.bipush 6, 2) := by decide +kernel
theorem dX7_feels_53 : decode cX7_feels 53 = .ok (.iaload, 1) := by decide +kernel
theorem dX7_feels_54 : decode cX7_feels 54 = .ok (.goto 4, 3) := by decide +kernel
theorem dX7_feels_57 : decode cX7_feels 57 = .ok (.iconst 0, 1) := by decide +kernel
theorem dX7_feels_58 : decode cX7_feels 58 = .ok (.iadd, 1) := by decide +kernel
theorem dX7_feels_59 : decode cX7_feels 59 = .ok (.iastore, 1) := by decide +kernel
theorem dX7_feels_60 : decode cX7_feels 60 = .ok (.iinc 3 1, 3) := by decide +kernel
theorem dX7_feels_63 : decode cX7_feels 63 = .ok (.goto (-61), 3) := by decide +kernel
theorem dX7_feels_66 : decode cX7_feels 66 = .ok (.return_, 1) := by decide +kernel
theorem dX7_each_0 : decode cX7_each 0 = .ok (.iconst 2, 1) := by decide +kernel
theorem dX7_each_1 : decode cX7_each 1 = .ok (.aload_n 0, 1) := by decide +kernel
theorem dX7_each_2 : decode cX7_each 2 = .ok (.getfield 20, 3) := by decide +kernel
theorem dX7_each_5 : decode cX7_each 5 = .ok (.iconst 4, 1) := by decide +kernel
theorem dX7_each_6 : decode cX7_each 6 = .ok (.iaload, 1) := by decide +kernel
theorem dX7_each_7 : decode cX7_each 7 = .ok (.imul, 1) := by decide +kernel
theorem dX7_each_8 : decode cX7_each 8 = .ok (.iconst 1, 1) := by decide +kernel
theorem dX7_each_9 : decode cX7_each 9 = .ok (.iadd, 1) := by decide +kernel
theorem dX7_each_10 : decode cX7_each 10 = .ok (.ireturn, 1) := by decide +kernel
theorem dX7_below_0 : decode cX7_below 0 = .ok (.aload_n 0, 1) := by decide +kernel
theorem dX7_below_1 : decode cX7_below 1 = .ok (.invokevirtual 223, 3) := by decide +kernel
theorem dX7_below_4 : decode cX7_below 4 = .ok (.iconst 0, 1) := by decide +kernel
theorem dX7_below_5 : decode cX7_below 5 = .ok (.iload_n 2, 1) := by decide +kernel
theorem dX7_below_6 : decode cX7_below 6 = .ok (.aload_n 0, 1) := by decide +kernel
theorem dX7_below_7 : decode cX7_below 7 = .ok (.getfield 35, 3) := by decide +kernel
theorem dX7_below_10 : decode cX7_below 10 = .ok (.iload_n 1, 1) := by decide +kernel
theorem dX7_below_11 : decode cX7_below 11 = .ok (.iaload, 1) := by decide +kernel
theorem dX7_below_12 : decode cX7_below 12 = .ok (.aload_n 0, 1) := by decide +kernel
theorem dX7_below_13 : decode cX7_below 13 = .ok (.getfield 20, 3) := by decide +kernel
theorem dX7_below_16 : decode cX7_below 16 = .ok (.iconst 4, 1) := by decide +kernel
theorem dX7_below_17 : decode cX7_below 17 = .ok (.iaload, 1) := by decide +kernel
theorem dX7_below_18 : decode cX7_below 18 = .ok (.isub, 1) := by decide +kernel
theorem dX7_below_19 : decode cX7_below 19 = .ok (.isub, 1) := by decide +kernel
theorem dX7_below_20 : decode cX7_below 20 = .ok (.invokestatic 226, 3) := by decide +kernel
theorem dX7_below_23 : decode cX7_below 23 = .ok (.invokestatic 94, 3) := by decide +kernel
theorem dX7_below_26 : decode cX7_below 26 = .ok (.ireturn, 1) := by decide +kernel
theorem dX7_allWays_0 : decode cX7_allWays 0 = .ok (.lconst 1, 1) := by decide +kernel
theorem dX7_allWays_1 : decode cX7_allWays 1 = .ok (.lstore_n 1, 1) := by decide +kernel
theorem dX7_allWays_2 : decode cX7_allWays 2 = .ok (.iconst 0, 1) := by decide +kernel
theorem dX7_allWays_3 : decode cX7_allWays 3 = .ok (.istore_n 3, 1) := by decide +kernel
theorem dX7_allWays_4 : decode cX7_allWays 4 = .ok (.iload_n 3, 1) := by decide +kernel
theorem dX7_allWays_5 : decode cX7_allWays 5 = .ok (.aload_n 0, 1) := by decide +kernel
theorem dX7_allWays_6 : decode cX7_allWays 6 = .ok (.getfield 20, 3) := by decide +kernel
theorem dX7_allWays_9 : decode cX7_allWays 9 = .ok (.iconst 3, 1) := by decide +kernel
theorem dX7_allWays_10 : decode cX7_allWays 10 = .ok (.iaload, 1) := by decide +kernel
theorem dX7_allWays_11 : decode cX7_allWays 11 = .ok (.if_icmp .ge 17, 3) := by decide +kernel
theorem dX7_allWays_14 : decode cX7_allWays 14 = .ok (.lload_n 1, 1) := by decide +kernel
theorem dX7_allWays_15 : decode cX7_allWays 15 = .ok (.aload_n 0, 1) := by decide +kernel
theorem dX7_allWays_16 : decode cX7_allWays 16 = .ok (.invokevirtual 223, 3) := by decide +kernel
theorem dX7_allWays_19 : decode cX7_allWays 19 = .ok (.i2l, 1) := by decide +kernel
theorem dX7_allWays_20 : decode cX7_allWays 20 = .ok (.lmul, 1) := by decide +kernel
theorem dX7_allWays_21 : decode cX7_allWays 21 = .ok (.lstore_n 1, 1) := by decide +kernel
theorem dX7_allWays_22 : decode cX7_allWays 22 = .ok (.iinc 3 1, 3) := by decide +kernel
theorem dX7_allWays_25 : decode cX7_allWays 25 = .ok (.goto (-21), 3) := by decide +kernel
theorem dX7_allWays_28 : decode cX7_allWays 28 = .ok (.lload_n 1, 1) := by decide +kernel
theorem dX7_allWays_29 : decode cX7_allWays 29 = .ok (.lreturn, 1) := by decide +kernel
theorem dX7_oneByOne_0 : decode cX7_oneByOne 0 = .ok (.aload_n 0, 1) := by decide +kernel
theorem dX7_oneByOne_1 : decode cX7_oneByOne 1 = .ok (.invokevirtual 223, 3) := by decide +kernel
theorem dX7_oneByOne_4 : decode cX7_oneByOne 4 = .ok (.aload_n 0, 1) := by decide +kernel
theorem dX7_oneByOne_5 : decode cX7_oneByOne 5 = .ok (.iload_n 1, 1) := by decide +kernel
theorem dX7_oneByOne_6 : decode cX7_oneByOne 6 = .ok (.iload_n 2, 1) := by decide +kernel
theorem dX7_oneByOne_7 : decode cX7_oneByOne 7 = .ok (.invokevirtual 229, 3) := by decide +kernel
theorem dX7_oneByOne_10 : decode cX7_oneByOne 10 = .ok (.isub, 1) := by decide +kernel
theorem dX7_oneByOne_11 : decode cX7_oneByOne 11 = .ok (.i2l, 1) := by decide +kernel
theorem dX7_oneByOne_12 : decode cX7_oneByOne 12 = .ok (.lstore_n 3, 1) := by decide +kernel
theorem dX7_oneByOne_13 : decode cX7_oneByOne 13 = .ok (.iconst 0, 1) := by decide +kernel
theorem dX7_oneByOne_14 : decode cX7_oneByOne 14 = .ok (.istore 5, 2) := by decide +kernel
theorem dX7_oneByOne_16 : decode cX7_oneByOne 16 = .ok (.iload 5, 2) := by decide +kernel
theorem dX7_oneByOne_18 : decode cX7_oneByOne 18 = .ok (.aload_n 0, 1) := by decide +kernel
theorem dX7_oneByOne_19 : decode cX7_oneByOne 19 = .ok (.getfield 20, 3) := by decide +kernel
theorem dX7_oneByOne_22 : decode cX7_oneByOne 22 = .ok (.iconst 3, 1) := by decide +kernel
theorem dX7_oneByOne_23 : decode cX7_oneByOne 23 = .ok (.iaload, 1) := by decide +kernel
theorem dX7_oneByOne_24 : decode cX7_oneByOne 24 = .ok (.if_icmp .ge 44, 3) := by decide +kernel
theorem dX7_oneByOne_27 : decode cX7_oneByOne 27 = .ok (.lload_n 3, 1) := by decide +kernel
theorem dX7_oneByOne_28 : decode cX7_oneByOne 28 = .ok (.iload 5, 2) := by decide +kernel
theorem dX7_oneByOne_30 : decode cX7_oneByOne 30 = .ok (.iload_n 1, 1) := by decide +kernel
theorem dX7_oneByOne_31 : decode cX7_oneByOne 31 = .ok (.if_icmp .ge 14, 3) := by decide +kernel
theorem dX7_oneByOne_34 : decode cX7_oneByOne 34 = .ok (.aload_n 0, 1) := by decide +kernel
theorem dX7_oneByOne_35 : decode cX7_oneByOne 35 = .ok (.iload 5, 2) := by decide +kernel
theorem dX7_oneByOne_37 : decode cX7_oneByOne 37 = .ok (.iload_n 2, 1) := by decide +kernel
theorem dX7_oneByOne_38 : decode cX7_oneByOne 38 = .ok (.invokevirtual 229, 3) := by decide +kernel
theorem dX7_oneByOne_41 : decode cX7_oneByOne 41 = .ok (.i2l, 1) := by decide +kernel
theorem dX7_oneByOne_42 : decode cX7_oneByOne 42 = .ok (.goto 18, 3) := by decide +kernel
theorem dX7_oneByOne_45 : decode cX7_oneByOne 45 = .ok (.iload 5, 2) := by decide +kernel
theorem dX7_oneByOne_47 : decode cX7_oneByOne 47 = .ok (.iload_n 1, 1) := by decide +kernel
theorem dX7_oneByOne_48 : decode cX7_oneByOne 48 = .ok (.if_icmp .le 11, 3) := by decide +kernel
theorem dX7_oneByOne_51 : decode cX7_oneByOne 51 = .ok (.aload_n 0, 1) := by decide +kernel
theorem dX7_oneByOne_52 : decode cX7_oneByOne 52 = .ok (.invokevirtual 223, 3) := by decide +kernel
theorem dX7_oneByOne_55 : decode cX7_oneByOne 55 = .ok (.i2l, 1) := by decide +kernel
theorem dX7_oneByOne_56 : decode cX7_oneByOne 56 = .ok (.goto 4, 3) := by decide +kernel
theorem dX7_oneByOne_59 : decode cX7_oneByOne 59 = .ok (.lconst 1, 1) := by decide +kernel
theorem dX7_oneByOne_60 : decode cX7_oneByOne 60 = .ok (.lmul, 1) := by decide +kernel
theorem dX7_oneByOne_61 : decode cX7_oneByOne 61 = .ok (.lstore_n 3, 1) := by decide +kernel
theorem dX7_oneByOne_62 : decode cX7_oneByOne 62 = .ok (.iinc 5 1, 3) := by decide +kernel
theorem dX7_oneByOne_65 : decode cX7_oneByOne 65 = .ok (.goto (-49), 3) := by decide +kernel
theorem dX7_oneByOne_68 : decode cX7_oneByOne 68 = .ok (.lload_n 3, 1) := by decide +kernel
theorem dX7_oneByOne_69 : decode cX7_oneByOne 69 = .ok (.lreturn, 1) := by decide +kernel
theorem dX7_atOnce_0 : decode cX7_atOnce 0 = .ok (.lconst 0, 1) := by decide +kernel
theorem dX7_atOnce_1 : decode cX7_atOnce 1 = .ok (.lstore_n 3, 1) := by decide +kernel
theorem dX7_atOnce_2 : decode cX7_atOnce 2 = .ok (.iload_n 2, 1) := by decide +kernel
theorem dX7_atOnce_3 : decode cX7_atOnce 3 = .ok (.aload_n 0, 1) := by decide +kernel
theorem dX7_atOnce_4 : decode cX7_atOnce 4 = .ok (.getfield 35, 3) := by decide +kernel
theorem dX7_atOnce_7 : decode cX7_atOnce 7 = .ok (.iload_n 1, 1) := by decide +kernel
theorem dX7_atOnce_8 : decode cX7_atOnce 8 = .ok (.iaload, 1) := by decide +kernel
theorem dX7_atOnce_9 : decode cX7_atOnce 9 = .ok (.aload_n 0, 1) := by decide +kernel
theorem dX7_atOnce_10 : decode cX7_atOnce 10 = .ok (.getfield 20, 3) := by decide +kernel
theorem dX7_atOnce_13 : decode cX7_atOnce 13 = .ok (.iconst 4, 1) := by decide +kernel
theorem dX7_atOnce_14 : decode cX7_atOnce 14 = .ok (.iaload, 1) := by decide +kernel
theorem dX7_atOnce_15 : decode cX7_atOnce 15 = .ok (.isub, 1) := by decide +kernel
theorem dX7_atOnce_16 : decode cX7_atOnce 16 = .ok (.invokestatic 226, 3) := by decide +kernel
theorem dX7_atOnce_19 : decode cX7_atOnce 19 = .ok (.istore 5, 2) := by decide +kernel
theorem dX7_atOnce_21 : decode cX7_atOnce 21 = .ok (.iload 5, 2) := by decide +kernel
theorem dX7_atOnce_23 : decode cX7_atOnce 23 = .ok (.aload_n 0, 1) := by decide +kernel
theorem dX7_atOnce_24 : decode cX7_atOnce 24 = .ok (.getfield 35, 3) := by decide +kernel
theorem dX7_atOnce_27 : decode cX7_atOnce 27 = .ok (.iload_n 1, 1) := by decide +kernel
theorem dX7_atOnce_28 : decode cX7_atOnce 28 = .ok (.iaload, 1) := by decide +kernel
theorem dX7_atOnce_29 : decode cX7_atOnce 29 = .ok (.aload_n 0, 1) := by decide +kernel
theorem dX7_atOnce_30 : decode cX7_atOnce 30 = .ok (.getfield 20, 3) := by decide +kernel
theorem dX7_atOnce_33 : decode cX7_atOnce 33 = .ok (.iconst 4, 1) := by decide +kernel
theorem dX7_atOnce_34 : decode cX7_atOnce 34 = .ok (.iaload, 1) := by decide +kernel
theorem dX7_atOnce_35 : decode cX7_atOnce 35 = .ok (.iadd, 1) := by decide +kernel
theorem dX7_atOnce_36 : decode cX7_atOnce 36 = .ok (.if_icmp .gt 81, 3) := by decide +kernel
theorem dX7_atOnce_39 : decode cX7_atOnce 39 = .ok (.lconst 1, 1) := by decide +kernel
theorem dX7_atOnce_40 : decode cX7_atOnce 40 = .ok (.lstore 6, 2) := by decide +kernel
theorem dX7_atOnce_42 : decode cX7_atOnce 42 = .ok (.iconst 0, 1) := by decide +kernel
theorem dX7_atOnce_43 : decode cX7_atOnce 43 = .ok (.istore 8, 2) := by decide +kernel
theorem dX7_atOnce_45 : decode cX7_atOnce 45 = .ok (.iload 8, 2) := by decide +kernel
theorem dX7_atOnce_47 : decode cX7_atOnce 47 = .ok (.aload_n 0, 1) := by decide +kernel
theorem dX7_atOnce_48 : decode cX7_atOnce 48 = .ok (.getfield 20, 3) := by decide +kernel
theorem dX7_atOnce_51 : decode cX7_atOnce 51 = .ok (.iconst 3, 1) := by decide +kernel
theorem dX7_atOnce_52 : decode cX7_atOnce 52 = .ok (.iaload, 1) := by decide +kernel
theorem dX7_atOnce_53 : decode cX7_atOnce 53 = .ok (.if_icmp .ge 53, 3) := by decide +kernel
theorem dX7_atOnce_56 : decode cX7_atOnce 56 = .ok (.lload 6, 2) := by decide +kernel
theorem dX7_atOnce_58 : decode cX7_atOnce 58 = .ok (.iload 8, 2) := by decide +kernel
theorem dX7_atOnce_60 : decode cX7_atOnce 60 = .ok (.iload_n 1, 1) := by decide +kernel
theorem dX7_atOnce_61 : decode cX7_atOnce 61 = .ok (.if_icmp .ge 15, 3) := by decide +kernel
theorem dX7_atOnce_64 : decode cX7_atOnce 64 = .ok (.aload_n 0, 1) := by decide +kernel
theorem dX7_atOnce_65 : decode cX7_atOnce 65 = .ok (.iload 8, 2) := by decide +kernel
theorem dX7_atOnce_67 : decode cX7_atOnce 67 = .ok (.iload 5, 2) := by decide +kernel
theorem dX7_atOnce_69 : decode cX7_atOnce 69 = .ok (.invokevirtual 229, 3) := by decide +kernel
theorem dX7_atOnce_72 : decode cX7_atOnce 72 = .ok (.i2l, 1) := by decide +kernel
theorem dX7_atOnce_73 : decode cX7_atOnce 73 = .ok (.goto 24, 3) := by decide +kernel
theorem dX7_atOnce_76 : decode cX7_atOnce 76 = .ok (.iload 8, 2) := by decide +kernel
theorem dX7_atOnce_78 : decode cX7_atOnce 78 = .ok (.iload_n 1, 1) := by decide +kernel
theorem dX7_atOnce_79 : decode cX7_atOnce 79 = .ok (.if_icmp .le 17, 3) := by decide +kernel
theorem dX7_atOnce_82 : decode cX7_atOnce 82 = .ok (.aload_n 0, 1) := by decide +kernel
theorem dX7_atOnce_83 : decode cX7_atOnce 83 = .ok (.iload 8, 2) := by decide +kernel
theorem dX7_atOnce_85 : decode cX7_atOnce 85 = .ok (.iload 5, 2) := by decide +kernel
theorem dX7_atOnce_87 : decode cX7_atOnce 87 = .ok (.iconst 1, 1) := by decide +kernel
theorem dX7_atOnce_88 : decode cX7_atOnce 88 = .ok (.iadd, 1) := by decide +kernel
theorem dX7_atOnce_89 : decode cX7_atOnce 89 = .ok (.invokevirtual 229, 3) := by decide +kernel
theorem dX7_atOnce_92 : decode cX7_atOnce 92 = .ok (.i2l, 1) := by decide +kernel
theorem dX7_atOnce_93 : decode cX7_atOnce 93 = .ok (.goto 4, 3) := by decide +kernel
theorem dX7_atOnce_96 : decode cX7_atOnce 96 = .ok (.lconst 1, 1) := by decide +kernel
theorem dX7_atOnce_97 : decode cX7_atOnce 97 = .ok (.lmul, 1) := by decide +kernel
theorem dX7_atOnce_98 : decode cX7_atOnce 98 = .ok (.lstore 6, 2) := by decide +kernel
theorem dX7_atOnce_100 : decode cX7_atOnce 100 = .ok (.iinc 8 1, 3) := by decide +kernel
theorem dX7_atOnce_103 : decode cX7_atOnce 103 = .ok (.goto (-58), 3) := by decide +kernel
theorem dX7_atOnce_106 : decode cX7_atOnce 106 = .ok (.lload_n 3, 1) := by decide +kernel
theorem dX7_atOnce_107 : decode cX7_atOnce 107 = .ok (.lload 6, 2) := by decide +kernel
theorem dX7_atOnce_109 : decode cX7_atOnce 109 = .ok (.ladd, 1) := by decide +kernel
theorem dX7_atOnce_110 : decode cX7_atOnce 110 = .ok (.lstore_n 3, 1) := by decide +kernel
theorem dX7_atOnce_111 : decode cX7_atOnce 111 = .ok (.iinc 5 1, 3) := by decide +kernel
theorem dX7_atOnce_114 : decode cX7_atOnce 114 = .ok (.goto (-93), 3) := by decide +kernel
theorem dX7_atOnce_117 : decode cX7_atOnce 117 = .ok (.lload_n 3, 1) := by decide +kernel
theorem dX7_atOnce_118 : decode cX7_atOnce 118 = .ok (.lreturn, 1) := by decide +kernel
theorem dX7_picked_0 : decode cX7_picked 0 = .ok (.iload_n 1, 1) := by decide +kernel
theorem dX7_picked_1 : decode cX7_picked 1 = .ok (.ifCond .ne 12, 3) := by decide +kernel
theorem dX7_picked_4 : decode cX7_picked 4 = .ok (.aload_n 0, 1) := by decide +kernel
theorem dX7_picked_5 : decode cX7_picked 5 = .ok (.iload_n 2, 1) := by decide +kernel
theorem dX7_picked_6 : decode cX7_picked 6 = .ok (.iload_n 3, 1) := by decide +kernel
theorem dX7_picked_7 : decode cX7_picked 7 = .ok (.invokevirtual 232, 3) := by decide +kernel
theorem dX7_picked_10 : decode cX7_picked 10 = .ok (.goto 9, 3) := by decide +kernel
theorem dX7_picked_13 : decode cX7_picked 13 = .ok (.aload_n 0, 1) := by decide +kernel
theorem dX7_picked_14 : decode cX7_picked 14 = .ok (.iload_n 2, 1) := by decide +kernel
theorem dX7_picked_15 : decode cX7_picked 15 = .ok (.iload_n 3, 1) := by decide +kernel
theorem dX7_picked_16 : decode cX7_picked 16 = .ok (.invokevirtual 236, 3) := by decide +kernel
theorem dX7_picked_19 : decode cX7_picked 19 = .ok (.lreturn, 1) := by decide +kernel
theorem dX7_terms_0 : decode cX7_terms 0 = .ok (.lload_n 2, 1) := by decide +kernel
theorem dX7_terms_1 : decode cX7_terms 1 = .ok (.lconst 0, 1) := by decide +kernel
theorem dX7_terms_2 : decode cX7_terms 2 = .ok (.lcmp, 1) := by decide +kernel
theorem dX7_terms_3 : decode cX7_terms 3 = .ok (.ifCond .eq 9, 3) := by decide +kernel
theorem dX7_terms_6 : decode cX7_terms 6 = .ok (.lload_n 0, 1) := by decide +kernel
theorem dX7_terms_7 : decode cX7_terms 7 = .ok (.lconst 0, 1) := by decide +kernel
theorem dX7_terms_8 : decode cX7_terms 8 = .ok (.lcmp, 1) := by decide +kernel
theorem dX7_terms_9 : decode cX7_terms 9 = .ok (.ifCond .ne 14, 3) := by decide +kernel
theorem dX7_terms_12 : decode cX7_terms 12 = .ok (.iload 4, 2) := by decide +kernel
theorem dX7_terms_14 : decode cX7_terms 14 = .ok (.ifCond .ne 7, 3) := by decide +kernel
theorem dX7_terms_17 : decode cX7_terms 17 = .ok (.lconst 0, 1) := by decide +kernel
theorem dX7_terms_18 : decode cX7_terms 18 = .ok (.goto 4, 3) := by decide +kernel
theorem dX7_terms_21 : decode cX7_terms 21 = .ok (.lconst 1, 1) := by decide +kernel
theorem dX7_terms_22 : decode cX7_terms 22 = .ok (.lreturn, 1) := by decide +kernel
theorem dX7_terms_23 : decode cX7_terms 23 = .ok (.lload_n 0, 1) := by decide +kernel
theorem dX7_terms_24 : decode cX7_terms 24 = .ok (.lstore 5, 2) := by decide +kernel
theorem dX7_terms_26 : decode cX7_terms 26 = .ok (.lload_n 2, 1) := by decide +kernel
theorem dX7_terms_27 : decode cX7_terms 27 = .ok (.lstore 7, 2) := by decide +kernel
theorem dX7_terms_29 : decode cX7_terms 29 = .ok (.lload 7, 2) := by decide +kernel
theorem dX7_terms_31 : decode cX7_terms 31 = .ok (.lconst 0, 1) := by decide +kernel
theorem dX7_terms_32 : decode cX7_terms 32 = .ok (.lcmp, 1) := by decide +kernel
theorem dX7_terms_33 : decode cX7_terms 33 = .ok (.ifCond .eq 21, 3) := by decide +kernel
theorem dX7_terms_36 : decode cX7_terms 36 = .ok (.lload 5, 2) := by decide +kernel
theorem dX7_terms_38 : decode cX7_terms 38 = .ok (.lload 7, 2) := by decide +kernel
theorem dX7_terms_40 : decode cX7_terms 40 = .ok (.lrem, 1) := by decide +kernel
theorem dX7_terms_41 : decode cX7_terms 41 = .ok (.lstore 9, 2) := by decide +kernel
theorem dX7_terms_43 : decode cX7_terms 43 = .ok (.lload 7, 2) := by decide +kernel
theorem dX7_terms_45 : decode cX7_terms 45 = .ok (.lstore 5, 2) := by decide +kernel
theorem dX7_terms_47 : decode cX7_terms 47 = .ok (.lload 9, 2) := by decide +kernel
theorem dX7_terms_49 : decode cX7_terms 49 = .ok (.lstore 7, 2) := by decide +kernel
theorem dX7_terms_51 : decode cX7_terms 51 = .ok (.goto (-22), 3) := by decide +kernel
theorem dX7_terms_54 : decode cX7_terms 54 = .ok (.iload 4, 2) := by decide +kernel
theorem dX7_terms_56 : decode cX7_terms 56 = .ok (.ifCond .ne 7, 3) := by decide +kernel
theorem dX7_terms_59 : decode cX7_terms 59 = .ok (.lload_n 0, 1) := by decide +kernel
theorem dX7_terms_60 : decode cX7_terms 60 = .ok (.goto 4, 3) := by decide +kernel
theorem dX7_terms_63 : decode cX7_terms 63 = .ok (.lload_n 2, 1) := by decide +kernel
theorem dX7_terms_64 : decode cX7_terms 64 = .ok (.lload 5, 2) := by decide +kernel
theorem dX7_terms_66 : decode cX7_terms 66 = .ok (.ldiv, 1) := by decide +kernel
theorem dX7_terms_67 : decode cX7_terms 67 = .ok (.lreturn, 1) := by decide +kernel
theorem dX7_isHalf_0 : decode cX7_isHalf 0 = .ok (.iload_n 0, 1) := by decide +kernel
theorem dX7_isHalf_1 : decode cX7_isHalf 1 = .ok (.ifCond .eq 8, 3) := by decide +kernel
theorem dX7_isHalf_4 : decode cX7_isHalf 4 = .ok (.iload_n 0, 1) := by decide +kernel
theorem dX7_isHalf_5 : decode cX7_isHalf 5 = .ok (.iconst 1, 1) := by decide +kernel
theorem dX7_isHalf_6 : decode cX7_isHalf 6 = .ok (.if_icmp .ne 7, 3) := by decide +kernel
theorem dX7_isHalf_9 : decode cX7_isHalf 9 = .ok (.iconst 1, 1) := by decide +kernel
theorem dX7_isHalf_10 : decode cX7_isHalf 10 = .ok (.goto 4, 3) := by decide +kernel
theorem dX7_isHalf_13 : decode cX7_isHalf 13 = .ok (.iconst 0, 1) := by decide +kernel
theorem dX7_isHalf_14 : decode cX7_isHalf 14 = .ok (.ireturn, 1) := by decide +kernel
theorem dX7_chance_0 : decode cX7_chance 0 = .ok (.aload_n 0, 1) := by decide +kernel
theorem dX7_chance_1 : decode cX7_chance 1 = .ok (.iconst 0, 1) := by decide +kernel
theorem dX7_chance_2 : decode cX7_chance 2 = .ok (.putfield 42, 3) := by decide +kernel
theorem dX7_chance_5 : decode cX7_chance 5 = .ok (.aload_n 0, 1) := by decide +kernel
theorem dX7_chance_6 : decode cX7_chance 6 = .ok (.iload_n 2, 1) := by decide +kernel
theorem dX7_chance_7 : decode cX7_chance 7 = .ok (.iconst (-1), 1) := by decide +kernel
theorem dX7_chance_8 : decode cX7_chance 8 = .ok (.if_icmp .eq 15, 3) := by decide +kernel
theorem dX7_chance_11 : decode cX7_chance 11 = .ok (.aload_n 0, 1) := by decide +kernel
theorem dX7_chance_12 : decode cX7_chance 12 = .ok (.iload_n 2, 1) := by decide +kernel
theorem dX7_chance_13 : decode cX7_chance 13 = .ok (.invokevirtual 207, 3) := by decide +kernel
theorem dX7_chance_16 : decode cX7_chance 16 = .ok (.ifCond .ne 7, 3) := by decide +kernel
theorem dX7_chance_19 : decode cX7_chance 19 = .ok (.iconst 1, 1) := by decide +kernel
theorem dX7_chance_20 : decode cX7_chance 20 = .ok (.goto 4, 3) := by decide +kernel
theorem dX7_chance_23 : decode cX7_chance 23 = .ok (.iconst 0, 1) := by decide +kernel
theorem dX7_chance_24 : decode cX7_chance 24 = .ok (.iconst 1, 1) := by decide +kernel
theorem dX7_chance_25 : decode cX7_chance 25 = .ok (.iconst 0, 1) := by decide +kernel
theorem dX7_chance_26 : decode cX7_chance 26 = .ok (.invokevirtual 164, 3) := by decide +kernel
theorem dX7_chance_29 : decode cX7_chance 29 = .ok (.ifCond .ne 32, 3) := by decide +kernel
theorem dX7_chance_32 : decode cX7_chance 32 = .ok (.aload_n 0, 1) := by decide +kernel
theorem dX7_chance_33 : decode cX7_chance 33 = .ok (.iload_n 1, 1) := by decide +kernel
theorem dX7_chance_34 : decode cX7_chance 34 = .ok (.invokestatic 239, 3) := by decide +kernel
theorem dX7_chance_37 : decode cX7_chance 37 = .ok (.ifCond .eq 11, 3) := by decide +kernel
theorem dX7_chance_40 : decode cX7_chance 40 = .ok (.iload 5, 2) := by decide +kernel
theorem dX7_chance_42 : decode cX7_chance 42 = .ok (.invokestatic 239, 3) := by decide +kernel
theorem dX7_chance_45 : decode cX7_chance 45 = .ok (.ifCond .ne 7, 3) := by decide +kernel
theorem dX7_chance_48 : decode cX7_chance 48 = .ok (.iconst 1, 1) := by decide +kernel
theorem dX7_chance_49 : decode cX7_chance 49 = .ok (.goto 4, 3) := by decide +kernel
theorem dX7_chance_52 : decode cX7_chance 52 = .ok (.iconst 0, 1) := by decide +kernel
theorem dX7_chance_53 : decode cX7_chance 53 = .ok (.iconst 2, 1) := by decide +kernel
theorem dX7_chance_54 : decode cX7_chance 54 = .ok (.iconst 1, 1) := by decide +kernel
theorem dX7_chance_55 : decode cX7_chance 55 = .ok (.invokevirtual 164, 3) := by decide +kernel
theorem dX7_chance_58 : decode cX7_chance 58 = .ok (.ifCond .eq 5, 3) := by decide +kernel
theorem dX7_chance_61 : decode cX7_chance 61 = .ok (.lconst 0, 1) := by decide +kernel
theorem dX7_chance_62 : decode cX7_chance 62 = .ok (.lreturn, 1) := by decide +kernel
theorem dX7_chance_63 : decode cX7_chance 63 = .ok (.aload_n 0, 1) := by decide +kernel
theorem dX7_chance_64 : decode cX7_chance 64 = .ok (.iload_n 3, 1) := by decide +kernel
theorem dX7_chance_65 : decode cX7_chance 65 = .ok (.iload 4, 2) := by decide +kernel
theorem dX7_chance_67 : decode cX7_chance 67 = .ok (.invokevirtual 242, 3) := by decide +kernel
theorem dX7_chance_70 : decode cX7_chance 70 = .ok (.lconst 0, 1) := by decide +kernel
theorem dX7_chance_71 : decode cX7_chance 71 = .ok (.lstore 6, 2) := by decide +kernel
theorem dX7_chance_73 : decode cX7_chance 73 = .ok (.iconst 0, 1) := by decide +kernel
theorem dX7_chance_74 : decode cX7_chance 74 = .ok (.istore 8, 2) := by decide +kernel
theorem dX7_chance_76 : decode cX7_chance 76 = .ok (.iload 8, 2) := by decide +kernel
theorem dX7_chance_78 : decode cX7_chance 78 = .ok (.aload_n 0, 1) := by decide +kernel
theorem dX7_chance_79 : decode cX7_chance 79 = .ok (.getfield 20, 3) := by decide +kernel
theorem dX7_chance_82 : decode cX7_chance 82 = .ok (.iconst 3, 1) := by decide +kernel
theorem dX7_chance_83 : decode cX7_chance 83 = .ok (.iaload, 1) := by decide +kernel
theorem dX7_chance_84 : decode cX7_chance 84 = .ok (.if_icmp .ge 46, 3) := by decide +kernel
theorem dX7_chance_87 : decode cX7_chance 87 = .ok (.iload_n 2, 1) := by decide +kernel
theorem dX7_chance_88 : decode cX7_chance 88 = .ok (.iconst (-1), 1) := by decide +kernel
theorem dX7_chance_89 : decode cX7_chance 89 = .ok (.if_icmp .eq 17, 3) := by decide +kernel
theorem dX7_chance_92 : decode cX7_chance 92 = .ok (.aload_n 0, 1) := by decide +kernel
theorem dX7_chance_93 : decode cX7_chance 93 = .ok (.getfield 20, 3) := by decide +kernel
theorem dX7_chance_96 : decode cX7_chance 96 = .ok (.bipush 99, 2) := by decide +kernel
theorem dX7_chance_98 : decode cX7_chance 98 = .ok (.iload 8, 2) := by decide +kernel
theorem dX7_chance_100 : decode cX7_chance 100 = .ok (.iadd, 1) := by decide +kernel
theorem dX7_chance_101 : decode cX7_chance 101 = .ok (.iaload, 1) := by decide +kernel
theorem dX7_chance_102 : decode cX7_chance 102 = .ok (.iload_n 2, 1) := by decide +kernel
theorem dX7_chance_103 : decode cX7_chance 103 = .ok (.if_icmp .ne 21, 3) := by decide +kernel
theorem dX7_chance_106 : decode cX7_chance 106 = .ok (.lload 6, 2) := by decide +kernel
theorem dX7_chance_108 : decode cX7_chance 108 = .ok (.aload_n 0, 1) := by decide +kernel
theorem dX7_chance_109 : decode cX7_chance 109 = .ok (.iload_n 1, 1) := by decide +kernel
theorem dX7_chance_110 : decode cX7_chance 110 = .ok (.iload 8, 2) := by decide +kernel
theorem dX7_chance_112 : decode cX7_chance 112 = .ok (.aload_n 0, 1) := by decide +kernel
theorem dX7_chance_113 : decode cX7_chance 113 = .ok (.getfield 20, 3) := by decide +kernel
theorem dX7_chance_116 : decode cX7_chance 116 = .ok (.iconst 5, 1) := by decide +kernel
theorem dX7_chance_117 : decode cX7_chance 117 = .ok (.iaload, 1) := by decide +kernel
theorem dX7_chance_118 : decode cX7_chance 118 = .ok (.invokevirtual 246, 3) := by decide +kernel
theorem dX7_chance_121 : decode cX7_chance 121 = .ok (.ladd, 1) := by decide +kernel
theorem dX7_chance_122 : decode cX7_chance 122 = .ok (.lstore 6, 2) := by decide +kernel
theorem dX7_chance_124 : decode cX7_chance 124 = .ok (.iinc 8 1, 3) := by decide +kernel
theorem dX7_chance_127 : decode cX7_chance 127 = .ok (.goto (-51), 3) := by decide +kernel
theorem dX7_chance_130 : decode cX7_chance 130 = .ok (.iload_n 2, 1) := by decide +kernel
theorem dX7_chance_131 : decode cX7_chance 131 = .ok (.iconst (-1), 1) := by decide +kernel
theorem dX7_chance_132 : decode cX7_chance 132 = .ok (.if_icmp .ne 13, 3) := by decide +kernel
theorem dX7_chance_135 : decode cX7_chance 135 = .ok (.aload_n 0, 1) := by decide +kernel
theorem dX7_chance_136 : decode cX7_chance 136 = .ok (.invokevirtual 250, 3) := by decide +kernel
theorem dX7_chance_139 : decode cX7_chance 139 = .ok (.lload 6, 2) := by decide +kernel
theorem dX7_chance_141 : decode cX7_chance 141 = .ok (.lsub, 1) := by decide +kernel
theorem dX7_chance_142 : decode cX7_chance 142 = .ok (.goto 5, 3) := by decide +kernel
theorem dX7_chance_145 : decode cX7_chance 145 = .ok (.lload 6, 2) := by decide +kernel
theorem dX7_chance_147 : decode cX7_chance 147 = .ok (.aload_n 0, 1) := by decide +kernel
theorem dX7_chance_148 : decode cX7_chance 148 = .ok (.invokevirtual 250, 3) := by decide +kernel
theorem dX7_chance_151 : decode cX7_chance 151 = .ok (.iload 5, 2) := by decide +kernel
theorem dX7_chance_153 : decode cX7_chance 153 = .ok (.invokestatic 254, 3) := by decide +kernel
theorem dX7_chance_156 : decode cX7_chance 156 = .ok (.lreturn, 1) := by decide +kernel
theorem dX7_adds_0 : decode cX7_adds 0 = .ok (.aload_n 0, 1) := by decide +kernel
theorem dX7_adds_1 : decode cX7_adds 1 = .ok (.dup, 1) := by decide +kernel
theorem dX7_adds_2 : decode cX7_adds 2 = .ok (.getfield 258, 3) := by decide +kernel
theorem dX7_adds_5 : decode cX7_adds 5 = .ok (.iload_n 1, 1) := by decide +kernel
theorem dX7_adds_6 : decode cX7_adds 6 = .ok (.i2l, 1) := by decide +kernel
theorem dX7_adds_7 : decode cX7_adds 7 = .ok (.ladd, 1) := by decide +kernel
theorem dX7_adds_8 : decode cX7_adds 8 = .ok (.putfield 258, 3) := by decide +kernel
theorem dX7_adds_11 : decode cX7_adds 11 = .ok (.aload_n 0, 1) := by decide +kernel
theorem dX7_adds_12 : decode cX7_adds 12 = .ok (.dup, 1) := by decide +kernel
theorem dX7_adds_13 : decode cX7_adds 13 = .ok (.getfield 261, 3) := by decide +kernel
theorem dX7_adds_16 : decode cX7_adds 16 = .ok (.iload_n 1, 1) := by decide +kernel
theorem dX7_adds_17 : decode cX7_adds 17 = .ok (.i2l, 1) := by decide +kernel
theorem dX7_adds_18 : decode cX7_adds 18 = .ok (.iload_n 1, 1) := by decide +kernel
theorem dX7_adds_19 : decode cX7_adds 19 = .ok (.i2l, 1) := by decide +kernel
theorem dX7_adds_20 : decode cX7_adds 20 = .ok (.lmul, 1) := by decide +kernel
theorem dX7_adds_21 : decode cX7_adds 21 = .ok (.ladd, 1) := by decide +kernel
theorem dX7_adds_22 : decode cX7_adds 22 = .ok (.putfield 261, 3) := by decide +kernel
theorem dX7_adds_25 : decode cX7_adds 25 = .ok (.return_, 1) := by decide +kernel
theorem dX7_clears_0 : decode cX7_clears 0 = .ok (.aload_n 0, 1) := by decide +kernel
theorem dX7_clears_1 : decode cX7_clears 1 = .ok (.lconst 0, 1) := by decide +kernel
theorem dX7_clears_2 : decode cX7_clears 2 = .ok (.putfield 258, 3) := by decide +kernel
theorem dX7_clears_5 : decode cX7_clears 5 = .ok (.aload_n 0, 1) := by decide +kernel
theorem dX7_clears_6 : decode cX7_clears 6 = .ok (.lconst 0, 1) := by decide +kernel
theorem dX7_clears_7 : decode cX7_clears 7 = .ok (.putfield 261, 3) := by decide +kernel
theorem dX7_clears_10 : decode cX7_clears 10 = .ok (.return_, 1) := by decide +kernel
theorem dX7_size_0 : decode cX7_size 0 = .ok (.aload_n 0, 1) := by decide +kernel
theorem dX7_size_1 : decode cX7_size 1 = .ok (.iconst 0, 1) := by decide +kernel
theorem dX7_size_2 : decode cX7_size 2 = .ok (.putfield 42, 3) := by decide +kernel
theorem dX7_size_5 : decode cX7_size 5 = .ok (.aload_n 0, 1) := by decide +kernel
theorem dX7_size_6 : decode cX7_size 6 = .ok (.iload_n 1, 1) := by decide +kernel
theorem dX7_size_7 : decode cX7_size 7 = .ok (.iconst 0, 1) := by decide +kernel
theorem dX7_size_8 : decode cX7_size 8 = .ok (.iconst 3, 1) := by decide +kernel
theorem dX7_size_9 : decode cX7_size 9 = .ok (.invokestatic 81, 3) := by decide +kernel
theorem dX7_size_12 : decode cX7_size 12 = .ok (.ifCond .ne 7, 3) := by decide +kernel
theorem dX7_size_15 : decode cX7_size 15 = .ok (.iconst 1, 1) := by decide +kernel
theorem dX7_size_16 : decode cX7_size 16 = .ok (.goto 4, 3) := by decide +kernel
theorem dX7_size_19 : decode cX7_size 19 = .ok (.iconst 0, 1) := by decide +kernel
theorem dX7_size_20 : decode cX7_size 20 = .ok (.iconst 1, 1) := by decide +kernel
theorem dX7_size_21 : decode cX7_size 21 = .ok (.iconst 1, 1) := by decide +kernel
theorem dX7_size_22 : decode cX7_size 22 = .ok (.invokevirtual 164, 3) := by decide +kernel
theorem dX7_size_25 : decode cX7_size 25 = .ok (.ifCond .eq 5, 3) := by decide +kernel
theorem dX7_size_28 : decode cX7_size 28 = .ok (.lconst 0, 1) := by decide +kernel
theorem dX7_size_29 : decode cX7_size 29 = .ok (.lreturn, 1) := by decide +kernel
theorem dX7_size_30 : decode cX7_size 30 = .ok (.aload_n 0, 1) := by decide +kernel
theorem dX7_size_31 : decode cX7_size 31 = .ok (.invokevirtual 264, 3) := by decide +kernel
theorem dX7_size_34 : decode cX7_size 34 = .ok (.iconst 0, 1) := by decide +kernel
theorem dX7_size_35 : decode cX7_size 35 = .ok (.istore_n 2, 1) := by decide +kernel
theorem dX7_size_36 : decode cX7_size 36 = .ok (.iload_n 2, 1) := by decide +kernel
theorem dX7_size_37 : decode cX7_size 37 = .ok (.aload_n 0, 1) := by decide +kernel
theorem dX7_size_38 : decode cX7_size 38 = .ok (.getfield 20, 3) := by decide +kernel
theorem dX7_size_41 : decode cX7_size 41 = .ok (.iconst 3, 1) := by decide +kernel
theorem dX7_size_42 : decode cX7_size 42 = .ok (.iaload, 1) := by decide +kernel
theorem dX7_size_43 : decode cX7_size 43 = .ok (.if_icmp .ge 52, 3) := by decide +kernel
theorem dX7_size_46 : decode cX7_size 46 = .ok (.aload_n 0, 1) := by decide +kernel
theorem dX7_size_47 : decode cX7_size 47 = .ok (.iload_n 1, 1) := by decide +kernel
theorem dX7_size_48 : decode cX7_size 48 = .ok (.iconst 2, 1) := by decide +kernel
theorem dX7_size_49 : decode cX7_size 49 = .ok (.if_icmp .ge 20, 3) := by decide +kernel
theorem dX7_size_52 : decode cX7_size 52 = .ok (.aload_n 0, 1) := by decide +kernel
theorem dX7_size_53 : decode cX7_size 53 = .ok (.aload_n 0, 1) := by decide +kernel
theorem dX7_size_54 : decode cX7_size 54 = .ok (.getfield 20, 3) := by decide +kernel
theorem dX7_size_57 : decode cX7_size 57 = .ok (.bipush 99, 2) := by decide +kernel
