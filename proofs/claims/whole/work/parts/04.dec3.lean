theorem dX7_size_59 : decode cX7_size 59 = .ok (.iload_n 2, 1) := by decide +kernel
theorem dX7_size_60 : decode cX7_size 60 = .ok (.iadd, 1) := by decide +kernel
theorem dX7_size_61 : decode cX7_size 61 = .ok (.iaload, 1) := by decide +kernel
theorem dX7_size_62 : decode cX7_size 62 = .ok (.iconst 0, 1) := by decide +kernel
theorem dX7_size_63 : decode cX7_size 63 = .ok (.invokevirtual 219, 3) := by decide +kernel
theorem dX7_size_66 : decode cX7_size 66 = .ok (.goto 20, 3) := by decide +kernel
theorem dX7_size_69 : decode cX7_size 69 = .ok (.aload_n 0, 1) := by decide +kernel
theorem dX7_size_70 : decode cX7_size 70 = .ok (.getfield 20, 3) := by decide +kernel
theorem dX7_size_73 : decode cX7_size 73 = .ok (.bipush 107, 2) := by decide +kernel
theorem dX7_size_75 : decode cX7_size 75 = .ok (.aload_n 0, 1) := by decide +kernel
theorem dX7_size_76 : decode cX7_size 76 = .ok (.getfield 20, 3) := by decide +kernel
theorem dX7_size_79 : decode cX7_size 79 = .ok (.bipush 99, 2) := by decide +kernel
theorem dX7_size_81 : decode cX7_size 81 = .ok (.iload_n 2, 1) := by decide +kernel
theorem dX7_size_82 : decode cX7_size 82 = .ok (.iadd, 1) := by decide +kernel
theorem dX7_size_83 : decode cX7_size 83 = .ok (.iaload, 1) := by decide +kernel
theorem dX7_size_84 : decode cX7_size 84 = .ok (.iadd, 1) := by decide +kernel
theorem dX7_size_85 : decode cX7_size 85 = .ok (.iaload, 1) := by decide +kernel
theorem dX7_size_86 : decode cX7_size 86 = .ok (.invokevirtual 267, 3) := by decide +kernel
theorem dX7_size_89 : decode cX7_size 89 = .ok (.iinc 2 1, 3) := by decide +kernel
theorem dX7_size_92 : decode cX7_size 92 = .ok (.goto (-56), 3) := by decide +kernel
theorem dX7_size_95 : decode cX7_size 95 = .ok (.aload_n 0, 1) := by decide +kernel
theorem dX7_size_96 : decode cX7_size 96 = .ok (.getfield 258, 3) := by decide +kernel
theorem dX7_size_99 : decode cX7_size 99 = .ok (.aload_n 0, 1) := by decide +kernel
theorem dX7_size_100 : decode cX7_size 100 = .ok (.getfield 258, 3) := by decide +kernel
theorem dX7_size_103 : decode cX7_size 103 = .ok (.lmul, 1) := by decide +kernel
theorem dX7_size_104 : decode cX7_size 104 = .ok (.aload_n 0, 1) := by decide +kernel
theorem dX7_size_105 : decode cX7_size 105 = .ok (.getfield 261, 3) := by decide +kernel
theorem dX7_size_108 : decode cX7_size 108 = .ok (.iload_n 1, 1) := by decide +kernel
theorem dX7_size_109 : decode cX7_size 109 = .ok (.iconst 2, 1) := by decide +kernel
theorem dX7_size_110 : decode cX7_size 110 = .ok (.irem, 1) := by decide +kernel
theorem dX7_size_111 : decode cX7_size 111 = .ok (.invokestatic 254, 3) := by decide +kernel
theorem dX7_size_114 : decode cX7_size 114 = .ok (.lreturn, 1) := by decide +kernel
theorem dX7_fairest_0 : decode cX7_fairest 0 = .ok (.aload_n 0, 1) := by decide +kernel
theorem dX7_fairest_1 : decode cX7_fairest 1 = .ok (.iconst 0, 1) := by decide +kernel
theorem dX7_fairest_2 : decode cX7_fairest 2 = .ok (.putfield 42, 3) := by decide +kernel
theorem dX7_fairest_5 : decode cX7_fairest 5 = .ok (.aload_n 0, 1) := by decide +kernel
theorem dX7_fairest_6 : decode cX7_fairest 6 = .ok (.iload_n 1, 1) := by decide +kernel
theorem dX7_fairest_7 : decode cX7_fairest 7 = .ok (.iconst 2, 1) := by decide +kernel
theorem dX7_fairest_8 : decode cX7_fairest 8 = .ok (.bipush 8, 2) := by decide +kernel
theorem dX7_fairest_10 : decode cX7_fairest 10 = .ok (.invokestatic 81, 3) := by decide +kernel
theorem dX7_fairest_13 : decode cX7_fairest 13 = .ok (.ifCond .eq 12, 3) := by decide +kernel
theorem dX7_fairest_16 : decode cX7_fairest 16 = .ok (.iload_n 2, 1) := by decide +kernel
theorem dX7_fairest_17 : decode cX7_fairest 17 = .ok (.iconst 0, 1) := by decide +kernel
theorem dX7_fairest_18 : decode cX7_fairest 18 = .ok (.iconst 2, 1) := by decide +kernel
theorem dX7_fairest_19 : decode cX7_fairest 19 = .ok (.invokestatic 81, 3) := by decide +kernel
theorem dX7_fairest_22 : decode cX7_fairest 22 = .ok (.ifCond .ne 7, 3) := by decide +kernel
theorem dX7_fairest_25 : decode cX7_fairest 25 = .ok (.iconst 1, 1) := by decide +kernel
theorem dX7_fairest_26 : decode cX7_fairest 26 = .ok (.goto 4, 3) := by decide +kernel
theorem dX7_fairest_29 : decode cX7_fairest 29 = .ok (.iconst 0, 1) := by decide +kernel
theorem dX7_fairest_30 : decode cX7_fairest 30 = .ok (.iconst 1, 1) := by decide +kernel
theorem dX7_fairest_31 : decode cX7_fairest 31 = .ok (.iconst 1, 1) := by decide +kernel
theorem dX7_fairest_32 : decode cX7_fairest 32 = .ok (.invokevirtual 164, 3) := by decide +kernel
theorem dX7_fairest_35 : decode cX7_fairest 35 = .ok (.ifCond .eq 5, 3) := by decide +kernel
theorem dX7_fairest_38 : decode cX7_fairest 38 = .ok (.lconst 0, 1) := by decide +kernel
theorem dX7_fairest_39 : decode cX7_fairest 39 = .ok (.lreturn, 1) := by decide +kernel
theorem dX7_fairest_40 : decode cX7_fairest 40 = .ok (.iconst (-1), 1) := by decide +kernel
theorem dX7_fairest_41 : decode cX7_fairest 41 = .ok (.istore_n 3, 1) := by decide +kernel
theorem dX7_fairest_42 : decode cX7_fairest 42 = .ok (.lconst 0, 1) := by decide +kernel
theorem dX7_fairest_43 : decode cX7_fairest 43 = .ok (.lstore 4, 2) := by decide +kernel
theorem dX7_fairest_45 : decode cX7_fairest 45 = .ok (.lconst 1, 1) := by decide +kernel
theorem dX7_fairest_46 : decode cX7_fairest 46 = .ok (.lstore 6, 2) := by decide +kernel
theorem dX7_fairest_48 : decode cX7_fairest 48 = .ok (.iconst 0, 1) := by decide +kernel
theorem dX7_fairest_49 : decode cX7_fairest 49 = .ok (.istore 8, 2) := by decide +kernel
theorem dX7_fairest_51 : decode cX7_fairest 51 = .ok (.iload 8, 2) := by decide +kernel
theorem dX7_fairest_53 : decode cX7_fairest 53 = .ok (.iconst 1, 1) := by decide +kernel
theorem dX7_fairest_54 : decode cX7_fairest 54 = .ok (.aload_n 0, 1) := by decide +kernel
theorem dX7_fairest_55 : decode cX7_fairest 55 = .ok (.invokevirtual 180, 3) := by decide +kernel
theorem dX7_fairest_58 : decode cX7_fairest 58 = .ok (.ishl, 1) := by decide +kernel
theorem dX7_fairest_59 : decode cX7_fairest 59 = .ok (.if_icmp .ge 165, 3) := by decide +kernel
theorem dX7_fairest_62 : decode cX7_fairest 62 = .ok (.iconst 0, 1) := by decide +kernel
theorem dX7_fairest_63 : decode cX7_fairest 63 = .ok (.istore 9, 2) := by decide +kernel
theorem dX7_fairest_65 : decode cX7_fairest 65 = .ok (.iconst 1, 1) := by decide +kernel
theorem dX7_fairest_66 : decode cX7_fairest 66 = .ok (.istore 10, 2) := by decide +kernel
theorem dX7_fairest_68 : decode cX7_fairest 68 = .ok (.iload 10, 2) := by decide +kernel
theorem dX7_fairest_70 : decode cX7_fairest 70 = .ok (.bipush 16, 2) := by decide +kernel
theorem dX7_fairest_72 : decode cX7_fairest 72 = .ok (.if_icmp .ge 21, 3) := by decide +kernel
theorem dX7_fairest_75 : decode cX7_fairest 75 = .ok (.iload 9, 2) := by decide +kernel
theorem dX7_fairest_77 : decode cX7_fairest 77 = .ok (.iload 8, 2) := by decide +kernel
theorem dX7_fairest_79 : decode cX7_fairest 79 = .ok (.iload 10, 2) := by decide +kernel
theorem dX7_fairest_81 : decode cX7_fairest 81 = .ok (.ishr, 1) := by decide +kernel
theorem dX7_fairest_82 : decode cX7_fairest 82 = .ok (.iconst 1, 1) := by decide +kernel
theorem dX7_fairest_83 : decode cX7_fairest 83 = .ok (.iand, 1) := by decide +kernel
theorem dX7_fairest_84 : decode cX7_fairest 84 = .ok (.iadd, 1) := by decide +kernel
theorem dX7_fairest_85 : decode cX7_fairest 85 = .ok (.istore 9, 2) := by decide +kernel
theorem dX7_fairest_87 : decode cX7_fairest 87 = .ok (.iinc 10 1, 3) := by decide +kernel
theorem dX7_fairest_90 : decode cX7_fairest 90 = .ok (.goto (-22), 3) := by decide +kernel
theorem dX7_fairest_93 : decode cX7_fairest 93 = .ok (.iload 9, 2) := by decide +kernel
theorem dX7_fairest_95 : decode cX7_fairest 95 = .ok (.iload_n 1, 1) := by decide +kernel
theorem dX7_fairest_96 : decode cX7_fairest 96 = .ok (.iconst 1, 1) := by decide +kernel
theorem dX7_fairest_97 : decode cX7_fairest 97 = .ok (.isub, 1) := by decide +kernel
theorem dX7_fairest_98 : decode cX7_fairest 98 = .ok (.if_icmp .eq 6, 3) := by decide +kernel
theorem dX7_fairest_101 : decode cX7_fairest 101 = .ok (.goto 117, 3) := by decide +kernel
theorem dX7_fairest_104 : decode cX7_fairest 104 = .ok (.aload_n 0, 1) := by decide +kernel
theorem dX7_fairest_105 : decode cX7_fairest 105 = .ok (.invokevirtual 264, 3) := by decide +kernel
theorem dX7_fairest_108 : decode cX7_fairest 108 = .ok (.iconst 0, 1) := by decide +kernel
theorem dX7_fairest_109 : decode cX7_fairest 109 = .ok (.istore 10, 2) := by decide +kernel
theorem dX7_fairest_111 : decode cX7_fairest 111 = .ok (.iload 10, 2) := by decide +kernel
theorem dX7_fairest_113 : decode cX7_fairest 113 = .ok (.aload_n 0, 1) := by decide +kernel
theorem dX7_fairest_114 : decode cX7_fairest 114 = .ok (.invokevirtual 180, 3) := by decide +kernel
theorem dX7_fairest_117 : decode cX7_fairest 117 = .ok (.if_icmp .ge 36, 3) := by decide +kernel
theorem dX7_fairest_120 : decode cX7_fairest 120 = .ok (.iload 10, 2) := by decide +kernel
theorem dX7_fairest_122 : decode cX7_fairest 122 = .ok (.ifCond .eq 14, 3) := by decide +kernel
theorem dX7_fairest_125 : decode cX7_fairest 125 = .ok (.iload 8, 2) := by decide +kernel
theorem dX7_fairest_127 : decode cX7_fairest 127 = .ok (.iload 10, 2) := by decide +kernel
theorem dX7_fairest_129 : decode cX7_fairest 129 = .ok (.ishr, 1) := by decide +kernel
theorem dX7_fairest_130 : decode cX7_fairest 130 = .ok (.iconst 1, 1) := by decide +kernel
theorem dX7_fairest_131 : decode cX7_fairest 131 = .ok (.iand, 1) := by decide +kernel
theorem dX7_fairest_132 : decode cX7_fairest 132 = .ok (.iconst 1, 1) := by decide +kernel
theorem dX7_fairest_133 : decode cX7_fairest 133 = .ok (.if_icmp .ne 14, 3) := by decide +kernel
theorem dX7_fairest_136 : decode cX7_fairest 136 = .ok (.aload_n 0, 1) := by decide +kernel
theorem dX7_fairest_137 : decode cX7_fairest 137 = .ok (.aload_n 0, 1) := by decide +kernel
theorem dX7_fairest_138 : decode cX7_fairest 138 = .ok (.iload 10, 2) := by decide +kernel
theorem dX7_fairest_140 : decode cX7_fairest 140 = .ok (.iconst 0, 1) := by decide +kernel
theorem dX7_fairest_141 : decode cX7_fairest 141 = .ok (.invokevirtual 219, 3) := by decide +kernel
theorem dX7_fairest_144 : decode cX7_fairest 144 = .ok (.invokevirtual 267, 3) := by decide +kernel
theorem dX7_fairest_147 : decode cX7_fairest 147 = .ok (.iinc 10 1, 3) := by decide +kernel
theorem dX7_fairest_150 : decode cX7_fairest 150 = .ok (.goto (-39), 3) := by decide +kernel
theorem dX7_fairest_153 : decode cX7_fairest 153 = .ok (.aload_n 0, 1) := by decide +kernel
theorem dX7_fairest_154 : decode cX7_fairest 154 = .ok (.getfield 261, 3) := by decide +kernel
theorem dX7_fairest_157 : decode cX7_fairest 157 = .ok (.lconst 0, 1) := by decide +kernel
theorem dX7_fairest_158 : decode cX7_fairest 158 = .ok (.lcmp, 1) := by decide +kernel
theorem dX7_fairest_159 : decode cX7_fairest 159 = .ok (.ifCond .ne 8, 3) := by decide +kernel
theorem dX7_fairest_162 : decode cX7_fairest 162 = .ok (.aload_n 0, 1) := by decide +kernel
theorem dX7_fairest_163 : decode cX7_fairest 163 = .ok (.lconst 1, 1) := by decide +kernel
theorem dX7_fairest_164 : decode cX7_fairest 164 = .ok (.putfield 261, 3) := by decide +kernel
theorem dX7_fairest_167 : decode cX7_fairest 167 = .ok (.iload_n 3, 1) := by decide +kernel
theorem dX7_fairest_168 : decode cX7_fairest 168 = .ok (.iconst (-1), 1) := by decide +kernel
theorem dX7_fairest_169 : decode cX7_fairest 169 = .ok (.if_icmp .eq 29, 3) := by decide +kernel
theorem dX7_fairest_172 : decode cX7_fairest 172 = .ok (.aload_n 0, 1) := by decide +kernel
theorem dX7_fairest_173 : decode cX7_fairest 173 = .ok (.getfield 258, 3) := by decide +kernel
theorem dX7_fairest_176 : decode cX7_fairest 176 = .ok (.aload_n 0, 1) := by decide +kernel
theorem dX7_fairest_177 : decode cX7_fairest 177 = .ok (.getfield 258, 3) := by decide +kernel
theorem dX7_fairest_180 : decode cX7_fairest 180 = .ok (.lmul, 1) := by decide +kernel
theorem dX7_fairest_181 : decode cX7_fairest 181 = .ok (.lload 6, 2) := by decide +kernel
theorem dX7_fairest_183 : decode cX7_fairest 183 = .ok (.lmul, 1) := by decide +kernel
theorem dX7_fairest_184 : decode cX7_fairest 184 = .ok (.lload 4, 2) := by decide +kernel
theorem dX7_fairest_186 : decode cX7_fairest 186 = .ok (.aload_n 0, 1) := by decide +kernel
theorem dX7_fairest_187 : decode cX7_fairest 187 = .ok (.getfield 261, 3) := by decide +kernel
theorem dX7_fairest_190 : decode cX7_fairest 190 = .ok (.lmul, 1) := by decide +kernel
theorem dX7_fairest_191 : decode cX7_fairest 191 = .ok (.lcmp, 1) := by decide +kernel
theorem dX7_fairest_192 : decode cX7_fairest 192 = .ok (.ifCond .gt 6, 3) := by decide +kernel
theorem dX7_fairest_195 : decode cX7_fairest 195 = .ok (.goto 23, 3) := by decide +kernel
theorem dX7_fairest_198 : decode cX7_fairest 198 = .ok (.iload 8, 2) := by decide +kernel
theorem dX7_fairest_200 : decode cX7_fairest 200 = .ok (.istore_n 3, 1) := by decide +kernel
theorem dX7_fairest_201 : decode cX7_fairest 201 = .ok (.aload_n 0, 1) := by decide +kernel
theorem dX7_fairest_202 : decode cX7_fairest 202 = .ok (.getfield 258, 3) := by decide +kernel
theorem dX7_fairest_205 : decode cX7_fairest 205 = .ok (.aload_n 0, 1) := by decide +kernel
theorem dX7_fairest_206 : decode cX7_fairest 206 = .ok (.getfield 258, 3) := by decide +kernel
theorem dX7_fairest_209 : decode cX7_fairest 209 = .ok (.lmul, 1) := by decide +kernel
theorem dX7_fairest_210 : decode cX7_fairest 210 = .ok (.lstore 4, 2) := by decide +kernel
theorem dX7_fairest_212 : decode cX7_fairest 212 = .ok (.aload_n 0, 1) := by decide +kernel
theorem dX7_fairest_213 : decode cX7_fairest 213 = .ok (.getfield 261, 3) := by decide +kernel
theorem dX7_fairest_216 : decode cX7_fairest 216 = .ok (.lstore 6, 2) := by decide +kernel
theorem dX7_fairest_218 : decode cX7_fairest 218 = .ok (.iinc 8 2, 3) := by decide +kernel
theorem dX7_fairest_221 : decode cX7_fairest 221 = .ok (.goto (-170), 3) := by decide +kernel
theorem dX7_fairest_224 : decode cX7_fairest 224 = .ok (.iload_n 3, 1) := by decide +kernel
theorem dX7_fairest_225 : decode cX7_fairest 225 = .ok (.iconst (-1), 1) := by decide +kernel
theorem dX7_fairest_226 : decode cX7_fairest 226 = .ok (.if_icmp .ne 9, 3) := by decide +kernel
theorem dX7_fairest_229 : decode cX7_fairest 229 = .ok (.ldc2_w 270, 3) := by decide +kernel
theorem dX7_fairest_232 : decode cX7_fairest 232 = .ok (.goto 22, 3) := by decide +kernel
theorem dX7_fairest_235 : decode cX7_fairest 235 = .ok (.iload_n 2, 1) := by decide +kernel
theorem dX7_fairest_236 : decode cX7_fairest 236 = .ok (.ifCond .ne 8, 3) := by decide +kernel
theorem dX7_fairest_239 : decode cX7_fairest 239 = .ok (.iload_n 3, 1) := by decide +kernel
theorem dX7_fairest_240 : decode cX7_fairest 240 = .ok (.i2l, 1) := by decide +kernel
theorem dX7_fairest_241 : decode cX7_fairest 241 = .ok (.goto 13, 3) := by decide +kernel
theorem dX7_fairest_244 : decode cX7_fairest 244 = .ok (.lload 4, 2) := by decide +kernel
theorem dX7_fairest_246 : decode cX7_fairest 246 = .ok (.lload 6, 2) := by decide +kernel
theorem dX7_fairest_248 : decode cX7_fairest 248 = .ok (.iload_n 2, 1) := by decide +kernel
theorem dX7_fairest_249 : decode cX7_fairest 249 = .ok (.iconst 1, 1) := by decide +kernel
theorem dX7_fairest_250 : decode cX7_fairest 250 = .ok (.isub, 1) := by decide +kernel
theorem dX7_fairest_251 : decode cX7_fairest 251 = .ok (.invokestatic 254, 3) := by decide +kernel
theorem dX7_fairest_254 : decode cX7_fairest 254 = .ok (.lreturn, 1) := by decide +kernel
theorem dX7_isHidden_0 : decode cX7_isHidden 0 = .ok (.aload_n 0, 1) := by decide +kernel
theorem dX7_isHidden_1 : decode cX7_isHidden 1 = .ok (.iconst 0, 1) := by decide +kernel
theorem dX7_isHidden_2 : decode cX7_isHidden 2 = .ok (.invokevirtual 210, 3) := by decide +kernel
theorem dX7_isHidden_5 : decode cX7_isHidden 5 = .ok (.iconst (-1), 1) := by decide +kernel
theorem dX7_isHidden_6 : decode cX7_isHidden 6 = .ok (.if_icmp .ne 7, 3) := by decide +kernel
theorem dX7_isHidden_9 : decode cX7_isHidden 9 = .ok (.iconst 1, 1) := by decide +kernel
theorem dX7_isHidden_10 : decode cX7_isHidden 10 = .ok (.goto 4, 3) := by decide +kernel
theorem dX7_isHidden_13 : decode cX7_isHidden 13 = .ok (.iconst 0, 1) := by decide +kernel
theorem dX7_isHidden_14 : decode cX7_isHidden 14 = .ok (.ireturn, 1) := by decide +kernel
theorem dX7_suspectBy_0 : decode cX7_suspectBy 0 = .ok (.aload_n 0, 1) := by decide +kernel
theorem dX7_suspectBy_1 : decode cX7_suspectBy 1 = .ok (.iload_n 2, 1) := by decide +kernel
theorem dX7_suspectBy_2 : decode cX7_suspectBy 2 = .ok (.iload_n 3, 1) := by decide +kernel
theorem dX7_suspectBy_3 : decode cX7_suspectBy 3 = .ok (.invokevirtual 242, 3) := by decide +kernel
theorem dX7_suspectBy_6 : decode cX7_suspectBy 6 = .ok (.aload_n 0, 1) := by decide +kernel
theorem dX7_suspectBy_7 : decode cX7_suspectBy 7 = .ok (.iload_n 1, 1) := by decide +kernel
theorem dX7_suspectBy_8 : decode cX7_suspectBy 8 = .ok (.aload_n 0, 1) := by decide +kernel
theorem dX7_suspectBy_9 : decode cX7_suspectBy 9 = .ok (.iconst 0, 1) := by decide +kernel
theorem dX7_suspectBy_10 : decode cX7_suspectBy 10 = .ok (.invokevirtual 210, 3) := by decide +kernel
theorem dX7_suspectBy_13 : decode cX7_suspectBy 13 = .ok (.iload 4, 2) := by decide +kernel
theorem dX7_suspectBy_15 : decode cX7_suspectBy 15 = .ok (.invokevirtual 246, 3) := by decide +kernel
theorem dX7_suspectBy_18 : decode cX7_suspectBy 18 = .ok (.lreturn, 1) := by decide +kernel
theorem dX7_odds_0 : decode cX7_odds 0 = .ok (.aload_n 0, 1) := by decide +kernel
theorem dX7_odds_1 : decode cX7_odds 1 = .ok (.iconst 0, 1) := by decide +kernel
theorem dX7_odds_2 : decode cX7_odds 2 = .ok (.putfield 42, 3) := by decide +kernel
theorem dX7_odds_5 : decode cX7_odds 5 = .ok (.aload_n 0, 1) := by decide +kernel
theorem dX7_odds_6 : decode cX7_odds 6 = .ok (.iload_n 1, 1) := by decide +kernel
theorem dX7_odds_7 : decode cX7_odds 7 = .ok (.invokestatic 239, 3) := by decide +kernel
theorem dX7_odds_10 : decode cX7_odds 10 = .ok (.ifCond .eq 11, 3) := by decide +kernel
theorem dX7_odds_13 : decode cX7_odds 13 = .ok (.iload 4, 2) := by decide +kernel
theorem dX7_odds_15 : decode cX7_odds 15 = .ok (.invokestatic 239, 3) := by decide +kernel
theorem dX7_odds_18 : decode cX7_odds 18 = .ok (.ifCond .ne 7, 3) := by decide +kernel
theorem dX7_odds_21 : decode cX7_odds 21 = .ok (.iconst 1, 1) := by decide +kernel
theorem dX7_odds_22 : decode cX7_odds 22 = .ok (.goto 4, 3) := by decide +kernel
theorem dX7_odds_25 : decode cX7_odds 25 = .ok (.iconst 0, 1) := by decide +kernel
theorem dX7_odds_26 : decode cX7_odds 26 = .ok (.iconst 1, 1) := by decide +kernel
theorem dX7_odds_27 : decode cX7_odds 27 = .ok (.iconst 1, 1) := by decide +kernel
theorem dX7_odds_28 : decode cX7_odds 28 = .ok (.invokevirtual 164, 3) := by decide +kernel
theorem dX7_odds_31 : decode cX7_odds 31 = .ok (.ifCond .ne 16, 3) := by decide +kernel
theorem dX7_odds_34 : decode cX7_odds 34 = .ok (.aload_n 0, 1) := by decide +kernel
theorem dX7_odds_35 : decode cX7_odds 35 = .ok (.aload_n 0, 1) := by decide +kernel
theorem dX7_odds_36 : decode cX7_odds 36 = .ok (.invokevirtual 272, 3) := by decide +kernel
theorem dX7_odds_39 : decode cX7_odds 39 = .ok (.iconst 2, 1) := by decide +kernel
theorem dX7_odds_40 : decode cX7_odds 40 = .ok (.iconst 2, 1) := by decide +kernel
theorem dX7_odds_41 : decode cX7_odds 41 = .ok (.invokevirtual 164, 3) := by decide +kernel
theorem dX7_odds_44 : decode cX7_odds 44 = .ok (.ifCond .eq 5, 3) := by decide +kernel
theorem dX7_odds_47 : decode cX7_odds 47 = .ok (.lconst 0, 1) := by decide +kernel
theorem dX7_odds_48 : decode cX7_odds 48 = .ok (.lreturn, 1) := by decide +kernel
theorem dX7_odds_49 : decode cX7_odds 49 = .ok (.aload_n 0, 1) := by decide +kernel
theorem dX7_odds_50 : decode cX7_odds 50 = .ok (.iload_n 1, 1) := by decide +kernel
theorem dX7_odds_51 : decode cX7_odds 51 = .ok (.iconst 1, 1) := by decide +kernel
theorem dX7_odds_52 : decode cX7_odds 52 = .ok (.iload_n 2, 1) := by decide +kernel
theorem dX7_odds_53 : decode cX7_odds 53 = .ok (.aload_n 0, 1) := by decide +kernel
theorem dX7_odds_54 : decode cX7_odds 54 = .ok (.getfield 20, 3) := by decide +kernel
theorem dX7_odds_57 : decode cX7_odds 57 = .ok (.iconst 5, 1) := by decide +kernel
theorem dX7_odds_58 : decode cX7_odds 58 = .ok (.iaload, 1) := by decide +kernel
theorem dX7_odds_59 : decode cX7_odds 59 = .ok (.invokevirtual 275, 3) := by decide +kernel
theorem dX7_odds_62 : decode cX7_odds 62 = .ok (.lstore 5, 2) := by decide +kernel
theorem dX7_odds_64 : decode cX7_odds 64 = .ok (.aload_n 0, 1) := by decide +kernel
theorem dX7_odds_65 : decode cX7_odds 65 = .ok (.iload_n 1, 1) := by decide +kernel
theorem dX7_odds_66 : decode cX7_odds 66 = .ok (.iconst 0, 1) := by decide +kernel
theorem dX7_odds_67 : decode cX7_odds 67 = .ok (.iload_n 2, 1) := by decide +kernel
theorem dX7_odds_68 : decode cX7_odds 68 = .ok (.aload_n 0, 1) := by decide +kernel
theorem dX7_odds_69 : decode cX7_odds 69 = .ok (.getfield 20, 3) := by decide +kernel
theorem dX7_odds_72 : decode cX7_odds 72 = .ok (.iconst 5, 1) := by decide +kernel
theorem dX7_odds_73 : decode cX7_odds 73 = .ok (.iaload, 1) := by decide +kernel
theorem dX7_odds_74 : decode cX7_odds 74 = .ok (.invokevirtual 275, 3) := by decide +kernel
theorem dX7_odds_77 : decode cX7_odds 77 = .ok (.lstore 7, 2) := by decide +kernel
theorem dX7_odds_79 : decode cX7_odds 79 = .ok (.iload_n 3, 1) := by decide +kernel
theorem dX7_odds_80 : decode cX7_odds 80 = .ok (.ifCond .ne 21, 3) := by decide +kernel
theorem dX7_odds_83 : decode cX7_odds 83 = .ok (.aload_n 0, 1) := by decide +kernel
theorem dX7_odds_84 : decode cX7_odds 84 = .ok (.invokevirtual 250, 3) := by decide +kernel
theorem dX7_odds_87 : decode cX7_odds 87 = .ok (.lload 5, 2) := by decide +kernel
theorem dX7_odds_89 : decode cX7_odds 89 = .ok (.lsub, 1) := by decide +kernel
theorem dX7_odds_90 : decode cX7_odds 90 = .ok (.lstore 5, 2) := by decide +kernel
theorem dX7_odds_92 : decode cX7_odds 92 = .ok (.aload_n 0, 1) := by decide +kernel
theorem dX7_odds_93 : decode cX7_odds 93 = .ok (.invokevirtual 250, 3) := by decide +kernel
theorem dX7_odds_96 : decode cX7_odds 96 = .ok (.lload 7, 2) := by decide +kernel
theorem dX7_odds_98 : decode cX7_odds 98 = .ok (.lsub, 1) := by decide +kernel
theorem dX7_odds_99 : decode cX7_odds 99 = .ok (.lstore 7, 2) := by decide +kernel
theorem dX7_odds_101 : decode cX7_odds 101 = .ok (.aload_n 0, 1) := by decide +kernel
theorem dX7_odds_102 : decode cX7_odds 102 = .ok (.getfield 20, 3) := by decide +kernel
theorem dX7_odds_105 : decode cX7_odds 105 = .ok (.bipush 7, 2) := by decide +kernel
theorem dX7_odds_107 : decode cX7_odds 107 = .ok (.iaload, 1) := by decide +kernel
theorem dX7_odds_108 : decode cX7_odds 108 = .ok (.i2l, 1) := by decide +kernel
theorem dX7_odds_109 : decode cX7_odds 109 = .ok (.lload 5, 2) := by decide +kernel
theorem dX7_odds_111 : decode cX7_odds 111 = .ok (.lmul, 1) := by decide +kernel
theorem dX7_odds_112 : decode cX7_odds 112 = .ok (.aload_n 0, 1) := by decide +kernel
theorem dX7_odds_113 : decode cX7_odds 113 = .ok (.getfield 20, 3) := by decide +kernel
theorem dX7_odds_116 : decode cX7_odds 116 = .ok (.bipush 7, 2) := by decide +kernel
theorem dX7_odds_118 : decode cX7_odds 118 = .ok (.iaload, 1) := by decide +kernel
theorem dX7_odds_119 : decode cX7_odds 119 = .ok (.i2l, 1) := by decide +kernel
theorem dX7_odds_120 : decode cX7_odds 120 = .ok (.lload 5, 2) := by decide +kernel
theorem dX7_odds_122 : decode cX7_odds 122 = .ok (.lmul, 1) := by decide +kernel
theorem dX7_odds_123 : decode cX7_odds 123 = .ok (.bipush 100, 2) := by decide +kernel
theorem dX7_odds_125 : decode cX7_odds 125 = .ok (.aload_n 0, 1) := by decide +kernel
theorem dX7_odds_126 : decode cX7_odds 126 = .ok (.getfield 20, 3) := by decide +kernel
theorem dX7_odds_129 : decode cX7_odds 129 = .ok (.bipush 7, 2) := by decide +kernel
theorem dX7_odds_131 : decode cX7_odds 131 = .ok (.iaload, 1) := by decide +kernel
theorem dX7_odds_132 : decode cX7_odds 132 = .ok (.isub, 1) := by decide +kernel
theorem dX7_odds_133 : decode cX7_odds 133 = .ok (.i2l, 1) := by decide +kernel
theorem dX7_odds_134 : decode cX7_odds 134 = .ok (.lload 7, 2) := by decide +kernel
theorem dX7_odds_136 : decode cX7_odds 136 = .ok (.lmul, 1) := by decide +kernel
theorem dX7_odds_137 : decode cX7_odds 137 = .ok (.ladd, 1) := by decide +kernel
theorem dX7_odds_138 : decode cX7_odds 138 = .ok (.iload 4, 2) := by decide +kernel
theorem dX7_odds_140 : decode cX7_odds 140 = .ok (.invokestatic 254, 3) := by decide +kernel
theorem dX7_odds_143 : decode cX7_odds 143 = .ok (.lreturn, 1) := by decide +kernel
theorem dX7_cut_0 : decode cX7_cut 0 = .ok (.aload_n 0, 1) := by decide +kernel
theorem dX7_cut_1 : decode cX7_cut 1 = .ok (.iconst 0, 1) := by decide +kernel
theorem dX7_cut_2 : decode cX7_cut 2 = .ok (.putfield 42, 3) := by decide +kernel
theorem dX7_cut_5 : decode cX7_cut 5 = .ok (.aload_n 0, 1) := by decide +kernel
theorem dX7_cut_6 : decode cX7_cut 6 = .ok (.iload_n 1, 1) := by decide +kernel
theorem dX7_cut_7 : decode cX7_cut 7 = .ok (.invokestatic 239, 3) := by decide +kernel
theorem dX7_cut_10 : decode cX7_cut 10 = .ok (.ifCond .ne 7, 3) := by decide +kernel
theorem dX7_cut_13 : decode cX7_cut 13 = .ok (.iconst 1, 1) := by decide +kernel
theorem dX7_cut_14 : decode cX7_cut 14 = .ok (.goto 4, 3) := by decide +kernel
theorem dX7_cut_17 : decode cX7_cut 17 = .ok (.iconst 0, 1) := by decide +kernel
theorem dX7_cut_18 : decode cX7_cut 18 = .ok (.iconst 1, 1) := by decide +kernel
theorem dX7_cut_19 : decode cX7_cut 19 = .ok (.iconst 1, 1) := by decide +kernel
theorem dX7_cut_20 : decode cX7_cut 20 = .ok (.invokevirtual 164, 3) := by decide +kernel
theorem dX7_cut_23 : decode cX7_cut 23 = .ok (.ifCond .ne 16, 3) := by decide +kernel
theorem dX7_cut_26 : decode cX7_cut 26 = .ok (.aload_n 0, 1) := by decide +kernel
theorem dX7_cut_27 : decode cX7_cut 27 = .ok (.aload_n 0, 1) := by decide +kernel
theorem dX7_cut_28 : decode cX7_cut 28 = .ok (.invokevirtual 272, 3) := by decide +kernel
theorem dX7_cut_31 : decode cX7_cut 31 = .ok (.iconst 2, 1) := by decide +kernel
theorem dX7_cut_32 : decode cX7_cut 32 = .ok (.iconst 2, 1) := by decide +kernel
theorem dX7_cut_33 : decode cX7_cut 33 = .ok (.invokevirtual 164, 3) := by decide +kernel
theorem dX7_cut_36 : decode cX7_cut 36 = .ok (.ifCond .eq 5, 3) := by decide +kernel
theorem dX7_cut_39 : decode cX7_cut 39 = .ok (.iconst 0, 1) := by decide +kernel
theorem dX7_cut_40 : decode cX7_cut 40 = .ok (.ireturn, 1) := by decide +kernel
theorem dX7_cut_41 : decode cX7_cut 41 = .ok (.iconst 0, 1) := by decide +kernel
theorem dX7_cut_42 : decode cX7_cut 42 = .ok (.istore_n 2, 1) := by decide +kernel
theorem dX7_cut_43 : decode cX7_cut 43 = .ok (.lconst 0, 1) := by decide +kernel
theorem dX7_cut_44 : decode cX7_cut 44 = .ok (.lstore_n 3, 1) := by decide +kernel
theorem dX7_cut_45 : decode cX7_cut 45 = .ok (.iconst 0, 1) := by decide +kernel
theorem dX7_cut_46 : decode cX7_cut 46 = .ok (.istore 5, 2) := by decide +kernel
theorem dX7_cut_48 : decode cX7_cut 48 = .ok (.iload 5, 2) := by decide +kernel
theorem dX7_cut_50 : decode cX7_cut 50 = .ok (.bipush 120, 2) := by decide +kernel
theorem dX7_cut_52 : decode cX7_cut 52 = .ok (.if_icmp .gt 51, 3) := by decide +kernel
theorem dX7_cut_55 : decode cX7_cut 55 = .ok (.aload_n 0, 1) := by decide +kernel
theorem dX7_cut_56 : decode cX7_cut 56 = .ok (.iload_n 1, 1) := by decide +kernel
theorem dX7_cut_57 : decode cX7_cut 57 = .ok (.iconst 1, 1) := by decide +kernel
theorem dX7_cut_58 : decode cX7_cut 58 = .ok (.iconst 1, 1) := by decide +kernel
theorem dX7_cut_59 : decode cX7_cut 59 = .ok (.iload 5, 2) := by decide +kernel
theorem dX7_cut_61 : decode cX7_cut 61 = .ok (.invokevirtual 275, 3) := by decide +kernel
theorem dX7_cut_64 : decode cX7_cut 64 = .ok (.aload_n 0, 1) := by decide +kernel
theorem dX7_cut_65 : decode cX7_cut 65 = .ok (.iload_n 1, 1) := by decide +kernel
theorem dX7_cut_66 : decode cX7_cut 66 = .ok (.iconst 0, 1) := by decide +kernel
theorem dX7_cut_67 : decode cX7_cut 67 = .ok (.iconst 1, 1) := by decide +kernel
theorem dX7_cut_68 : decode cX7_cut 68 = .ok (.iload 5, 2) := by decide +kernel
theorem dX7_cut_70 : decode cX7_cut 70 = .ok (.invokevirtual 275, 3) := by decide +kernel
theorem dX7_cut_73 : decode cX7_cut 73 = .ok (.lsub, 1) := by decide +kernel
theorem dX7_cut_74 : decode cX7_cut 74 = .ok (.lstore 6, 2) := by decide +kernel
theorem dX7_cut_76 : decode cX7_cut 76 = .ok (.iload 5, 2) := by decide +kernel
theorem dX7_cut_78 : decode cX7_cut 78 = .ok (.ifCond .le 13, 3) := by decide +kernel
theorem dX7_cut_81 : decode cX7_cut 81 = .ok (.lload 6, 2) := by decide +kernel
theorem dX7_cut_83 : decode cX7_cut 83 = .ok (.lload_n 3, 1) := by decide +kernel
theorem dX7_cut_84 : decode cX7_cut 84 = .ok (.lcmp, 1) := by decide +kernel
theorem dX7_cut_85 : decode cX7_cut 85 = .ok (.ifCond .gt 6, 3) := by decide +kernel
theorem dX7_cut_88 : decode cX7_cut 88 = .ok (.goto 9, 3) := by decide +kernel
theorem dX7_cut_91 : decode cX7_cut 91 = .ok (.iload 5, 2) := by decide +kernel
theorem dX7_cut_93 : decode cX7_cut 93 = .ok (.istore_n 2, 1) := by decide +kernel
theorem dX7_cut_94 : decode cX7_cut 94 = .ok (.lload 6, 2) := by decide +kernel
theorem dX7_cut_96 : decode cX7_cut 96 = .ok (.lstore_n 3, 1) := by decide +kernel
theorem dX7_cut_97 : decode cX7_cut 97 = .ok (.iinc 5 1, 3) := by decide +kernel
theorem dX7_cut_100 : decode cX7_cut 100 = .ok (.goto (-52), 3) := by decide +kernel
theorem dX7_cut_103 : decode cX7_cut 103 = .ok (.iload_n 2, 1) := by decide +kernel
theorem dX7_cut_104 : decode cX7_cut 104 = .ok (.ireturn, 1) := by decide +kernel
theorem dX7_nudged_0 : decode cX7_nudged 0 = .ok (.aload_n 0, 1) := by decide +kernel
theorem dX7_nudged_1 : decode cX7_nudged 1 = .ok (.iconst 0, 1) := by decide +kernel
theorem dX7_nudged_2 : decode cX7_nudged 2 = .ok (.putfield 42, 3) := by decide +kernel
theorem dX7_nudged_5 : decode cX7_nudged 5 = .ok (.aload_n 0, 1) := by decide +kernel
theorem dX7_nudged_6 : decode cX7_nudged 6 = .ok (.iload_n 1, 1) := by decide +kernel
theorem dX7_nudged_7 : decode cX7_nudged 7 = .ok (.invokestatic 239, 3) := by decide +kernel
theorem dX7_nudged_10 : decode cX7_nudged 10 = .ok (.ifCond .ne 7, 3) := by decide +kernel
theorem dX7_nudged_13 : decode cX7_nudged 13 = .ok (.iconst 1, 1) := by decide +kernel
theorem dX7_nudged_14 : decode cX7_nudged 14 = .ok (.goto 4, 3) := by decide +kernel
theorem dX7_nudged_17 : decode cX7_nudged 17 = .ok (.iconst 0, 1) := by decide +kernel
theorem dX7_nudged_18 : decode cX7_nudged 18 = .ok (.iconst 1, 1) := by decide +kernel
theorem dX7_nudged_19 : decode cX7_nudged 19 = .ok (.iconst 1, 1) := by decide +kernel
theorem dX7_nudged_20 : decode cX7_nudged 20 = .ok (.invokevirtual 164, 3) := by decide +kernel
theorem dX7_nudged_23 : decode cX7_nudged 23 = .ok (.ifCond .ne 16, 3) := by decide +kernel
theorem dX7_nudged_26 : decode cX7_nudged 26 = .ok (.aload_n 0, 1) := by decide +kernel
theorem dX7_nudged_27 : decode cX7_nudged 27 = .ok (.aload_n 0, 1) := by decide +kernel
theorem dX7_nudged_28 : decode cX7_nudged 28 = .ok (.invokevirtual 272, 3) := by decide +kernel
theorem dX7_nudged_31 : decode cX7_nudged 31 = .ok (.iconst 2, 1) := by decide +kernel
theorem dX7_nudged_32 : decode cX7_nudged 32 = .ok (.iconst 2, 1) := by decide +kernel
theorem dX7_nudged_33 : decode cX7_nudged 33 = .ok (.invokevirtual 164, 3) := by decide +kernel
theorem dX7_nudged_36 : decode cX7_nudged 36 = .ok (.ifCond .eq 5, 3) := by decide +kernel
theorem dX7_nudged_39 : decode cX7_nudged 39 = .ok (.iconst 0, 1) := by decide +kernel
theorem dX7_nudged_40 : decode cX7_nudged 40 = .ok (.ireturn, 1) := by decide +kernel
theorem dX7_nudged_41 : decode cX7_nudged 41 = .ok (.aload_n 0, 1) := by decide +kernel
theorem dX7_nudged_42 : decode cX7_nudged 42 = .ok (.iload_n 1, 1) := by decide +kernel
theorem dX7_nudged_43 : decode cX7_nudged 43 = .ok (.iconst 0, 1) := by decide +kernel
theorem dX7_nudged_44 : decode cX7_nudged 44 = .ok (.iconst 0, 1) := by decide +kernel
theorem dX7_nudged_45 : decode cX7_nudged 45 = .ok (.aload_n 0, 1) := by decide +kernel
theorem dX7_nudged_46 : decode cX7_nudged 46 = .ok (.getfield 20, 3) := by decide +kernel
theorem dX7_nudged_49 : decode cX7_nudged 49 = .ok (.iconst 5, 1) := by decide +kernel
theorem dX7_nudged_50 : decode cX7_nudged 50 = .ok (.iaload, 1) := by decide +kernel
theorem dX7_nudged_51 : decode cX7_nudged 51 = .ok (.invokevirtual 275, 3) := by decide +kernel
theorem dX7_nudged_54 : decode cX7_nudged 54 = .ok (.aload_n 0, 1) := by decide +kernel
theorem dX7_nudged_55 : decode cX7_nudged 55 = .ok (.iload_n 1, 1) := by decide +kernel
theorem dX7_nudged_56 : decode cX7_nudged 56 = .ok (.iconst 0, 1) := by decide +kernel
theorem dX7_nudged_57 : decode cX7_nudged 57 = .ok (.iconst 1, 1) := by decide +kernel
theorem dX7_nudged_58 : decode cX7_nudged 58 = .ok (.aload_n 0, 1) := by decide +kernel
theorem dX7_nudged_59 : decode cX7_nudged 59 = .ok (.getfield 20, 3) := by decide +kernel
theorem dX7_nudged_62 : decode cX7_nudged 62 = .ok (.iconst 5, 1) := by decide +kernel
theorem dX7_nudged_63 : decode cX7_nudged 63 = .ok (.iaload, 1) := by decide +kernel
theorem dX7_nudged_64 : decode cX7_nudged 64 = .ok (.invokevirtual 275, 3) := by decide +kernel
theorem dX7_nudged_67 : decode cX7_nudged 67 = .ok (.lsub, 1) := by decide +kernel
theorem dX7_nudged_68 : decode cX7_nudged 68 = .ok (.lstore_n 2, 1) := by decide +kernel
theorem dX7_nudged_69 : decode cX7_nudged 69 = .ok (.ldc2_w 279, 3) := by decide +kernel
theorem dX7_nudged_72 : decode cX7_nudged 72 = .ok (.lload_n 2, 1) := by decide +kernel
theorem dX7_nudged_73 : decode cX7_nudged 73 = .ok (.lmul, 1) := by decide +kernel
theorem dX7_nudged_74 : decode cX7_nudged 74 = .ok (.aload_n 0, 1) := by decide +kernel
theorem dX7_nudged_75 : decode cX7_nudged 75 = .ok (.invokevirtual 250, 3) := by decide +kernel
theorem dX7_nudged_78 : decode cX7_nudged 78 = .ok (.ldiv, 1) := by decide +kernel
theorem dX7_nudged_79 : decode cX7_nudged 79 = .ok (.l2i, 1) := by decide +kernel
theorem dX7_nudged_80 : decode cX7_nudged 80 = .ok (.ireturn, 1) := by decide +kernel
theorem dX7_print_0 : decode cX7_print 0 = .ok (.aload_n 0, 1) := by decide +kernel
theorem dX7_print_1 : decode cX7_print 1 = .ok (.iconst 0, 1) := by decide +kernel
theorem dX7_print_2 : decode cX7_print 2 = .ok (.putfield 42, 3) := by decide +kernel
theorem dX7_print_5 : decode cX7_print 5 = .ok (.lconst 0, 1) := by decide +kernel
theorem dX7_print_6 : decode cX7_print 6 = .ok (.lstore_n 1, 1) := by decide +kernel
theorem dX7_print_7 : decode cX7_print 7 = .ok (.iconst 0, 1) := by decide +kernel
theorem dX7_print_8 : decode cX7_print 8 = .ok (.istore_n 3, 1) := by decide +kernel
theorem dX7_print_9 : decode cX7_print 9 = .ok (.iload_n 3, 1) := by decide +kernel
theorem dX7_print_10 : decode cX7_print 10 = .ok (.aload_n 0, 1) := by decide +kernel
theorem dX7_print_11 : decode cX7_print 11 = .ok (.getfield 20, 3) := by decide +kernel
theorem dX7_print_14 : decode cX7_print 14 = .ok (.iconst 3, 1) := by decide +kernel
theorem dX7_print_15 : decode cX7_print 15 = .ok (.iaload, 1) := by decide +kernel
theorem dX7_print_16 : decode cX7_print 16 = .ok (.if_icmp .ge 49, 3) := by decide +kernel
theorem dX7_print_19 : decode cX7_print 19 = .ok (.ldc2_w 281, 3) := by decide +kernel
theorem dX7_print_22 : decode cX7_print 22 = .ok (.ldc2_w 281, 3) := by decide +kernel
theorem dX7_print_25 : decode cX7_print 25 = .ok (.lload_n 1, 1) := by decide +kernel
theorem dX7_print_26 : decode cX7_print 26 = .ok (.lmul, 1) := by decide +kernel
theorem dX7_print_27 : decode cX7_print 27 = .ok (.aload_n 0, 1) := by decide +kernel
theorem dX7_print_28 : decode cX7_print 28 = .ok (.getfield 20, 3) := by decide +kernel
theorem dX7_print_31 : decode cX7_print 31 = .ok (.bipush 99, 2) := by decide +kernel
theorem dX7_print_33 : decode cX7_print 33 = .ok (.iload_n 3, 1) := by decide +kernel
theorem dX7_print_34 : decode cX7_print 34 = .ok (.iadd, 1) := by decide +kernel
theorem dX7_print_35 : decode cX7_print 35 = .ok (.iaload, 1) := by decide +kernel
theorem dX7_print_36 : decode cX7_print 36 = .ok (.i2l, 1) := by decide +kernel
theorem dX7_print_37 : decode cX7_print 37 = .ok (.ladd, 1) := by decide +kernel
theorem dX7_print_38 : decode cX7_print 38 = .ok (.lmul, 1) := by decide +kernel
theorem dX7_print_39 : decode cX7_print 39 = .ok (.aload_n 0, 1) := by decide +kernel
theorem dX7_print_40 : decode cX7_print 40 = .ok (.getfield 20, 3) := by decide +kernel
theorem dX7_print_43 : decode cX7_print 43 = .ok (.bipush 107, 2) := by decide +kernel
theorem dX7_print_45 : decode cX7_print 45 = .ok (.aload_n 0, 1) := by decide +kernel
theorem dX7_print_46 : decode cX7_print 46 = .ok (.getfield 20, 3) := by decide +kernel
theorem dX7_print_49 : decode cX7_print 49 = .ok (.bipush 99, 2) := by decide +kernel
theorem dX7_print_51 : decode cX7_print 51 = .ok (.iload_n 3, 1) := by decide +kernel
theorem dX7_print_52 : decode cX7_print 52 = .ok (.iadd, 1) := by decide +kernel
theorem dX7_print_53 : decode cX7_print 53 = .ok (.iaload, 1) := by decide +kernel
theorem dX7_print_54 : decode cX7_print 54 = .ok (.iadd, 1) := by decide +kernel
theorem dX7_print_55 : decode cX7_print 55 = .ok (.iaload, 1) := by decide +kernel
theorem dX7_print_56 : decode cX7_print 56 = .ok (.i2l, 1) := by decide +kernel
theorem dX7_print_57 : decode cX7_print 57 = .ok (.ladd, 1) := by decide +kernel
theorem dX7_print_58 : decode cX7_print 58 = .ok (.lstore_n 1, 1) := by decide +kernel
theorem dX7_print_59 : decode cX7_print 59 = .ok (.iinc 3 1, 3) := by decide +kernel
theorem dX7_print_62 : decode cX7_print 62 = .ok (.goto (-53), 3) := by decide +kernel
theorem dX7_print_65 : decode cX7_print 65 = .ok (.ldc2_w 281, 3) := by decide +kernel
theorem dX7_print_68 : decode cX7_print 68 = .ok (.lload_n 1, 1) := by decide +kernel
theorem dX7_print_69 : decode cX7_print 69 = .ok (.lmul, 1) := by decide +kernel
theorem dX7_print_70 : decode cX7_print 70 = .ok (.aload_n 0, 1) := by decide +kernel
theorem dX7_print_71 : decode cX7_print 71 = .ok (.getfield 20, 3) := by decide +kernel
theorem dX7_print_74 : decode cX7_print 74 = .ok (.iconst 5, 1) := by decide +kernel
theorem dX7_print_75 : decode cX7_print 75 = .ok (.iaload, 1) := by decide +kernel
theorem dX7_print_76 : decode cX7_print 76 = .ok (.i2l, 1) := by decide +kernel
theorem dX7_print_77 : decode cX7_print 77 = .ok (.ladd, 1) := by decide +kernel
theorem dX7_print_78 : decode cX7_print 78 = .ok (.lreturn, 1) := by decide +kernel
theorem dX7_status_0 : decode cX7_status 0 = .ok (.aload_n 0, 1) := by decide +kernel
theorem dX7_status_1 : decode cX7_status 1 = .ok (.iconst 0, 1) := by decide +kernel
theorem dX7_status_2 : decode cX7_status 2 = .ok (.putfield 42, 3) := by decide +kernel
theorem dX7_status_5 : decode cX7_status 5 = .ok (.iload_n 1, 1) := by decide +kernel
theorem dX7_status_6 : decode cX7_status 6 = .ok (.iconst 0, 1) := by decide +kernel
theorem dX7_status_7 : decode cX7_status 7 = .ok (.iconst 2, 1) := by decide +kernel
theorem dX7_status_8 : decode cX7_status 8 = .ok (.invokestatic 81, 3) := by decide +kernel
theorem dX7_status_11 : decode cX7_status 11 = .ok (.ifCond .eq 12, 3) := by decide +kernel
theorem dX7_status_14 : decode cX7_status 14 = .ok (.aload_n 0, 1) := by decide +kernel
theorem dX7_status_15 : decode cX7_status 15 = .ok (.getfield 9, 3) := by decide +kernel
theorem dX7_status_18 : decode cX7_status 18 = .ok (.iload_n 1, 1) := by decide +kernel
theorem dX7_status_19 : decode cX7_status 19 = .ok (.iaload, 1) := by decide +kernel
theorem dX7_status_20 : decode cX7_status 20 = .ok (.goto 4, 3) := by decide +kernel
theorem dX7_status_23 : decode cX7_status 23 = .ok (.iconst (-1), 1) := by decide +kernel
theorem dX7_status_24 : decode cX7_status 24 = .ok (.ireturn, 1) := by decide +kernel
theorem dJ9_abs_0f7a4_0 : decode cJ9_abs_0f7a4 0 = .ok (.iload_n 0, 1) := by decide +kernel
theorem dJ9_abs_0f7a4_1 : decode cJ9_abs_0f7a4 1 = .ok (.ifCond .ge 8, 3) := by decide +kernel
theorem dJ9_abs_0f7a4_4 : decode cJ9_abs_0f7a4 4 = .ok (.iload_n 0, 1) := by decide +kernel
theorem dJ9_abs_0f7a4_5 : decode cJ9_abs_0f7a4 5 = .ok (.ineg, 1) := by decide +kernel
theorem dJ9_abs_0f7a4_6 : decode cJ9_abs_0f7a4 6 = .ok (.goto 4, 3) := by decide +kernel
theorem dJ9_abs_0f7a4_9 : decode cJ9_abs_0f7a4 9 = .ok (.iload_n 0, 1) := by decide +kernel
theorem dJ9_abs_0f7a4_10 : decode cJ9_abs_0f7a4 10 = .ok (.ireturn, 1) := by decide +kernel
theorem dJ9_max_7cf53_0 : decode cJ9_max_7cf53 0 = .ok (.iload_n 0, 1) := by decide +kernel
theorem dJ9_max_7cf53_1 : decode cJ9_max_7cf53 1 = .ok (.iload_n 1, 1) := by decide +kernel
theorem dJ9_max_7cf53_2 : decode cJ9_max_7cf53 2 = .ok (.if_icmp .lt 7, 3) := by decide +kernel
theorem dJ9_max_7cf53_5 : decode cJ9_max_7cf53 5 = .ok (.iload_n 0, 1) := by decide +kernel
theorem dJ9_max_7cf53_6 : decode cJ9_max_7cf53 6 = .ok (.goto 4, 3) := by decide +kernel
theorem dJ9_max_7cf53_9 : decode cJ9_max_7cf53 9 = .ok (.iload_n 1, 1) := by decide +kernel
theorem dJ9_max_7cf53_10 : decode cJ9_max_7cf53 10 = .ok (.ireturn, 1) := by decide +kernel
theorem dJ9_max_f86c9_0 : decode cJ9_max_f86c9 0 = .ok (.lload_n 0, 1) := by decide +kernel
theorem dJ9_max_f86c9_1 : decode cJ9_max_f86c9 1 = .ok (.lload_n 2, 1) := by decide +kernel
theorem dJ9_max_f86c9_2 : decode cJ9_max_f86c9 2 = .ok (.lcmp, 1) := by decide +kernel
theorem dJ9_max_f86c9_3 : decode cJ9_max_f86c9 3 = .ok (.ifCond .lt 7, 3) := by decide +kernel
theorem dJ9_max_f86c9_6 : decode cJ9_max_f86c9 6 = .ok (.lload_n 0, 1) := by decide +kernel
theorem dJ9_max_f86c9_7 : decode cJ9_max_f86c9 7 = .ok (.goto 4, 3) := by decide +kernel
theorem dJ9_max_f86c9_10 : decode cJ9_max_f86c9 10 = .ok (.lload_n 2, 1) := by decide +kernel
theorem dJ9_max_f86c9_11 : decode cJ9_max_f86c9 11 = .ok (.lreturn, 1) := by decide +kernel
theorem dJ9_min_7cf53_0 : decode cJ9_min_7cf53 0 = .ok (.iload_n 0, 1) := by decide +kernel
theorem dJ9_min_7cf53_1 : decode cJ9_min_7cf53 1 = .ok (.iload_n 1, 1) := by decide +kernel
theorem dJ9_min_7cf53_2 : decode cJ9_min_7cf53 2 = .ok (.if_icmp .gt 7, 3) := by decide +kernel
theorem dJ9_min_7cf53_5 : decode cJ9_min_7cf53 5 = .ok (.iload_n 0, 1) := by decide +kernel
theorem dJ9_min_7cf53_6 : decode cJ9_min_7cf53 6 = .ok (.goto 4, 3) := by decide +kernel
theorem dJ9_min_7cf53_9 : decode cJ9_min_7cf53 9 = .ok (.iload_n 1, 1) := by decide +kernel
theorem dJ9_min_7cf53_10 : decode cJ9_min_7cf53 10 = .ok (.ireturn, 1) := by decide +kernel
theorem dJ9_min_f86c9_0 : decode cJ9_min_f86c9 0 = .ok (.lload_n 0, 1) := by decide +kernel
theorem dJ9_min_f86c9_1 : decode cJ9_min_f86c9 1 = .ok (.lload_n 2, 1) := by decide +kernel
theorem dJ9_min_f86c9_2 : decode cJ9_min_f86c9 2 = .ok (.lcmp, 1) := by decide +kernel
theorem dJ9_min_f86c9_3 : decode cJ9_min_f86c9 3 = .ok (.ifCond .gt 7, 3) := by decide +kernel
theorem dJ9_min_f86c9_6 : decode cJ9_min_f86c9 6 = .ok (.lload_n 0, 1) := by decide +kernel
theorem dJ9_min_f86c9_7 : decode cJ9_min_f86c9 7 = .ok (.goto 4, 3) := by decide +kernel
theorem dJ9_min_f86c9_10 : decode cJ9_min_f86c9 10 = .ok (.lload_n 2, 1) := by decide +kernel
theorem dJ9_min_f86c9_11 : decode cJ9_min_f86c9 11 = .ok (.lreturn, 1) := by decide +kernel
theorem dJ0_length_8abf5_0 : decode cJ0_length_8abf5 0 = .ok (.aload_n 0, 1) := by decide +kernel
theorem dJ0_length_8abf5_1 : decode cJ0_length_8abf5 1 = .ok (.getfield 9, 3) := by decide +kernel
theorem dJ0_length_8abf5_4 : decode cJ0_length_8abf5 4 = .ok (.arraylength, 1) := by decide +kernel
theorem dJ0_length_8abf5_5 : decode cJ0_length_8abf5 5 = .ok (.aload_n 0, 1) := by decide +kernel
theorem dJ0_length_8abf5_6 : decode cJ0_length_8abf5 6 = .ok (.invokevirtual 335, 3) := by decide +kernel
theorem dJ0_length_8abf5_9 : decode cJ0_length_8abf5 9 = .ok (.ishr, 1) := by decide +kernel
theorem dJ0_length_8abf5_10 : decode cJ0_length_8abf5 10 = .ok (.ireturn, 1) := by decide +kernel
theorem dJ0_charAt_5068e_0 : decode cJ0_charAt_5068e 0 = .ok (.aload_n 0, 1) := by decide +kernel
theorem dJ0_charAt_5068e_1 : decode cJ0_charAt_5068e 1 = .ok (.invokevirtual 492, 3) := by decide +kernel
theorem dJ0_charAt_5068e_4 : decode cJ0_charAt_5068e 4 = .ok (.ifCond .eq 12, 3) := by decide +kernel
theorem dJ0_charAt_5068e_7 : decode cJ0_charAt_5068e 7 = .ok (.aload_n 0, 1) := by decide +kernel
theorem dJ0_charAt_5068e_8 : decode cJ0_charAt_5068e 8 = .ok (.getfield 9, 3) := by decide +kernel
theorem dJ0_charAt_5068e_11 : decode cJ0_charAt_5068e 11 = .ok (.iload_n 1, 1) := by decide +kernel
theorem dJ0_charAt_5068e_12 : decode cJ0_charAt_5068e 12 = .ok (.invokestatic 495, 3) := by decide +kernel
theorem dJ0_charAt_5068e_15 : decode cJ0_charAt_5068e 15 = .ok (.ireturn, 1) := by decide +kernel
theorem dJ0_charAt_5068e_16 : decode cJ0_charAt_5068e 16 = .ok (.aload_n 0, 1) := by decide +kernel
theorem dJ0_charAt_5068e_17 : decode cJ0_charAt_5068e 17 = .ok (.getfield 9, 3) := by decide +kernel
theorem dJ0_charAt_5068e_20 : decode cJ0_charAt_5068e 20 = .ok (.iload_n 1, 1) := by decide +kernel
theorem dJ0_charAt_5068e_21 : decode cJ0_charAt_5068e 21 = .ok (.invokestatic 498, 3) := by decide +kernel
theorem dJ0_charAt_5068e_24 : decode cJ0_charAt_5068e 24 = .ok (.ireturn, 1) := by decide +kernel
theorem dJ0_coder_7d493_0 : decode cJ0_coder_7d493 0 = .ok (.getstatic 38, 3) := by decide +kernel
theorem dJ0_coder_7d493_3 : decode cJ0_coder_7d493 3 = .ok (.ifCond .eq 10, 3) := by decide +kernel
theorem dJ0_coder_7d493_6 : decode cJ0_coder_7d493 6 = .ok (.aload_n 0, 1) := by decide +kernel
theorem dJ0_coder_7d493_7 : decode cJ0_coder_7d493 7 = .ok (.getfield 15, 3) := by decide +kernel
theorem dJ0_coder_7d493_10 : decode cJ0_coder_7d493 10 = .ok (.goto 4, 3) := by decide +kernel
theorem dJ0_coder_7d493_13 : decode cJ0_coder_7d493 13 = .ok (.iconst 1, 1) := by decide +kernel
theorem dJ0_coder_7d493_14 : decode cJ0_coder_7d493 14 = .ok (.ireturn, 1) := by decide +kernel
theorem dJ0_isLatin1_aae02_0 : decode cJ0_isLatin1_aae02 0 = .ok (.getstatic 38, 3) := by decide +kernel
theorem dJ0_isLatin1_aae02_3 : decode cJ0_isLatin1_aae02 3 = .ok (.ifCond .eq 14, 3) := by decide +kernel
theorem dJ0_isLatin1_aae02_6 : decode cJ0_isLatin1_aae02 6 = .ok (.aload_n 0, 1) := by decide +kernel
theorem dJ0_isLatin1_aae02_7 : decode cJ0_isLatin1_aae02 7 = .ok (.getfield 15, 3) := by decide +kernel
theorem dJ0_isLatin1_aae02_10 : decode cJ0_isLatin1_aae02 10 = .ok (.ifCond .ne 7, 3) := by decide +kernel
theorem dJ0_isLatin1_aae02_13 : decode cJ0_isLatin1_aae02 13 = .ok (.iconst 1, 1) := by decide +kernel
theorem dJ0_isLatin1_aae02_14 : decode cJ0_isLatin1_aae02 14 = .ok (.goto 4, 3) := by decide +kernel
theorem dJ0_isLatin1_aae02_17 : decode cJ0_isLatin1_aae02 17 = .ok (.iconst 0, 1) := by decide +kernel
theorem dJ0_isLatin1_aae02_18 : decode cJ0_isLatin1_aae02 18 = .ok (.ireturn, 1) := by decide +kernel
theorem dJ0_checkIndex_df160_0 : decode cJ0_checkIndex_df160 0 = .ok (.iload_n 0, 1) := by decide +kernel
theorem dJ0_checkIndex_df160_1 : decode cJ0_checkIndex_df160 1 = .ok (.iload_n 1, 1) := by decide +kernel
theorem dJ0_checkIndex_df160_2 : decode cJ0_checkIndex_df160 2 = .ok (.getstatic 1053, 3) := by decide +kernel
theorem dJ0_checkIndex_df160_5 : decode cJ0_checkIndex_df160 5 = .ok (.invokestatic 1059, 3) := by decide +kernel
theorem dJ0_checkIndex_df160_8 : decode cJ0_checkIndex_df160 8 = .ok (.pop, 1) := by decide +kernel
theorem dJ0_checkIndex_df160_9 : decode cJ0_checkIndex_df160 9 = .ok (.return_, 1) := by decide +kernel
theorem dJ1_charAt_3b067_0 : decode cJ1_charAt_3b067 0 = .ok (.iload_n 1, 1) := by decide +kernel
theorem dJ1_charAt_3b067_1 : decode cJ1_charAt_3b067 1 = .ok (.aload_n 0, 1) := by decide +kernel
theorem dJ1_charAt_3b067_2 : decode cJ1_charAt_3b067 2 = .ok (.arraylength, 1) := by decide +kernel
theorem dJ1_charAt_3b067_3 : decode cJ1_charAt_3b067 3 = .ok (.invokestatic 9, 3) := by decide +kernel
theorem dJ1_charAt_3b067_6 : decode cJ1_charAt_3b067 6 = .ok (.aload_n 0, 1) := by decide +kernel
theorem dJ1_charAt_3b067_7 : decode cJ1_charAt_3b067 7 = .ok (.iload_n 1, 1) := by decide +kernel
theorem dJ1_charAt_3b067_8 : decode cJ1_charAt_3b067 8 = .ok (.baload, 1) := by decide +kernel
theorem dJ1_charAt_3b067_9 : decode cJ1_charAt_3b067 9 = .ok (.sipush 255, 3) := by decide +kernel
theorem dJ1_charAt_3b067_12 : decode cJ1_charAt_3b067 12 = .ok (.iand, 1) := by decide +kernel
theorem dJ1_charAt_3b067_13 : decode cJ1_charAt_3b067 13 = .ok (.i2c, 1) := by decide +kernel
theorem dJ1_charAt_3b067_14 : decode cJ1_charAt_3b067 14 = .ok (.ireturn, 1) := by decide +kernel
theorem dJ2_getChar_3b067_0 : decode cJ2_getChar_3b067 0 = .ok (.getstatic 44, 3) := by decide +kernel
theorem dJ2_getChar_3b067_3 : decode cJ2_getChar_3b067 3 = .ok (.ifCond .ne 25, 3) := by decide +kernel
theorem dJ2_getChar_3b067_6 : decode cJ2_getChar_3b067 6 = .ok (.iload_n 1, 1) := by decide +kernel
theorem dJ2_getChar_3b067_7 : decode cJ2_getChar_3b067 7 = .ok (.ifCond .lt 11, 3) := by decide +kernel
theorem dJ2_getChar_3b067_10 : decode cJ2_getChar_3b067 10 = .ok (.iload_n 1, 1) := by decide +kernel
theorem dJ2_getChar_3b067_11 : decode cJ2_getChar_3b067 11 = .ok (.aload_n 0, 1) := by decide +kernel
theorem dJ2_getChar_3b067_12 : decode cJ2_getChar_3b067 12 = .ok (.invokestatic 48, 3) := by decide +kernel
theorem dJ2_getChar_3b067_15 : decode cJ2_getChar_3b067 15 = .ok (.if_icmp .lt 13, 3) := by decide +kernel
theorem dJ2_getChar_3b067_18 : decode cJ2_getChar_3b067 18 = .ok (.new 52, 3) := by decide +kernel
theorem dJ2_getChar_3b067_21 : decode cJ2_getChar_3b067 21 = .ok (.dup, 1) := by decide +kernel
theorem dJ2_getChar_3b067_22 : decode cJ2_getChar_3b067 22 = .ok (.ldc 54, 2) := by decide +kernel
theorem dJ2_getChar_3b067_24 : decode cJ2_getChar_3b067 24 = .ok (.invokespecial 56, 3) := by decide +kernel
theorem dJ2_getChar_3b067_27 : decode cJ2_getChar_3b067 27 = .ok (.athrow, 1) := by decide +kernel
theorem dJ2_getChar_3b067_28 : decode cJ2_getChar_3b067 28 = .ok (.iload_n 1, 1) := by decide +kernel
theorem dJ2_getChar_3b067_29 : decode cJ2_getChar_3b067 29 = .ok (.iconst 1, 1) := by decide +kernel
theorem dJ2_getChar_3b067_30 : decode cJ2_getChar_3b067 30 = .ok (.ishl, 1) := by decide +kernel
theorem dJ2_getChar_3b067_31 : decode cJ2_getChar_3b067 31 = .ok (.istore_n 1, 1) := by decide +kernel
theorem dJ2_getChar_3b067_32 : decode cJ2_getChar_3b067 32 = .ok (.aload_n 0, 1) := by decide +kernel
theorem dJ2_getChar_3b067_33 : decode cJ2_getChar_3b067 33 = .ok (.iload_n 1, 1) := by decide +kernel
theorem dJ2_getChar_3b067_34 : decode cJ2_getChar_3b067 34 = .ok (.iinc 1 1, 3) := by decide +kernel
theorem dJ2_getChar_3b067_37 : decode cJ2_getChar_3b067 37 = .ok (.baload, 1) := by decide +kernel
theorem dJ2_getChar_3b067_38 : decode cJ2_getChar_3b067 38 = .ok (.sipush 255, 3) := by decide +kernel
theorem dJ2_getChar_3b067_41 : decode cJ2_getChar_3b067 41 = .ok (.iand, 1) := by decide +kernel
theorem dJ2_getChar_3b067_42 : decode cJ2_getChar_3b067 42 = .ok (.getstatic 59, 3) := by decide +kernel
theorem dJ2_getChar_3b067_45 : decode cJ2_getChar_3b067 45 = .ok (.ishl, 1) := by decide +kernel
theorem dJ2_getChar_3b067_46 : decode cJ2_getChar_3b067 46 = .ok (.aload_n 0, 1) := by decide +kernel
theorem dJ2_getChar_3b067_47 : decode cJ2_getChar_3b067 47 = .ok (.iload_n 1, 1) := by decide +kernel
theorem dJ2_getChar_3b067_48 : decode cJ2_getChar_3b067 48 = .ok (.baload, 1) := by decide +kernel
theorem dJ2_getChar_3b067_49 : decode cJ2_getChar_3b067 49 = .ok (.sipush 255, 3) := by decide +kernel
theorem dJ2_getChar_3b067_52 : decode cJ2_getChar_3b067 52 = .ok (.iand, 1) := by decide +kernel
theorem dJ2_getChar_3b067_53 : decode cJ2_getChar_3b067 53 = .ok (.getstatic 63, 3) := by decide +kernel
theorem dJ2_getChar_3b067_56 : decode cJ2_getChar_3b067 56 = .ok (.ishl, 1) := by decide +kernel
theorem dJ2_getChar_3b067_57 : decode cJ2_getChar_3b067 57 = .ok (.ior, 1) := by decide +kernel
theorem dJ2_getChar_3b067_58 : decode cJ2_getChar_3b067 58 = .ok (.i2c, 1) := by decide +kernel
theorem dJ2_getChar_3b067_59 : decode cJ2_getChar_3b067 59 = .ok (.ireturn, 1) := by decide +kernel
theorem dJ2_length_9d52b_0 : decode cJ2_length_9d52b 0 = .ok (.aload_n 0, 1) := by decide +kernel
theorem dJ2_length_9d52b_1 : decode cJ2_length_9d52b 1 = .ok (.arraylength, 1) := by decide +kernel
theorem dJ2_length_9d52b_2 : decode cJ2_length_9d52b 2 = .ok (.iconst 1, 1) := by decide +kernel
theorem dJ2_length_9d52b_3 : decode cJ2_length_9d52b 3 = .ok (.ishr, 1) := by decide +kernel
theorem dJ2_length_9d52b_4 : decode cJ2_length_9d52b 4 = .ok (.ireturn, 1) := by decide +kernel
theorem dJ2_charAt_3b067_0 : decode cJ2_charAt_3b067 0 = .ok (.iload_n 1, 1) := by decide +kernel
theorem dJ2_charAt_3b067_1 : decode cJ2_charAt_3b067 1 = .ok (.aload_n 0, 1) := by decide +kernel
theorem dJ2_charAt_3b067_2 : decode cJ2_charAt_3b067 2 = .ok (.invokestatic 67, 3) := by decide +kernel
theorem dJ2_charAt_3b067_5 : decode cJ2_charAt_3b067 5 = .ok (.aload_n 0, 1) := by decide +kernel
theorem dJ2_charAt_3b067_6 : decode cJ2_charAt_3b067 6 = .ok (.iload_n 1, 1) := by decide +kernel
theorem dJ2_charAt_3b067_7 : decode cJ2_charAt_3b067 7 = .ok (.invokestatic 71, 3) := by decide +kernel
theorem dJ2_charAt_3b067_10 : decode cJ2_charAt_3b067 10 = .ok (.ireturn, 1) := by decide +kernel
theorem dJ2_checkIndex_2214a_0 : decode cJ2_checkIndex_2214a 0 = .ok (.iload_n 0, 1) := by decide +kernel
theorem dJ2_checkIndex_2214a_1 : decode cJ2_checkIndex_2214a 1 = .ok (.aload_n 1, 1) := by decide +kernel
theorem dJ2_checkIndex_2214a_2 : decode cJ2_checkIndex_2214a 2 = .ok (.invokestatic 48, 3) := by decide +kernel
theorem dJ2_checkIndex_2214a_5 : decode cJ2_checkIndex_2214a 5 = .ok (.invokestatic 414, 3) := by decide +kernel
theorem dJ2_checkIndex_2214a_8 : decode cJ2_checkIndex_2214a 8 = .ok (.return_, 1) := by decide +kernel
theorem dJ3_checkIndex_8e157_0 : decode cJ3_checkIndex_8e157 0 = .ok (.iload_n 0, 1) := by decide +kernel
theorem dJ3_checkIndex_8e157_1 : decode cJ3_checkIndex_8e157 1 = .ok (.ifCond .lt 8, 3) := by decide +kernel
theorem dJ3_checkIndex_8e157_4 : decode cJ3_checkIndex_8e157 4 = .ok (.iload_n 0, 1) := by decide +kernel
theorem dJ3_checkIndex_8e157_5 : decode cJ3_checkIndex_8e157 5 = .ok (.iload_n 1, 1) := by decide +kernel
theorem dJ3_checkIndex_8e157_6 : decode cJ3_checkIndex_8e157 6 = .ok (.if_icmp .lt 10, 3) := by decide +kernel
theorem dJ3_checkIndex_8e157_9 : decode cJ3_checkIndex_8e157 9 = .ok (.aload_n 2, 1) := by decide +kernel
theorem dJ3_checkIndex_8e157_10 : decode cJ3_checkIndex_8e157 10 = .ok (.iload_n 0, 1) := by decide +kernel
theorem dJ3_checkIndex_8e157_11 : decode cJ3_checkIndex_8e157 11 = .ok (.iload_n 1, 1) := by decide +kernel
theorem dJ3_checkIndex_8e157_12 : decode cJ3_checkIndex_8e157 12 = .ok (.invokestatic 95, 3) := by decide +kernel
theorem dJ3_checkIndex_8e157_15 : decode cJ3_checkIndex_8e157 15 = .ok (.athrow, 1) := by decide +kernel
theorem dJ3_checkIndex_8e157_16 : decode cJ3_checkIndex_8e157 16 = .ok (.iload_n 0, 1) := by decide +kernel
theorem dJ3_checkIndex_8e157_17 : decode cJ3_checkIndex_8e157 17 = .ok (.ireturn, 1) := by decide +kernel
theorem dL_text_0 : decode cL_text 0 = .ok (.aload_n 2, 1) := by decide +kernel
theorem dL_text_1 : decode cL_text 1 = .ok (.iconst 0, 1) := by decide +kernel
theorem dL_text_2 : decode cL_text 2 = .ok (.aload_n 0, 1) := by decide +kernel
theorem dL_text_3 : decode cL_text 3 = .ok (.iload_n 1, 1) := by decide +kernel
theorem dL_text_4 : decode cL_text 4 = .ok (.invokevirtual 7, 3) := by decide +kernel
theorem dL_text_7 : decode cL_text 7 = .ok (.i2l, 1) := by decide +kernel
theorem dL_text_8 : decode cL_text 8 = .ok (.lastore, 1) := by decide +kernel
theorem dL_text_9 : decode cL_text 9 = .ok (.goto 6, 3) := by decide +kernel
theorem dL_text_12 : decode cL_text 12 = .ok (.astore_n 3, 1) := by decide +kernel
theorem dL_text_13 : decode cL_text 13 = .ok (.iconst 1, 1) := by decide +kernel
theorem dL_text_14 : decode cL_text 14 = .ok (.ireturn, 1) := by decide +kernel
theorem dL_text_15 : decode cL_text 15 = .ok (.iconst 0, 1) := by decide +kernel
theorem dL_text_16 : decode cL_text 16 = .ok (.ireturn, 1) := by decide +kernel
theorem dL_show_0 : decode cL_show 0 = .ok (.aload_n 2, 1) := by decide +kernel
theorem dL_show_1 : decode cL_show 1 = .ok (.iconst 0, 1) := by decide +kernel
theorem dL_show_2 : decode cL_show 2 = .ok (.aload_n 0, 1) := by decide +kernel
theorem dL_show_3 : decode cL_show 3 = .ok (.iload_n 1, 1) := by decide +kernel
theorem dL_show_4 : decode cL_show 4 = .ok (.invokevirtual 15, 3) := by decide +kernel
theorem dL_show_7 : decode cL_show 7 = .ok (.i2l, 1) := by decide +kernel
theorem dL_show_8 : decode cL_show 8 = .ok (.lastore, 1) := by decide +kernel
theorem dL_show_9 : decode cL_show 9 = .ok (.goto 9, 3) := by decide +kernel
theorem dL_show_12 : decode cL_show 12 = .ok (.astore_n 3, 1) := by decide +kernel
theorem dL_show_13 : decode cL_show 13 = .ok (.iconst 1, 1) := by decide +kernel
theorem dL_show_14 : decode cL_show 14 = .ok (.ireturn, 1) := by decide +kernel
theorem dL_show_15 : decode cL_show 15 = .ok (.astore_n 3, 1) := by decide +kernel
theorem dL_show_16 : decode cL_show 16 = .ok (.iconst 2, 1) := by decide +kernel
theorem dL_show_17 : decode cL_show 17 = .ok (.ireturn, 1) := by decide +kernel
theorem dL_show_18 : decode cL_show 18 = .ok (.iconst 0, 1) := by decide +kernel
theorem dL_show_19 : decode cL_show 19 = .ok (.ireturn, 1) := by decide +kernel
theorem dL_hide_0 : decode cL_hide 0 = .ok (.aload_n 2, 1) := by decide +kernel
theorem dL_hide_1 : decode cL_hide 1 = .ok (.iconst 0, 1) := by decide +kernel
theorem dL_hide_2 : decode cL_hide 2 = .ok (.aload_n 0, 1) := by decide +kernel
theorem dL_hide_3 : decode cL_hide 3 = .ok (.iload_n 1, 1) := by decide +kernel
theorem dL_hide_4 : decode cL_hide 4 = .ok (.invokevirtual 22, 3) := by decide +kernel
theorem dL_hide_7 : decode cL_hide 7 = .ok (.i2l, 1) := by decide +kernel
theorem dL_hide_8 : decode cL_hide 8 = .ok (.lastore, 1) := by decide +kernel
theorem dL_hide_9 : decode cL_hide 9 = .ok (.goto 6, 3) := by decide +kernel
theorem dL_hide_12 : decode cL_hide 12 = .ok (.astore_n 3, 1) := by decide +kernel
theorem dL_hide_13 : decode cL_hide 13 = .ok (.iconst 1, 1) := by decide +kernel
theorem dL_hide_14 : decode cL_hide 14 = .ok (.ireturn, 1) := by decide +kernel
theorem dL_hide_15 : decode cL_hide 15 = .ok (.iconst 0, 1) := by decide +kernel
theorem dL_hide_16 : decode cL_hide 16 = .ok (.ireturn, 1) := by decide +kernel
theorem dL_change_0 : decode cL_change 0 = .ok (.aload_n 3, 1) := by decide +kernel
theorem dL_change_1 : decode cL_change 1 = .ok (.iconst 0, 1) := by decide +kernel
theorem dL_change_2 : decode cL_change 2 = .ok (.aload_n 0, 1) := by decide +kernel
theorem dL_change_3 : decode cL_change 3 = .ok (.iload_n 1, 1) := by decide +kernel
theorem dL_change_4 : decode cL_change 4 = .ok (.iload_n 2, 1) := by decide +kernel
theorem dL_change_5 : decode cL_change 5 = .ok (.invokevirtual 25, 3) := by decide +kernel
theorem dL_change_8 : decode cL_change 8 = .ok (.i2l, 1) := by decide +kernel
theorem dL_change_9 : decode cL_change 9 = .ok (.lastore, 1) := by decide +kernel
theorem dL_change_10 : decode cL_change 10 = .ok (.goto 7, 3) := by decide +kernel
theorem dL_change_13 : decode cL_change 13 = .ok (.astore 4, 2) := by decide +kernel
theorem dL_change_15 : decode cL_change 15 = .ok (.iconst 1, 1) := by decide +kernel
theorem dL_change_16 : decode cL_change 16 = .ok (.ireturn, 1) := by decide +kernel
theorem dL_change_17 : decode cL_change 17 = .ok (.iconst 0, 1) := by decide +kernel
theorem dL_change_18 : decode cL_change 18 = .ok (.ireturn, 1) := by decide +kernel
theorem dL_mock_0 : decode cL_mock 0 = .ok (.aload_n 2, 1) := by decide +kernel
theorem dL_mock_1 : decode cL_mock 1 = .ok (.iconst 0, 1) := by decide +kernel
theorem dL_mock_2 : decode cL_mock 2 = .ok (.aload_n 0, 1) := by decide +kernel
theorem dL_mock_3 : decode cL_mock 3 = .ok (.iload_n 1, 1) := by decide +kernel
theorem dL_mock_4 : decode cL_mock 4 = .ok (.invokevirtual 29, 3) := by decide +kernel
theorem dL_mock_7 : decode cL_mock 7 = .ok (.i2l, 1) := by decide +kernel
theorem dL_mock_8 : decode cL_mock 8 = .ok (.lastore, 1) := by decide +kernel
theorem dL_mock_9 : decode cL_mock 9 = .ok (.goto 9, 3) := by decide +kernel
theorem dL_mock_12 : decode cL_mock 12 = .ok (.astore_n 3, 1) := by decide +kernel
theorem dL_mock_13 : decode cL_mock 13 = .ok (.iconst 1, 1) := by decide +kernel
theorem dL_mock_14 : decode cL_mock 14 = .ok (.ireturn, 1) := by decide +kernel
theorem dL_mock_15 : decode cL_mock 15 = .ok (.astore_n 3, 1) := by decide +kernel
theorem dL_mock_16 : decode cL_mock 16 = .ok (.iconst 2, 1) := by decide +kernel
theorem dL_mock_17 : decode cL_mock 17 = .ok (.ireturn, 1) := by decide +kernel
theorem dL_mock_18 : decode cL_mock 18 = .ok (.iconst 0, 1) := by decide +kernel
theorem dL_mock_19 : decode cL_mock 19 = .ok (.ireturn, 1) := by decide +kernel
theorem dL_told_0 : decode cL_told 0 = .ok (.aload_n 2, 1) := by decide +kernel
theorem dL_told_1 : decode cL_told 1 = .ok (.iconst 0, 1) := by decide +kernel
theorem dL_told_2 : decode cL_told 2 = .ok (.aload_n 0, 1) := by decide +kernel
theorem dL_told_3 : decode cL_told 3 = .ok (.iload_n 1, 1) := by decide +kernel
theorem dL_told_4 : decode cL_told 4 = .ok (.invokevirtual 32, 3) := by decide +kernel
theorem dL_told_7 : decode cL_told 7 = .ok (.i2l, 1) := by decide +kernel
theorem dL_told_8 : decode cL_told 8 = .ok (.lastore, 1) := by decide +kernel
theorem dL_told_9 : decode cL_told 9 = .ok (.goto 6, 3) := by decide +kernel
theorem dL_told_12 : decode cL_told 12 = .ok (.astore_n 3, 1) := by decide +kernel
theorem dL_told_13 : decode cL_told 13 = .ok (.iconst 1, 1) := by decide +kernel
theorem dL_told_14 : decode cL_told 14 = .ok (.ireturn, 1) := by decide +kernel
theorem dL_told_15 : decode cL_told 15 = .ok (.iconst 0, 1) := by decide +kernel
theorem dL_told_16 : decode cL_told 16 = .ok (.ireturn, 1) := by decide +kernel
theorem dL_trait_0 : decode cL_trait 0 = .ok (.aload_n 3, 1) := by decide +kernel
theorem dL_trait_1 : decode cL_trait 1 = .ok (.iconst 0, 1) := by decide +kernel
theorem dL_trait_2 : decode cL_trait 2 = .ok (.aload_n 0, 1) := by decide +kernel
theorem dL_trait_3 : decode cL_trait 3 = .ok (.iload_n 1, 1) := by decide +kernel
theorem dL_trait_4 : decode cL_trait 4 = .ok (.iload_n 2, 1) := by decide +kernel
theorem dL_trait_5 : decode cL_trait 5 = .ok (.invokevirtual 35, 3) := by decide +kernel
theorem dL_trait_8 : decode cL_trait 8 = .ok (.i2l, 1) := by decide +kernel
theorem dL_trait_9 : decode cL_trait 9 = .ok (.lastore, 1) := by decide +kernel
theorem dL_trait_10 : decode cL_trait 10 = .ok (.goto 11, 3) := by decide +kernel
theorem dL_trait_13 : decode cL_trait 13 = .ok (.astore 4, 2) := by decide +kernel
theorem dL_trait_15 : decode cL_trait 15 = .ok (.iconst 1, 1) := by decide +kernel
theorem dL_trait_16 : decode cL_trait 16 = .ok (.ireturn, 1) := by decide +kernel
theorem dL_trait_17 : decode cL_trait 17 = .ok (.astore 4, 2) := by decide +kernel
theorem dL_trait_19 : decode cL_trait 19 = .ok (.iconst 2, 1) := by decide +kernel
theorem dL_trait_20 : decode cL_trait 20 = .ok (.ireturn, 1) := by decide +kernel
theorem dL_trait_21 : decode cL_trait 21 = .ok (.iconst 0, 1) := by decide +kernel
theorem dL_trait_22 : decode cL_trait 22 = .ok (.ireturn, 1) := by decide +kernel
theorem dL_value_0 : decode cL_value 0 = .ok (.aload_n 3, 1) := by decide +kernel
theorem dL_value_1 : decode cL_value 1 = .ok (.iconst 0, 1) := by decide +kernel
theorem dL_value_2 : decode cL_value 2 = .ok (.aload_n 0, 1) := by decide +kernel
theorem dL_value_3 : decode cL_value 3 = .ok (.iload_n 1, 1) := by decide +kernel
theorem dL_value_4 : decode cL_value 4 = .ok (.iload_n 2, 1) := by decide +kernel
theorem dL_value_5 : decode cL_value 5 = .ok (.invokevirtual 38, 3) := by decide +kernel
theorem dL_value_8 : decode cL_value 8 = .ok (.i2l, 1) := by decide +kernel
theorem dL_value_9 : decode cL_value 9 = .ok (.lastore, 1) := by decide +kernel
theorem dL_value_10 : decode cL_value 10 = .ok (.goto 7, 3) := by decide +kernel
theorem dL_value_13 : decode cL_value 13 = .ok (.astore 4, 2) := by decide +kernel
theorem dL_value_15 : decode cL_value 15 = .ok (.iconst 1, 1) := by decide +kernel
theorem dL_value_16 : decode cL_value 16 = .ok (.ireturn, 1) := by decide +kernel
theorem dL_value_17 : decode cL_value 17 = .ok (.iconst 0, 1) := by decide +kernel
theorem dL_value_18 : decode cL_value 18 = .ok (.ireturn, 1) := by decide +kernel
theorem dL_shown_0 : decode cL_shown 0 = .ok (.aload_n 2, 1) := by decide +kernel
theorem dL_shown_1 : decode cL_shown 1 = .ok (.iconst 0, 1) := by decide +kernel
theorem dL_shown_2 : decode cL_shown 2 = .ok (.aload_n 0, 1) := by decide +kernel
theorem dL_shown_3 : decode cL_shown 3 = .ok (.iload_n 1, 1) := by decide +kernel
theorem dL_shown_4 : decode cL_shown 4 = .ok (.invokevirtual 41, 3) := by decide +kernel
theorem dL_shown_7 : decode cL_shown 7 = .ok (.i2l, 1) := by decide +kernel
theorem dL_shown_8 : decode cL_shown 8 = .ok (.lastore, 1) := by decide +kernel
theorem dL_shown_9 : decode cL_shown 9 = .ok (.goto 6, 3) := by decide +kernel
theorem dL_shown_12 : decode cL_shown 12 = .ok (.astore_n 3, 1) := by decide +kernel
theorem dL_shown_13 : decode cL_shown 13 = .ok (.iconst 1, 1) := by decide +kernel
theorem dL_shown_14 : decode cL_shown 14 = .ok (.ireturn, 1) := by decide +kernel
theorem dL_shown_15 : decode cL_shown 15 = .ok (.iconst 0, 1) := by decide +kernel
theorem dL_shown_16 : decode cL_shown 16 = .ok (.ireturn, 1) := by decide +kernel
theorem dL_match_0 : decode cL_match 0 = .ok (.aload_n 3, 1) := by decide +kernel
theorem dL_match_1 : decode cL_match 1 = .ok (.iconst 0, 1) := by decide +kernel
theorem dL_match_2 : decode cL_match 2 = .ok (.aload_n 0, 1) := by decide +kernel
theorem dL_match_3 : decode cL_match 3 = .ok (.iload_n 1, 1) := by decide +kernel
theorem dL_match_4 : decode cL_match 4 = .ok (.iload_n 2, 1) := by decide +kernel
theorem dL_match_5 : decode cL_match 5 = .ok (.invokevirtual 44, 3) := by decide +kernel
theorem dL_match_8 : decode cL_match 8 = .ok (.i2l, 1) := by decide +kernel
theorem dL_match_9 : decode cL_match 9 = .ok (.lastore, 1) := by decide +kernel
theorem dL_match_10 : decode cL_match 10 = .ok (.goto 7, 3) := by decide +kernel
theorem dL_match_13 : decode cL_match 13 = .ok (.astore 4, 2) := by decide +kernel
theorem dL_match_15 : decode cL_match 15 = .ok (.iconst 1, 1) := by decide +kernel
theorem dL_match_16 : decode cL_match 16 = .ok (.ireturn, 1) := by decide +kernel
theorem dL_match_17 : decode cL_match 17 = .ok (.iconst 0, 1) := by decide +kernel
theorem dL_match_18 : decode cL_match 18 = .ok (.ireturn, 1) := by decide +kernel
theorem dL_mocks_0 : decode cL_mocks 0 = .ok (.aload_n 2, 1) := by decide +kernel
theorem dL_mocks_1 : decode cL_mocks 1 = .ok (.iconst 0, 1) := by decide +kernel
theorem dL_mocks_2 : decode cL_mocks 2 = .ok (.aload_n 0, 1) := by decide +kernel
theorem dL_mocks_3 : decode cL_mocks 3 = .ok (.iload_n 1, 1) := by decide +kernel
theorem dL_mocks_4 : decode cL_mocks 4 = .ok (.invokevirtual 48, 3) := by decide +kernel
theorem dL_mocks_7 : decode cL_mocks 7 = .ok (.i2l, 1) := by decide +kernel
theorem dL_mocks_8 : decode cL_mocks 8 = .ok (.lastore, 1) := by decide +kernel
theorem dL_mocks_9 : decode cL_mocks 9 = .ok (.goto 6, 3) := by decide +kernel
theorem dL_mocks_12 : decode cL_mocks 12 = .ok (.astore_n 3, 1) := by decide +kernel
theorem dL_mocks_13 : decode cL_mocks 13 = .ok (.iconst 1, 1) := by decide +kernel
theorem dL_mocks_14 : decode cL_mocks 14 = .ok (.ireturn, 1) := by decide +kernel
theorem dL_mocks_15 : decode cL_mocks 15 = .ok (.iconst 0, 1) := by decide +kernel
theorem dL_mocks_16 : decode cL_mocks 16 = .ok (.ireturn, 1) := by decide +kernel
theorem dL_alike_0 : decode cL_alike 0 = .ok (.aload_n 3, 1) := by decide +kernel
theorem dL_alike_1 : decode cL_alike 1 = .ok (.iconst 0, 1) := by decide +kernel
theorem dL_alike_2 : decode cL_alike 2 = .ok (.aload_n 0, 1) := by decide +kernel
theorem dL_alike_3 : decode cL_alike 3 = .ok (.iload_n 1, 1) := by decide +kernel
theorem dL_alike_4 : decode cL_alike 4 = .ok (.iload_n 2, 1) := by decide +kernel
theorem dL_alike_5 : decode cL_alike 5 = .ok (.invokevirtual 51, 3) := by decide +kernel
theorem dL_alike_8 : decode cL_alike 8 = .ok (.i2l, 1) := by decide +kernel
theorem dL_alike_9 : decode cL_alike 9 = .ok (.lastore, 1) := by decide +kernel
theorem dL_alike_10 : decode cL_alike 10 = .ok (.goto 7, 3) := by decide +kernel
theorem dL_alike_13 : decode cL_alike 13 = .ok (.astore 4, 2) := by decide +kernel
theorem dL_alike_15 : decode cL_alike 15 = .ok (.iconst 1, 1) := by decide +kernel
theorem dL_alike_16 : decode cL_alike 16 = .ok (.ireturn, 1) := by decide +kernel
theorem dL_alike_17 : decode cL_alike 17 = .ok (.iconst 0, 1) := by decide +kernel
theorem dL_alike_18 : decode cL_alike 18 = .ok (.ireturn, 1) := by decide +kernel
theorem dL_chance_0 : decode cL_chance 0 = .ok (.aload 6, 2) := by decide +kernel
theorem dL_chance_2 : decode cL_chance 2 = .ok (.iconst 0, 1) := by decide +kernel
theorem dL_chance_3 : decode cL_chance 3 = .ok (.aload_n 0, 1) := by decide +kernel
theorem dL_chance_4 : decode cL_chance 4 = .ok (.iload_n 1, 1) := by decide +kernel
theorem dL_chance_5 : decode cL_chance 5 = .ok (.iload_n 2, 1) := by decide +kernel
theorem dL_chance_6 : decode cL_chance 6 = .ok (.iload_n 3, 1) := by decide +kernel
theorem dL_chance_7 : decode cL_chance 7 = .ok (.iload 4, 2) := by decide +kernel
theorem dL_chance_9 : decode cL_chance 9 = .ok (.iload 5, 2) := by decide +kernel
theorem dL_chance_11 : decode cL_chance 11 = .ok (.invokevirtual 54, 3) := by decide +kernel
theorem dL_chance_14 : decode cL_chance 14 = .ok (.lastore, 1) := by decide +kernel
theorem dL_chance_15 : decode cL_chance 15 = .ok (.goto 11, 3) := by decide +kernel
theorem dL_chance_18 : decode cL_chance 18 = .ok (.astore 7, 2) := by decide +kernel
theorem dL_chance_20 : decode cL_chance 20 = .ok (.iconst 1, 1) := by decide +kernel
theorem dL_chance_21 : decode cL_chance 21 = .ok (.ireturn, 1) := by decide +kernel
theorem dL_chance_22 : decode cL_chance 22 = .ok (.astore 7, 2) := by decide +kernel
theorem dL_chance_24 : decode cL_chance 24 = .ok (.iconst 2, 1) := by decide +kernel
theorem dL_chance_25 : decode cL_chance 25 = .ok (.ireturn, 1) := by decide +kernel
theorem dL_chance_26 : decode cL_chance 26 = .ok (.iconst 0, 1) := by decide +kernel
theorem dL_chance_27 : decode cL_chance 27 = .ok (.ireturn, 1) := by decide +kernel
theorem dL_size_0 : decode cL_size 0 = .ok (.aload_n 2, 1) := by decide +kernel
theorem dL_size_1 : decode cL_size 1 = .ok (.iconst 0, 1) := by decide +kernel
theorem dL_size_2 : decode cL_size 2 = .ok (.aload_n 0, 1) := by decide +kernel
theorem dL_size_3 : decode cL_size 3 = .ok (.iload_n 1, 1) := by decide +kernel
theorem dL_size_4 : decode cL_size 4 = .ok (.invokevirtual 58, 3) := by decide +kernel
theorem dL_size_7 : decode cL_size 7 = .ok (.lastore, 1) := by decide +kernel
theorem dL_size_8 : decode cL_size 8 = .ok (.goto 6, 3) := by decide +kernel
theorem dL_size_11 : decode cL_size 11 = .ok (.astore_n 3, 1) := by decide +kernel
theorem dL_size_12 : decode cL_size 12 = .ok (.iconst 1, 1) := by decide +kernel
theorem dL_size_13 : decode cL_size 13 = .ok (.ireturn, 1) := by decide +kernel
theorem dL_size_14 : decode cL_size 14 = .ok (.iconst 0, 1) := by decide +kernel
theorem dL_size_15 : decode cL_size 15 = .ok (.ireturn, 1) := by decide +kernel
theorem dL_fairest_0 : decode cL_fairest 0 = .ok (.aload_n 3, 1) := by decide +kernel
theorem dL_fairest_1 : decode cL_fairest 1 = .ok (.iconst 0, 1) := by decide +kernel
theorem dL_fairest_2 : decode cL_fairest 2 = .ok (.aload_n 0, 1) := by decide +kernel
theorem dL_fairest_3 : decode cL_fairest 3 = .ok (.iload_n 1, 1) := by decide +kernel
theorem dL_fairest_4 : decode cL_fairest 4 = .ok (.iload_n 2, 1) := by decide +kernel
theorem dL_fairest_5 : decode cL_fairest 5 = .ok (.invokevirtual 62, 3) := by decide +kernel
theorem dL_fairest_8 : decode cL_fairest 8 = .ok (.lastore, 1) := by decide +kernel
theorem dL_fairest_9 : decode cL_fairest 9 = .ok (.goto 7, 3) := by decide +kernel
theorem dL_fairest_12 : decode cL_fairest 12 = .ok (.astore 4, 2) := by decide +kernel
theorem dL_fairest_14 : decode cL_fairest 14 = .ok (.iconst 1, 1) := by decide +kernel
theorem dL_fairest_15 : decode cL_fairest 15 = .ok (.ireturn, 1) := by decide +kernel
theorem dL_fairest_16 : decode cL_fairest 16 = .ok (.iconst 0, 1) := by decide +kernel
theorem dL_fairest_17 : decode cL_fairest 17 = .ok (.ireturn, 1) := by decide +kernel
theorem dL_odds_0 : decode cL_odds 0 = .ok (.aload 5, 2) := by decide +kernel
theorem dL_odds_2 : decode cL_odds 2 = .ok (.iconst 0, 1) := by decide +kernel
theorem dL_odds_3 : decode cL_odds 3 = .ok (.aload_n 0, 1) := by decide +kernel
theorem dL_odds_4 : decode cL_odds 4 = .ok (.iload_n 1, 1) := by decide +kernel
theorem dL_odds_5 : decode cL_odds 5 = .ok (.iload_n 2, 1) := by decide +kernel
theorem dL_odds_6 : decode cL_odds 6 = .ok (.iload_n 3, 1) := by decide +kernel
theorem dL_odds_7 : decode cL_odds 7 = .ok (.iload 4, 2) := by decide +kernel
theorem dL_odds_9 : decode cL_odds 9 = .ok (.invokevirtual 66, 3) := by decide +kernel
theorem dL_odds_12 : decode cL_odds 12 = .ok (.lastore, 1) := by decide +kernel
theorem dL_odds_13 : decode cL_odds 13 = .ok (.goto 11, 3) := by decide +kernel
theorem dL_odds_16 : decode cL_odds 16 = .ok (.astore 6, 2) := by decide +kernel
theorem dL_odds_18 : decode cL_odds 18 = .ok (.iconst 1, 1) := by decide +kernel
theorem dL_odds_19 : decode cL_odds 19 = .ok (.ireturn, 1) := by decide +kernel
theorem dL_odds_20 : decode cL_odds 20 = .ok (.astore 6, 2) := by decide +kernel
theorem dL_odds_22 : decode cL_odds 22 = .ok (.iconst 2, 1) := by decide +kernel
theorem dL_odds_23 : decode cL_odds 23 = .ok (.ireturn, 1) := by decide +kernel
theorem dL_odds_24 : decode cL_odds 24 = .ok (.iconst 0, 1) := by decide +kernel
theorem dL_odds_25 : decode cL_odds 25 = .ok (.ireturn, 1) := by decide +kernel
theorem dL_cut_0 : decode cL_cut 0 = .ok (.aload_n 2, 1) := by decide +kernel
theorem dL_cut_1 : decode cL_cut 1 = .ok (.iconst 0, 1) := by decide +kernel
theorem dL_cut_2 : decode cL_cut 2 = .ok (.aload_n 0, 1) := by decide +kernel
theorem dL_cut_3 : decode cL_cut 3 = .ok (.iload_n 1, 1) := by decide +kernel
theorem dL_cut_4 : decode cL_cut 4 = .ok (.invokevirtual 70, 3) := by decide +kernel
theorem dL_cut_7 : decode cL_cut 7 = .ok (.i2l, 1) := by decide +kernel
theorem dL_cut_8 : decode cL_cut 8 = .ok (.lastore, 1) := by decide +kernel
theorem dL_cut_9 : decode cL_cut 9 = .ok (.goto 9, 3) := by decide +kernel
theorem dL_cut_12 : decode cL_cut 12 = .ok (.astore_n 3, 1) := by decide +kernel
theorem dL_cut_13 : decode cL_cut 13 = .ok (.iconst 1, 1) := by decide +kernel
theorem dL_cut_14 : decode cL_cut 14 = .ok (.ireturn, 1) := by decide +kernel
theorem dL_cut_15 : decode cL_cut 15 = .ok (.astore_n 3, 1) := by decide +kernel
theorem dL_cut_16 : decode cL_cut 16 = .ok (.iconst 2, 1) := by decide +kernel
theorem dL_cut_17 : decode cL_cut 17 = .ok (.ireturn, 1) := by decide +kernel
theorem dL_cut_18 : decode cL_cut 18 = .ok (.iconst 0, 1) := by decide +kernel
theorem dL_cut_19 : decode cL_cut 19 = .ok (.ireturn, 1) := by decide +kernel
theorem dL_nudged_0 : decode cL_nudged 0 = .ok (.aload_n 2, 1) := by decide +kernel
theorem dL_nudged_1 : decode cL_nudged 1 = .ok (.iconst 0, 1) := by decide +kernel
theorem dL_nudged_2 : decode cL_nudged 2 = .ok (.aload_n 0, 1) := by decide +kernel
theorem dL_nudged_3 : decode cL_nudged 3 = .ok (.iload_n 1, 1) := by decide +kernel
theorem dL_nudged_4 : decode cL_nudged 4 = .ok (.invokevirtual 73, 3) := by decide +kernel
theorem dL_nudged_7 : decode cL_nudged 7 = .ok (.i2l, 1) := by decide +kernel
theorem dL_nudged_8 : decode cL_nudged 8 = .ok (.lastore, 1) := by decide +kernel
theorem dL_nudged_9 : decode cL_nudged 9 = .ok (.goto 9, 3) := by decide +kernel
theorem dL_nudged_12 : decode cL_nudged 12 = .ok (.astore_n 3, 1) := by decide +kernel
theorem dL_nudged_13 : decode cL_nudged 13 = .ok (.iconst 1, 1) := by decide +kernel
theorem dL_nudged_14 : decode cL_nudged 14 = .ok (.ireturn, 1) := by decide +kernel
theorem dL_nudged_15 : decode cL_nudged 15 = .ok (.astore_n 3, 1) := by decide +kernel
theorem dL_nudged_16 : decode cL_nudged 16 = .ok (.iconst 2, 1) := by decide +kernel
theorem dL_nudged_17 : decode cL_nudged 17 = .ok (.ireturn, 1) := by decide +kernel
theorem dL_nudged_18 : decode cL_nudged 18 = .ok (.iconst 0, 1) := by decide +kernel
theorem dL_nudged_19 : decode cL_nudged 19 = .ok (.ireturn, 1) := by decide +kernel
theorem dL_law_0 : decode cL_law 0 = .ok (.new 8, 3) := by decide +kernel
theorem dL_law_3 : decode cL_law 3 = .ok (.dup, 1) := by decide +kernel
theorem dL_law_4 : decode cL_law 4 = .ok (.invokespecial 76, 3) := by decide +kernel
theorem dL_law_7 : decode cL_law 7 = .ok (.astore_n 1, 1) := by decide +kernel
theorem dL_law_8 : decode cL_law 8 = .ok (.new 77, 3) := by decide +kernel
theorem dL_law_11 : decode cL_law 11 = .ok (.dup, 1) := by decide +kernel
theorem dL_law_12 : decode cL_law 12 = .ok (.invokespecial 79, 3) := by decide +kernel
theorem dL_law_15 : decode cL_law 15 = .ok (.astore_n 2, 1) := by decide +kernel
theorem dL_law_16 : decode cL_law 16 = .ok (.iconst 1, 1) := by decide +kernel
theorem dL_law_17 : decode cL_law 17 = .ok (.newarray .long, 2) := by decide +kernel
theorem dL_law_19 : decode cL_law 19 = .ok (.astore_n 3, 1) := by decide +kernel
theorem dL_law_20 : decode cL_law 20 = .ok (.iconst 0, 1) := by decide +kernel
theorem dL_law_21 : decode cL_law 21 = .ok (.istore 4, 2) := by decide +kernel
theorem dL_law_23 : decode cL_law 23 = .ok (.iload 4, 2) := by decide +kernel
theorem dL_law_25 : decode cL_law 25 = .ok (.aload_n 0, 1) := by decide +kernel
theorem dL_law_26 : decode cL_law 26 = .ok (.arraylength, 1) := by decide +kernel
theorem dL_law_27 : decode cL_law 27 = .ok (.bipush 6, 2) := by decide +kernel
theorem dL_law_29 : decode cL_law 29 = .ok (.isub, 1) := by decide +kernel
theorem dL_law_30 : decode cL_law 30 = .ok (.if_icmp .gt 1502, 3) := by decide +kernel
theorem dL_law_33 : decode cL_law 33 = .ok (.aload_n 0, 1) := by decide +kernel
theorem dL_law_34 : decode cL_law 34 = .ok (.iload 4, 2) := by decide +kernel
theorem dL_law_36 : decode cL_law 36 = .ok (.iaload, 1) := by decide +kernel
theorem dL_law_37 : decode cL_law 37 = .ok (.bipush 31, 2) := by decide +kernel
theorem dL_law_39 : decode cL_law 39 = .ok (.iand, 1) := by decide +kernel
theorem dL_law_40 : decode cL_law 40 = .ok (.tableswitch 1486 0 22 #[108, 181, 237, 250, 306, 362, 430, 486, 499, 555, 623, 691, 747, 831, 887, 955, 1090, 1145, 1212, 1335, 1391, 1447, 1461], 108) := by decide +kernel
theorem dL_law_148 : decode cL_law 148 = .ok (.aload_n 1, 1) := by decide +kernel
theorem dL_law_149 : decode cL_law 149 = .ok (.aload_n 0, 1) := by decide +kernel
theorem dL_law_150 : decode cL_law 150 = .ok (.iload 4, 2) := by decide +kernel
theorem dL_law_152 : decode cL_law 152 = .ok (.iconst 1, 1) := by decide +kernel
theorem dL_law_153 : decode cL_law 153 = .ok (.iadd, 1) := by decide +kernel
theorem dL_law_154 : decode cL_law 154 = .ok (.iaload, 1) := by decide +kernel
theorem dL_law_155 : decode cL_law 155 = .ok (.aload_n 0, 1) := by decide +kernel
theorem dL_law_156 : decode cL_law 156 = .ok (.iload 4, 2) := by decide +kernel
theorem dL_law_158 : decode cL_law 158 = .ok (.iconst 2, 1) := by decide +kernel
theorem dL_law_159 : decode cL_law 159 = .ok (.iadd, 1) := by decide +kernel
theorem dL_law_160 : decode cL_law 160 = .ok (.iaload, 1) := by decide +kernel
theorem dL_law_161 : decode cL_law 161 = .ok (.aload_n 0, 1) := by decide +kernel
theorem dL_law_162 : decode cL_law 162 = .ok (.iload 4, 2) := by decide +kernel
theorem dL_law_164 : decode cL_law 164 = .ok (.iconst 3, 1) := by decide +kernel
theorem dL_law_165 : decode cL_law 165 = .ok (.iadd, 1) := by decide +kernel
theorem dL_law_166 : decode cL_law 166 = .ok (.iaload, 1) := by decide +kernel
theorem dL_law_167 : decode cL_law 167 = .ok (.aload_n 0, 1) := by decide +kernel
theorem dL_law_168 : decode cL_law 168 = .ok (.iload 4, 2) := by decide +kernel
theorem dL_law_170 : decode cL_law 170 = .ok (.iconst 4, 1) := by decide +kernel
theorem dL_law_171 : decode cL_law 171 = .ok (.iadd, 1) := by decide +kernel
theorem dL_law_172 : decode cL_law 172 = .ok (.iaload, 1) := by decide +kernel
theorem dL_law_173 : decode cL_law 173 = .ok (.aload_n 0, 1) := by decide +kernel
theorem dL_law_174 : decode cL_law 174 = .ok (.iload 4, 2) := by decide +kernel
theorem dL_law_176 : decode cL_law 176 = .ok (.iconst 5, 1) := by decide +kernel
theorem dL_law_177 : decode cL_law 177 = .ok (.iadd, 1) := by decide +kernel
theorem dL_law_178 : decode cL_law 178 = .ok (.iaload, 1) := by decide +kernel
theorem dL_law_179 : decode cL_law 179 = .ok (.invokevirtual 80, 3) := by decide +kernel
theorem dL_law_182 : decode cL_law 182 = .ok (.aload_n 2, 1) := by decide +kernel
theorem dL_law_183 : decode cL_law 183 = .ok (.aload_n 0, 1) := by decide +kernel
theorem dL_law_184 : decode cL_law 184 = .ok (.iload 4, 2) := by decide +kernel
theorem dL_law_186 : decode cL_law 186 = .ok (.iconst 1, 1) := by decide +kernel
theorem dL_law_187 : decode cL_law 187 = .ok (.iadd, 1) := by decide +kernel
theorem dL_law_188 : decode cL_law 188 = .ok (.iaload, 1) := by decide +kernel
theorem dL_law_189 : decode cL_law 189 = .ok (.aload_n 0, 1) := by decide +kernel
theorem dL_law_190 : decode cL_law 190 = .ok (.iload 4, 2) := by decide +kernel
theorem dL_law_192 : decode cL_law 192 = .ok (.iconst 2, 1) := by decide +kernel
theorem dL_law_193 : decode cL_law 193 = .ok (.iadd, 1) := by decide +kernel
theorem dL_law_194 : decode cL_law 194 = .ok (.iaload, 1) := by decide +kernel
theorem dL_law_195 : decode cL_law 195 = .ok (.aload_n 0, 1) := by decide +kernel
theorem dL_law_196 : decode cL_law 196 = .ok (.iload 4, 2) := by decide +kernel
theorem dL_law_198 : decode cL_law 198 = .ok (.iconst 3, 1) := by decide +kernel
theorem dL_law_199 : decode cL_law 199 = .ok (.iadd, 1) := by decide +kernel
theorem dL_law_200 : decode cL_law 200 = .ok (.iaload, 1) := by decide +kernel
theorem dL_law_201 : decode cL_law 201 = .ok (.aload_n 0, 1) := by decide +kernel
theorem dL_law_202 : decode cL_law 202 = .ok (.iload 4, 2) := by decide +kernel
theorem dL_law_204 : decode cL_law 204 = .ok (.iconst 4, 1) := by decide +kernel
theorem dL_law_205 : decode cL_law 205 = .ok (.iadd, 1) := by decide +kernel
theorem dL_law_206 : decode cL_law 206 = .ok (.iaload, 1) := by decide +kernel
theorem dL_law_207 : decode cL_law 207 = .ok (.aload_n 0, 1) := by decide +kernel
theorem dL_law_208 : decode cL_law 208 = .ok (.iload 4, 2) := by decide +kernel
theorem dL_law_210 : decode cL_law 210 = .ok (.iconst 5, 1) := by decide +kernel
theorem dL_law_211 : decode cL_law 211 = .ok (.iadd, 1) := by decide +kernel
theorem dL_law_212 : decode cL_law 212 = .ok (.iaload, 1) := by decide +kernel
theorem dL_law_213 : decode cL_law 213 = .ok (.invokevirtual 84, 3) := by decide +kernel
theorem dL_law_216 : decode cL_law 216 = .ok (.if_icmp .eq 1310, 3) := by decide +kernel
theorem dL_law_219 : decode cL_law 219 = .ok (.iconst 0, 1) := by decide +kernel
theorem dL_law_220 : decode cL_law 220 = .ok (.ireturn, 1) := by decide +kernel
theorem dL_law_221 : decode cL_law 221 = .ok (.aload_n 1, 1) := by decide +kernel
theorem dL_law_222 : decode cL_law 222 = .ok (.aload_n 0, 1) := by decide +kernel
theorem dL_law_223 : decode cL_law 223 = .ok (.iload 4, 2) := by decide +kernel
theorem dL_law_225 : decode cL_law 225 = .ok (.iconst 1, 1) := by decide +kernel
theorem dL_law_226 : decode cL_law 226 = .ok (.iadd, 1) := by decide +kernel
theorem dL_law_227 : decode cL_law 227 = .ok (.iaload, 1) := by decide +kernel
theorem dL_law_228 : decode cL_law 228 = .ok (.aload_n 3, 1) := by decide +kernel
theorem dL_law_229 : decode cL_law 229 = .ok (.invokestatic 85, 3) := by decide +kernel
theorem dL_law_232 : decode cL_law 232 = .ok (.istore 5, 2) := by decide +kernel
theorem dL_law_234 : decode cL_law 234 = .ok (.aload_n 2, 1) := by decide +kernel
theorem dL_law_235 : decode cL_law 235 = .ok (.aload_n 0, 1) := by decide +kernel
theorem dL_law_236 : decode cL_law 236 = .ok (.iload 4, 2) := by decide +kernel
theorem dL_law_238 : decode cL_law 238 = .ok (.iconst 1, 1) := by decide +kernel
theorem dL_law_239 : decode cL_law 239 = .ok (.iadd, 1) := by decide +kernel
theorem dL_law_240 : decode cL_law 240 = .ok (.iaload, 1) := by decide +kernel
theorem dL_law_241 : decode cL_law 241 = .ok (.invokevirtual 90, 3) := by decide +kernel
theorem dL_law_244 : decode cL_law 244 = .ok (.istore 6, 2) := by decide +kernel
theorem dL_law_246 : decode cL_law 246 = .ok (.aload_n 2, 1) := by decide +kernel
theorem dL_law_247 : decode cL_law 247 = .ok (.invokevirtual 91, 3) := by decide +kernel
theorem dL_law_250 : decode cL_law 250 = .ok (.iload 5, 2) := by decide +kernel
theorem dL_law_252 : decode cL_law 252 = .ok (.if_icmp .eq 5, 3) := by decide +kernel
theorem dL_law_255 : decode cL_law 255 = .ok (.iconst 0, 1) := by decide +kernel
theorem dL_law_256 : decode cL_law 256 = .ok (.ireturn, 1) := by decide +kernel
theorem dL_law_257 : decode cL_law 257 = .ok (.iload 5, 2) := by decide +kernel
theorem dL_law_259 : decode cL_law 259 = .ok (.ifCond .ne 15, 3) := by decide +kernel
theorem dL_law_262 : decode cL_law 262 = .ok (.aload_n 3, 1) := by decide +kernel
theorem dL_law_263 : decode cL_law 263 = .ok (.iconst 0, 1) := by decide +kernel
theorem dL_law_264 : decode cL_law 264 = .ok (.laload, 1) := by decide +kernel
theorem dL_law_265 : decode cL_law 265 = .ok (.iload 6, 2) := by decide +kernel
theorem dL_law_267 : decode cL_law 267 = .ok (.i2l, 1) := by decide +kernel
theorem dL_law_268 : decode cL_law 268 = .ok (.lcmp, 1) := by decide +kernel
theorem dL_law_269 : decode cL_law 269 = .ok (.ifCond .eq 5, 3) := by decide +kernel
theorem dL_law_272 : decode cL_law 272 = .ok (.iconst 0, 1) := by decide +kernel
theorem dL_law_273 : decode cL_law 273 = .ok (.ireturn, 1) := by decide +kernel
theorem dL_law_274 : decode cL_law 274 = .ok (.goto 1252, 3) := by decide +kernel
theorem dL_law_277 : decode cL_law 277 = .ok (.aload_n 1, 1) := by decide +kernel
theorem dL_law_278 : decode cL_law 278 = .ok (.invokevirtual 95, 3) := by decide +kernel
theorem dL_law_281 : decode cL_law 281 = .ok (.aload_n 2, 1) := by decide +kernel
theorem dL_law_282 : decode cL_law 282 = .ok (.invokevirtual 98, 3) := by decide +kernel
theorem dL_law_285 : decode cL_law 285 = .ok (.if_icmp .eq 1241, 3) := by decide +kernel
theorem dL_law_288 : decode cL_law 288 = .ok (.iconst 0, 1) := by decide +kernel
theorem dL_law_289 : decode cL_law 289 = .ok (.ireturn, 1) := by decide +kernel
theorem dL_law_290 : decode cL_law 290 = .ok (.aload_n 1, 1) := by decide +kernel
theorem dL_law_291 : decode cL_law 291 = .ok (.aload_n 0, 1) := by decide +kernel
theorem dL_law_292 : decode cL_law 292 = .ok (.iload 4, 2) := by decide +kernel
theorem dL_law_294 : decode cL_law 294 = .ok (.iconst 1, 1) := by decide +kernel
theorem dL_law_295 : decode cL_law 295 = .ok (.iadd, 1) := by decide +kernel
theorem dL_law_296 : decode cL_law 296 = .ok (.iaload, 1) := by decide +kernel
theorem dL_law_297 : decode cL_law 297 = .ok (.aload_n 3, 1) := by decide +kernel
theorem dL_law_298 : decode cL_law 298 = .ok (.invokestatic 99, 3) := by decide +kernel
theorem dL_law_301 : decode cL_law 301 = .ok (.istore 5, 2) := by decide +kernel
theorem dL_law_303 : decode cL_law 303 = .ok (.aload_n 2, 1) := by decide +kernel
theorem dL_law_304 : decode cL_law 304 = .ok (.aload_n 0, 1) := by decide +kernel
theorem dL_law_305 : decode cL_law 305 = .ok (.iload 4, 2) := by decide +kernel
theorem dL_law_307 : decode cL_law 307 = .ok (.iconst 1, 1) := by decide +kernel
theorem dL_law_308 : decode cL_law 308 = .ok (.iadd, 1) := by decide +kernel
theorem dL_law_309 : decode cL_law 309 = .ok (.iaload, 1) := by decide +kernel
theorem dL_law_310 : decode cL_law 310 = .ok (.invokevirtual 101, 3) := by decide +kernel
theorem dL_law_313 : decode cL_law 313 = .ok (.istore 6, 2) := by decide +kernel
theorem dL_law_315 : decode cL_law 315 = .ok (.aload_n 2, 1) := by decide +kernel
theorem dL_law_316 : decode cL_law 316 = .ok (.invokevirtual 91, 3) := by decide +kernel
theorem dL_law_319 : decode cL_law 319 = .ok (.iload 5, 2) := by decide +kernel
theorem dL_law_321 : decode cL_law 321 = .ok (.if_icmp .eq 5, 3) := by decide +kernel
theorem dL_law_324 : decode cL_law 324 = .ok (.iconst 0, 1) := by decide +kernel
theorem dL_law_325 : decode cL_law 325 = .ok (.ireturn, 1) := by decide +kernel
theorem dL_law_326 : decode cL_law 326 = .ok (.iload 5, 2) := by decide +kernel
theorem dL_law_328 : decode cL_law 328 = .ok (.ifCond .ne 15, 3) := by decide +kernel
theorem dL_law_331 : decode cL_law 331 = .ok (.aload_n 3, 1) := by decide +kernel
theorem dL_law_332 : decode cL_law 332 = .ok (.iconst 0, 1) := by decide +kernel
theorem dL_law_333 : decode cL_law 333 = .ok (.laload, 1) := by decide +kernel
theorem dL_law_334 : decode cL_law 334 = .ok (.iload 6, 2) := by decide +kernel
theorem dL_law_336 : decode cL_law 336 = .ok (.i2l, 1) := by decide +kernel
theorem dL_law_337 : decode cL_law 337 = .ok (.lcmp, 1) := by decide +kernel
theorem dL_law_338 : decode cL_law 338 = .ok (.ifCond .eq 5, 3) := by decide +kernel
theorem dL_law_341 : decode cL_law 341 = .ok (.iconst 0, 1) := by decide +kernel
theorem dL_law_342 : decode cL_law 342 = .ok (.ireturn, 1) := by decide +kernel
theorem dL_law_343 : decode cL_law 343 = .ok (.goto 1183, 3) := by decide +kernel
theorem dL_law_346 : decode cL_law 346 = .ok (.aload_n 1, 1) := by decide +kernel
theorem dL_law_347 : decode cL_law 347 = .ok (.aload_n 0, 1) := by decide +kernel
theorem dL_law_348 : decode cL_law 348 = .ok (.iload 4, 2) := by decide +kernel
theorem dL_law_350 : decode cL_law 350 = .ok (.iconst 1, 1) := by decide +kernel
theorem dL_law_351 : decode cL_law 351 = .ok (.iadd, 1) := by decide +kernel
theorem dL_law_352 : decode cL_law 352 = .ok (.iaload, 1) := by decide +kernel
theorem dL_law_353 : decode cL_law 353 = .ok (.aload_n 3, 1) := by decide +kernel
theorem dL_law_354 : decode cL_law 354 = .ok (.invokestatic 102, 3) := by decide +kernel
theorem dL_law_357 : decode cL_law 357 = .ok (.istore 5, 2) := by decide +kernel
theorem dL_law_359 : decode cL_law 359 = .ok (.aload_n 2, 1) := by decide +kernel
theorem dL_law_360 : decode cL_law 360 = .ok (.aload_n 0, 1) := by decide +kernel
theorem dL_law_361 : decode cL_law 361 = .ok (.iload 4, 2) := by decide +kernel
theorem dL_law_363 : decode cL_law 363 = .ok (.iconst 1, 1) := by decide +kernel
theorem dL_law_364 : decode cL_law 364 = .ok (.iadd, 1) := by decide +kernel
theorem dL_law_365 : decode cL_law 365 = .ok (.iaload, 1) := by decide +kernel
theorem dL_law_366 : decode cL_law 366 = .ok (.invokevirtual 104, 3) := by decide +kernel
theorem dL_law_369 : decode cL_law 369 = .ok (.istore 6, 2) := by decide +kernel
theorem dL_law_371 : decode cL_law 371 = .ok (.aload_n 2, 1) := by decide +kernel
theorem dL_law_372 : decode cL_law 372 = .ok (.invokevirtual 91, 3) := by decide +kernel
theorem dL_law_375 : decode cL_law 375 = .ok (.iload 5, 2) := by decide +kernel
theorem dL_law_377 : decode cL_law 377 = .ok (.if_icmp .eq 5, 3) := by decide +kernel
theorem dL_law_380 : decode cL_law 380 = .ok (.iconst 0, 1) := by decide +kernel
theorem dL_law_381 : decode cL_law 381 = .ok (.ireturn, 1) := by decide +kernel
theorem dL_law_382 : decode cL_law 382 = .ok (.iload 5, 2) := by decide +kernel
theorem dL_law_384 : decode cL_law 384 = .ok (.ifCond .ne 15, 3) := by decide +kernel
theorem dL_law_387 : decode cL_law 387 = .ok (.aload_n 3, 1) := by decide +kernel
theorem dL_law_388 : decode cL_law 388 = .ok (.iconst 0, 1) := by decide +kernel
theorem dL_law_389 : decode cL_law 389 = .ok (.laload, 1) := by decide +kernel
theorem dL_law_390 : decode cL_law 390 = .ok (.iload 6, 2) := by decide +kernel
theorem dL_law_392 : decode cL_law 392 = .ok (.i2l, 1) := by decide +kernel
theorem dL_law_393 : decode cL_law 393 = .ok (.lcmp, 1) := by decide +kernel
theorem dL_law_394 : decode cL_law 394 = .ok (.ifCond .eq 5, 3) := by decide +kernel
theorem dL_law_397 : decode cL_law 397 = .ok (.iconst 0, 1) := by decide +kernel
theorem dL_law_398 : decode cL_law 398 = .ok (.ireturn, 1) := by decide +kernel
theorem dL_law_399 : decode cL_law 399 = .ok (.goto 1127, 3) := by decide +kernel
theorem dL_law_402 : decode cL_law 402 = .ok (.aload_n 1, 1) := by decide +kernel
theorem dL_law_403 : decode cL_law 403 = .ok (.aload_n 0, 1) := by decide +kernel
theorem dL_law_404 : decode cL_law 404 = .ok (.iload 4, 2) := by decide +kernel
theorem dL_law_406 : decode cL_law 406 = .ok (.iconst 1, 1) := by decide +kernel
theorem dL_law_407 : decode cL_law 407 = .ok (.iadd, 1) := by decide +kernel
theorem dL_law_408 : decode cL_law 408 = .ok (.iaload, 1) := by decide +kernel
theorem dL_law_409 : decode cL_law 409 = .ok (.aload_n 0, 1) := by decide +kernel
theorem dL_law_410 : decode cL_law 410 = .ok (.iload 4, 2) := by decide +kernel
theorem dL_law_412 : decode cL_law 412 = .ok (.iconst 2, 1) := by decide +kernel
theorem dL_law_413 : decode cL_law 413 = .ok (.iadd, 1) := by decide +kernel
theorem dL_law_414 : decode cL_law 414 = .ok (.iaload, 1) := by decide +kernel
theorem dL_law_415 : decode cL_law 415 = .ok (.aload_n 3, 1) := by decide +kernel
theorem dL_law_416 : decode cL_law 416 = .ok (.invokestatic 105, 3) := by decide +kernel
theorem dL_law_419 : decode cL_law 419 = .ok (.istore 5, 2) := by decide +kernel
theorem dL_law_421 : decode cL_law 421 = .ok (.aload_n 2, 1) := by decide +kernel
theorem dL_law_422 : decode cL_law 422 = .ok (.aload_n 0, 1) := by decide +kernel
theorem dL_law_423 : decode cL_law 423 = .ok (.iload 4, 2) := by decide +kernel
theorem dL_law_425 : decode cL_law 425 = .ok (.iconst 1, 1) := by decide +kernel
theorem dL_law_426 : decode cL_law 426 = .ok (.iadd, 1) := by decide +kernel
theorem dL_law_427 : decode cL_law 427 = .ok (.iaload, 1) := by decide +kernel
theorem dL_law_428 : decode cL_law 428 = .ok (.aload_n 0, 1) := by decide +kernel
theorem dL_law_429 : decode cL_law 429 = .ok (.iload 4, 2) := by decide +kernel
theorem dL_law_431 : decode cL_law 431 = .ok (.iconst 2, 1) := by decide +kernel
theorem dL_law_432 : decode cL_law 432 = .ok (.iadd, 1) := by decide +kernel
theorem dL_law_433 : decode cL_law 433 = .ok (.iaload, 1) := by decide +kernel
theorem dL_law_434 : decode cL_law 434 = .ok (.invokevirtual 108, 3) := by decide +kernel
theorem dL_law_437 : decode cL_law 437 = .ok (.istore 6, 2) := by decide +kernel
theorem dL_law_439 : decode cL_law 439 = .ok (.aload_n 2, 1) := by decide +kernel
theorem dL_law_440 : decode cL_law 440 = .ok (.invokevirtual 91, 3) := by decide +kernel
theorem dL_law_443 : decode cL_law 443 = .ok (.iload 5, 2) := by decide +kernel
theorem dL_law_445 : decode cL_law 445 = .ok (.if_icmp .eq 5, 3) := by decide +kernel
theorem dL_law_448 : decode cL_law 448 = .ok (.iconst 0, 1) := by decide +kernel
theorem dL_law_449 : decode cL_law 449 = .ok (.ireturn, 1) := by decide +kernel
theorem dL_law_450 : decode cL_law 450 = .ok (.iload 5, 2) := by decide +kernel
theorem dL_law_452 : decode cL_law 452 = .ok (.ifCond .ne 15, 3) := by decide +kernel
theorem dL_law_455 : decode cL_law 455 = .ok (.aload_n 3, 1) := by decide +kernel
theorem dL_law_456 : decode cL_law 456 = .ok (.iconst 0, 1) := by decide +kernel
theorem dL_law_457 : decode cL_law 457 = .ok (.laload, 1) := by decide +kernel
theorem dL_law_458 : decode cL_law 458 = .ok (.iload 6, 2) := by decide +kernel
theorem dL_law_460 : decode cL_law 460 = .ok (.i2l, 1) := by decide +kernel
theorem dL_law_461 : decode cL_law 461 = .ok (.lcmp, 1) := by decide +kernel
theorem dL_law_462 : decode cL_law 462 = .ok (.ifCond .eq 5, 3) := by decide +kernel
theorem dL_law_465 : decode cL_law 465 = .ok (.iconst 0, 1) := by decide +kernel
theorem dL_law_466 : decode cL_law 466 = .ok (.ireturn, 1) := by decide +kernel
theorem dL_law_467 : decode cL_law 467 = .ok (.goto 1059, 3) := by decide +kernel
theorem dL_law_470 : decode cL_law 470 = .ok (.aload_n 1, 1) := by decide +kernel
theorem dL_law_471 : decode cL_law 471 = .ok (.aload_n 0, 1) := by decide +kernel
theorem dL_law_472 : decode cL_law 472 = .ok (.iload 4, 2) := by decide +kernel
theorem dL_law_474 : decode cL_law 474 = .ok (.iconst 1, 1) := by decide +kernel
theorem dL_law_475 : decode cL_law 475 = .ok (.iadd, 1) := by decide +kernel
theorem dL_law_476 : decode cL_law 476 = .ok (.iaload, 1) := by decide +kernel
theorem dL_law_477 : decode cL_law 477 = .ok (.aload_n 3, 1) := by decide +kernel
theorem dL_law_478 : decode cL_law 478 = .ok (.invokestatic 109, 3) := by decide +kernel
theorem dL_law_481 : decode cL_law 481 = .ok (.istore 5, 2) := by decide +kernel
theorem dL_law_483 : decode cL_law 483 = .ok (.aload_n 2, 1) := by decide +kernel
theorem dL_law_484 : decode cL_law 484 = .ok (.aload_n 0, 1) := by decide +kernel
theorem dL_law_485 : decode cL_law 485 = .ok (.iload 4, 2) := by decide +kernel
theorem dL_law_487 : decode cL_law 487 = .ok (.iconst 1, 1) := by decide +kernel
theorem dL_law_488 : decode cL_law 488 = .ok (.iadd, 1) := by decide +kernel
theorem dL_law_489 : decode cL_law 489 = .ok (.iaload, 1) := by decide +kernel
theorem dL_law_490 : decode cL_law 490 = .ok (.invokevirtual 111, 3) := by decide +kernel
theorem dL_law_493 : decode cL_law 493 = .ok (.istore 6, 2) := by decide +kernel
theorem dL_law_495 : decode cL_law 495 = .ok (.aload_n 2, 1) := by decide +kernel
theorem dL_law_496 : decode cL_law 496 = .ok (.invokevirtual 91, 3) := by decide +kernel
theorem dL_law_499 : decode cL_law 499 = .ok (.iload 5, 2) := by decide +kernel
theorem dL_law_501 : decode cL_law 501 = .ok (.if_icmp .eq 5, 3) := by decide +kernel
theorem dL_law_504 : decode cL_law 504 = .ok (.iconst 0, 1) := by decide +kernel
theorem dL_law_505 : decode cL_law 505 = .ok (.ireturn, 1) := by decide +kernel
theorem dL_law_506 : decode cL_law 506 = .ok (.iload 5, 2) := by decide +kernel
theorem dL_law_508 : decode cL_law 508 = .ok (.ifCond .ne 15, 3) := by decide +kernel
theorem dL_law_511 : decode cL_law 511 = .ok (.aload_n 3, 1) := by decide +kernel
theorem dL_law_512 : decode cL_law 512 = .ok (.iconst 0, 1) := by decide +kernel
theorem dL_law_513 : decode cL_law 513 = .ok (.laload, 1) := by decide +kernel
theorem dL_law_514 : decode cL_law 514 = .ok (.iload 6, 2) := by decide +kernel
theorem dL_law_516 : decode cL_law 516 = .ok (.i2l, 1) := by decide +kernel
theorem dL_law_517 : decode cL_law 517 = .ok (.lcmp, 1) := by decide +kernel
theorem dL_law_518 : decode cL_law 518 = .ok (.ifCond .eq 5, 3) := by decide +kernel
theorem dL_law_521 : decode cL_law 521 = .ok (.iconst 0, 1) := by decide +kernel
theorem dL_law_522 : decode cL_law 522 = .ok (.ireturn, 1) := by decide +kernel
theorem dL_law_523 : decode cL_law 523 = .ok (.goto 1003, 3) := by decide +kernel
theorem dL_law_526 : decode cL_law 526 = .ok (.aload_n 1, 1) := by decide +kernel
theorem dL_law_527 : decode cL_law 527 = .ok (.invokevirtual 112, 3) := by decide +kernel
theorem dL_law_530 : decode cL_law 530 = .ok (.aload_n 2, 1) := by decide +kernel
theorem dL_law_531 : decode cL_law 531 = .ok (.invokevirtual 115, 3) := by decide +kernel
theorem dL_law_534 : decode cL_law 534 = .ok (.if_icmp .eq 992, 3) := by decide +kernel
theorem dL_law_537 : decode cL_law 537 = .ok (.iconst 0, 1) := by decide +kernel
theorem dL_law_538 : decode cL_law 538 = .ok (.ireturn, 1) := by decide +kernel
theorem dL_law_539 : decode cL_law 539 = .ok (.aload_n 1, 1) := by decide +kernel
theorem dL_law_540 : decode cL_law 540 = .ok (.aload_n 0, 1) := by decide +kernel
theorem dL_law_541 : decode cL_law 541 = .ok (.iload 4, 2) := by decide +kernel
theorem dL_law_543 : decode cL_law 543 = .ok (.iconst 1, 1) := by decide +kernel
theorem dL_law_544 : decode cL_law 544 = .ok (.iadd, 1) := by decide +kernel
theorem dL_law_545 : decode cL_law 545 = .ok (.iaload, 1) := by decide +kernel
theorem dL_law_546 : decode cL_law 546 = .ok (.aload_n 3, 1) := by decide +kernel
theorem dL_law_547 : decode cL_law 547 = .ok (.invokestatic 116, 3) := by decide +kernel
theorem dL_law_550 : decode cL_law 550 = .ok (.istore 5, 2) := by decide +kernel
theorem dL_law_552 : decode cL_law 552 = .ok (.aload_n 2, 1) := by decide +kernel
theorem dL_law_553 : decode cL_law 553 = .ok (.aload_n 0, 1) := by decide +kernel
theorem dL_law_554 : decode cL_law 554 = .ok (.iload 4, 2) := by decide +kernel
theorem dL_law_556 : decode cL_law 556 = .ok (.iconst 1, 1) := by decide +kernel
theorem dL_law_557 : decode cL_law 557 = .ok (.iadd, 1) := by decide +kernel
theorem dL_law_558 : decode cL_law 558 = .ok (.iaload, 1) := by decide +kernel
theorem dL_law_559 : decode cL_law 559 = .ok (.invokevirtual 118, 3) := by decide +kernel
theorem dL_law_562 : decode cL_law 562 = .ok (.istore 6, 2) := by decide +kernel
theorem dL_law_564 : decode cL_law 564 = .ok (.aload_n 2, 1) := by decide +kernel
theorem dL_law_565 : decode cL_law 565 = .ok (.invokevirtual 91, 3) := by decide +kernel
theorem dL_law_568 : decode cL_law 568 = .ok (.iload 5, 2) := by decide +kernel
theorem dL_law_570 : decode cL_law 570 = .ok (.if_icmp .eq 5, 3) := by decide +kernel
theorem dL_law_573 : decode cL_law 573 = .ok (.iconst 0, 1) := by decide +kernel
theorem dL_law_574 : decode cL_law 574 = .ok (.ireturn, 1) := by decide +kernel
theorem dL_law_575 : decode cL_law 575 = .ok (.iload 5, 2) := by decide +kernel
theorem dL_law_577 : decode cL_law 577 = .ok (.ifCond .ne 15, 3) := by decide +kernel
theorem dL_law_580 : decode cL_law 580 = .ok (.aload_n 3, 1) := by decide +kernel
theorem dL_law_581 : decode cL_law 581 = .ok (.iconst 0, 1) := by decide +kernel
theorem dL_law_582 : decode cL_law 582 = .ok (.laload, 1) := by decide +kernel
theorem dL_law_583 : decode cL_law 583 = .ok (.iload 6, 2) := by decide +kernel
theorem dL_law_585 : decode cL_law 585 = .ok (.i2l, 1) := by decide +kernel
theorem dL_law_586 : decode cL_law 586 = .ok (.lcmp, 1) := by decide +kernel
theorem dL_law_587 : decode cL_law 587 = .ok (.ifCond .eq 5, 3) := by decide +kernel
theorem dL_law_590 : decode cL_law 590 = .ok (.iconst 0, 1) := by decide +kernel
theorem dL_law_591 : decode cL_law 591 = .ok (.ireturn, 1) := by decide +kernel
theorem dL_law_592 : decode cL_law 592 = .ok (.goto 934, 3) := by decide +kernel
theorem dL_law_595 : decode cL_law 595 = .ok (.aload_n 1, 1) := by decide +kernel
theorem dL_law_596 : decode cL_law 596 = .ok (.aload_n 0, 1) := by decide +kernel
theorem dL_law_597 : decode cL_law 597 = .ok (.iload 4, 2) := by decide +kernel
theorem dL_law_599 : decode cL_law 599 = .ok (.iconst 1, 1) := by decide +kernel
theorem dL_law_600 : decode cL_law 600 = .ok (.iadd, 1) := by decide +kernel
theorem dL_law_601 : decode cL_law 601 = .ok (.iaload, 1) := by decide +kernel
theorem dL_law_602 : decode cL_law 602 = .ok (.aload_n 0, 1) := by decide +kernel
theorem dL_law_603 : decode cL_law 603 = .ok (.iload 4, 2) := by decide +kernel
theorem dL_law_605 : decode cL_law 605 = .ok (.iconst 2, 1) := by decide +kernel
theorem dL_law_606 : decode cL_law 606 = .ok (.iadd, 1) := by decide +kernel
theorem dL_law_607 : decode cL_law 607 = .ok (.iaload, 1) := by decide +kernel
theorem dL_law_608 : decode cL_law 608 = .ok (.aload_n 3, 1) := by decide +kernel
theorem dL_law_609 : decode cL_law 609 = .ok (.invokestatic 119, 3) := by decide +kernel
theorem dL_law_612 : decode cL_law 612 = .ok (.istore 5, 2) := by decide +kernel
theorem dL_law_614 : decode cL_law 614 = .ok (.aload_n 2, 1) := by decide +kernel
theorem dL_law_615 : decode cL_law 615 = .ok (.aload_n 0, 1) := by decide +kernel
theorem dL_law_616 : decode cL_law 616 = .ok (.iload 4, 2) := by decide +kernel
theorem dL_law_618 : decode cL_law 618 = .ok (.iconst 1, 1) := by decide +kernel
theorem dL_law_619 : decode cL_law 619 = .ok (.iadd, 1) := by decide +kernel
theorem dL_law_620 : decode cL_law 620 = .ok (.iaload, 1) := by decide +kernel
theorem dL_law_621 : decode cL_law 621 = .ok (.aload_n 0, 1) := by decide +kernel
theorem dL_law_622 : decode cL_law 622 = .ok (.iload 4, 2) := by decide +kernel
theorem dL_law_624 : decode cL_law 624 = .ok (.iconst 2, 1) := by decide +kernel
theorem dL_law_625 : decode cL_law 625 = .ok (.iadd, 1) := by decide +kernel
theorem dL_law_626 : decode cL_law 626 = .ok (.iaload, 1) := by decide +kernel
theorem dL_law_627 : decode cL_law 627 = .ok (.invokevirtual 121, 3) := by decide +kernel
theorem dL_law_630 : decode cL_law 630 = .ok (.istore 6, 2) := by decide +kernel
theorem dL_law_632 : decode cL_law 632 = .ok (.aload_n 2, 1) := by decide +kernel
theorem dL_law_633 : decode cL_law 633 = .ok (.invokevirtual 91, 3) := by decide +kernel
theorem dL_law_636 : decode cL_law 636 = .ok (.iload 5, 2) := by decide +kernel
theorem dL_law_638 : decode cL_law 638 = .ok (.if_icmp .eq 5, 3) := by decide +kernel
theorem dL_law_641 : decode cL_law 641 = .ok (.iconst 0, 1) := by decide +kernel
theorem dL_law_642 : decode cL_law 642 = .ok (.ireturn, 1) := by decide +kernel
theorem dL_law_643 : decode cL_law 643 = .ok (.iload 5, 2) := by decide +kernel
theorem dL_law_645 : decode cL_law 645 = .ok (.ifCond .ne 15, 3) := by decide +kernel
theorem dL_law_648 : decode cL_law 648 = .ok (.aload_n 3, 1) := by decide +kernel
theorem dL_law_649 : decode cL_law 649 = .ok (.iconst 0, 1) := by decide +kernel
theorem dL_law_650 : decode cL_law 650 = .ok (.laload, 1) := by decide +kernel
theorem dL_law_651 : decode cL_law 651 = .ok (.iload 6, 2) := by decide +kernel
theorem dL_law_653 : decode cL_law 653 = .ok (.i2l, 1) := by decide +kernel
theorem dL_law_654 : decode cL_law 654 = .ok (.lcmp, 1) := by decide +kernel
theorem dL_law_655 : decode cL_law 655 = .ok (.ifCond .eq 5, 3) := by decide +kernel
theorem dL_law_658 : decode cL_law 658 = .ok (.iconst 0, 1) := by decide +kernel
theorem dL_law_659 : decode cL_law 659 = .ok (.ireturn, 1) := by decide +kernel
theorem dL_law_660 : decode cL_law 660 = .ok (.goto 866, 3) := by decide +kernel
theorem dL_law_663 : decode cL_law 663 = .ok (.aload_n 1, 1) := by decide +kernel
theorem dL_law_664 : decode cL_law 664 = .ok (.aload_n 0, 1) := by decide +kernel
theorem dL_law_665 : decode cL_law 665 = .ok (.iload 4, 2) := by decide +kernel
theorem dL_law_667 : decode cL_law 667 = .ok (.iconst 1, 1) := by decide +kernel
theorem dL_law_668 : decode cL_law 668 = .ok (.iadd, 1) := by decide +kernel
theorem dL_law_669 : decode cL_law 669 = .ok (.iaload, 1) := by decide +kernel
theorem dL_law_670 : decode cL_law 670 = .ok (.aload_n 0, 1) := by decide +kernel
theorem dL_law_671 : decode cL_law 671 = .ok (.iload 4, 2) := by decide +kernel
theorem dL_law_673 : decode cL_law 673 = .ok (.iconst 2, 1) := by decide +kernel
theorem dL_law_674 : decode cL_law 674 = .ok (.iadd, 1) := by decide +kernel
theorem dL_law_675 : decode cL_law 675 = .ok (.iaload, 1) := by decide +kernel
theorem dL_law_676 : decode cL_law 676 = .ok (.aload_n 3, 1) := by decide +kernel
theorem dL_law_677 : decode cL_law 677 = .ok (.invokestatic 122, 3) := by decide +kernel
theorem dL_law_680 : decode cL_law 680 = .ok (.istore 5, 2) := by decide +kernel
theorem dL_law_682 : decode cL_law 682 = .ok (.aload_n 2, 1) := by decide +kernel
theorem dL_law_683 : decode cL_law 683 = .ok (.aload_n 0, 1) := by decide +kernel
theorem dL_law_684 : decode cL_law 684 = .ok (.iload 4, 2) := by decide +kernel
theorem dL_law_686 : decode cL_law 686 = .ok (.iconst 1, 1) := by decide +kernel
theorem dL_law_687 : decode cL_law 687 = .ok (.iadd, 1) := by decide +kernel
theorem dL_law_688 : decode cL_law 688 = .ok (.iaload, 1) := by decide +kernel
theorem dL_law_689 : decode cL_law 689 = .ok (.aload_n 0, 1) := by decide +kernel
theorem dL_law_690 : decode cL_law 690 = .ok (.iload 4, 2) := by decide +kernel
theorem dL_law_692 : decode cL_law 692 = .ok (.iconst 2, 1) := by decide +kernel
theorem dL_law_693 : decode cL_law 693 = .ok (.iadd, 1) := by decide +kernel
theorem dL_law_694 : decode cL_law 694 = .ok (.iaload, 1) := by decide +kernel
theorem dL_law_695 : decode cL_law 695 = .ok (.invokevirtual 124, 3) := by decide +kernel
theorem dL_law_698 : decode cL_law 698 = .ok (.istore 6, 2) := by decide +kernel
theorem dL_law_700 : decode cL_law 700 = .ok (.aload_n 2, 1) := by decide +kernel
theorem dL_law_701 : decode cL_law 701 = .ok (.invokevirtual 91, 3) := by decide +kernel
theorem dL_law_704 : decode cL_law 704 = .ok (.iload 5, 2) := by decide +kernel
theorem dL_law_706 : decode cL_law 706 = .ok (.if_icmp .eq 5, 3) := by decide +kernel
theorem dL_law_709 : decode cL_law 709 = .ok (.iconst 0, 1) := by decide +kernel
theorem dL_law_710 : decode cL_law 710 = .ok (.ireturn, 1) := by decide +kernel
theorem dL_law_711 : decode cL_law 711 = .ok (.iload 5, 2) := by decide +kernel
theorem dL_law_713 : decode cL_law 713 = .ok (.ifCond .ne 15, 3) := by decide +kernel
theorem dL_law_716 : decode cL_law 716 = .ok (.aload_n 3, 1) := by decide +kernel
theorem dL_law_717 : decode cL_law 717 = .ok (.iconst 0, 1) := by decide +kernel
theorem dL_law_718 : decode cL_law 718 = .ok (.laload, 1) := by decide +kernel
theorem dL_law_719 : decode cL_law 719 = .ok (.iload 6, 2) := by decide +kernel
theorem dL_law_721 : decode cL_law 721 = .ok (.i2l, 1) := by decide +kernel
theorem dL_law_722 : decode cL_law 722 = .ok (.lcmp, 1) := by decide +kernel
theorem dL_law_723 : decode cL_law 723 = .ok (.ifCond .eq 5, 3) := by decide +kernel
theorem dL_law_726 : decode cL_law 726 = .ok (.iconst 0, 1) := by decide +kernel
theorem dL_law_727 : decode cL_law 727 = .ok (.ireturn, 1) := by decide +kernel
theorem dL_law_728 : decode cL_law 728 = .ok (.goto 798, 3) := by decide +kernel
theorem dL_law_731 : decode cL_law 731 = .ok (.aload_n 1, 1) := by decide +kernel
theorem dL_law_732 : decode cL_law 732 = .ok (.aload_n 0, 1) := by decide +kernel
theorem dL_law_733 : decode cL_law 733 = .ok (.iload 4, 2) := by decide +kernel
theorem dL_law_735 : decode cL_law 735 = .ok (.iconst 1, 1) := by decide +kernel
theorem dL_law_736 : decode cL_law 736 = .ok (.iadd, 1) := by decide +kernel
theorem dL_law_737 : decode cL_law 737 = .ok (.iaload, 1) := by decide +kernel
theorem dL_law_738 : decode cL_law 738 = .ok (.aload_n 3, 1) := by decide +kernel
theorem dL_law_739 : decode cL_law 739 = .ok (.invokestatic 125, 3) := by decide +kernel
theorem dL_law_742 : decode cL_law 742 = .ok (.istore 5, 2) := by decide +kernel
theorem dL_law_744 : decode cL_law 744 = .ok (.aload_n 2, 1) := by decide +kernel
theorem dL_law_745 : decode cL_law 745 = .ok (.aload_n 0, 1) := by decide +kernel
theorem dL_law_746 : decode cL_law 746 = .ok (.iload 4, 2) := by decide +kernel
theorem dL_law_748 : decode cL_law 748 = .ok (.iconst 1, 1) := by decide +kernel
theorem dL_law_749 : decode cL_law 749 = .ok (.iadd, 1) := by decide +kernel
theorem dL_law_750 : decode cL_law 750 = .ok (.iaload, 1) := by decide +kernel
theorem dL_law_751 : decode cL_law 751 = .ok (.invokevirtual 127, 3) := by decide +kernel
theorem dL_law_754 : decode cL_law 754 = .ok (.istore 6, 2) := by decide +kernel
theorem dL_law_756 : decode cL_law 756 = .ok (.aload_n 2, 1) := by decide +kernel
theorem dL_law_757 : decode cL_law 757 = .ok (.invokevirtual 91, 3) := by decide +kernel
theorem dL_law_760 : decode cL_law 760 = .ok (.iload 5, 2) := by decide +kernel
theorem dL_law_762 : decode cL_law 762 = .ok (.if_icmp .eq 5, 3) := by decide +kernel
theorem dL_law_765 : decode cL_law 765 = .ok (.iconst 0, 1) := by decide +kernel
theorem dL_law_766 : decode cL_law 766 = .ok (.ireturn, 1) := by decide +kernel
theorem dL_law_767 : decode cL_law 767 = .ok (.iload 5, 2) := by decide +kernel
theorem dL_law_769 : decode cL_law 769 = .ok (.ifCond .ne 15, 3) := by decide +kernel
theorem dL_law_772 : decode cL_law 772 = .ok (.aload_n 3, 1) := by decide +kernel
theorem dL_law_773 : decode cL_law 773 = .ok (.iconst 0, 1) := by decide +kernel
theorem dL_law_774 : decode cL_law 774 = .ok (.laload, 1) := by decide +kernel
theorem dL_law_775 : decode cL_law 775 = .ok (.iload 6, 2) := by decide +kernel
theorem dL_law_777 : decode cL_law 777 = .ok (.i2l, 1) := by decide +kernel
theorem dL_law_778 : decode cL_law 778 = .ok (.lcmp, 1) := by decide +kernel
theorem dL_law_779 : decode cL_law 779 = .ok (.ifCond .eq 5, 3) := by decide +kernel
theorem dL_law_782 : decode cL_law 782 = .ok (.iconst 0, 1) := by decide +kernel
theorem dL_law_783 : decode cL_law 783 = .ok (.ireturn, 1) := by decide +kernel
theorem dL_law_784 : decode cL_law 784 = .ok (.goto 742, 3) := by decide +kernel
theorem dL_law_787 : decode cL_law 787 = .ok (.aload_n 1, 1) := by decide +kernel
theorem dL_law_788 : decode cL_law 788 = .ok (.aload_n 0, 1) := by decide +kernel
theorem dL_law_789 : decode cL_law 789 = .ok (.iload 4, 2) := by decide +kernel
theorem dL_law_791 : decode cL_law 791 = .ok (.iconst 1, 1) := by decide +kernel
theorem dL_law_792 : decode cL_law 792 = .ok (.iadd, 1) := by decide +kernel
theorem dL_law_793 : decode cL_law 793 = .ok (.iaload, 1) := by decide +kernel
theorem dL_law_794 : decode cL_law 794 = .ok (.aload_n 0, 1) := by decide +kernel
theorem dL_law_795 : decode cL_law 795 = .ok (.iload 4, 2) := by decide +kernel
theorem dL_law_797 : decode cL_law 797 = .ok (.iconst 2, 1) := by decide +kernel
theorem dL_law_798 : decode cL_law 798 = .ok (.iadd, 1) := by decide +kernel
theorem dL_law_799 : decode cL_law 799 = .ok (.iaload, 1) := by decide +kernel
theorem dL_law_800 : decode cL_law 800 = .ok (.ifCond .eq 7, 3) := by decide +kernel
theorem dL_law_803 : decode cL_law 803 = .ok (.iconst 1, 1) := by decide +kernel
theorem dL_law_804 : decode cL_law 804 = .ok (.goto 4, 3) := by decide +kernel
theorem dL_law_807 : decode cL_law 807 = .ok (.iconst 0, 1) := by decide +kernel
theorem dL_law_808 : decode cL_law 808 = .ok (.aload_n 3, 1) := by decide +kernel
theorem dL_law_809 : decode cL_law 809 = .ok (.invokestatic 128, 3) := by decide +kernel
theorem dL_law_812 : decode cL_law 812 = .ok (.istore 5, 2) := by decide +kernel
theorem dL_law_814 : decode cL_law 814 = .ok (.aload_n 2, 1) := by decide +kernel
theorem dL_law_815 : decode cL_law 815 = .ok (.aload_n 0, 1) := by decide +kernel
theorem dL_law_816 : decode cL_law 816 = .ok (.iload 4, 2) := by decide +kernel
theorem dL_law_818 : decode cL_law 818 = .ok (.iconst 1, 1) := by decide +kernel
theorem dL_law_819 : decode cL_law 819 = .ok (.iadd, 1) := by decide +kernel
theorem dL_law_820 : decode cL_law 820 = .ok (.iaload, 1) := by decide +kernel
theorem dL_law_821 : decode cL_law 821 = .ok (.aload_n 0, 1) := by decide +kernel
theorem dL_law_822 : decode cL_law 822 = .ok (.iload 4, 2) := by decide +kernel
theorem dL_law_824 : decode cL_law 824 = .ok (.iconst 2, 1) := by decide +kernel
theorem dL_law_825 : decode cL_law 825 = .ok (.iadd, 1) := by decide +kernel
theorem dL_law_826 : decode cL_law 826 = .ok (.iaload, 1) := by decide +kernel
theorem dL_law_827 : decode cL_law 827 = .ok (.ifCond .eq 7, 3) := by decide +kernel
theorem dL_law_830 : decode cL_law 830 = .ok (.iconst 1, 1) := by decide +kernel
theorem dL_law_831 : decode cL_law 831 = .ok (.goto 4, 3) := by decide +kernel
theorem dL_law_834 : decode cL_law 834 = .ok (.iconst 0, 1) := by decide +kernel
theorem dL_law_835 : decode cL_law 835 = .ok (.invokevirtual 131, 3) := by decide +kernel
theorem dL_law_838 : decode cL_law 838 = .ok (.istore 6, 2) := by decide +kernel
theorem dL_law_840 : decode cL_law 840 = .ok (.aload_n 2, 1) := by decide +kernel
theorem dL_law_841 : decode cL_law 841 = .ok (.invokevirtual 91, 3) := by decide +kernel
theorem dL_law_844 : decode cL_law 844 = .ok (.iload 5, 2) := by decide +kernel
theorem dL_law_846 : decode cL_law 846 = .ok (.if_icmp .eq 5, 3) := by decide +kernel
theorem dL_law_849 : decode cL_law 849 = .ok (.iconst 0, 1) := by decide +kernel
theorem dL_law_850 : decode cL_law 850 = .ok (.ireturn, 1) := by decide +kernel
theorem dL_law_851 : decode cL_law 851 = .ok (.iload 5, 2) := by decide +kernel
theorem dL_law_853 : decode cL_law 853 = .ok (.ifCond .ne 15, 3) := by decide +kernel
theorem dL_law_856 : decode cL_law 856 = .ok (.aload_n 3, 1) := by decide +kernel
theorem dL_law_857 : decode cL_law 857 = .ok (.iconst 0, 1) := by decide +kernel
theorem dL_law_858 : decode cL_law 858 = .ok (.laload, 1) := by decide +kernel
theorem dL_law_859 : decode cL_law 859 = .ok (.iload 6, 2) := by decide +kernel
theorem dL_law_861 : decode cL_law 861 = .ok (.i2l, 1) := by decide +kernel
theorem dL_law_862 : decode cL_law 862 = .ok (.lcmp, 1) := by decide +kernel
theorem dL_law_863 : decode cL_law 863 = .ok (.ifCond .eq 5, 3) := by decide +kernel
theorem dL_law_866 : decode cL_law 866 = .ok (.iconst 0, 1) := by decide +kernel
theorem dL_law_867 : decode cL_law 867 = .ok (.ireturn, 1) := by decide +kernel
theorem dL_law_868 : decode cL_law 868 = .ok (.goto 658, 3) := by decide +kernel
theorem dL_law_871 : decode cL_law 871 = .ok (.aload_n 1, 1) := by decide +kernel
theorem dL_law_872 : decode cL_law 872 = .ok (.aload_n 0, 1) := by decide +kernel
theorem dL_law_873 : decode cL_law 873 = .ok (.iload 4, 2) := by decide +kernel
theorem dL_law_875 : decode cL_law 875 = .ok (.iconst 1, 1) := by decide +kernel
theorem dL_law_876 : decode cL_law 876 = .ok (.iadd, 1) := by decide +kernel
theorem dL_law_877 : decode cL_law 877 = .ok (.iaload, 1) := by decide +kernel
theorem dL_law_878 : decode cL_law 878 = .ok (.aload_n 3, 1) := by decide +kernel
theorem dL_law_879 : decode cL_law 879 = .ok (.invokestatic 132, 3) := by decide +kernel
theorem dL_law_882 : decode cL_law 882 = .ok (.istore 5, 2) := by decide +kernel
theorem dL_law_884 : decode cL_law 884 = .ok (.aload_n 2, 1) := by decide +kernel
theorem dL_law_885 : decode cL_law 885 = .ok (.aload_n 0, 1) := by decide +kernel
theorem dL_law_886 : decode cL_law 886 = .ok (.iload 4, 2) := by decide +kernel
theorem dL_law_888 : decode cL_law 888 = .ok (.iconst 1, 1) := by decide +kernel
theorem dL_law_889 : decode cL_law 889 = .ok (.iadd, 1) := by decide +kernel
theorem dL_law_890 : decode cL_law 890 = .ok (.iaload, 1) := by decide +kernel
theorem dL_law_891 : decode cL_law 891 = .ok (.invokevirtual 134, 3) := by decide +kernel
theorem dL_law_894 : decode cL_law 894 = .ok (.istore 6, 2) := by decide +kernel
theorem dL_law_896 : decode cL_law 896 = .ok (.aload_n 2, 1) := by decide +kernel
theorem dL_law_897 : decode cL_law 897 = .ok (.invokevirtual 91, 3) := by decide +kernel
theorem dL_law_900 : decode cL_law 900 = .ok (.iload 5, 2) := by decide +kernel
theorem dL_law_902 : decode cL_law 902 = .ok (.if_icmp .eq 5, 3) := by decide +kernel
theorem dL_law_905 : decode cL_law 905 = .ok (.iconst 0, 1) := by decide +kernel
theorem dL_law_906 : decode cL_law 906 = .ok (.ireturn, 1) := by decide +kernel
theorem dL_law_907 : decode cL_law 907 = .ok (.iload 5, 2) := by decide +kernel
theorem dL_law_909 : decode cL_law 909 = .ok (.ifCond .ne 15, 3) := by decide +kernel
theorem dL_law_912 : decode cL_law 912 = .ok (.aload_n 3, 1) := by decide +kernel
theorem dL_law_913 : decode cL_law 913 = .ok (.iconst 0, 1) := by decide +kernel
theorem dL_law_914 : decode cL_law 914 = .ok (.laload, 1) := by decide +kernel
theorem dL_law_915 : decode cL_law 915 = .ok (.iload 6, 2) := by decide +kernel
theorem dL_law_917 : decode cL_law 917 = .ok (.i2l, 1) := by decide +kernel
theorem dL_law_918 : decode cL_law 918 = .ok (.lcmp, 1) := by decide +kernel
theorem dL_law_919 : decode cL_law 919 = .ok (.ifCond .eq 5, 3) := by decide +kernel
theorem dL_law_922 : decode cL_law 922 = .ok (.iconst 0, 1) := by decide +kernel
theorem dL_law_923 : decode cL_law 923 = .ok (.ireturn, 1) := by decide +kernel
theorem dL_law_924 : decode cL_law 924 = .ok (.goto 602, 3) := by decide +kernel
theorem dL_law_927 : decode cL_law 927 = .ok (.aload_n 1, 1) := by decide +kernel
theorem dL_law_928 : decode cL_law 928 = .ok (.aload_n 0, 1) := by decide +kernel
theorem dL_law_929 : decode cL_law 929 = .ok (.iload 4, 2) := by decide +kernel
theorem dL_law_931 : decode cL_law 931 = .ok (.iconst 1, 1) := by decide +kernel
theorem dL_law_932 : decode cL_law 932 = .ok (.iadd, 1) := by decide +kernel
theorem dL_law_933 : decode cL_law 933 = .ok (.iaload, 1) := by decide +kernel
theorem dL_law_934 : decode cL_law 934 = .ok (.aload_n 0, 1) := by decide +kernel
theorem dL_law_935 : decode cL_law 935 = .ok (.iload 4, 2) := by decide +kernel
theorem dL_law_937 : decode cL_law 937 = .ok (.iconst 2, 1) := by decide +kernel
theorem dL_law_938 : decode cL_law 938 = .ok (.iadd, 1) := by decide +kernel
theorem dL_law_939 : decode cL_law 939 = .ok (.iaload, 1) := by decide +kernel
theorem dL_law_940 : decode cL_law 940 = .ok (.aload_n 3, 1) := by decide +kernel
theorem dL_law_941 : decode cL_law 941 = .ok (.invokestatic 135, 3) := by decide +kernel
theorem dL_law_944 : decode cL_law 944 = .ok (.istore 5, 2) := by decide +kernel
theorem dL_law_946 : decode cL_law 946 = .ok (.aload_n 2, 1) := by decide +kernel
theorem dL_law_947 : decode cL_law 947 = .ok (.aload_n 0, 1) := by decide +kernel
theorem dL_law_948 : decode cL_law 948 = .ok (.iload 4, 2) := by decide +kernel
theorem dL_law_950 : decode cL_law 950 = .ok (.iconst 1, 1) := by decide +kernel
theorem dL_law_951 : decode cL_law 951 = .ok (.iadd, 1) := by decide +kernel
theorem dL_law_952 : decode cL_law 952 = .ok (.iaload, 1) := by decide +kernel
theorem dL_law_953 : decode cL_law 953 = .ok (.aload_n 0, 1) := by decide +kernel
theorem dL_law_954 : decode cL_law 954 = .ok (.iload 4, 2) := by decide +kernel
theorem dL_law_956 : decode cL_law 956 = .ok (.iconst 2, 1) := by decide +kernel
theorem dL_law_957 : decode cL_law 957 = .ok (.iadd, 1) := by decide +kernel
theorem dL_law_958 : decode cL_law 958 = .ok (.iaload, 1) := by decide +kernel
theorem dL_law_959 : decode cL_law 959 = .ok (.invokevirtual 137, 3) := by decide +kernel
theorem dL_law_962 : decode cL_law 962 = .ok (.istore 6, 2) := by decide +kernel
theorem dL_law_964 : decode cL_law 964 = .ok (.aload_n 2, 1) := by decide +kernel
theorem dL_law_965 : decode cL_law 965 = .ok (.invokevirtual 91, 3) := by decide +kernel
theorem dL_law_968 : decode cL_law 968 = .ok (.iload 5, 2) := by decide +kernel
theorem dL_law_970 : decode cL_law 970 = .ok (.if_icmp .eq 5, 3) := by decide +kernel
theorem dL_law_973 : decode cL_law 973 = .ok (.iconst 0, 1) := by decide +kernel
theorem dL_law_974 : decode cL_law 974 = .ok (.ireturn, 1) := by decide +kernel
theorem dL_law_975 : decode cL_law 975 = .ok (.iload 5, 2) := by decide +kernel
theorem dL_law_977 : decode cL_law 977 = .ok (.ifCond .ne 15, 3) := by decide +kernel
theorem dL_law_980 : decode cL_law 980 = .ok (.aload_n 3, 1) := by decide +kernel
theorem dL_law_981 : decode cL_law 981 = .ok (.iconst 0, 1) := by decide +kernel
theorem dL_law_982 : decode cL_law 982 = .ok (.laload, 1) := by decide +kernel
theorem dL_law_983 : decode cL_law 983 = .ok (.iload 6, 2) := by decide +kernel
theorem dL_law_985 : decode cL_law 985 = .ok (.i2l, 1) := by decide +kernel
theorem dL_law_986 : decode cL_law 986 = .ok (.lcmp, 1) := by decide +kernel
theorem dL_law_987 : decode cL_law 987 = .ok (.ifCond .eq 5, 3) := by decide +kernel
theorem dL_law_990 : decode cL_law 990 = .ok (.iconst 0, 1) := by decide +kernel
theorem dL_law_991 : decode cL_law 991 = .ok (.ireturn, 1) := by decide +kernel
theorem dL_law_992 : decode cL_law 992 = .ok (.goto 534, 3) := by decide +kernel
theorem dL_law_995 : decode cL_law 995 = .ok (.aload_n 1, 1) := by decide +kernel
theorem dL_law_996 : decode cL_law 996 = .ok (.aload_n 0, 1) := by decide +kernel
theorem dL_law_997 : decode cL_law 997 = .ok (.iload 4, 2) := by decide +kernel
theorem dL_law_999 : decode cL_law 999 = .ok (.iconst 1, 1) := by decide +kernel
theorem dL_law_1000 : decode cL_law 1000 = .ok (.iadd, 1) := by decide +kernel
theorem dL_law_1001 : decode cL_law 1001 = .ok (.iaload, 1) := by decide +kernel
theorem dL_law_1002 : decode cL_law 1002 = .ok (.aload_n 0, 1) := by decide +kernel
theorem dL_law_1003 : decode cL_law 1003 = .ok (.iload 4, 2) := by decide +kernel
theorem dL_law_1005 : decode cL_law 1005 = .ok (.iconst 2, 1) := by decide +kernel
theorem dL_law_1006 : decode cL_law 1006 = .ok (.iadd, 1) := by decide +kernel
theorem dL_law_1007 : decode cL_law 1007 = .ok (.iaload, 1) := by decide +kernel
theorem dL_law_1008 : decode cL_law 1008 = .ok (.aload_n 0, 1) := by decide +kernel
theorem dL_law_1009 : decode cL_law 1009 = .ok (.iload 4, 2) := by decide +kernel
theorem dL_law_1011 : decode cL_law 1011 = .ok (.iconst 3, 1) := by decide +kernel
theorem dL_law_1012 : decode cL_law 1012 = .ok (.iadd, 1) := by decide +kernel
theorem dL_law_1013 : decode cL_law 1013 = .ok (.iaload, 1) := by decide +kernel
theorem dL_law_1014 : decode cL_law 1014 = .ok (.ifCond .eq 7, 3) := by decide +kernel
theorem dL_law_1017 : decode cL_law 1017 = .ok (.iconst 1, 1) := by decide +kernel
theorem dL_law_1018 : decode cL_law 1018 = .ok (.goto 4, 3) := by decide +kernel
theorem dL_law_1021 : decode cL_law 1021 = .ok (.iconst 0, 1) := by decide +kernel
theorem dL_law_1022 : decode cL_law 1022 = .ok (.aload_n 0, 1) := by decide +kernel
theorem dL_law_1023 : decode cL_law 1023 = .ok (.iload 4, 2) := by decide +kernel
theorem dL_law_1025 : decode cL_law 1025 = .ok (.iconst 4, 1) := by decide +kernel
theorem dL_law_1026 : decode cL_law 1026 = .ok (.iadd, 1) := by decide +kernel
theorem dL_law_1027 : decode cL_law 1027 = .ok (.iaload, 1) := by decide +kernel
theorem dL_law_1028 : decode cL_law 1028 = .ok (.ifCond .eq 7, 3) := by decide +kernel
theorem dL_law_1031 : decode cL_law 1031 = .ok (.iconst 1, 1) := by decide +kernel
theorem dL_law_1032 : decode cL_law 1032 = .ok (.goto 4, 3) := by decide +kernel
theorem dL_law_1035 : decode cL_law 1035 = .ok (.iconst 0, 1) := by decide +kernel
theorem dL_law_1036 : decode cL_law 1036 = .ok (.aload_n 0, 1) := by decide +kernel
theorem dL_law_1037 : decode cL_law 1037 = .ok (.iload 4, 2) := by decide +kernel
theorem dL_law_1039 : decode cL_law 1039 = .ok (.iconst 5, 1) := by decide +kernel
theorem dL_law_1040 : decode cL_law 1040 = .ok (.iadd, 1) := by decide +kernel
theorem dL_law_1041 : decode cL_law 1041 = .ok (.iaload, 1) := by decide +kernel
theorem dL_law_1042 : decode cL_law 1042 = .ok (.aload_n 3, 1) := by decide +kernel
theorem dL_law_1043 : decode cL_law 1043 = .ok (.invokestatic 138, 3) := by decide +kernel
theorem dL_law_1046 : decode cL_law 1046 = .ok (.istore 5, 2) := by decide +kernel
theorem dL_law_1048 : decode cL_law 1048 = .ok (.aload_n 2, 1) := by decide +kernel
theorem dL_law_1049 : decode cL_law 1049 = .ok (.aload_n 0, 1) := by decide +kernel
theorem dL_law_1050 : decode cL_law 1050 = .ok (.iload 4, 2) := by decide +kernel
theorem dL_law_1052 : decode cL_law 1052 = .ok (.iconst 1, 1) := by decide +kernel
theorem dL_law_1053 : decode cL_law 1053 = .ok (.iadd, 1) := by decide +kernel
theorem dL_law_1054 : decode cL_law 1054 = .ok (.iaload, 1) := by decide +kernel
theorem dL_law_1055 : decode cL_law 1055 = .ok (.aload_n 0, 1) := by decide +kernel
theorem dL_law_1056 : decode cL_law 1056 = .ok (.iload 4, 2) := by decide +kernel
theorem dL_law_1058 : decode cL_law 1058 = .ok (.iconst 2, 1) := by decide +kernel
theorem dL_law_1059 : decode cL_law 1059 = .ok (.iadd, 1) := by decide +kernel
theorem dL_law_1060 : decode cL_law 1060 = .ok (.iaload, 1) := by decide +kernel
theorem dL_law_1061 : decode cL_law 1061 = .ok (.aload_n 0, 1) := by decide +kernel
theorem dL_law_1062 : decode cL_law 1062 = .ok (.iload 4, 2) := by decide +kernel
theorem dL_law_1064 : decode cL_law 1064 = .ok (.iconst 3, 1) := by decide +kernel
theorem dL_law_1065 : decode cL_law 1065 = .ok (.iadd, 1) := by decide +kernel
theorem dL_law_1066 : decode cL_law 1066 = .ok (.iaload, 1) := by decide +kernel
theorem dL_law_1067 : decode cL_law 1067 = .ok (.ifCond .eq 7, 3) := by decide +kernel
theorem dL_law_1070 : decode cL_law 1070 = .ok (.iconst 1, 1) := by decide +kernel
theorem dL_law_1071 : decode cL_law 1071 = .ok (.goto 4, 3) := by decide +kernel
theorem dL_law_1074 : decode cL_law 1074 = .ok (.iconst 0, 1) := by decide +kernel
theorem dL_law_1075 : decode cL_law 1075 = .ok (.aload_n 0, 1) := by decide +kernel
theorem dL_law_1076 : decode cL_law 1076 = .ok (.iload 4, 2) := by decide +kernel
theorem dL_law_1078 : decode cL_law 1078 = .ok (.iconst 4, 1) := by decide +kernel
theorem dL_law_1079 : decode cL_law 1079 = .ok (.iadd, 1) := by decide +kernel
theorem dL_law_1080 : decode cL_law 1080 = .ok (.iaload, 1) := by decide +kernel
theorem dL_law_1081 : decode cL_law 1081 = .ok (.ifCond .eq 7, 3) := by decide +kernel
theorem dL_law_1084 : decode cL_law 1084 = .ok (.iconst 1, 1) := by decide +kernel
theorem dL_law_1085 : decode cL_law 1085 = .ok (.goto 4, 3) := by decide +kernel
theorem dL_law_1088 : decode cL_law 1088 = .ok (.iconst 0, 1) := by decide +kernel
theorem dL_law_1089 : decode cL_law 1089 = .ok (.aload_n 0, 1) := by decide +kernel
theorem dL_law_1090 : decode cL_law 1090 = .ok (.iload 4, 2) := by decide +kernel
theorem dL_law_1092 : decode cL_law 1092 = .ok (.iconst 5, 1) := by decide +kernel
theorem dL_law_1093 : decode cL_law 1093 = .ok (.iadd, 1) := by decide +kernel
theorem dL_law_1094 : decode cL_law 1094 = .ok (.iaload, 1) := by decide +kernel
theorem dL_law_1095 : decode cL_law 1095 = .ok (.invokevirtual 141, 3) := by decide +kernel
theorem dL_law_1098 : decode cL_law 1098 = .ok (.lstore 6, 2) := by decide +kernel
theorem dL_law_1100 : decode cL_law 1100 = .ok (.aload_n 2, 1) := by decide +kernel
theorem dL_law_1101 : decode cL_law 1101 = .ok (.invokevirtual 91, 3) := by decide +kernel
theorem dL_law_1104 : decode cL_law 1104 = .ok (.iload 5, 2) := by decide +kernel
theorem dL_law_1106 : decode cL_law 1106 = .ok (.if_icmp .eq 5, 3) := by decide +kernel
theorem dL_law_1109 : decode cL_law 1109 = .ok (.iconst 0, 1) := by decide +kernel
theorem dL_law_1110 : decode cL_law 1110 = .ok (.ireturn, 1) := by decide +kernel
theorem dL_law_1111 : decode cL_law 1111 = .ok (.iload 5, 2) := by decide +kernel
theorem dL_law_1113 : decode cL_law 1113 = .ok (.ifCond .ne 14, 3) := by decide +kernel
theorem dL_law_1116 : decode cL_law 1116 = .ok (.aload_n 3, 1) := by decide +kernel
theorem dL_law_1117 : decode cL_law 1117 = .ok (.iconst 0, 1) := by decide +kernel
theorem dL_law_1118 : decode cL_law 1118 = .ok (.laload, 1) := by decide +kernel
theorem dL_law_1119 : decode cL_law 1119 = .ok (.lload 6, 2) := by decide +kernel
theorem dL_law_1121 : decode cL_law 1121 = .ok (.lcmp, 1) := by decide +kernel
theorem dL_law_1122 : decode cL_law 1122 = .ok (.ifCond .eq 5, 3) := by decide +kernel
theorem dL_law_1125 : decode cL_law 1125 = .ok (.iconst 0, 1) := by decide +kernel
theorem dL_law_1126 : decode cL_law 1126 = .ok (.ireturn, 1) := by decide +kernel
theorem dL_law_1127 : decode cL_law 1127 = .ok (.goto 399, 3) := by decide +kernel
theorem dL_law_1130 : decode cL_law 1130 = .ok (.aload_n 1, 1) := by decide +kernel
theorem dL_law_1131 : decode cL_law 1131 = .ok (.aload_n 0, 1) := by decide +kernel
theorem dL_law_1132 : decode cL_law 1132 = .ok (.iload 4, 2) := by decide +kernel
theorem dL_law_1134 : decode cL_law 1134 = .ok (.iconst 1, 1) := by decide +kernel
theorem dL_law_1135 : decode cL_law 1135 = .ok (.iadd, 1) := by decide +kernel
theorem dL_law_1136 : decode cL_law 1136 = .ok (.iaload, 1) := by decide +kernel
theorem dL_law_1137 : decode cL_law 1137 = .ok (.aload_n 3, 1) := by decide +kernel
theorem dL_law_1138 : decode cL_law 1138 = .ok (.invokestatic 142, 3) := by decide +kernel
theorem dL_law_1141 : decode cL_law 1141 = .ok (.istore 5, 2) := by decide +kernel
theorem dL_law_1143 : decode cL_law 1143 = .ok (.aload_n 2, 1) := by decide +kernel
theorem dL_law_1144 : decode cL_law 1144 = .ok (.aload_n 0, 1) := by decide +kernel
theorem dL_law_1145 : decode cL_law 1145 = .ok (.iload 4, 2) := by decide +kernel
theorem dL_law_1147 : decode cL_law 1147 = .ok (.iconst 1, 1) := by decide +kernel
theorem dL_law_1148 : decode cL_law 1148 = .ok (.iadd, 1) := by decide +kernel
theorem dL_law_1149 : decode cL_law 1149 = .ok (.iaload, 1) := by decide +kernel
theorem dL_law_1150 : decode cL_law 1150 = .ok (.invokevirtual 144, 3) := by decide +kernel
theorem dL_law_1153 : decode cL_law 1153 = .ok (.lstore 6, 2) := by decide +kernel
theorem dL_law_1155 : decode cL_law 1155 = .ok (.aload_n 2, 1) := by decide +kernel
theorem dL_law_1156 : decode cL_law 1156 = .ok (.invokevirtual 91, 3) := by decide +kernel
theorem dL_law_1159 : decode cL_law 1159 = .ok (.iload 5, 2) := by decide +kernel
theorem dL_law_1161 : decode cL_law 1161 = .ok (.if_icmp .eq 5, 3) := by decide +kernel
theorem dL_law_1164 : decode cL_law 1164 = .ok (.iconst 0, 1) := by decide +kernel
theorem dL_law_1165 : decode cL_law 1165 = .ok (.ireturn, 1) := by decide +kernel
theorem dL_law_1166 : decode cL_law 1166 = .ok (.iload 5, 2) := by decide +kernel
theorem dL_law_1168 : decode cL_law 1168 = .ok (.ifCond .ne 14, 3) := by decide +kernel
theorem dL_law_1171 : decode cL_law 1171 = .ok (.aload_n 3, 1) := by decide +kernel
theorem dL_law_1172 : decode cL_law 1172 = .ok (.iconst 0, 1) := by decide +kernel
theorem dL_law_1173 : decode cL_law 1173 = .ok (.laload, 1) := by decide +kernel
theorem dL_law_1174 : decode cL_law 1174 = .ok (.lload 6, 2) := by decide +kernel
theorem dL_law_1176 : decode cL_law 1176 = .ok (.lcmp, 1) := by decide +kernel
theorem dL_law_1177 : decode cL_law 1177 = .ok (.ifCond .eq 5, 3) := by decide +kernel
theorem dL_law_1180 : decode cL_law 1180 = .ok (.iconst 0, 1) := by decide +kernel
theorem dL_law_1181 : decode cL_law 1181 = .ok (.ireturn, 1) := by decide +kernel
theorem dL_law_1182 : decode cL_law 1182 = .ok (.goto 344, 3) := by decide +kernel
theorem dL_law_1185 : decode cL_law 1185 = .ok (.aload_n 1, 1) := by decide +kernel
theorem dL_law_1186 : decode cL_law 1186 = .ok (.aload_n 0, 1) := by decide +kernel
theorem dL_law_1187 : decode cL_law 1187 = .ok (.iload 4, 2) := by decide +kernel
theorem dL_law_1189 : decode cL_law 1189 = .ok (.iconst 1, 1) := by decide +kernel
theorem dL_law_1190 : decode cL_law 1190 = .ok (.iadd, 1) := by decide +kernel
theorem dL_law_1191 : decode cL_law 1191 = .ok (.iaload, 1) := by decide +kernel
theorem dL_law_1192 : decode cL_law 1192 = .ok (.aload_n 0, 1) := by decide +kernel
theorem dL_law_1193 : decode cL_law 1193 = .ok (.iload 4, 2) := by decide +kernel
theorem dL_law_1195 : decode cL_law 1195 = .ok (.iconst 2, 1) := by decide +kernel
theorem dL_law_1196 : decode cL_law 1196 = .ok (.iadd, 1) := by decide +kernel
theorem dL_law_1197 : decode cL_law 1197 = .ok (.iaload, 1) := by decide +kernel
theorem dL_law_1198 : decode cL_law 1198 = .ok (.aload_n 3, 1) := by decide +kernel
theorem dL_law_1199 : decode cL_law 1199 = .ok (.invokestatic 145, 3) := by decide +kernel
theorem dL_law_1202 : decode cL_law 1202 = .ok (.istore 5, 2) := by decide +kernel
theorem dL_law_1204 : decode cL_law 1204 = .ok (.aload_n 2, 1) := by decide +kernel
theorem dL_law_1205 : decode cL_law 1205 = .ok (.aload_n 0, 1) := by decide +kernel
theorem dL_law_1206 : decode cL_law 1206 = .ok (.iload 4, 2) := by decide +kernel
theorem dL_law_1208 : decode cL_law 1208 = .ok (.iconst 1, 1) := by decide +kernel
theorem dL_law_1209 : decode cL_law 1209 = .ok (.iadd, 1) := by decide +kernel
theorem dL_law_1210 : decode cL_law 1210 = .ok (.iaload, 1) := by decide +kernel
theorem dL_law_1211 : decode cL_law 1211 = .ok (.aload_n 0, 1) := by decide +kernel
theorem dL_law_1212 : decode cL_law 1212 = .ok (.iload 4, 2) := by decide +kernel
theorem dL_law_1214 : decode cL_law 1214 = .ok (.iconst 2, 1) := by decide +kernel
theorem dL_law_1215 : decode cL_law 1215 = .ok (.iadd, 1) := by decide +kernel
theorem dL_law_1216 : decode cL_law 1216 = .ok (.iaload, 1) := by decide +kernel
theorem dL_law_1217 : decode cL_law 1217 = .ok (.invokevirtual 147, 3) := by decide +kernel
theorem dL_law_1220 : decode cL_law 1220 = .ok (.lstore 6, 2) := by decide +kernel
theorem dL_law_1222 : decode cL_law 1222 = .ok (.aload_n 2, 1) := by decide +kernel
theorem dL_law_1223 : decode cL_law 1223 = .ok (.invokevirtual 91, 3) := by decide +kernel
theorem dL_law_1226 : decode cL_law 1226 = .ok (.iload 5, 2) := by decide +kernel
theorem dL_law_1228 : decode cL_law 1228 = .ok (.if_icmp .eq 5, 3) := by decide +kernel
theorem dL_law_1231 : decode cL_law 1231 = .ok (.iconst 0, 1) := by decide +kernel
theorem dL_law_1232 : decode cL_law 1232 = .ok (.ireturn, 1) := by decide +kernel
theorem dL_law_1233 : decode cL_law 1233 = .ok (.iload 5, 2) := by decide +kernel
theorem dL_law_1235 : decode cL_law 1235 = .ok (.ifCond .ne 14, 3) := by decide +kernel
theorem dL_law_1238 : decode cL_law 1238 = .ok (.aload_n 3, 1) := by decide +kernel
theorem dL_law_1239 : decode cL_law 1239 = .ok (.iconst 0, 1) := by decide +kernel
theorem dL_law_1240 : decode cL_law 1240 = .ok (.laload, 1) := by decide +kernel
theorem dL_law_1241 : decode cL_law 1241 = .ok (.lload 6, 2) := by decide +kernel
theorem dL_law_1243 : decode cL_law 1243 = .ok (.lcmp, 1) := by decide +kernel
theorem dL_law_1244 : decode cL_law 1244 = .ok (.ifCond .eq 5, 3) := by decide +kernel
theorem dL_law_1247 : decode cL_law 1247 = .ok (.iconst 0, 1) := by decide +kernel
theorem dL_law_1248 : decode cL_law 1248 = .ok (.ireturn, 1) := by decide +kernel
theorem dL_law_1249 : decode cL_law 1249 = .ok (.goto 277, 3) := by decide +kernel
theorem dL_law_1252 : decode cL_law 1252 = .ok (.aload_n 1, 1) := by decide +kernel
theorem dL_law_1253 : decode cL_law 1253 = .ok (.aload_n 0, 1) := by decide +kernel
theorem dL_law_1254 : decode cL_law 1254 = .ok (.iload 4, 2) := by decide +kernel
theorem dL_law_1256 : decode cL_law 1256 = .ok (.iconst 1, 1) := by decide +kernel
theorem dL_law_1257 : decode cL_law 1257 = .ok (.iadd, 1) := by decide +kernel
theorem dL_law_1258 : decode cL_law 1258 = .ok (.iaload, 1) := by decide +kernel
theorem dL_law_1259 : decode cL_law 1259 = .ok (.aload_n 0, 1) := by decide +kernel
theorem dL_law_1260 : decode cL_law 1260 = .ok (.iload 4, 2) := by decide +kernel
theorem dL_law_1262 : decode cL_law 1262 = .ok (.iconst 2, 1) := by decide +kernel
theorem dL_law_1263 : decode cL_law 1263 = .ok (.iadd, 1) := by decide +kernel
theorem dL_law_1264 : decode cL_law 1264 = .ok (.iaload, 1) := by decide +kernel
theorem dL_law_1265 : decode cL_law 1265 = .ok (.ifCond .eq 7, 3) := by decide +kernel
theorem dL_law_1268 : decode cL_law 1268 = .ok (.iconst 1, 1) := by decide +kernel
theorem dL_law_1269 : decode cL_law 1269 = .ok (.goto 4, 3) := by decide +kernel
theorem dL_law_1272 : decode cL_law 1272 = .ok (.iconst 0, 1) := by decide +kernel
theorem dL_law_1273 : decode cL_law 1273 = .ok (.aload_n 0, 1) := by decide +kernel
theorem dL_law_1274 : decode cL_law 1274 = .ok (.iload 4, 2) := by decide +kernel
theorem dL_law_1276 : decode cL_law 1276 = .ok (.iconst 3, 1) := by decide +kernel
theorem dL_law_1277 : decode cL_law 1277 = .ok (.iadd, 1) := by decide +kernel
theorem dL_law_1278 : decode cL_law 1278 = .ok (.iaload, 1) := by decide +kernel
theorem dL_law_1279 : decode cL_law 1279 = .ok (.ifCond .eq 7, 3) := by decide +kernel
theorem dL_law_1282 : decode cL_law 1282 = .ok (.iconst 1, 1) := by decide +kernel
theorem dL_law_1283 : decode cL_law 1283 = .ok (.goto 4, 3) := by decide +kernel
theorem dL_law_1286 : decode cL_law 1286 = .ok (.iconst 0, 1) := by decide +kernel
theorem dL_law_1287 : decode cL_law 1287 = .ok (.aload_n 0, 1) := by decide +kernel
theorem dL_law_1288 : decode cL_law 1288 = .ok (.iload 4, 2) := by decide +kernel
theorem dL_law_1290 : decode cL_law 1290 = .ok (.iconst 4, 1) := by decide +kernel
theorem dL_law_1291 : decode cL_law 1291 = .ok (.iadd, 1) := by decide +kernel
theorem dL_law_1292 : decode cL_law 1292 = .ok (.iaload, 1) := by decide +kernel
theorem dL_law_1293 : decode cL_law 1293 = .ok (.aload_n 3, 1) := by decide +kernel
theorem dL_law_1294 : decode cL_law 1294 = .ok (.invokestatic 148, 3) := by decide +kernel
theorem dL_law_1297 : decode cL_law 1297 = .ok (.istore 5, 2) := by decide +kernel
theorem dL_law_1299 : decode cL_law 1299 = .ok (.aload_n 2, 1) := by decide +kernel
theorem dL_law_1300 : decode cL_law 1300 = .ok (.aload_n 0, 1) := by decide +kernel
theorem dL_law_1301 : decode cL_law 1301 = .ok (.iload 4, 2) := by decide +kernel
theorem dL_law_1303 : decode cL_law 1303 = .ok (.iconst 1, 1) := by decide +kernel
theorem dL_law_1304 : decode cL_law 1304 = .ok (.iadd, 1) := by decide +kernel
theorem dL_law_1305 : decode cL_law 1305 = .ok (.iaload, 1) := by decide +kernel
theorem dL_law_1306 : decode cL_law 1306 = .ok (.aload_n 0, 1) := by decide +kernel
theorem dL_law_1307 : decode cL_law 1307 = .ok (.iload 4, 2) := by decide +kernel
theorem dL_law_1309 : decode cL_law 1309 = .ok (.iconst 2, 1) := by decide +kernel
theorem dL_law_1310 : decode cL_law 1310 = .ok (.iadd, 1) := by decide +kernel
theorem dL_law_1311 : decode cL_law 1311 = .ok (.iaload, 1) := by decide +kernel
theorem dL_law_1312 : decode cL_law 1312 = .ok (.ifCond .eq 7, 3) := by decide +kernel
theorem dL_law_1315 : decode cL_law 1315 = .ok (.iconst 1, 1) := by decide +kernel
theorem dL_law_1316 : decode cL_law 1316 = .ok (.goto 4, 3) := by decide +kernel
theorem dL_law_1319 : decode cL_law 1319 = .ok (.iconst 0, 1) := by decide +kernel
theorem dL_law_1320 : decode cL_law 1320 = .ok (.aload_n 0, 1) := by decide +kernel
theorem dL_law_1321 : decode cL_law 1321 = .ok (.iload 4, 2) := by decide +kernel
theorem dL_law_1323 : decode cL_law 1323 = .ok (.iconst 3, 1) := by decide +kernel
theorem dL_law_1324 : decode cL_law 1324 = .ok (.iadd, 1) := by decide +kernel
theorem dL_law_1325 : decode cL_law 1325 = .ok (.iaload, 1) := by decide +kernel
theorem dL_law_1326 : decode cL_law 1326 = .ok (.ifCond .eq 7, 3) := by decide +kernel
theorem dL_law_1329 : decode cL_law 1329 = .ok (.iconst 1, 1) := by decide +kernel
theorem dL_law_1330 : decode cL_law 1330 = .ok (.goto 4, 3) := by decide +kernel
theorem dL_law_1333 : decode cL_law 1333 = .ok (.iconst 0, 1) := by decide +kernel
theorem dL_law_1334 : decode cL_law 1334 = .ok (.aload_n 0, 1) := by decide +kernel
theorem dL_law_1335 : decode cL_law 1335 = .ok (.iload 4, 2) := by decide +kernel
theorem dL_law_1337 : decode cL_law 1337 = .ok (.iconst 4, 1) := by decide +kernel
theorem dL_law_1338 : decode cL_law 1338 = .ok (.iadd, 1) := by decide +kernel
theorem dL_law_1339 : decode cL_law 1339 = .ok (.iaload, 1) := by decide +kernel
theorem dL_law_1340 : decode cL_law 1340 = .ok (.invokevirtual 151, 3) := by decide +kernel
theorem dL_law_1343 : decode cL_law 1343 = .ok (.lstore 6, 2) := by decide +kernel
theorem dL_law_1345 : decode cL_law 1345 = .ok (.aload_n 2, 1) := by decide +kernel
theorem dL_law_1346 : decode cL_law 1346 = .ok (.invokevirtual 91, 3) := by decide +kernel
theorem dL_law_1349 : decode cL_law 1349 = .ok (.iload 5, 2) := by decide +kernel
theorem dL_law_1351 : decode cL_law 1351 = .ok (.if_icmp .eq 5, 3) := by decide +kernel
theorem dL_law_1354 : decode cL_law 1354 = .ok (.iconst 0, 1) := by decide +kernel
theorem dL_law_1355 : decode cL_law 1355 = .ok (.ireturn, 1) := by decide +kernel
theorem dL_law_1356 : decode cL_law 1356 = .ok (.iload 5, 2) := by decide +kernel
theorem dL_law_1358 : decode cL_law 1358 = .ok (.ifCond .ne 14, 3) := by decide +kernel
theorem dL_law_1361 : decode cL_law 1361 = .ok (.aload_n 3, 1) := by decide +kernel
theorem dL_law_1362 : decode cL_law 1362 = .ok (.iconst 0, 1) := by decide +kernel
theorem dL_law_1363 : decode cL_law 1363 = .ok (.laload, 1) := by decide +kernel
theorem dL_law_1364 : decode cL_law 1364 = .ok (.lload 6, 2) := by decide +kernel
theorem dL_law_1366 : decode cL_law 1366 = .ok (.lcmp, 1) := by decide +kernel
theorem dL_law_1367 : decode cL_law 1367 = .ok (.ifCond .eq 5, 3) := by decide +kernel
theorem dL_law_1370 : decode cL_law 1370 = .ok (.iconst 0, 1) := by decide +kernel
theorem dL_law_1371 : decode cL_law 1371 = .ok (.ireturn, 1) := by decide +kernel
theorem dL_law_1372 : decode cL_law 1372 = .ok (.goto 154, 3) := by decide +kernel
theorem dL_law_1375 : decode cL_law 1375 = .ok (.aload_n 1, 1) := by decide +kernel
theorem dL_law_1376 : decode cL_law 1376 = .ok (.aload_n 0, 1) := by decide +kernel
theorem dL_law_1377 : decode cL_law 1377 = .ok (.iload 4, 2) := by decide +kernel
theorem dL_law_1379 : decode cL_law 1379 = .ok (.iconst 1, 1) := by decide +kernel
theorem dL_law_1380 : decode cL_law 1380 = .ok (.iadd, 1) := by decide +kernel
theorem dL_law_1381 : decode cL_law 1381 = .ok (.iaload, 1) := by decide +kernel
theorem dL_law_1382 : decode cL_law 1382 = .ok (.aload_n 3, 1) := by decide +kernel
theorem dL_law_1383 : decode cL_law 1383 = .ok (.invokestatic 152, 3) := by decide +kernel
theorem dL_law_1386 : decode cL_law 1386 = .ok (.istore 5, 2) := by decide +kernel
theorem dL_law_1388 : decode cL_law 1388 = .ok (.aload_n 2, 1) := by decide +kernel
theorem dL_law_1389 : decode cL_law 1389 = .ok (.aload_n 0, 1) := by decide +kernel
theorem dL_law_1390 : decode cL_law 1390 = .ok (.iload 4, 2) := by decide +kernel
theorem dL_law_1392 : decode cL_law 1392 = .ok (.iconst 1, 1) := by decide +kernel
theorem dL_law_1393 : decode cL_law 1393 = .ok (.iadd, 1) := by decide +kernel
theorem dL_law_1394 : decode cL_law 1394 = .ok (.iaload, 1) := by decide +kernel
theorem dL_law_1395 : decode cL_law 1395 = .ok (.invokevirtual 154, 3) := by decide +kernel
theorem dL_law_1398 : decode cL_law 1398 = .ok (.istore 6, 2) := by decide +kernel
theorem dL_law_1400 : decode cL_law 1400 = .ok (.aload_n 2, 1) := by decide +kernel
theorem dL_law_1401 : decode cL_law 1401 = .ok (.invokevirtual 91, 3) := by decide +kernel
theorem dL_law_1404 : decode cL_law 1404 = .ok (.iload 5, 2) := by decide +kernel
theorem dL_law_1406 : decode cL_law 1406 = .ok (.if_icmp .eq 5, 3) := by decide +kernel
theorem dL_law_1409 : decode cL_law 1409 = .ok (.iconst 0, 1) := by decide +kernel
theorem dL_law_1410 : decode cL_law 1410 = .ok (.ireturn, 1) := by decide +kernel
theorem dL_law_1411 : decode cL_law 1411 = .ok (.iload 5, 2) := by decide +kernel
theorem dL_law_1413 : decode cL_law 1413 = .ok (.ifCond .ne 15, 3) := by decide +kernel
theorem dL_law_1416 : decode cL_law 1416 = .ok (.aload_n 3, 1) := by decide +kernel
theorem dL_law_1417 : decode cL_law 1417 = .ok (.iconst 0, 1) := by decide +kernel
theorem dL_law_1418 : decode cL_law 1418 = .ok (.laload, 1) := by decide +kernel
theorem dL_law_1419 : decode cL_law 1419 = .ok (.iload 6, 2) := by decide +kernel
theorem dL_law_1421 : decode cL_law 1421 = .ok (.i2l, 1) := by decide +kernel
theorem dL_law_1422 : decode cL_law 1422 = .ok (.lcmp, 1) := by decide +kernel
theorem dL_law_1423 : decode cL_law 1423 = .ok (.ifCond .eq 5, 3) := by decide +kernel
theorem dL_law_1426 : decode cL_law 1426 = .ok (.iconst 0, 1) := by decide +kernel
theorem dL_law_1427 : decode cL_law 1427 = .ok (.ireturn, 1) := by decide +kernel
theorem dL_law_1428 : decode cL_law 1428 = .ok (.goto 98, 3) := by decide +kernel
theorem dL_law_1431 : decode cL_law 1431 = .ok (.aload_n 1, 1) := by decide +kernel
theorem dL_law_1432 : decode cL_law 1432 = .ok (.aload_n 0, 1) := by decide +kernel
theorem dL_law_1433 : decode cL_law 1433 = .ok (.iload 4, 2) := by decide +kernel
theorem dL_law_1435 : decode cL_law 1435 = .ok (.iconst 1, 1) := by decide +kernel
theorem dL_law_1436 : decode cL_law 1436 = .ok (.iadd, 1) := by decide +kernel
theorem dL_law_1437 : decode cL_law 1437 = .ok (.iaload, 1) := by decide +kernel
theorem dL_law_1438 : decode cL_law 1438 = .ok (.aload_n 3, 1) := by decide +kernel
theorem dL_law_1439 : decode cL_law 1439 = .ok (.invokestatic 155, 3) := by decide +kernel
theorem dL_law_1442 : decode cL_law 1442 = .ok (.istore 5, 2) := by decide +kernel
theorem dL_law_1444 : decode cL_law 1444 = .ok (.aload_n 2, 1) := by decide +kernel
theorem dL_law_1445 : decode cL_law 1445 = .ok (.aload_n 0, 1) := by decide +kernel
theorem dL_law_1446 : decode cL_law 1446 = .ok (.iload 4, 2) := by decide +kernel
theorem dL_law_1448 : decode cL_law 1448 = .ok (.iconst 1, 1) := by decide +kernel
theorem dL_law_1449 : decode cL_law 1449 = .ok (.iadd, 1) := by decide +kernel
theorem dL_law_1450 : decode cL_law 1450 = .ok (.iaload, 1) := by decide +kernel
theorem dL_law_1451 : decode cL_law 1451 = .ok (.invokevirtual 157, 3) := by decide +kernel
theorem dL_law_1454 : decode cL_law 1454 = .ok (.istore 6, 2) := by decide +kernel
theorem dL_law_1456 : decode cL_law 1456 = .ok (.aload_n 2, 1) := by decide +kernel
theorem dL_law_1457 : decode cL_law 1457 = .ok (.invokevirtual 91, 3) := by decide +kernel
theorem dL_law_1460 : decode cL_law 1460 = .ok (.iload 5, 2) := by decide +kernel
theorem dL_law_1462 : decode cL_law 1462 = .ok (.if_icmp .eq 5, 3) := by decide +kernel
theorem dL_law_1465 : decode cL_law 1465 = .ok (.iconst 0, 1) := by decide +kernel
theorem dL_law_1466 : decode cL_law 1466 = .ok (.ireturn, 1) := by decide +kernel
theorem dL_law_1467 : decode cL_law 1467 = .ok (.iload 5, 2) := by decide +kernel
theorem dL_law_1469 : decode cL_law 1469 = .ok (.ifCond .ne 15, 3) := by decide +kernel
theorem dL_law_1472 : decode cL_law 1472 = .ok (.aload_n 3, 1) := by decide +kernel
theorem dL_law_1473 : decode cL_law 1473 = .ok (.iconst 0, 1) := by decide +kernel
theorem dL_law_1474 : decode cL_law 1474 = .ok (.laload, 1) := by decide +kernel
theorem dL_law_1475 : decode cL_law 1475 = .ok (.iload 6, 2) := by decide +kernel
theorem dL_law_1477 : decode cL_law 1477 = .ok (.i2l, 1) := by decide +kernel
theorem dL_law_1478 : decode cL_law 1478 = .ok (.lcmp, 1) := by decide +kernel
theorem dL_law_1479 : decode cL_law 1479 = .ok (.ifCond .eq 5, 3) := by decide +kernel
theorem dL_law_1482 : decode cL_law 1482 = .ok (.iconst 0, 1) := by decide +kernel
theorem dL_law_1483 : decode cL_law 1483 = .ok (.ireturn, 1) := by decide +kernel
theorem dL_law_1484 : decode cL_law 1484 = .ok (.goto 42, 3) := by decide +kernel
theorem dL_law_1487 : decode cL_law 1487 = .ok (.aload_n 1, 1) := by decide +kernel
theorem dL_law_1488 : decode cL_law 1488 = .ok (.invokevirtual 158, 3) := by decide +kernel
theorem dL_law_1491 : decode cL_law 1491 = .ok (.aload_n 2, 1) := by decide +kernel
theorem dL_law_1492 : decode cL_law 1492 = .ok (.invokevirtual 162, 3) := by decide +kernel
theorem dL_law_1495 : decode cL_law 1495 = .ok (.lcmp, 1) := by decide +kernel
theorem dL_law_1496 : decode cL_law 1496 = .ok (.ifCond .eq 30, 3) := by decide +kernel
theorem dL_law_1499 : decode cL_law 1499 = .ok (.iconst 0, 1) := by decide +kernel
theorem dL_law_1500 : decode cL_law 1500 = .ok (.ireturn, 1) := by decide +kernel
theorem dL_law_1501 : decode cL_law 1501 = .ok (.aload_n 1, 1) := by decide +kernel
theorem dL_law_1502 : decode cL_law 1502 = .ok (.aload_n 0, 1) := by decide +kernel
theorem dL_law_1503 : decode cL_law 1503 = .ok (.iload 4, 2) := by decide +kernel
theorem dL_law_1505 : decode cL_law 1505 = .ok (.iconst 1, 1) := by decide +kernel
theorem dL_law_1506 : decode cL_law 1506 = .ok (.iadd, 1) := by decide +kernel
theorem dL_law_1507 : decode cL_law 1507 = .ok (.iaload, 1) := by decide +kernel
theorem dL_law_1508 : decode cL_law 1508 = .ok (.invokevirtual 163, 3) := by decide +kernel
theorem dL_law_1511 : decode cL_law 1511 = .ok (.aload_n 2, 1) := by decide +kernel
theorem dL_law_1512 : decode cL_law 1512 = .ok (.aload_n 0, 1) := by decide +kernel
theorem dL_law_1513 : decode cL_law 1513 = .ok (.iload 4, 2) := by decide +kernel
theorem dL_law_1515 : decode cL_law 1515 = .ok (.iconst 1, 1) := by decide +kernel
theorem dL_law_1516 : decode cL_law 1516 = .ok (.iadd, 1) := by decide +kernel
theorem dL_law_1517 : decode cL_law 1517 = .ok (.iaload, 1) := by decide +kernel
theorem dL_law_1518 : decode cL_law 1518 = .ok (.invokevirtual 166, 3) := by decide +kernel
theorem dL_law_1521 : decode cL_law 1521 = .ok (.if_icmp .eq 5, 3) := by decide +kernel
theorem dL_law_1524 : decode cL_law 1524 = .ok (.iconst 0, 1) := by decide +kernel
theorem dL_law_1525 : decode cL_law 1525 = .ok (.ireturn, 1) := by decide +kernel
theorem dL_law_1526 : decode cL_law 1526 = .ok (.iinc 4 6, 3) := by decide +kernel
theorem dL_law_1529 : decode cL_law 1529 = .ok (.goto (-1506), 3) := by decide +kernel
theorem dL_law_1532 : decode cL_law 1532 = .ok (.iconst 1, 1) := by decide +kernel
theorem dL_law_1533 : decode cL_law 1533 = .ok (.ireturn, 1) := by decide +kernel
