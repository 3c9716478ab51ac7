theorem dX11_whose_109 : decode cX11_whose 109 = .ok (.iconst 0, 1) := by decide +kernel
theorem dX11_whose_110 : decode cX11_whose 110 = .ok (.istore 9, 2) := by decide +kernel
theorem dX11_whose_112 : decode cX11_whose 112 = .ok (.iload 9, 2) := by decide +kernel
theorem dX11_whose_114 : decode cX11_whose 114 = .ok (.aload_n 0, 1) := by decide +kernel
theorem dX11_whose_115 : decode cX11_whose 115 = .ok (.getfield 54, 3) := by decide +kernel
theorem dX11_whose_118 : decode cX11_whose 118 = .ok (.aload_n 0, 1) := by decide +kernel
theorem dX11_whose_119 : decode cX11_whose 119 = .ok (.getfield 51, 3) := by decide +kernel
theorem dX11_whose_122 : decode cX11_whose 122 = .ok (.iaload, 1) := by decide +kernel
theorem dX11_whose_123 : decode cX11_whose 123 = .ok (.if_icmp .ge 68, 3) := by decide +kernel
theorem dX11_whose_126 : decode cX11_whose 126 = .ok (.iload 8, 2) := by decide +kernel
theorem dX11_whose_128 : decode cX11_whose 128 = .ok (.iload_n 2, 1) := by decide +kernel
theorem dX11_whose_129 : decode cX11_whose 129 = .ok (.iload 7, 2) := by decide +kernel
theorem dX11_whose_131 : decode cX11_whose 131 = .ok (.invokestatic 329, 3) := by decide +kernel
theorem dX11_whose_134 : decode cX11_whose 134 = .ok (.ifCond .eq 47, 3) := by decide +kernel
theorem dX11_whose_137 : decode cX11_whose 137 = .ok (.iload_n 2, 1) := by decide +kernel
theorem dX11_whose_138 : decode cX11_whose 138 = .ok (.iload 9, 2) := by decide +kernel
theorem dX11_whose_140 : decode cX11_whose 140 = .ok (.invokestatic 329, 3) := by decide +kernel
theorem dX11_whose_143 : decode cX11_whose 143 = .ok (.ifCond .eq 38, 3) := by decide +kernel
theorem dX11_whose_146 : decode cX11_whose 146 = .ok (.aload_n 0, 1) := by decide +kernel
theorem dX11_whose_147 : decode cX11_whose 147 = .ok (.getfield 135, 3) := by decide +kernel
theorem dX11_whose_150 : decode cX11_whose 150 = .ok (.aload_n 0, 1) := by decide +kernel
theorem dX11_whose_151 : decode cX11_whose 151 = .ok (.iconst 0, 1) := by decide +kernel
theorem dX11_whose_152 : decode cX11_whose 152 = .ok (.iload 7, 2) := by decide +kernel
theorem dX11_whose_154 : decode cX11_whose 154 = .ok (.iload 5, 2) := by decide +kernel
theorem dX11_whose_156 : decode cX11_whose 156 = .ok (.invokevirtual 344, 3) := by decide +kernel
theorem dX11_whose_159 : decode cX11_whose 159 = .ok (.iaload, 1) := by decide +kernel
theorem dX11_whose_160 : decode cX11_whose 160 = .ok (.aload_n 0, 1) := by decide +kernel
theorem dX11_whose_161 : decode cX11_whose 161 = .ok (.getfield 135, 3) := by decide +kernel
theorem dX11_whose_164 : decode cX11_whose 164 = .ok (.aload_n 0, 1) := by decide +kernel
theorem dX11_whose_165 : decode cX11_whose 165 = .ok (.iconst 0, 1) := by decide +kernel
theorem dX11_whose_166 : decode cX11_whose 166 = .ok (.iload 9, 2) := by decide +kernel
theorem dX11_whose_168 : decode cX11_whose 168 = .ok (.iload 5, 2) := by decide +kernel
theorem dX11_whose_170 : decode cX11_whose 170 = .ok (.invokevirtual 344, 3) := by decide +kernel
theorem dX11_whose_173 : decode cX11_whose 173 = .ok (.iaload, 1) := by decide +kernel
theorem dX11_whose_174 : decode cX11_whose 174 = .ok (.if_icmp .ne 7, 3) := by decide +kernel
theorem dX11_whose_177 : decode cX11_whose 177 = .ok (.iconst 1, 1) := by decide +kernel
theorem dX11_whose_178 : decode cX11_whose 178 = .ok (.goto 4, 3) := by decide +kernel
theorem dX11_whose_181 : decode cX11_whose 181 = .ok (.iconst 0, 1) := by decide +kernel
theorem dX11_whose_182 : decode cX11_whose 182 = .ok (.iadd, 1) := by decide +kernel
theorem dX11_whose_183 : decode cX11_whose 183 = .ok (.istore 8, 2) := by decide +kernel
theorem dX11_whose_185 : decode cX11_whose 185 = .ok (.iinc 9 1, 3) := by decide +kernel
theorem dX11_whose_188 : decode cX11_whose 188 = .ok (.goto (-76), 3) := by decide +kernel
theorem dX11_whose_191 : decode cX11_whose 191 = .ok (.iload 8, 2) := by decide +kernel
theorem dX11_whose_193 : decode cX11_whose 193 = .ok (.iload 6, 2) := by decide +kernel
theorem dX11_whose_195 : decode cX11_whose 195 = .ok (.if_icmp .le 8, 3) := by decide +kernel
theorem dX11_whose_198 : decode cX11_whose 198 = .ok (.iload 8, 2) := by decide +kernel
theorem dX11_whose_200 : decode cX11_whose 200 = .ok (.goto 5, 3) := by decide +kernel
theorem dX11_whose_203 : decode cX11_whose 203 = .ok (.iload 6, 2) := by decide +kernel
theorem dX11_whose_205 : decode cX11_whose 205 = .ok (.istore 6, 2) := by decide +kernel
theorem dX11_whose_207 : decode cX11_whose 207 = .ok (.iinc 7 1, 3) := by decide +kernel
theorem dX11_whose_210 : decode cX11_whose 210 = .ok (.goto (-118), 3) := by decide +kernel
theorem dX11_whose_213 : decode cX11_whose 213 = .ok (.iload 6, 2) := by decide +kernel
theorem dX11_whose_215 : decode cX11_whose 215 = .ok (.iload 4, 2) := by decide +kernel
theorem dX11_whose_217 : decode cX11_whose 217 = .ok (.if_icmp .lt 6, 3) := by decide +kernel
theorem dX11_whose_220 : decode cX11_whose 220 = .ok (.goto 10, 3) := by decide +kernel
theorem dX11_whose_223 : decode cX11_whose 223 = .ok (.iload 6, 2) := by decide +kernel
theorem dX11_whose_225 : decode cX11_whose 225 = .ok (.istore 4, 2) := by decide +kernel
theorem dX11_whose_227 : decode cX11_whose 227 = .ok (.iload 5, 2) := by decide +kernel
theorem dX11_whose_229 : decode cX11_whose 229 = .ok (.istore_n 3, 1) := by decide +kernel
theorem dX11_whose_230 : decode cX11_whose 230 = .ok (.iinc 5 1, 3) := by decide +kernel
theorem dX11_whose_233 : decode cX11_whose 233 = .ok (.goto (-165), 3) := by decide +kernel
theorem dX11_whose_236 : decode cX11_whose 236 = .ok (.iload_n 3, 1) := by decide +kernel
theorem dX11_whose_237 : decode cX11_whose 237 = .ok (.iconst (-1), 1) := by decide +kernel
theorem dX11_whose_238 : decode cX11_whose 238 = .ok (.if_icmp .eq 8, 3) := by decide +kernel
theorem dX11_whose_241 : decode cX11_whose 241 = .ok (.iload_n 1, 1) := by decide +kernel
theorem dX11_whose_242 : decode cX11_whose 242 = .ok (.iconst 1, 1) := by decide +kernel
theorem dX11_whose_243 : decode cX11_whose 243 = .ok (.if_icmp .ne 7, 3) := by decide +kernel
theorem dX11_whose_246 : decode cX11_whose 246 = .ok (.iload_n 3, 1) := by decide +kernel
theorem dX11_whose_247 : decode cX11_whose 247 = .ok (.goto 5, 3) := by decide +kernel
theorem dX11_whose_250 : decode cX11_whose 250 = .ok (.iload 4, 2) := by decide +kernel
theorem dX11_whose_252 : decode cX11_whose 252 = .ok (.ireturn, 1) := by decide +kernel
theorem dX11_days_0 : decode cX11_days 0 = .ok (.aload_n 0, 1) := by decide +kernel
theorem dX11_days_1 : decode cX11_days 1 = .ok (.iload_n 1, 1) := by decide +kernel
theorem dX11_days_2 : decode cX11_days 2 = .ok (.iconst 1, 1) := by decide +kernel
theorem dX11_days_3 : decode cX11_days 3 = .ok (.bipush 100, 2) := by decide +kernel
theorem dX11_days_5 : decode cX11_days 5 = .ok (.invokevirtual 453, 3) := by decide +kernel
theorem dX11_days_8 : decode cX11_days 8 = .ok (.ifCond .ne 9, 3) := by decide +kernel
theorem dX11_days_11 : decode cX11_days 11 = .ok (.aload_n 0, 1) := by decide +kernel
theorem dX11_days_12 : decode cX11_days 12 = .ok (.iconst 2, 1) := by decide +kernel
theorem dX11_days_13 : decode cX11_days 13 = .ok (.invokevirtual 214, 3) := by decide +kernel
theorem dX11_days_16 : decode cX11_days 16 = .ok (.ireturn, 1) := by decide +kernel
theorem dX11_days_17 : decode cX11_days 17 = .ok (.aload_n 0, 1) := by decide +kernel
theorem dX11_days_18 : decode cX11_days 18 = .ok (.invokevirtual 499, 3) := by decide +kernel
theorem dX11_days_21 : decode cX11_days 21 = .ok (.iconst 0, 1) := by decide +kernel
theorem dX11_days_22 : decode cX11_days 22 = .ok (.istore_n 2, 1) := by decide +kernel
theorem dX11_days_23 : decode cX11_days 23 = .ok (.iconst 0, 1) := by decide +kernel
theorem dX11_days_24 : decode cX11_days 24 = .ok (.istore_n 3, 1) := by decide +kernel
theorem dX11_days_25 : decode cX11_days 25 = .ok (.iload_n 3, 1) := by decide +kernel
theorem dX11_days_26 : decode cX11_days 26 = .ok (.iload_n 1, 1) := by decide +kernel
theorem dX11_days_27 : decode cX11_days 27 = .ok (.if_icmp .ge 22, 3) := by decide +kernel
theorem dX11_days_30 : decode cX11_days 30 = .ok (.aload_n 0, 1) := by decide +kernel
theorem dX11_days_31 : decode cX11_days 31 = .ok (.iconst 0, 1) := by decide +kernel
theorem dX11_days_32 : decode cX11_days 32 = .ok (.iconst 0, 1) := by decide +kernel
theorem dX11_days_33 : decode cX11_days 33 = .ok (.invokevirtual 456, 3) := by decide +kernel
theorem dX11_days_36 : decode cX11_days 36 = .ok (.iload_n 2, 1) := by decide +kernel
theorem dX11_days_37 : decode cX11_days 37 = .ok (.aload_n 0, 1) := by decide +kernel
theorem dX11_days_38 : decode cX11_days 38 = .ok (.getfield 171, 3) := by decide +kernel
theorem dX11_days_41 : decode cX11_days 41 = .ok (.iadd, 1) := by decide +kernel
theorem dX11_days_42 : decode cX11_days 42 = .ok (.istore_n 2, 1) := by decide +kernel
theorem dX11_days_43 : decode cX11_days 43 = .ok (.iinc 3 1, 3) := by decide +kernel
theorem dX11_days_46 : decode cX11_days 46 = .ok (.goto (-21), 3) := by decide +kernel
theorem dX11_days_49 : decode cX11_days 49 = .ok (.iload_n 2, 1) := by decide +kernel
theorem dX11_days_50 : decode cX11_days 50 = .ok (.ireturn, 1) := by decide +kernel
theorem dX11_draw_0 : decode cX11_draw 0 = .ok (.aload_n 0, 1) := by decide +kernel
theorem dX11_draw_1 : decode cX11_draw 1 = .ok (.ldc2_w 502, 3) := by decide +kernel
theorem dX11_draw_4 : decode cX11_draw 4 = .ok (.aload_n 0, 1) := by decide +kernel
theorem dX11_draw_5 : decode cX11_draw 5 = .ok (.getfield 162, 3) := by decide +kernel
theorem dX11_draw_8 : decode cX11_draw 8 = .ok (.lmul, 1) := by decide +kernel
theorem dX11_draw_9 : decode cX11_draw 9 = .ok (.ldc2_w 504, 3) := by decide +kernel
theorem dX11_draw_12 : decode cX11_draw 12 = .ok (.ladd, 1) := by decide +kernel
theorem dX11_draw_13 : decode cX11_draw 13 = .ok (.ldc2_w 506, 3) := by decide +kernel
theorem dX11_draw_16 : decode cX11_draw 16 = .ok (.lrem, 1) := by decide +kernel
theorem dX11_draw_17 : decode cX11_draw 17 = .ok (.putfield 162, 3) := by decide +kernel
theorem dX11_draw_20 : decode cX11_draw 20 = .ok (.aload_n 0, 1) := by decide +kernel
theorem dX11_draw_21 : decode cX11_draw 21 = .ok (.getfield 162, 3) := by decide +kernel
theorem dX11_draw_24 : decode cX11_draw 24 = .ok (.ldc2_w 508, 3) := by decide +kernel
theorem dX11_draw_27 : decode cX11_draw 27 = .ok (.ldiv, 1) := by decide +kernel
theorem dX11_draw_28 : decode cX11_draw 28 = .ok (.iload_n 1, 1) := by decide +kernel
theorem dX11_draw_29 : decode cX11_draw 29 = .ok (.i2l, 1) := by decide +kernel
theorem dX11_draw_30 : decode cX11_draw 30 = .ok (.lrem, 1) := by decide +kernel
theorem dX11_draw_31 : decode cX11_draw 31 = .ok (.l2i, 1) := by decide +kernel
theorem dX11_draw_32 : decode cX11_draw 32 = .ok (.ireturn, 1) := by decide +kernel
theorem dX11_chance_0 : decode cX11_chance 0 = .ok (.aload_n 0, 1) := by decide +kernel
theorem dX11_chance_1 : decode cX11_chance 1 = .ok (.iload_n 1, 1) := by decide +kernel
theorem dX11_chance_2 : decode cX11_chance 2 = .ok (.iconst 1, 1) := by decide +kernel
theorem dX11_chance_3 : decode cX11_chance 3 = .ok (.bipush 100, 2) := by decide +kernel
theorem dX11_chance_5 : decode cX11_chance 5 = .ok (.invokevirtual 453, 3) := by decide +kernel
theorem dX11_chance_8 : decode cX11_chance 8 = .ok (.ifCond .ne 9, 3) := by decide +kernel
theorem dX11_chance_11 : decode cX11_chance 11 = .ok (.aload_n 0, 1) := by decide +kernel
theorem dX11_chance_12 : decode cX11_chance 12 = .ok (.iconst 2, 1) := by decide +kernel
theorem dX11_chance_13 : decode cX11_chance 13 = .ok (.invokevirtual 214, 3) := by decide +kernel
theorem dX11_chance_16 : decode cX11_chance 16 = .ok (.ireturn, 1) := by decide +kernel
theorem dX11_chance_17 : decode cX11_chance 17 = .ok (.aload_n 0, 1) := by decide +kernel
theorem dX11_chance_18 : decode cX11_chance 18 = .ok (.invokevirtual 499, 3) := by decide +kernel
theorem dX11_chance_21 : decode cX11_chance 21 = .ok (.iconst 0, 1) := by decide +kernel
theorem dX11_chance_22 : decode cX11_chance 22 = .ok (.istore_n 2, 1) := by decide +kernel
theorem dX11_chance_23 : decode cX11_chance 23 = .ok (.iconst 0, 1) := by decide +kernel
theorem dX11_chance_24 : decode cX11_chance 24 = .ok (.istore_n 3, 1) := by decide +kernel
theorem dX11_chance_25 : decode cX11_chance 25 = .ok (.iload_n 3, 1) := by decide +kernel
theorem dX11_chance_26 : decode cX11_chance 26 = .ok (.iload_n 1, 1) := by decide +kernel
theorem dX11_chance_27 : decode cX11_chance 27 = .ok (.if_icmp .ge 22, 3) := by decide +kernel
theorem dX11_chance_30 : decode cX11_chance 30 = .ok (.aload_n 0, 1) := by decide +kernel
theorem dX11_chance_31 : decode cX11_chance 31 = .ok (.iconst 0, 1) := by decide +kernel
theorem dX11_chance_32 : decode cX11_chance 32 = .ok (.iconst 1, 1) := by decide +kernel
theorem dX11_chance_33 : decode cX11_chance 33 = .ok (.invokevirtual 456, 3) := by decide +kernel
theorem dX11_chance_36 : decode cX11_chance 36 = .ok (.iload_n 2, 1) := by decide +kernel
theorem dX11_chance_37 : decode cX11_chance 37 = .ok (.aload_n 0, 1) := by decide +kernel
theorem dX11_chance_38 : decode cX11_chance 38 = .ok (.getfield 174, 3) := by decide +kernel
theorem dX11_chance_41 : decode cX11_chance 41 = .ok (.iadd, 1) := by decide +kernel
theorem dX11_chance_42 : decode cX11_chance 42 = .ok (.istore_n 2, 1) := by decide +kernel
theorem dX11_chance_43 : decode cX11_chance 43 = .ok (.iinc 3 1, 3) := by decide +kernel
theorem dX11_chance_46 : decode cX11_chance 46 = .ok (.goto (-21), 3) := by decide +kernel
theorem dX11_chance_49 : decode cX11_chance 49 = .ok (.iload_n 2, 1) := by decide +kernel
theorem dX11_chance_50 : decode cX11_chance 50 = .ok (.ireturn, 1) := by decide +kernel
theorem dX11_give_0 : decode cX11_give 0 = .ok (.aload_n 0, 1) := by decide +kernel
theorem dX11_give_1 : decode cX11_give 1 = .ok (.iload_n 1, 1) := by decide +kernel
theorem dX11_give_2 : decode cX11_give 2 = .ok (.iload_n 2, 1) := by decide +kernel
theorem dX11_give_3 : decode cX11_give 3 = .ok (.invokevirtual 450, 3) := by decide +kernel
theorem dX11_give_6 : decode cX11_give 6 = .ok (.ifCond .eq 49, 3) := by decide +kernel
theorem dX11_give_9 : decode cX11_give 9 = .ok (.aload_n 0, 1) := by decide +kernel
theorem dX11_give_10 : decode cX11_give 10 = .ok (.iload_n 1, 1) := by decide +kernel
theorem dX11_give_11 : decode cX11_give 11 = .ok (.iload_n 3, 1) := by decide +kernel
theorem dX11_give_12 : decode cX11_give 12 = .ok (.invokevirtual 450, 3) := by decide +kernel
theorem dX11_give_15 : decode cX11_give 15 = .ok (.ifCond .eq 40, 3) := by decide +kernel
theorem dX11_give_18 : decode cX11_give 18 = .ok (.aload_n 0, 1) := by decide +kernel
theorem dX11_give_19 : decode cX11_give 19 = .ok (.getfield 135, 3) := by decide +kernel
theorem dX11_give_22 : decode cX11_give 22 = .ok (.aload_n 0, 1) := by decide +kernel
theorem dX11_give_23 : decode cX11_give 23 = .ok (.iconst 0, 1) := by decide +kernel
theorem dX11_give_24 : decode cX11_give 24 = .ok (.iload_n 1, 1) := by decide +kernel
theorem dX11_give_25 : decode cX11_give 25 = .ok (.iload_n 2, 1) := by decide +kernel
theorem dX11_give_26 : decode cX11_give 26 = .ok (.invokevirtual 344, 3) := by decide +kernel
theorem dX11_give_29 : decode cX11_give 29 = .ok (.iaload, 1) := by decide +kernel
theorem dX11_give_30 : decode cX11_give 30 = .ok (.ifCond .eq 25, 3) := by decide +kernel
theorem dX11_give_33 : decode cX11_give 33 = .ok (.iload_n 3, 1) := by decide +kernel
theorem dX11_give_34 : decode cX11_give 34 = .ok (.iload_n 2, 1) := by decide +kernel
theorem dX11_give_35 : decode cX11_give 35 = .ok (.if_icmp .eq 34, 3) := by decide +kernel
theorem dX11_give_38 : decode cX11_give 38 = .ok (.aload_n 0, 1) := by decide +kernel
theorem dX11_give_39 : decode cX11_give 39 = .ok (.getfield 135, 3) := by decide +kernel
theorem dX11_give_42 : decode cX11_give 42 = .ok (.aload_n 0, 1) := by decide +kernel
theorem dX11_give_43 : decode cX11_give 43 = .ok (.iconst 0, 1) := by decide +kernel
theorem dX11_give_44 : decode cX11_give 44 = .ok (.iload_n 3, 1) := by decide +kernel
theorem dX11_give_45 : decode cX11_give 45 = .ok (.iload_n 2, 1) := by decide +kernel
theorem dX11_give_46 : decode cX11_give 46 = .ok (.invokevirtual 344, 3) := by decide +kernel
theorem dX11_give_49 : decode cX11_give 49 = .ok (.iaload, 1) := by decide +kernel
theorem dX11_give_50 : decode cX11_give 50 = .ok (.bipush 99, 2) := by decide +kernel
theorem dX11_give_52 : decode cX11_give 52 = .ok (.if_icmp .ne 17, 3) := by decide +kernel
theorem dX11_give_55 : decode cX11_give 55 = .ok (.aload_n 0, 1) := by decide +kernel
theorem dX11_give_56 : decode cX11_give 56 = .ok (.iconst 3, 1) := by decide +kernel
theorem dX11_give_57 : decode cX11_give 57 = .ok (.invokevirtual 214, 3) := by decide +kernel
theorem dX11_give_60 : decode cX11_give 60 = .ok (.ifCond .lt 7, 3) := by decide +kernel
theorem dX11_give_63 : decode cX11_give 63 = .ok (.iconst 1, 1) := by decide +kernel
theorem dX11_give_64 : decode cX11_give 64 = .ok (.goto 4, 3) := by decide +kernel
theorem dX11_give_67 : decode cX11_give 67 = .ok (.iconst 0, 1) := by decide +kernel
theorem dX11_give_68 : decode cX11_give 68 = .ok (.ireturn, 1) := by decide +kernel
theorem dX11_give_69 : decode cX11_give 69 = .ok (.aload_n 0, 1) := by decide +kernel
theorem dX11_give_70 : decode cX11_give 70 = .ok (.invokevirtual 499, 3) := by decide +kernel
theorem dX11_give_73 : decode cX11_give 73 = .ok (.aload_n 0, 1) := by decide +kernel
theorem dX11_give_74 : decode cX11_give 74 = .ok (.getfield 135, 3) := by decide +kernel
theorem dX11_give_77 : decode cX11_give 77 = .ok (.aload_n 0, 1) := by decide +kernel
theorem dX11_give_78 : decode cX11_give 78 = .ok (.iconst 0, 1) := by decide +kernel
theorem dX11_give_79 : decode cX11_give 79 = .ok (.iload_n 1, 1) := by decide +kernel
theorem dX11_give_80 : decode cX11_give 80 = .ok (.iload_n 2, 1) := by decide +kernel
theorem dX11_give_81 : decode cX11_give 81 = .ok (.invokevirtual 344, 3) := by decide +kernel
theorem dX11_give_84 : decode cX11_give 84 = .ok (.dup2, 1) := by decide +kernel
theorem dX11_give_85 : decode cX11_give 85 = .ok (.iaload, 1) := by decide +kernel
theorem dX11_give_86 : decode cX11_give 86 = .ok (.iconst 1, 1) := by decide +kernel
theorem dX11_give_87 : decode cX11_give 87 = .ok (.isub, 1) := by decide +kernel
theorem dX11_give_88 : decode cX11_give 88 = .ok (.iastore, 1) := by decide +kernel
theorem dX11_give_89 : decode cX11_give 89 = .ok (.iload_n 3, 1) := by decide +kernel
theorem dX11_give_90 : decode cX11_give 90 = .ok (.iload_n 2, 1) := by decide +kernel
theorem dX11_give_91 : decode cX11_give 91 = .ok (.if_icmp .eq 19, 3) := by decide +kernel
theorem dX11_give_94 : decode cX11_give 94 = .ok (.aload_n 0, 1) := by decide +kernel
theorem dX11_give_95 : decode cX11_give 95 = .ok (.getfield 135, 3) := by decide +kernel
theorem dX11_give_98 : decode cX11_give 98 = .ok (.aload_n 0, 1) := by decide +kernel
theorem dX11_give_99 : decode cX11_give 99 = .ok (.iconst 0, 1) := by decide +kernel
theorem dX11_give_100 : decode cX11_give 100 = .ok (.iload_n 3, 1) := by decide +kernel
theorem dX11_give_101 : decode cX11_give 101 = .ok (.iload_n 2, 1) := by decide +kernel
theorem dX11_give_102 : decode cX11_give 102 = .ok (.invokevirtual 344, 3) := by decide +kernel
theorem dX11_give_105 : decode cX11_give 105 = .ok (.dup2, 1) := by decide +kernel
theorem dX11_give_106 : decode cX11_give 106 = .ok (.iaload, 1) := by decide +kernel
theorem dX11_give_107 : decode cX11_give 107 = .ok (.iconst 1, 1) := by decide +kernel
theorem dX11_give_108 : decode cX11_give 108 = .ok (.iadd, 1) := by decide +kernel
theorem dX11_give_109 : decode cX11_give 109 = .ok (.iastore, 1) := by decide +kernel
theorem dX11_give_110 : decode cX11_give 110 = .ok (.iconst 1, 1) := by decide +kernel
theorem dX11_give_111 : decode cX11_give 111 = .ok (.ireturn, 1) := by decide +kernel
theorem dX11_find_0 : decode cX11_find 0 = .ok (.aload_n 0, 1) := by decide +kernel
theorem dX11_find_1 : decode cX11_find 1 = .ok (.iload_n 1, 1) := by decide +kernel
theorem dX11_find_2 : decode cX11_find 2 = .ok (.iload_n 2, 1) := by decide +kernel
theorem dX11_find_3 : decode cX11_find 3 = .ok (.invokevirtual 450, 3) := by decide +kernel
theorem dX11_find_6 : decode cX11_find 6 = .ok (.ifCond .eq 20, 3) := by decide +kernel
theorem dX11_find_9 : decode cX11_find 9 = .ok (.aload_n 0, 1) := by decide +kernel
theorem dX11_find_10 : decode cX11_find 10 = .ok (.getfield 135, 3) := by decide +kernel
theorem dX11_find_13 : decode cX11_find 13 = .ok (.aload_n 0, 1) := by decide +kernel
theorem dX11_find_14 : decode cX11_find 14 = .ok (.iconst 0, 1) := by decide +kernel
theorem dX11_find_15 : decode cX11_find 15 = .ok (.iload_n 1, 1) := by decide +kernel
theorem dX11_find_16 : decode cX11_find 16 = .ok (.iload_n 2, 1) := by decide +kernel
theorem dX11_find_17 : decode cX11_find 17 = .ok (.invokevirtual 344, 3) := by decide +kernel
theorem dX11_find_20 : decode cX11_find 20 = .ok (.iaload, 1) := by decide +kernel
theorem dX11_find_21 : decode cX11_find 21 = .ok (.bipush 99, 2) := by decide +kernel
theorem dX11_find_23 : decode cX11_find 23 = .ok (.if_icmp .ne 17, 3) := by decide +kernel
theorem dX11_find_26 : decode cX11_find 26 = .ok (.aload_n 0, 1) := by decide +kernel
theorem dX11_find_27 : decode cX11_find 27 = .ok (.iconst 3, 1) := by decide +kernel
theorem dX11_find_28 : decode cX11_find 28 = .ok (.invokevirtual 214, 3) := by decide +kernel
theorem dX11_find_31 : decode cX11_find 31 = .ok (.ifCond .lt 7, 3) := by decide +kernel
theorem dX11_find_34 : decode cX11_find 34 = .ok (.iconst 1, 1) := by decide +kernel
theorem dX11_find_35 : decode cX11_find 35 = .ok (.goto 4, 3) := by decide +kernel
theorem dX11_find_38 : decode cX11_find 38 = .ok (.iconst 0, 1) := by decide +kernel
theorem dX11_find_39 : decode cX11_find 39 = .ok (.ireturn, 1) := by decide +kernel
theorem dX11_find_40 : decode cX11_find 40 = .ok (.aload_n 0, 1) := by decide +kernel
theorem dX11_find_41 : decode cX11_find 41 = .ok (.invokevirtual 499, 3) := by decide +kernel
theorem dX11_find_44 : decode cX11_find 44 = .ok (.aload_n 0, 1) := by decide +kernel
theorem dX11_find_45 : decode cX11_find 45 = .ok (.getfield 135, 3) := by decide +kernel
theorem dX11_find_48 : decode cX11_find 48 = .ok (.aload_n 0, 1) := by decide +kernel
theorem dX11_find_49 : decode cX11_find 49 = .ok (.iconst 0, 1) := by decide +kernel
theorem dX11_find_50 : decode cX11_find 50 = .ok (.iload_n 1, 1) := by decide +kernel
theorem dX11_find_51 : decode cX11_find 51 = .ok (.iload_n 2, 1) := by decide +kernel
theorem dX11_find_52 : decode cX11_find 52 = .ok (.invokevirtual 344, 3) := by decide +kernel
theorem dX11_find_55 : decode cX11_find 55 = .ok (.dup2, 1) := by decide +kernel
theorem dX11_find_56 : decode cX11_find 56 = .ok (.iaload, 1) := by decide +kernel
theorem dX11_find_57 : decode cX11_find 57 = .ok (.iconst 1, 1) := by decide +kernel
theorem dX11_find_58 : decode cX11_find 58 = .ok (.iadd, 1) := by decide +kernel
theorem dX11_find_59 : decode cX11_find 59 = .ok (.iastore, 1) := by decide +kernel
theorem dX11_find_60 : decode cX11_find 60 = .ok (.iconst 1, 1) := by decide +kernel
theorem dX11_find_61 : decode cX11_find 61 = .ok (.ireturn, 1) := by decide +kernel
theorem dX11_burn_0 : decode cX11_burn 0 = .ok (.aload_n 0, 1) := by decide +kernel
theorem dX11_burn_1 : decode cX11_burn 1 = .ok (.iload_n 1, 1) := by decide +kernel
theorem dX11_burn_2 : decode cX11_burn 2 = .ok (.iload_n 2, 1) := by decide +kernel
theorem dX11_burn_3 : decode cX11_burn 3 = .ok (.invokevirtual 450, 3) := by decide +kernel
theorem dX11_burn_6 : decode cX11_burn 6 = .ok (.ifCond .eq 18, 3) := by decide +kernel
theorem dX11_burn_9 : decode cX11_burn 9 = .ok (.aload_n 0, 1) := by decide +kernel
theorem dX11_burn_10 : decode cX11_burn 10 = .ok (.getfield 135, 3) := by decide +kernel
theorem dX11_burn_13 : decode cX11_burn 13 = .ok (.aload_n 0, 1) := by decide +kernel
theorem dX11_burn_14 : decode cX11_burn 14 = .ok (.iconst 0, 1) := by decide +kernel
theorem dX11_burn_15 : decode cX11_burn 15 = .ok (.iload_n 1, 1) := by decide +kernel
theorem dX11_burn_16 : decode cX11_burn 16 = .ok (.iload_n 2, 1) := by decide +kernel
theorem dX11_burn_17 : decode cX11_burn 17 = .ok (.invokevirtual 344, 3) := by decide +kernel
theorem dX11_burn_20 : decode cX11_burn 20 = .ok (.iaload, 1) := by decide +kernel
theorem dX11_burn_21 : decode cX11_burn 21 = .ok (.ifCond .ne 9, 3) := by decide +kernel
theorem dX11_burn_24 : decode cX11_burn 24 = .ok (.aload_n 0, 1) := by decide +kernel
theorem dX11_burn_25 : decode cX11_burn 25 = .ok (.iconst 3, 1) := by decide +kernel
theorem dX11_burn_26 : decode cX11_burn 26 = .ok (.invokevirtual 214, 3) := by decide +kernel
theorem dX11_burn_29 : decode cX11_burn 29 = .ok (.ireturn, 1) := by decide +kernel
theorem dX11_burn_30 : decode cX11_burn 30 = .ok (.aload_n 0, 1) := by decide +kernel
theorem dX11_burn_31 : decode cX11_burn 31 = .ok (.invokevirtual 499, 3) := by decide +kernel
theorem dX11_burn_34 : decode cX11_burn 34 = .ok (.aload_n 0, 1) := by decide +kernel
theorem dX11_burn_35 : decode cX11_burn 35 = .ok (.getfield 135, 3) := by decide +kernel
theorem dX11_burn_38 : decode cX11_burn 38 = .ok (.aload_n 0, 1) := by decide +kernel
theorem dX11_burn_39 : decode cX11_burn 39 = .ok (.iconst 0, 1) := by decide +kernel
theorem dX11_burn_40 : decode cX11_burn 40 = .ok (.iload_n 1, 1) := by decide +kernel
theorem dX11_burn_41 : decode cX11_burn 41 = .ok (.iload_n 2, 1) := by decide +kernel
theorem dX11_burn_42 : decode cX11_burn 42 = .ok (.invokevirtual 344, 3) := by decide +kernel
theorem dX11_burn_45 : decode cX11_burn 45 = .ok (.iaload, 1) := by decide +kernel
theorem dX11_burn_46 : decode cX11_burn 46 = .ok (.istore_n 3, 1) := by decide +kernel
theorem dX11_burn_47 : decode cX11_burn 47 = .ok (.aload_n 0, 1) := by decide +kernel
theorem dX11_burn_48 : decode cX11_burn 48 = .ok (.getfield 135, 3) := by decide +kernel
theorem dX11_burn_51 : decode cX11_burn 51 = .ok (.aload_n 0, 1) := by decide +kernel
theorem dX11_burn_52 : decode cX11_burn 52 = .ok (.iconst 0, 1) := by decide +kernel
theorem dX11_burn_53 : decode cX11_burn 53 = .ok (.iload_n 1, 1) := by decide +kernel
theorem dX11_burn_54 : decode cX11_burn 54 = .ok (.iload_n 2, 1) := by decide +kernel
theorem dX11_burn_55 : decode cX11_burn 55 = .ok (.invokevirtual 344, 3) := by decide +kernel
theorem dX11_burn_58 : decode cX11_burn 58 = .ok (.iconst 0, 1) := by decide +kernel
theorem dX11_burn_59 : decode cX11_burn 59 = .ok (.iastore, 1) := by decide +kernel
theorem dX11_burn_60 : decode cX11_burn 60 = .ok (.iload_n 3, 1) := by decide +kernel
theorem dX11_burn_61 : decode cX11_burn 61 = .ok (.ireturn, 1) := by decide +kernel
theorem dX11_seed_0 : decode cX11_seed 0 = .ok (.iload_n 1, 1) := by decide +kernel
theorem dX11_seed_1 : decode cX11_seed 1 = .ok (.ifCond .ge 17, 3) := by decide +kernel
theorem dX11_seed_4 : decode cX11_seed 4 = .ok (.aload_n 0, 1) := by decide +kernel
theorem dX11_seed_5 : decode cX11_seed 5 = .ok (.iconst 5, 1) := by decide +kernel
theorem dX11_seed_6 : decode cX11_seed 6 = .ok (.invokevirtual 214, 3) := by decide +kernel
theorem dX11_seed_9 : decode cX11_seed 9 = .ok (.ifCond .lt 7, 3) := by decide +kernel
theorem dX11_seed_12 : decode cX11_seed 12 = .ok (.iconst 1, 1) := by decide +kernel
theorem dX11_seed_13 : decode cX11_seed 13 = .ok (.goto 4, 3) := by decide +kernel
theorem dX11_seed_16 : decode cX11_seed 16 = .ok (.iconst 0, 1) := by decide +kernel
theorem dX11_seed_17 : decode cX11_seed 17 = .ok (.ireturn, 1) := by decide +kernel
theorem dX11_seed_18 : decode cX11_seed 18 = .ok (.aload_n 0, 1) := by decide +kernel
theorem dX11_seed_19 : decode cX11_seed 19 = .ok (.iload_n 1, 1) := by decide +kernel
theorem dX11_seed_20 : decode cX11_seed 20 = .ok (.i2l, 1) := by decide +kernel
theorem dX11_seed_21 : decode cX11_seed 21 = .ok (.putfield 162, 3) := by decide +kernel
theorem dX11_seed_24 : decode cX11_seed 24 = .ok (.iconst 1, 1) := by decide +kernel
theorem dX11_seed_25 : decode cX11_seed 25 = .ok (.ireturn, 1) := by decide +kernel
theorem dX11_kept_0 : decode cX11_kept 0 = .ok (.iload_n 1, 1) := by decide +kernel
theorem dX11_kept_1 : decode cX11_kept 1 = .ok (.iconst 0, 1) := by decide +kernel
theorem dX11_kept_2 : decode cX11_kept 2 = .ok (.aload_n 0, 1) := by decide +kernel
theorem dX11_kept_3 : decode cX11_kept 3 = .ok (.getfield 150, 3) := by decide +kernel
theorem dX11_kept_6 : decode cX11_kept 6 = .ok (.iconst 0, 1) := by decide +kernel
theorem dX11_kept_7 : decode cX11_kept 7 = .ok (.iaload, 1) := by decide +kernel
theorem dX11_kept_8 : decode cX11_kept 8 = .ok (.iconst 1, 1) := by decide +kernel
theorem dX11_kept_9 : decode cX11_kept 9 = .ok (.isub, 1) := by decide +kernel
theorem dX11_kept_10 : decode cX11_kept 10 = .ok (.invokestatic 287, 3) := by decide +kernel
theorem dX11_kept_13 : decode cX11_kept 13 = .ok (.ifCond .eq 25, 3) := by decide +kernel
theorem dX11_kept_16 : decode cX11_kept 16 = .ok (.iload_n 2, 1) := by decide +kernel
theorem dX11_kept_17 : decode cX11_kept 17 = .ok (.iconst 0, 1) := by decide +kernel
theorem dX11_kept_18 : decode cX11_kept 18 = .ok (.iconst 3, 1) := by decide +kernel
theorem dX11_kept_19 : decode cX11_kept 19 = .ok (.invokestatic 287, 3) := by decide +kernel
theorem dX11_kept_22 : decode cX11_kept 22 = .ok (.ifCond .eq 16, 3) := by decide +kernel
theorem dX11_kept_25 : decode cX11_kept 25 = .ok (.aload_n 0, 1) := by decide +kernel
theorem dX11_kept_26 : decode cX11_kept 26 = .ok (.getfield 153, 3) := by decide +kernel
theorem dX11_kept_29 : decode cX11_kept 29 = .ok (.iconst 4, 1) := by decide +kernel
theorem dX11_kept_30 : decode cX11_kept 30 = .ok (.iload_n 1, 1) := by decide +kernel
theorem dX11_kept_31 : decode cX11_kept 31 = .ok (.imul, 1) := by decide +kernel
theorem dX11_kept_32 : decode cX11_kept 32 = .ok (.iload_n 2, 1) := by decide +kernel
theorem dX11_kept_33 : decode cX11_kept 33 = .ok (.iadd, 1) := by decide +kernel
theorem dX11_kept_34 : decode cX11_kept 34 = .ok (.iaload, 1) := by decide +kernel
theorem dX11_kept_35 : decode cX11_kept 35 = .ok (.goto 4, 3) := by decide +kernel
theorem dX11_kept_38 : decode cX11_kept 38 = .ok (.iconst (-1), 1) := by decide +kernel
theorem dX11_kept_39 : decode cX11_kept 39 = .ok (.ireturn, 1) := by decide +kernel
theorem dX11_writes__0 : decode cX11_writes_ 0 = .ok (.iload_n 2, 1) := by decide +kernel
theorem dX11_writes__1 : decode cX11_writes_ 1 = .ok (.iconst 1, 1) := by decide +kernel
theorem dX11_writes__2 : decode cX11_writes_ 2 = .ok (.isub, 1) := by decide +kernel
theorem dX11_writes__3 : decode cX11_writes_ 3 = .ok (.istore_n 3, 1) := by decide +kernel
theorem dX11_writes__4 : decode cX11_writes_ 4 = .ok (.iload_n 3, 1) := by decide +kernel
theorem dX11_writes__5 : decode cX11_writes_ 5 = .ok (.ifCond .lt 38, 3) := by decide +kernel
theorem dX11_writes__8 : decode cX11_writes_ 8 = .ok (.aload_n 0, 1) := by decide +kernel
theorem dX11_writes__9 : decode cX11_writes_ 9 = .ok (.getfield 204, 3) := by decide +kernel
theorem dX11_writes__12 : decode cX11_writes_ 12 = .ok (.aload_n 0, 1) := by decide +kernel
theorem dX11_writes__13 : decode cX11_writes_ 13 = .ok (.getfield 207, 3) := by decide +kernel
theorem dX11_writes__16 : decode cX11_writes_ 16 = .ok (.iload_n 1, 1) := by decide +kernel
theorem dX11_writes__17 : decode cX11_writes_ 17 = .ok (.bipush 8, 2) := by decide +kernel
theorem dX11_writes__19 : decode cX11_writes_ 19 = .ok (.iload_n 3, 1) := by decide +kernel
theorem dX11_writes__20 : decode cX11_writes_ 20 = .ok (.imul, 1) := by decide +kernel
theorem dX11_writes__21 : decode cX11_writes_ 21 = .ok (.ishr, 1) := by decide +kernel
theorem dX11_writes__22 : decode cX11_writes_ 22 = .ok (.sipush 255, 3) := by decide +kernel
theorem dX11_writes__25 : decode cX11_writes_ 25 = .ok (.iand, 1) := by decide +kernel
theorem dX11_writes__26 : decode cX11_writes_ 26 = .ok (.iastore, 1) := by decide +kernel
theorem dX11_writes__27 : decode cX11_writes_ 27 = .ok (.aload_n 0, 1) := by decide +kernel
theorem dX11_writes__28 : decode cX11_writes_ 28 = .ok (.dup, 1) := by decide +kernel
theorem dX11_writes__29 : decode cX11_writes_ 29 = .ok (.getfield 207, 3) := by decide +kernel
theorem dX11_writes__32 : decode cX11_writes_ 32 = .ok (.iconst 1, 1) := by decide +kernel
theorem dX11_writes__33 : decode cX11_writes_ 33 = .ok (.iadd, 1) := by decide +kernel
theorem dX11_writes__34 : decode cX11_writes_ 34 = .ok (.putfield 207, 3) := by decide +kernel
theorem dX11_writes__37 : decode cX11_writes_ 37 = .ok (.iinc 3 (-1), 3) := by decide +kernel
theorem dX11_writes__40 : decode cX11_writes_ 40 = .ok (.goto (-36), 3) := by decide +kernel
theorem dX11_writes__43 : decode cX11_writes_ 43 = .ok (.return_, 1) := by decide +kernel
theorem dX11_image_0 : decode cX11_image 0 = .ok (.aload_n 0, 1) := by decide +kernel
theorem dX11_image_1 : decode cX11_image 1 = .ok (.iconst 0, 1) := by decide +kernel
theorem dX11_image_2 : decode cX11_image 2 = .ok (.putfield 207, 3) := by decide +kernel
theorem dX11_image_5 : decode cX11_image 5 = .ok (.aload_n 0, 1) := by decide +kernel
theorem dX11_image_6 : decode cX11_image 6 = .ok (.aload_n 0, 1) := by decide +kernel
theorem dX11_image_7 : decode cX11_image 7 = .ok (.getfield 132, 3) := by decide +kernel
theorem dX11_image_10 : decode cX11_image 10 = .ok (.iconst 0, 1) := by decide +kernel
theorem dX11_image_11 : decode cX11_image 11 = .ok (.iaload, 1) := by decide +kernel
theorem dX11_image_12 : decode cX11_image 12 = .ok (.iconst 2, 1) := by decide +kernel
theorem dX11_image_13 : decode cX11_image 13 = .ok (.invokevirtual 510, 3) := by decide +kernel
theorem dX11_image_16 : decode cX11_image 16 = .ok (.iconst 0, 1) := by decide +kernel
theorem dX11_image_17 : decode cX11_image 17 = .ok (.istore_n 1, 1) := by decide +kernel
theorem dX11_image_18 : decode cX11_image 18 = .ok (.iload_n 1, 1) := by decide +kernel
theorem dX11_image_19 : decode cX11_image 19 = .ok (.aload_n 0, 1) := by decide +kernel
theorem dX11_image_20 : decode cX11_image 20 = .ok (.getfield 54, 3) := by decide +kernel
theorem dX11_image_23 : decode cX11_image 23 = .ok (.aload_n 0, 1) := by decide +kernel
theorem dX11_image_24 : decode cX11_image 24 = .ok (.getfield 51, 3) := by decide +kernel
theorem dX11_image_27 : decode cX11_image 27 = .ok (.iaload, 1) := by decide +kernel
theorem dX11_image_28 : decode cX11_image 28 = .ok (.if_icmp .ge 89, 3) := by decide +kernel
theorem dX11_image_31 : decode cX11_image 31 = .ok (.iconst 0, 1) := by decide +kernel
theorem dX11_image_32 : decode cX11_image 32 = .ok (.istore_n 2, 1) := by decide +kernel
theorem dX11_image_33 : decode cX11_image 33 = .ok (.iload_n 2, 1) := by decide +kernel
theorem dX11_image_34 : decode cX11_image 34 = .ok (.aload_n 0, 1) := by decide +kernel
theorem dX11_image_35 : decode cX11_image 35 = .ok (.getfield 54, 3) := by decide +kernel
theorem dX11_image_38 : decode cX11_image 38 = .ok (.aload_n 0, 1) := by decide +kernel
theorem dX11_image_39 : decode cX11_image 39 = .ok (.getfield 51, 3) := by decide +kernel
theorem dX11_image_42 : decode cX11_image 42 = .ok (.iaload, 1) := by decide +kernel
theorem dX11_image_43 : decode cX11_image 43 = .ok (.if_icmp .ge 68, 3) := by decide +kernel
theorem dX11_image_46 : decode cX11_image 46 = .ok (.iload_n 1, 1) := by decide +kernel
theorem dX11_image_47 : decode cX11_image 47 = .ok (.iload_n 2, 1) := by decide +kernel
theorem dX11_image_48 : decode cX11_image 48 = .ok (.if_icmp .ne 6, 3) := by decide +kernel
theorem dX11_image_51 : decode cX11_image 51 = .ok (.goto 54, 3) := by decide +kernel
theorem dX11_image_54 : decode cX11_image 54 = .ok (.aload_n 0, 1) := by decide +kernel
theorem dX11_image_55 : decode cX11_image 55 = .ok (.aload_n 0, 1) := by decide +kernel
theorem dX11_image_56 : decode cX11_image 56 = .ok (.getfield 135, 3) := by decide +kernel
theorem dX11_image_59 : decode cX11_image 59 = .ok (.aload_n 0, 1) := by decide +kernel
theorem dX11_image_60 : decode cX11_image 60 = .ok (.iconst 0, 1) := by decide +kernel
theorem dX11_image_61 : decode cX11_image 61 = .ok (.iload_n 1, 1) := by decide +kernel
theorem dX11_image_62 : decode cX11_image 62 = .ok (.iload_n 2, 1) := by decide +kernel
theorem dX11_image_63 : decode cX11_image 63 = .ok (.invokevirtual 344, 3) := by decide +kernel
theorem dX11_image_66 : decode cX11_image 66 = .ok (.iaload, 1) := by decide +kernel
theorem dX11_image_67 : decode cX11_image 67 = .ok (.iconst 1, 1) := by decide +kernel
theorem dX11_image_68 : decode cX11_image 68 = .ok (.invokevirtual 510, 3) := by decide +kernel
theorem dX11_image_71 : decode cX11_image 71 = .ok (.aload_n 0, 1) := by decide +kernel
theorem dX11_image_72 : decode cX11_image 72 = .ok (.aload_n 0, 1) := by decide +kernel
theorem dX11_image_73 : decode cX11_image 73 = .ok (.getfield 138, 3) := by decide +kernel
theorem dX11_image_76 : decode cX11_image 76 = .ok (.aload_n 0, 1) := by decide +kernel
theorem dX11_image_77 : decode cX11_image 77 = .ok (.iconst 0, 1) := by decide +kernel
theorem dX11_image_78 : decode cX11_image 78 = .ok (.iload_n 1, 1) := by decide +kernel
theorem dX11_image_79 : decode cX11_image 79 = .ok (.iload_n 2, 1) := by decide +kernel
theorem dX11_image_80 : decode cX11_image 80 = .ok (.invokevirtual 344, 3) := by decide +kernel
theorem dX11_image_83 : decode cX11_image 83 = .ok (.iaload, 1) := by decide +kernel
theorem dX11_image_84 : decode cX11_image 84 = .ok (.iconst 1, 1) := by decide +kernel
theorem dX11_image_85 : decode cX11_image 85 = .ok (.invokevirtual 510, 3) := by decide +kernel
theorem dX11_image_88 : decode cX11_image 88 = .ok (.aload_n 0, 1) := by decide +kernel
theorem dX11_image_89 : decode cX11_image 89 = .ok (.aload_n 0, 1) := by decide +kernel
theorem dX11_image_90 : decode cX11_image 90 = .ok (.getfield 141, 3) := by decide +kernel
theorem dX11_image_93 : decode cX11_image 93 = .ok (.aload_n 0, 1) := by decide +kernel
theorem dX11_image_94 : decode cX11_image 94 = .ok (.iconst 0, 1) := by decide +kernel
theorem dX11_image_95 : decode cX11_image 95 = .ok (.iload_n 1, 1) := by decide +kernel
theorem dX11_image_96 : decode cX11_image 96 = .ok (.iload_n 2, 1) := by decide +kernel
theorem dX11_image_97 : decode cX11_image 97 = .ok (.invokevirtual 344, 3) := by decide +kernel
theorem dX11_image_100 : decode cX11_image 100 = .ok (.iaload, 1) := by decide +kernel
theorem dX11_image_101 : decode cX11_image 101 = .ok (.iconst 1, 1) := by decide +kernel
theorem dX11_image_102 : decode cX11_image 102 = .ok (.invokevirtual 510, 3) := by decide +kernel
theorem dX11_image_105 : decode cX11_image 105 = .ok (.iinc 2 1, 3) := by decide +kernel
theorem dX11_image_108 : decode cX11_image 108 = .ok (.goto (-75), 3) := by decide +kernel
theorem dX11_image_111 : decode cX11_image 111 = .ok (.iinc 1 1, 3) := by decide +kernel
theorem dX11_image_114 : decode cX11_image 114 = .ok (.goto (-96), 3) := by decide +kernel
theorem dX11_image_117 : decode cX11_image 117 = .ok (.aload_n 0, 1) := by decide +kernel
theorem dX11_image_118 : decode cX11_image 118 = .ok (.aload_n 0, 1) := by decide +kernel
theorem dX11_image_119 : decode cX11_image 119 = .ok (.getfield 144, 3) := by decide +kernel
theorem dX11_image_122 : decode cX11_image 122 = .ok (.iconst 0, 1) := by decide +kernel
theorem dX11_image_123 : decode cX11_image 123 = .ok (.iaload, 1) := by decide +kernel
theorem dX11_image_124 : decode cX11_image 124 = .ok (.iconst 1, 1) := by decide +kernel
theorem dX11_image_125 : decode cX11_image 125 = .ok (.invokevirtual 510, 3) := by decide +kernel
theorem dX11_image_128 : decode cX11_image 128 = .ok (.iconst 0, 1) := by decide +kernel
theorem dX11_image_129 : decode cX11_image 129 = .ok (.istore_n 1, 1) := by decide +kernel
theorem dX11_image_130 : decode cX11_image 130 = .ok (.iload_n 1, 1) := by decide +kernel
theorem dX11_image_131 : decode cX11_image 131 = .ok (.iconst 3, 1) := by decide +kernel
theorem dX11_image_132 : decode cX11_image 132 = .ok (.aload_n 0, 1) := by decide +kernel
theorem dX11_image_133 : decode cX11_image 133 = .ok (.getfield 144, 3) := by decide +kernel
theorem dX11_image_136 : decode cX11_image 136 = .ok (.iconst 0, 1) := by decide +kernel
theorem dX11_image_137 : decode cX11_image 137 = .ok (.iaload, 1) := by decide +kernel
theorem dX11_image_138 : decode cX11_image 138 = .ok (.imul, 1) := by decide +kernel
theorem dX11_image_139 : decode cX11_image 139 = .ok (.if_icmp .ge 20, 3) := by decide +kernel
theorem dX11_image_142 : decode cX11_image 142 = .ok (.aload_n 0, 1) := by decide +kernel
theorem dX11_image_143 : decode cX11_image 143 = .ok (.aload_n 0, 1) := by decide +kernel
theorem dX11_image_144 : decode cX11_image 144 = .ok (.getfield 147, 3) := by decide +kernel
theorem dX11_image_147 : decode cX11_image 147 = .ok (.iload_n 1, 1) := by decide +kernel
theorem dX11_image_148 : decode cX11_image 148 = .ok (.iaload, 1) := by decide +kernel
theorem dX11_image_149 : decode cX11_image 149 = .ok (.iconst 1, 1) := by decide +kernel
theorem dX11_image_150 : decode cX11_image 150 = .ok (.invokevirtual 510, 3) := by decide +kernel
theorem dX11_image_153 : decode cX11_image 153 = .ok (.iinc 1 1, 3) := by decide +kernel
theorem dX11_image_156 : decode cX11_image 156 = .ok (.goto (-26), 3) := by decide +kernel
theorem dX11_image_159 : decode cX11_image 159 = .ok (.sipush 191, 3) := by decide +kernel
theorem dX11_image_162 : decode cX11_image 162 = .ok (.istore_n 1, 1) := by decide +kernel
theorem dX11_image_163 : decode cX11_image 163 = .ok (.iconst 0, 1) := by decide +kernel
theorem dX11_image_164 : decode cX11_image 164 = .ok (.istore_n 2, 1) := by decide +kernel
theorem dX11_image_165 : decode cX11_image 165 = .ok (.iload_n 2, 1) := by decide +kernel
theorem dX11_image_166 : decode cX11_image 166 = .ok (.aload_n 0, 1) := by decide +kernel
theorem dX11_image_167 : decode cX11_image 167 = .ok (.getfield 207, 3) := by decide +kernel
theorem dX11_image_170 : decode cX11_image 170 = .ok (.if_icmp .ge 24, 3) := by decide +kernel
theorem dX11_image_173 : decode cX11_image 173 = .ok (.iconst 5, 1) := by decide +kernel
theorem dX11_image_174 : decode cX11_image 174 = .ok (.iload_n 1, 1) := by decide +kernel
theorem dX11_image_175 : decode cX11_image 175 = .ok (.imul, 1) := by decide +kernel
theorem dX11_image_176 : decode cX11_image 176 = .ok (.aload_n 0, 1) := by decide +kernel
theorem dX11_image_177 : decode cX11_image 177 = .ok (.getfield 204, 3) := by decide +kernel
theorem dX11_image_180 : decode cX11_image 180 = .ok (.iload_n 2, 1) := by decide +kernel
theorem dX11_image_181 : decode cX11_image 181 = .ok (.iaload, 1) := by decide +kernel
theorem dX11_image_182 : decode cX11_image 182 = .ok (.iadd, 1) := by decide +kernel
theorem dX11_image_183 : decode cX11_image 183 = .ok (.sipush 251, 3) := by decide +kernel
theorem dX11_image_186 : decode cX11_image 186 = .ok (.irem, 1) := by decide +kernel
theorem dX11_image_187 : decode cX11_image 187 = .ok (.istore_n 1, 1) := by decide +kernel
theorem dX11_image_188 : decode cX11_image 188 = .ok (.iinc 2 1, 3) := by decide +kernel
theorem dX11_image_191 : decode cX11_image 191 = .ok (.goto (-26), 3) := by decide +kernel
theorem dX11_image_194 : decode cX11_image 194 = .ok (.aload_n 0, 1) := by decide +kernel
theorem dX11_image_195 : decode cX11_image 195 = .ok (.iload_n 1, 1) := by decide +kernel
theorem dX11_image_196 : decode cX11_image 196 = .ok (.iconst 1, 1) := by decide +kernel
theorem dX11_image_197 : decode cX11_image 197 = .ok (.invokevirtual 510, 3) := by decide +kernel
theorem dX11_image_200 : decode cX11_image 200 = .ok (.aload_n 0, 1) := by decide +kernel
theorem dX11_image_201 : decode cX11_image 201 = .ok (.getfield 207, 3) := by decide +kernel
theorem dX11_image_204 : decode cX11_image 204 = .ok (.ireturn, 1) := by decide +kernel
theorem dX11_octet_0 : decode cX11_octet 0 = .ok (.iload_n 1, 1) := by decide +kernel
theorem dX11_octet_1 : decode cX11_octet 1 = .ok (.iconst 0, 1) := by decide +kernel
theorem dX11_octet_2 : decode cX11_octet 2 = .ok (.aload_n 0, 1) := by decide +kernel
theorem dX11_octet_3 : decode cX11_octet 3 = .ok (.getfield 207, 3) := by decide +kernel
theorem dX11_octet_6 : decode cX11_octet 6 = .ok (.iconst 1, 1) := by decide +kernel
theorem dX11_octet_7 : decode cX11_octet 7 = .ok (.isub, 1) := by decide +kernel
theorem dX11_octet_8 : decode cX11_octet 8 = .ok (.invokestatic 287, 3) := by decide +kernel
theorem dX11_octet_11 : decode cX11_octet 11 = .ok (.ifCond .eq 12, 3) := by decide +kernel
theorem dX11_octet_14 : decode cX11_octet 14 = .ok (.aload_n 0, 1) := by decide +kernel
theorem dX11_octet_15 : decode cX11_octet 15 = .ok (.getfield 204, 3) := by decide +kernel
theorem dX11_octet_18 : decode cX11_octet 18 = .ok (.iload_n 1, 1) := by decide +kernel
theorem dX11_octet_19 : decode cX11_octet 19 = .ok (.iaload, 1) := by decide +kernel
theorem dX11_octet_20 : decode cX11_octet 20 = .ok (.goto 4, 3) := by decide +kernel
theorem dX11_octet_23 : decode cX11_octet 23 = .ok (.iconst (-1), 1) := by decide +kernel
theorem dX11_octet_24 : decode cX11_octet 24 = .ok (.ireturn, 1) := by decide +kernel
theorem dX11_pairOn_0 : decode cX11_pairOn 0 = .ok (.iconst 0, 1) := by decide +kernel
theorem dX11_pairOn_1 : decode cX11_pairOn 1 = .ok (.istore 4, 2) := by decide +kernel
theorem dX11_pairOn_3 : decode cX11_pairOn 3 = .ok (.iload 4, 2) := by decide +kernel
theorem dX11_pairOn_5 : decode cX11_pairOn 5 = .ok (.iconst 3, 1) := by decide +kernel
theorem dX11_pairOn_6 : decode cX11_pairOn 6 = .ok (.if_icmp .ge 25, 3) := by decide +kernel
theorem dX11_pairOn_9 : decode cX11_pairOn 9 = .ok (.aload_n 0, 1) := by decide +kernel
theorem dX11_pairOn_10 : decode cX11_pairOn 10 = .ok (.getfield 7, 3) := by decide +kernel
theorem dX11_pairOn_13 : decode cX11_pairOn 13 = .ok (.iload_n 3, 1) := by decide +kernel
theorem dX11_pairOn_14 : decode cX11_pairOn 14 = .ok (.iload 4, 2) := by decide +kernel
theorem dX11_pairOn_16 : decode cX11_pairOn 16 = .ok (.iadd, 1) := by decide +kernel
theorem dX11_pairOn_17 : decode cX11_pairOn 17 = .ok (.iaload, 1) := by decide +kernel
theorem dX11_pairOn_18 : decode cX11_pairOn 18 = .ok (.bipush 99, 2) := by decide +kernel
theorem dX11_pairOn_20 : decode cX11_pairOn 20 = .ok (.if_icmp .le 5, 3) := by decide +kernel
theorem dX11_pairOn_23 : decode cX11_pairOn 23 = .ok (.iconst 0, 1) := by decide +kernel
theorem dX11_pairOn_24 : decode cX11_pairOn 24 = .ok (.ireturn, 1) := by decide +kernel
theorem dX11_pairOn_25 : decode cX11_pairOn 25 = .ok (.iinc 4 1, 3) := by decide +kernel
theorem dX11_pairOn_28 : decode cX11_pairOn 28 = .ok (.goto (-25), 3) := by decide +kernel
theorem dX11_pairOn_31 : decode cX11_pairOn 31 = .ok (.aload_n 0, 1) := by decide +kernel
theorem dX11_pairOn_32 : decode cX11_pairOn 32 = .ok (.getfield 135, 3) := by decide +kernel
theorem dX11_pairOn_35 : decode cX11_pairOn 35 = .ok (.aload_n 0, 1) := by decide +kernel
theorem dX11_pairOn_36 : decode cX11_pairOn 36 = .ok (.iconst 1, 1) := by decide +kernel
theorem dX11_pairOn_37 : decode cX11_pairOn 37 = .ok (.iload_n 1, 1) := by decide +kernel
theorem dX11_pairOn_38 : decode cX11_pairOn 38 = .ok (.iload_n 2, 1) := by decide +kernel
theorem dX11_pairOn_39 : decode cX11_pairOn 39 = .ok (.invokevirtual 344, 3) := by decide +kernel
theorem dX11_pairOn_42 : decode cX11_pairOn 42 = .ok (.aload_n 0, 1) := by decide +kernel
theorem dX11_pairOn_43 : decode cX11_pairOn 43 = .ok (.getfield 7, 3) := by decide +kernel
theorem dX11_pairOn_46 : decode cX11_pairOn 46 = .ok (.iload_n 3, 1) := by decide +kernel
theorem dX11_pairOn_47 : decode cX11_pairOn 47 = .ok (.iaload, 1) := by decide +kernel
theorem dX11_pairOn_48 : decode cX11_pairOn 48 = .ok (.iastore, 1) := by decide +kernel
theorem dX11_pairOn_49 : decode cX11_pairOn 49 = .ok (.aload_n 0, 1) := by decide +kernel
theorem dX11_pairOn_50 : decode cX11_pairOn 50 = .ok (.getfield 138, 3) := by decide +kernel
theorem dX11_pairOn_53 : decode cX11_pairOn 53 = .ok (.aload_n 0, 1) := by decide +kernel
theorem dX11_pairOn_54 : decode cX11_pairOn 54 = .ok (.iconst 1, 1) := by decide +kernel
theorem dX11_pairOn_55 : decode cX11_pairOn 55 = .ok (.iload_n 1, 1) := by decide +kernel
theorem dX11_pairOn_56 : decode cX11_pairOn 56 = .ok (.iload_n 2, 1) := by decide +kernel
theorem dX11_pairOn_57 : decode cX11_pairOn 57 = .ok (.invokevirtual 344, 3) := by decide +kernel
theorem dX11_pairOn_60 : decode cX11_pairOn 60 = .ok (.aload_n 0, 1) := by decide +kernel
theorem dX11_pairOn_61 : decode cX11_pairOn 61 = .ok (.getfield 7, 3) := by decide +kernel
theorem dX11_pairOn_64 : decode cX11_pairOn 64 = .ok (.iload_n 3, 1) := by decide +kernel
theorem dX11_pairOn_65 : decode cX11_pairOn 65 = .ok (.iconst 1, 1) := by decide +kernel
theorem dX11_pairOn_66 : decode cX11_pairOn 66 = .ok (.iadd, 1) := by decide +kernel
theorem dX11_pairOn_67 : decode cX11_pairOn 67 = .ok (.iaload, 1) := by decide +kernel
theorem dX11_pairOn_68 : decode cX11_pairOn 68 = .ok (.iastore, 1) := by decide +kernel
theorem dX11_pairOn_69 : decode cX11_pairOn 69 = .ok (.aload_n 0, 1) := by decide +kernel
theorem dX11_pairOn_70 : decode cX11_pairOn 70 = .ok (.getfield 141, 3) := by decide +kernel
theorem dX11_pairOn_73 : decode cX11_pairOn 73 = .ok (.aload_n 0, 1) := by decide +kernel
theorem dX11_pairOn_74 : decode cX11_pairOn 74 = .ok (.iconst 1, 1) := by decide +kernel
theorem dX11_pairOn_75 : decode cX11_pairOn 75 = .ok (.iload_n 1, 1) := by decide +kernel
theorem dX11_pairOn_76 : decode cX11_pairOn 76 = .ok (.iload_n 2, 1) := by decide +kernel
theorem dX11_pairOn_77 : decode cX11_pairOn 77 = .ok (.invokevirtual 344, 3) := by decide +kernel
theorem dX11_pairOn_80 : decode cX11_pairOn 80 = .ok (.aload_n 0, 1) := by decide +kernel
theorem dX11_pairOn_81 : decode cX11_pairOn 81 = .ok (.getfield 7, 3) := by decide +kernel
theorem dX11_pairOn_84 : decode cX11_pairOn 84 = .ok (.iload_n 3, 1) := by decide +kernel
theorem dX11_pairOn_85 : decode cX11_pairOn 85 = .ok (.iconst 2, 1) := by decide +kernel
theorem dX11_pairOn_86 : decode cX11_pairOn 86 = .ok (.iadd, 1) := by decide +kernel
theorem dX11_pairOn_87 : decode cX11_pairOn 87 = .ok (.iaload, 1) := by decide +kernel
theorem dX11_pairOn_88 : decode cX11_pairOn 88 = .ok (.iastore, 1) := by decide +kernel
theorem dX11_pairOn_89 : decode cX11_pairOn 89 = .ok (.iconst 1, 1) := by decide +kernel
theorem dX11_pairOn_90 : decode cX11_pairOn 90 = .ok (.ireturn, 1) := by decide +kernel
theorem dX11_mailOn_0 : decode cX11_mailOn 0 = .ok (.aload_n 0, 1) := by decide +kernel
theorem dX11_mailOn_1 : decode cX11_mailOn 1 = .ok (.aload_n 0, 1) := by decide +kernel
theorem dX11_mailOn_2 : decode cX11_mailOn 2 = .ok (.getfield 7, 3) := by decide +kernel
theorem dX11_mailOn_5 : decode cX11_mailOn 5 = .ok (.iload_n 2, 1) := by decide +kernel
theorem dX11_mailOn_6 : decode cX11_mailOn 6 = .ok (.iaload, 1) := by decide +kernel
theorem dX11_mailOn_7 : decode cX11_mailOn 7 = .ok (.aload_n 0, 1) := by decide +kernel
theorem dX11_mailOn_8 : decode cX11_mailOn 8 = .ok (.getfield 7, 3) := by decide +kernel
theorem dX11_mailOn_11 : decode cX11_mailOn 11 = .ok (.iload_n 2, 1) := by decide +kernel
theorem dX11_mailOn_12 : decode cX11_mailOn 12 = .ok (.iconst 1, 1) := by decide +kernel
theorem dX11_mailOn_13 : decode cX11_mailOn 13 = .ok (.iadd, 1) := by decide +kernel
theorem dX11_mailOn_14 : decode cX11_mailOn 14 = .ok (.iaload, 1) := by decide +kernel
theorem dX11_mailOn_15 : decode cX11_mailOn 15 = .ok (.invokevirtual 450, 3) := by decide +kernel
theorem dX11_mailOn_18 : decode cX11_mailOn 18 = .ok (.ifCond .eq 57, 3) := by decide +kernel
theorem dX11_mailOn_21 : decode cX11_mailOn 21 = .ok (.aload_n 0, 1) := by decide +kernel
theorem dX11_mailOn_22 : decode cX11_mailOn 22 = .ok (.aload_n 0, 1) := by decide +kernel
theorem dX11_mailOn_23 : decode cX11_mailOn 23 = .ok (.getfield 7, 3) := by decide +kernel
theorem dX11_mailOn_26 : decode cX11_mailOn 26 = .ok (.iload_n 2, 1) := by decide +kernel
theorem dX11_mailOn_27 : decode cX11_mailOn 27 = .ok (.iaload, 1) := by decide +kernel
theorem dX11_mailOn_28 : decode cX11_mailOn 28 = .ok (.aload_n 0, 1) := by decide +kernel
theorem dX11_mailOn_29 : decode cX11_mailOn 29 = .ok (.getfield 7, 3) := by decide +kernel
theorem dX11_mailOn_32 : decode cX11_mailOn 32 = .ok (.iload_n 2, 1) := by decide +kernel
theorem dX11_mailOn_33 : decode cX11_mailOn 33 = .ok (.iconst 1, 1) := by decide +kernel
theorem dX11_mailOn_34 : decode cX11_mailOn 34 = .ok (.iadd, 1) := by decide +kernel
theorem dX11_mailOn_35 : decode cX11_mailOn 35 = .ok (.iaload, 1) := by decide +kernel
theorem dX11_mailOn_36 : decode cX11_mailOn 36 = .ok (.invokevirtual 411, 3) := by decide +kernel
theorem dX11_mailOn_39 : decode cX11_mailOn 39 = .ok (.ifCond .eq 36, 3) := by decide +kernel
theorem dX11_mailOn_42 : decode cX11_mailOn 42 = .ok (.aload_n 0, 1) := by decide +kernel
theorem dX11_mailOn_43 : decode cX11_mailOn 43 = .ok (.getfield 7, 3) := by decide +kernel
theorem dX11_mailOn_46 : decode cX11_mailOn 46 = .ok (.iload_n 2, 1) := by decide +kernel
theorem dX11_mailOn_47 : decode cX11_mailOn 47 = .ok (.iconst 2, 1) := by decide +kernel
theorem dX11_mailOn_48 : decode cX11_mailOn 48 = .ok (.iadd, 1) := by decide +kernel
theorem dX11_mailOn_49 : decode cX11_mailOn 49 = .ok (.iaload, 1) := by decide +kernel
theorem dX11_mailOn_50 : decode cX11_mailOn 50 = .ok (.iconst 1, 1) := by decide +kernel
theorem dX11_mailOn_51 : decode cX11_mailOn 51 = .ok (.aload_n 0, 1) := by decide +kernel
theorem dX11_mailOn_52 : decode cX11_mailOn 52 = .ok (.aload_n 0, 1) := by decide +kernel
theorem dX11_mailOn_53 : decode cX11_mailOn 53 = .ok (.getfield 7, 3) := by decide +kernel
theorem dX11_mailOn_56 : decode cX11_mailOn 56 = .ok (.iload_n 2, 1) := by decide +kernel
theorem dX11_mailOn_57 : decode cX11_mailOn 57 = .ok (.iaload, 1) := by decide +kernel
theorem dX11_mailOn_58 : decode cX11_mailOn 58 = .ok (.aload_n 0, 1) := by decide +kernel
theorem dX11_mailOn_59 : decode cX11_mailOn 59 = .ok (.getfield 7, 3) := by decide +kernel
theorem dX11_mailOn_62 : decode cX11_mailOn 62 = .ok (.iload_n 2, 1) := by decide +kernel
theorem dX11_mailOn_63 : decode cX11_mailOn 63 = .ok (.iconst 1, 1) := by decide +kernel
theorem dX11_mailOn_64 : decode cX11_mailOn 64 = .ok (.iadd, 1) := by decide +kernel
theorem dX11_mailOn_65 : decode cX11_mailOn 65 = .ok (.iaload, 1) := by decide +kernel
theorem dX11_mailOn_66 : decode cX11_mailOn 66 = .ok (.invokevirtual 408, 3) := by decide +kernel
theorem dX11_mailOn_69 : decode cX11_mailOn 69 = .ok (.invokestatic 287, 3) := by decide +kernel
theorem dX11_mailOn_72 : decode cX11_mailOn 72 = .ok (.ifCond .ne 5, 3) := by decide +kernel
theorem dX11_mailOn_75 : decode cX11_mailOn 75 = .ok (.iconst 0, 1) := by decide +kernel
theorem dX11_mailOn_76 : decode cX11_mailOn 76 = .ok (.ireturn, 1) := by decide +kernel
theorem dX11_mailOn_77 : decode cX11_mailOn 77 = .ok (.iconst 0, 1) := by decide +kernel
theorem dX11_mailOn_78 : decode cX11_mailOn 78 = .ok (.istore_n 3, 1) := by decide +kernel
theorem dX11_mailOn_79 : decode cX11_mailOn 79 = .ok (.iload_n 3, 1) := by decide +kernel
theorem dX11_mailOn_80 : decode cX11_mailOn 80 = .ok (.iconst 3, 1) := by decide +kernel
theorem dX11_mailOn_81 : decode cX11_mailOn 81 = .ok (.if_icmp .ge 30, 3) := by decide +kernel
theorem dX11_mailOn_84 : decode cX11_mailOn 84 = .ok (.aload_n 0, 1) := by decide +kernel
theorem dX11_mailOn_85 : decode cX11_mailOn 85 = .ok (.getfield 147, 3) := by decide +kernel
theorem dX11_mailOn_88 : decode cX11_mailOn 88 = .ok (.iconst 3, 1) := by decide +kernel
theorem dX11_mailOn_89 : decode cX11_mailOn 89 = .ok (.bipush 60, 2) := by decide +kernel
theorem dX11_mailOn_91 : decode cX11_mailOn 91 = .ok (.iload_n 1, 1) := by decide +kernel
theorem dX11_mailOn_92 : decode cX11_mailOn 92 = .ok (.iadd, 1) := by decide +kernel
theorem dX11_mailOn_93 : decode cX11_mailOn 93 = .ok (.imul, 1) := by decide +kernel
theorem dX11_mailOn_94 : decode cX11_mailOn 94 = .ok (.iload_n 3, 1) := by decide +kernel
theorem dX11_mailOn_95 : decode cX11_mailOn 95 = .ok (.iadd, 1) := by decide +kernel
theorem dX11_mailOn_96 : decode cX11_mailOn 96 = .ok (.aload_n 0, 1) := by decide +kernel
theorem dX11_mailOn_97 : decode cX11_mailOn 97 = .ok (.getfield 7, 3) := by decide +kernel
theorem dX11_mailOn_100 : decode cX11_mailOn 100 = .ok (.iload_n 2, 1) := by decide +kernel
theorem dX11_mailOn_101 : decode cX11_mailOn 101 = .ok (.iload_n 3, 1) := by decide +kernel
theorem dX11_mailOn_102 : decode cX11_mailOn 102 = .ok (.iadd, 1) := by decide +kernel
theorem dX11_mailOn_103 : decode cX11_mailOn 103 = .ok (.iaload, 1) := by decide +kernel
theorem dX11_mailOn_104 : decode cX11_mailOn 104 = .ok (.iastore, 1) := by decide +kernel
theorem dX11_mailOn_105 : decode cX11_mailOn 105 = .ok (.iinc 3 1, 3) := by decide +kernel
theorem dX11_mailOn_108 : decode cX11_mailOn 108 = .ok (.goto (-29), 3) := by decide +kernel
theorem dX11_mailOn_111 : decode cX11_mailOn 111 = .ok (.iconst 1, 1) := by decide +kernel
theorem dX11_mailOn_112 : decode cX11_mailOn 112 = .ok (.ireturn, 1) := by decide +kernel
theorem dX11_comesOn_0 : decode cX11_comesOn 0 = .ok (.aload_n 0, 1) := by decide +kernel
theorem dX11_comesOn_1 : decode cX11_comesOn 1 = .ok (.getfield 54, 3) := by decide +kernel
theorem dX11_comesOn_4 : decode cX11_comesOn 4 = .ok (.aload_n 0, 1) := by decide +kernel
theorem dX11_comesOn_5 : decode cX11_comesOn 5 = .ok (.getfield 51, 3) := by decide +kernel
theorem dX11_comesOn_8 : decode cX11_comesOn 8 = .ok (.iaload, 1) := by decide +kernel
theorem dX11_comesOn_9 : decode cX11_comesOn 9 = .ok (.istore_n 2, 1) := by decide +kernel
theorem dX11_comesOn_10 : decode cX11_comesOn 10 = .ok (.iconst 3, 1) := by decide +kernel
theorem dX11_comesOn_11 : decode cX11_comesOn 11 = .ok (.iconst 3, 1) := by decide +kernel
theorem dX11_comesOn_12 : decode cX11_comesOn 12 = .ok (.iload_n 2, 1) := by decide +kernel
theorem dX11_comesOn_13 : decode cX11_comesOn 13 = .ok (.imul, 1) := by decide +kernel
theorem dX11_comesOn_14 : decode cX11_comesOn 14 = .ok (.iload_n 2, 1) := by decide +kernel
theorem dX11_comesOn_15 : decode cX11_comesOn 15 = .ok (.iconst 1, 1) := by decide +kernel
theorem dX11_comesOn_16 : decode cX11_comesOn 16 = .ok (.isub, 1) := by decide +kernel
theorem dX11_comesOn_17 : decode cX11_comesOn 17 = .ok (.imul, 1) := by decide +kernel
theorem dX11_comesOn_18 : decode cX11_comesOn 18 = .ok (.iadd, 1) := by decide +kernel
theorem dX11_comesOn_19 : decode cX11_comesOn 19 = .ok (.istore_n 3, 1) := by decide +kernel
theorem dX11_comesOn_20 : decode cX11_comesOn 20 = .ok (.iload_n 1, 1) := by decide +kernel
theorem dX11_comesOn_21 : decode cX11_comesOn 21 = .ok (.iload_n 3, 1) := by decide +kernel
theorem dX11_comesOn_22 : decode cX11_comesOn 22 = .ok (.if_icmp .lt 56, 3) := by decide +kernel
theorem dX11_comesOn_25 : decode cX11_comesOn 25 = .ok (.aload_n 0, 1) := by decide +kernel
theorem dX11_comesOn_26 : decode cX11_comesOn 26 = .ok (.getfield 7, 3) := by decide +kernel
theorem dX11_comesOn_29 : decode cX11_comesOn 29 = .ok (.iload_n 3, 1) := by decide +kernel
theorem dX11_comesOn_30 : decode cX11_comesOn 30 = .ok (.iconst 1, 1) := by decide +kernel
theorem dX11_comesOn_31 : decode cX11_comesOn 31 = .ok (.isub, 1) := by decide +kernel
theorem dX11_comesOn_32 : decode cX11_comesOn 32 = .ok (.iaload, 1) := by decide +kernel
theorem dX11_comesOn_33 : decode cX11_comesOn 33 = .ok (.bipush 60, 2) := by decide +kernel
theorem dX11_comesOn_35 : decode cX11_comesOn 35 = .ok (.if_icmp .gt 43, 3) := by decide +kernel
theorem dX11_comesOn_38 : decode cX11_comesOn 38 = .ok (.iload_n 1, 1) := by decide +kernel
theorem dX11_comesOn_39 : decode cX11_comesOn 39 = .ok (.iload_n 3, 1) := by decide +kernel
theorem dX11_comesOn_40 : decode cX11_comesOn 40 = .ok (.iconst 3, 1) := by decide +kernel
theorem dX11_comesOn_41 : decode cX11_comesOn 41 = .ok (.aload_n 0, 1) := by decide +kernel
theorem dX11_comesOn_42 : decode cX11_comesOn 42 = .ok (.getfield 7, 3) := by decide +kernel
theorem dX11_comesOn_45 : decode cX11_comesOn 45 = .ok (.iload_n 3, 1) := by decide +kernel
theorem dX11_comesOn_46 : decode cX11_comesOn 46 = .ok (.iconst 1, 1) := by decide +kernel
theorem dX11_comesOn_47 : decode cX11_comesOn 47 = .ok (.isub, 1) := by decide +kernel
theorem dX11_comesOn_48 : decode cX11_comesOn 48 = .ok (.iaload, 1) := by decide +kernel
theorem dX11_comesOn_49 : decode cX11_comesOn 49 = .ok (.imul, 1) := by decide +kernel
theorem dX11_comesOn_50 : decode cX11_comesOn 50 = .ok (.iadd, 1) := by decide +kernel
theorem dX11_comesOn_51 : decode cX11_comesOn 51 = .ok (.iconst 1, 1) := by decide +kernel
theorem dX11_comesOn_52 : decode cX11_comesOn 52 = .ok (.iadd, 1) := by decide +kernel
theorem dX11_comesOn_53 : decode cX11_comesOn 53 = .ok (.if_icmp .ne 25, 3) := by decide +kernel
theorem dX11_comesOn_56 : decode cX11_comesOn 56 = .ok (.aload_n 0, 1) := by decide +kernel
theorem dX11_comesOn_57 : decode cX11_comesOn 57 = .ok (.getfield 7, 3) := by decide +kernel
theorem dX11_comesOn_60 : decode cX11_comesOn 60 = .ok (.iconst 0, 1) := by decide +kernel
theorem dX11_comesOn_61 : decode cX11_comesOn 61 = .ok (.iaload, 1) := by decide +kernel
theorem dX11_comesOn_62 : decode cX11_comesOn 62 = .ok (.bipush 8, 2) := by decide +kernel
theorem dX11_comesOn_64 : decode cX11_comesOn 64 = .ok (.ishl, 1) := by decide +kernel
theorem dX11_comesOn_65 : decode cX11_comesOn 65 = .ok (.aload_n 0, 1) := by decide +kernel
theorem dX11_comesOn_66 : decode cX11_comesOn 66 = .ok (.getfield 7, 3) := by decide +kernel
theorem dX11_comesOn_69 : decode cX11_comesOn 69 = .ok (.iconst 1, 1) := by decide +kernel
theorem dX11_comesOn_70 : decode cX11_comesOn 70 = .ok (.iaload, 1) := by decide +kernel
theorem dX11_comesOn_71 : decode cX11_comesOn 71 = .ok (.ior, 1) := by decide +kernel
theorem dX11_comesOn_72 : decode cX11_comesOn 72 = .ok (.sipush 999, 3) := by decide +kernel
theorem dX11_comesOn_75 : decode cX11_comesOn 75 = .ok (.if_icmp .le 5, 3) := by decide +kernel
theorem dX11_comesOn_78 : decode cX11_comesOn 78 = .ok (.iconst 0, 1) := by decide +kernel
theorem dX11_comesOn_79 : decode cX11_comesOn 79 = .ok (.ireturn, 1) := by decide +kernel
theorem dX11_comesOn_80 : decode cX11_comesOn 80 = .ok (.sipush 191, 3) := by decide +kernel
theorem dX11_comesOn_83 : decode cX11_comesOn 83 = .ok (.istore 4, 2) := by decide +kernel
theorem dX11_comesOn_85 : decode cX11_comesOn 85 = .ok (.iconst 0, 1) := by decide +kernel
theorem dX11_comesOn_86 : decode cX11_comesOn 86 = .ok (.istore 5, 2) := by decide +kernel
theorem dX11_comesOn_88 : decode cX11_comesOn 88 = .ok (.iload 5, 2) := by decide +kernel
theorem dX11_comesOn_90 : decode cX11_comesOn 90 = .ok (.iload_n 1, 1) := by decide +kernel
theorem dX11_comesOn_91 : decode cX11_comesOn 91 = .ok (.iconst 1, 1) := by decide +kernel
theorem dX11_comesOn_92 : decode cX11_comesOn 92 = .ok (.isub, 1) := by decide +kernel
theorem dX11_comesOn_93 : decode cX11_comesOn 93 = .ok (.if_icmp .ge 27, 3) := by decide +kernel
theorem dX11_comesOn_96 : decode cX11_comesOn 96 = .ok (.iconst 5, 1) := by decide +kernel
theorem dX11_comesOn_97 : decode cX11_comesOn 97 = .ok (.iload 4, 2) := by decide +kernel
theorem dX11_comesOn_99 : decode cX11_comesOn 99 = .ok (.imul, 1) := by decide +kernel
theorem dX11_comesOn_100 : decode cX11_comesOn 100 = .ok (.aload_n 0, 1) := by decide +kernel
theorem dX11_comesOn_101 : decode cX11_comesOn 101 = .ok (.getfield 7, 3) := by decide +kernel
theorem dX11_comesOn_104 : decode cX11_comesOn 104 = .ok (.iload 5, 2) := by decide +kernel
theorem dX11_comesOn_106 : decode cX11_comesOn 106 = .ok (.iaload, 1) := by decide +kernel
theorem dX11_comesOn_107 : decode cX11_comesOn 107 = .ok (.iadd, 1) := by decide +kernel
theorem dX11_comesOn_108 : decode cX11_comesOn 108 = .ok (.sipush 251, 3) := by decide +kernel
theorem dX11_comesOn_111 : decode cX11_comesOn 111 = .ok (.irem, 1) := by decide +kernel
theorem dX11_comesOn_112 : decode cX11_comesOn 112 = .ok (.istore 4, 2) := by decide +kernel
theorem dX11_comesOn_114 : decode cX11_comesOn 114 = .ok (.iinc 5 1, 3) := by decide +kernel
theorem dX11_comesOn_117 : decode cX11_comesOn 117 = .ok (.goto (-29), 3) := by decide +kernel
theorem dX11_comesOn_120 : decode cX11_comesOn 120 = .ok (.aload_n 0, 1) := by decide +kernel
theorem dX11_comesOn_121 : decode cX11_comesOn 121 = .ok (.getfield 7, 3) := by decide +kernel
theorem dX11_comesOn_124 : decode cX11_comesOn 124 = .ok (.iload_n 1, 1) := by decide +kernel
theorem dX11_comesOn_125 : decode cX11_comesOn 125 = .ok (.iconst 1, 1) := by decide +kernel
theorem dX11_comesOn_126 : decode cX11_comesOn 126 = .ok (.isub, 1) := by decide +kernel
theorem dX11_comesOn_127 : decode cX11_comesOn 127 = .ok (.iaload, 1) := by decide +kernel
theorem dX11_comesOn_128 : decode cX11_comesOn 128 = .ok (.iload 4, 2) := by decide +kernel
theorem dX11_comesOn_130 : decode cX11_comesOn 130 = .ok (.if_icmp .eq 5, 3) := by decide +kernel
theorem dX11_comesOn_133 : decode cX11_comesOn 133 = .ok (.iconst 0, 1) := by decide +kernel
theorem dX11_comesOn_134 : decode cX11_comesOn 134 = .ok (.ireturn, 1) := by decide +kernel
theorem dX11_comesOn_135 : decode cX11_comesOn 135 = .ok (.aload_n 0, 1) := by decide +kernel
theorem dX11_comesOn_136 : decode cX11_comesOn 136 = .ok (.iconst 1, 1) := by decide +kernel
theorem dX11_comesOn_137 : decode cX11_comesOn 137 = .ok (.iconst 0, 1) := by decide +kernel
theorem dX11_comesOn_138 : decode cX11_comesOn 138 = .ok (.invokevirtual 389, 3) := by decide +kernel
theorem dX11_comesOn_141 : decode cX11_comesOn 141 = .ok (.aload_n 0, 1) := by decide +kernel
theorem dX11_comesOn_142 : decode cX11_comesOn 142 = .ok (.getfield 132, 3) := by decide +kernel
theorem dX11_comesOn_145 : decode cX11_comesOn 145 = .ok (.iconst 1, 1) := by decide +kernel
theorem dX11_comesOn_146 : decode cX11_comesOn 146 = .ok (.aload_n 0, 1) := by decide +kernel
theorem dX11_comesOn_147 : decode cX11_comesOn 147 = .ok (.getfield 7, 3) := by decide +kernel
theorem dX11_comesOn_150 : decode cX11_comesOn 150 = .ok (.iconst 0, 1) := by decide +kernel
theorem dX11_comesOn_151 : decode cX11_comesOn 151 = .ok (.iaload, 1) := by decide +kernel
theorem dX11_comesOn_152 : decode cX11_comesOn 152 = .ok (.bipush 8, 2) := by decide +kernel
theorem dX11_comesOn_154 : decode cX11_comesOn 154 = .ok (.ishl, 1) := by decide +kernel
theorem dX11_comesOn_155 : decode cX11_comesOn 155 = .ok (.aload_n 0, 1) := by decide +kernel
theorem dX11_comesOn_156 : decode cX11_comesOn 156 = .ok (.getfield 7, 3) := by decide +kernel
theorem dX11_comesOn_159 : decode cX11_comesOn 159 = .ok (.iconst 1, 1) := by decide +kernel
theorem dX11_comesOn_160 : decode cX11_comesOn 160 = .ok (.iaload, 1) := by decide +kernel
theorem dX11_comesOn_161 : decode cX11_comesOn 161 = .ok (.ior, 1) := by decide +kernel
theorem dX11_comesOn_162 : decode cX11_comesOn 162 = .ok (.iastore, 1) := by decide +kernel
theorem dX11_comesOn_163 : decode cX11_comesOn 163 = .ok (.aload_n 0, 1) := by decide +kernel
theorem dX11_comesOn_164 : decode cX11_comesOn 164 = .ok (.getfield 144, 3) := by decide +kernel
theorem dX11_comesOn_167 : decode cX11_comesOn 167 = .ok (.iconst 1, 1) := by decide +kernel
theorem dX11_comesOn_168 : decode cX11_comesOn 168 = .ok (.aload_n 0, 1) := by decide +kernel
theorem dX11_comesOn_169 : decode cX11_comesOn 169 = .ok (.getfield 7, 3) := by decide +kernel
theorem dX11_comesOn_172 : decode cX11_comesOn 172 = .ok (.iload_n 3, 1) := by decide +kernel
theorem dX11_comesOn_173 : decode cX11_comesOn 173 = .ok (.iconst 1, 1) := by decide +kernel
theorem dX11_comesOn_174 : decode cX11_comesOn 174 = .ok (.isub, 1) := by decide +kernel
theorem dX11_comesOn_175 : decode cX11_comesOn 175 = .ok (.iaload, 1) := by decide +kernel
theorem dX11_comesOn_176 : decode cX11_comesOn 176 = .ok (.iastore, 1) := by decide +kernel
theorem dX11_comesOn_177 : decode cX11_comesOn 177 = .ok (.aload_n 0, 1) := by decide +kernel
theorem dX11_comesOn_178 : decode cX11_comesOn 178 = .ok (.getfield 150, 3) := by decide +kernel
theorem dX11_comesOn_181 : decode cX11_comesOn 181 = .ok (.iconst 1, 1) := by decide +kernel
theorem dX11_comesOn_182 : decode cX11_comesOn 182 = .ok (.iconst 0, 1) := by decide +kernel
theorem dX11_comesOn_183 : decode cX11_comesOn 183 = .ok (.iastore, 1) := by decide +kernel
theorem dX11_comesOn_184 : decode cX11_comesOn 184 = .ok (.iconst 2, 1) := by decide +kernel
theorem dX11_comesOn_185 : decode cX11_comesOn 185 = .ok (.istore 5, 2) := by decide +kernel
theorem dX11_comesOn_187 : decode cX11_comesOn 187 = .ok (.iconst 0, 1) := by decide +kernel
theorem dX11_comesOn_188 : decode cX11_comesOn 188 = .ok (.istore 6, 2) := by decide +kernel
theorem dX11_comesOn_190 : decode cX11_comesOn 190 = .ok (.iload 6, 2) := by decide +kernel
theorem dX11_comesOn_192 : decode cX11_comesOn 192 = .ok (.iload_n 2, 1) := by decide +kernel
theorem dX11_comesOn_193 : decode cX11_comesOn 193 = .ok (.if_icmp .ge 52, 3) := by decide +kernel
theorem dX11_comesOn_196 : decode cX11_comesOn 196 = .ok (.iconst 0, 1) := by decide +kernel
theorem dX11_comesOn_197 : decode cX11_comesOn 197 = .ok (.istore 7, 2) := by decide +kernel
theorem dX11_comesOn_199 : decode cX11_comesOn 199 = .ok (.iload 7, 2) := by decide +kernel
theorem dX11_comesOn_201 : decode cX11_comesOn 201 = .ok (.iload_n 2, 1) := by decide +kernel
theorem dX11_comesOn_202 : decode cX11_comesOn 202 = .ok (.if_icmp .ge 37, 3) := by decide +kernel
theorem dX11_comesOn_205 : decode cX11_comesOn 205 = .ok (.iload 6, 2) := by decide +kernel
theorem dX11_comesOn_207 : decode cX11_comesOn 207 = .ok (.iload 7, 2) := by decide +kernel
theorem dX11_comesOn_209 : decode cX11_comesOn 209 = .ok (.if_icmp .ne 6, 3) := by decide +kernel
theorem dX11_comesOn_212 : decode cX11_comesOn 212 = .ok (.goto 21, 3) := by decide +kernel
theorem dX11_comesOn_215 : decode cX11_comesOn 215 = .ok (.aload_n 0, 1) := by decide +kernel
theorem dX11_comesOn_216 : decode cX11_comesOn 216 = .ok (.iload 6, 2) := by decide +kernel
theorem dX11_comesOn_218 : decode cX11_comesOn 218 = .ok (.iload 7, 2) := by decide +kernel
theorem dX11_comesOn_220 : decode cX11_comesOn 220 = .ok (.iload 5, 2) := by decide +kernel
theorem dX11_comesOn_222 : decode cX11_comesOn 222 = .ok (.invokevirtual 513, 3) := by decide +kernel
theorem dX11_comesOn_225 : decode cX11_comesOn 225 = .ok (.ifCond .ne 5, 3) := by decide +kernel
theorem dX11_comesOn_228 : decode cX11_comesOn 228 = .ok (.iconst 0, 1) := by decide +kernel
theorem dX11_comesOn_229 : decode cX11_comesOn 229 = .ok (.ireturn, 1) := by decide +kernel
theorem dX11_comesOn_230 : decode cX11_comesOn 230 = .ok (.iinc 5 3, 3) := by decide +kernel
theorem dX11_comesOn_233 : decode cX11_comesOn 233 = .ok (.iinc 7 1, 3) := by decide +kernel
theorem dX11_comesOn_236 : decode cX11_comesOn 236 = .ok (.goto (-37), 3) := by decide +kernel
theorem dX11_comesOn_239 : decode cX11_comesOn 239 = .ok (.iinc 6 1, 3) := by decide +kernel
theorem dX11_comesOn_242 : decode cX11_comesOn 242 = .ok (.goto (-52), 3) := by decide +kernel
theorem dX11_comesOn_245 : decode cX11_comesOn 245 = .ok (.iconst 0, 1) := by decide +kernel
theorem dX11_comesOn_246 : decode cX11_comesOn 246 = .ok (.istore 6, 2) := by decide +kernel
theorem dX11_comesOn_248 : decode cX11_comesOn 248 = .ok (.iload 6, 2) := by decide +kernel
theorem dX11_comesOn_250 : decode cX11_comesOn 250 = .ok (.aload_n 0, 1) := by decide +kernel
theorem dX11_comesOn_251 : decode cX11_comesOn 251 = .ok (.getfield 144, 3) := by decide +kernel
theorem dX11_comesOn_254 : decode cX11_comesOn 254 = .ok (.iconst 1, 1) := by decide +kernel
theorem dX11_comesOn_255 : decode cX11_comesOn 255 = .ok (.iaload, 1) := by decide +kernel
theorem dX11_comesOn_256 : decode cX11_comesOn 256 = .ok (.if_icmp .ge 26, 3) := by decide +kernel
theorem dX11_comesOn_259 : decode cX11_comesOn 259 = .ok (.aload_n 0, 1) := by decide +kernel
theorem dX11_comesOn_260 : decode cX11_comesOn 260 = .ok (.iload 6, 2) := by decide +kernel
theorem dX11_comesOn_262 : decode cX11_comesOn 262 = .ok (.iload_n 3, 1) := by decide +kernel
theorem dX11_comesOn_263 : decode cX11_comesOn 263 = .ok (.iconst 3, 1) := by decide +kernel
theorem dX11_comesOn_264 : decode cX11_comesOn 264 = .ok (.iload 6, 2) := by decide +kernel
theorem dX11_comesOn_266 : decode cX11_comesOn 266 = .ok (.imul, 1) := by decide +kernel
theorem dX11_comesOn_267 : decode cX11_comesOn 267 = .ok (.iadd, 1) := by decide +kernel
theorem dX11_comesOn_268 : decode cX11_comesOn 268 = .ok (.invokevirtual 516, 3) := by decide +kernel
theorem dX11_comesOn_271 : decode cX11_comesOn 271 = .ok (.ifCond .ne 5, 3) := by decide +kernel
theorem dX11_comesOn_274 : decode cX11_comesOn 274 = .ok (.iconst 0, 1) := by decide +kernel
theorem dX11_comesOn_275 : decode cX11_comesOn 275 = .ok (.ireturn, 1) := by decide +kernel
theorem dX11_comesOn_276 : decode cX11_comesOn 276 = .ok (.iinc 6 1, 3) := by decide +kernel
theorem dX11_comesOn_279 : decode cX11_comesOn 279 = .ok (.goto (-31), 3) := by decide +kernel
theorem dX11_comesOn_282 : decode cX11_comesOn 282 = .ok (.iconst 1, 1) := by decide +kernel
theorem dX11_comesOn_283 : decode cX11_comesOn 283 = .ok (.ireturn, 1) := by decide +kernel
theorem dX11_on_0 : decode cX11_on 0 = .ok (.aload_n 0, 1) := by decide +kernel
theorem dX11_on_1 : decode cX11_on 1 = .ok (.getfield 13, 3) := by decide +kernel
theorem dX11_on_4 : decode cX11_on 4 = .ok (.istore_n 1, 1) := by decide +kernel
theorem dX11_on_5 : decode cX11_on 5 = .ok (.aload_n 0, 1) := by decide +kernel
theorem dX11_on_6 : decode cX11_on 6 = .ok (.iconst 0, 1) := by decide +kernel
theorem dX11_on_7 : decode cX11_on 7 = .ok (.putfield 13, 3) := by decide +kernel
theorem dX11_on_10 : decode cX11_on 10 = .ok (.aload_n 0, 1) := by decide +kernel
theorem dX11_on_11 : decode cX11_on 11 = .ok (.iload_n 1, 1) := by decide +kernel
theorem dX11_on_12 : decode cX11_on 12 = .ok (.invokevirtual 519, 3) := by decide +kernel
theorem dX11_on_15 : decode cX11_on 15 = .ok (.ifCond .ne 17, 3) := by decide +kernel
theorem dX11_on_18 : decode cX11_on 18 = .ok (.aload_n 0, 1) := by decide +kernel
theorem dX11_on_19 : decode cX11_on 19 = .ok (.iconst 5, 1) := by decide +kernel
theorem dX11_on_20 : decode cX11_on 20 = .ok (.invokevirtual 214, 3) := by decide +kernel
theorem dX11_on_23 : decode cX11_on 23 = .ok (.ifCond .lt 7, 3) := by decide +kernel
theorem dX11_on_26 : decode cX11_on 26 = .ok (.iconst 1, 1) := by decide +kernel
theorem dX11_on_27 : decode cX11_on 27 = .ok (.goto 4, 3) := by decide +kernel
theorem dX11_on_30 : decode cX11_on 30 = .ok (.iconst 0, 1) := by decide +kernel
theorem dX11_on_31 : decode cX11_on 31 = .ok (.ireturn, 1) := by decide +kernel
theorem dX11_on_32 : decode cX11_on 32 = .ok (.aload_n 0, 1) := by decide +kernel
theorem dX11_on_33 : decode cX11_on 33 = .ok (.iconst 0, 1) := by decide +kernel
theorem dX11_on_34 : decode cX11_on 34 = .ok (.iconst 1, 1) := by decide +kernel
theorem dX11_on_35 : decode cX11_on 35 = .ok (.invokevirtual 389, 3) := by decide +kernel
theorem dX11_on_38 : decode cX11_on 38 = .ok (.aload_n 0, 1) := by decide +kernel
theorem dX11_on_39 : decode cX11_on 39 = .ok (.iconst 0, 1) := by decide +kernel
theorem dX11_on_40 : decode cX11_on 40 = .ok (.putfield 159, 3) := by decide +kernel
theorem dX11_on_43 : decode cX11_on 43 = .ok (.iconst 1, 1) := by decide +kernel
theorem dX11_on_44 : decode cX11_on 44 = .ok (.ireturn, 1) := by decide +kernel
