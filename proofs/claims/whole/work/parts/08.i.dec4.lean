theorem dX11_isWide_31 : decode cX11_isWide 31 = .ok (.iconst 1, 1) := by decide +kernel
theorem dX11_isWide_32 : decode cX11_isWide 32 = .ok (.isub, 1) := by decide +kernel
theorem dX11_isWide_33 : decode cX11_isWide 33 = .ok (.if_icmp .eq 5, 3) := by decide +kernel
theorem dX11_isWide_36 : decode cX11_isWide 36 = .ok (.iconst 0, 1) := by decide +kernel
theorem dX11_isWide_37 : decode cX11_isWide 37 = .ok (.ireturn, 1) := by decide +kernel
theorem dX11_isWide_38 : decode cX11_isWide 38 = .ok (.iinc 1 1, 3) := by decide +kernel
theorem dX11_isWide_41 : decode cX11_isWide 41 = .ok (.goto (-39), 3) := by decide +kernel
theorem dX11_isWide_44 : decode cX11_isWide 44 = .ok (.iconst 1, 1) := by decide +kernel
theorem dX11_isWide_45 : decode cX11_isWide 45 = .ok (.ireturn, 1) := by decide +kernel
theorem dX11_isDone_0 : decode cX11_isDone 0 = .ok (.aload_n 0, 1) := by decide +kernel
theorem dX11_isDone_1 : decode cX11_isDone 1 = .ok (.getfield 186, 3) := by decide +kernel
theorem dX11_isDone_4 : decode cX11_isDone 4 = .ok (.iconst (-1), 1) := by decide +kernel
theorem dX11_isDone_5 : decode cX11_isDone 5 = .ok (.if_icmp .ne 10, 3) := by decide +kernel
theorem dX11_isDone_8 : decode cX11_isDone 8 = .ok (.aload_n 0, 1) := by decide +kernel
theorem dX11_isDone_9 : decode cX11_isDone 9 = .ok (.invokevirtual 469, 3) := by decide +kernel
theorem dX11_isDone_12 : decode cX11_isDone 12 = .ok (.goto 26, 3) := by decide +kernel
theorem dX11_isDone_15 : decode cX11_isDone 15 = .ok (.aload_n 0, 1) := by decide +kernel
theorem dX11_isDone_16 : decode cX11_isDone 16 = .ok (.aload_n 0, 1) := by decide +kernel
theorem dX11_isDone_17 : decode cX11_isDone 17 = .ok (.getfield 186, 3) := by decide +kernel
theorem dX11_isDone_20 : decode cX11_isDone 20 = .ok (.invokevirtual 466, 3) := by decide +kernel
theorem dX11_isDone_23 : decode cX11_isDone 23 = .ok (.aload_n 0, 1) := by decide +kernel
theorem dX11_isDone_24 : decode cX11_isDone 24 = .ok (.getfield 189, 3) := by decide +kernel
theorem dX11_isDone_27 : decode cX11_isDone 27 = .ok (.invokestatic 329, 3) := by decide +kernel
theorem dX11_isDone_30 : decode cX11_isDone 30 = .ok (.ifCond .ne 7, 3) := by decide +kernel
theorem dX11_isDone_33 : decode cX11_isDone 33 = .ok (.iconst 1, 1) := by decide +kernel
theorem dX11_isDone_34 : decode cX11_isDone 34 = .ok (.goto 4, 3) := by decide +kernel
theorem dX11_isDone_37 : decode cX11_isDone 37 = .ok (.iconst 0, 1) := by decide +kernel
theorem dX11_isDone_38 : decode cX11_isDone 38 = .ok (.ireturn, 1) := by decide +kernel
theorem dX11_canChange_0 : decode cX11_canChange 0 = .ok (.iload_n 1, 1) := by decide +kernel
theorem dX11_canChange_1 : decode cX11_canChange 1 = .ok (.bipush 6, 2) := by decide +kernel
theorem dX11_canChange_3 : decode cX11_canChange 3 = .ok (.idiv, 1) := by decide +kernel
theorem dX11_canChange_4 : decode cX11_canChange 4 = .ok (.istore_n 2, 1) := by decide +kernel
theorem dX11_canChange_5 : decode cX11_canChange 5 = .ok (.iload_n 1, 1) := by decide +kernel
theorem dX11_canChange_6 : decode cX11_canChange 6 = .ok (.bipush 6, 2) := by decide +kernel
theorem dX11_canChange_8 : decode cX11_canChange 8 = .ok (.irem, 1) := by decide +kernel
theorem dX11_canChange_9 : decode cX11_canChange 9 = .ok (.istore_n 3, 1) := by decide +kernel
theorem dX11_canChange_10 : decode cX11_canChange 10 = .ok (.aload_n 0, 1) := by decide +kernel
theorem dX11_canChange_11 : decode cX11_canChange 11 = .ok (.iload_n 2, 1) := by decide +kernel
theorem dX11_canChange_12 : decode cX11_canChange 12 = .ok (.iload_n 3, 1) := by decide +kernel
theorem dX11_canChange_13 : decode cX11_canChange 13 = .ok (.invokevirtual 450, 3) := by decide +kernel
theorem dX11_canChange_16 : decode cX11_canChange 16 = .ok (.ifCond .eq 52, 3) := by decide +kernel
theorem dX11_canChange_19 : decode cX11_canChange 19 = .ok (.aload_n 0, 1) := by decide +kernel
theorem dX11_canChange_20 : decode cX11_canChange 20 = .ok (.iload_n 2, 1) := by decide +kernel
theorem dX11_canChange_21 : decode cX11_canChange 21 = .ok (.iload_n 3, 1) := by decide +kernel
theorem dX11_canChange_22 : decode cX11_canChange 22 = .ok (.invokevirtual 411, 3) := by decide +kernel
theorem dX11_canChange_25 : decode cX11_canChange 25 = .ok (.ifCond .eq 43, 3) := by decide +kernel
theorem dX11_canChange_28 : decode cX11_canChange 28 = .ok (.aload_n 0, 1) := by decide +kernel
theorem dX11_canChange_29 : decode cX11_canChange 29 = .ok (.getfield 135, 3) := by decide +kernel
theorem dX11_canChange_32 : decode cX11_canChange 32 = .ok (.aload_n 0, 1) := by decide +kernel
theorem dX11_canChange_33 : decode cX11_canChange 33 = .ok (.iconst 0, 1) := by decide +kernel
theorem dX11_canChange_34 : decode cX11_canChange 34 = .ok (.iload_n 2, 1) := by decide +kernel
theorem dX11_canChange_35 : decode cX11_canChange 35 = .ok (.iload_n 3, 1) := by decide +kernel
theorem dX11_canChange_36 : decode cX11_canChange 36 = .ok (.invokevirtual 344, 3) := by decide +kernel
theorem dX11_canChange_39 : decode cX11_canChange 39 = .ok (.iaload, 1) := by decide +kernel
theorem dX11_canChange_40 : decode cX11_canChange 40 = .ok (.ifCond .le 7, 3) := by decide +kernel
theorem dX11_canChange_43 : decode cX11_canChange 43 = .ok (.iconst 1, 1) := by decide +kernel
theorem dX11_canChange_44 : decode cX11_canChange 44 = .ok (.goto 4, 3) := by decide +kernel
theorem dX11_canChange_47 : decode cX11_canChange 47 = .ok (.iconst 0, 1) := by decide +kernel
theorem dX11_canChange_48 : decode cX11_canChange 48 = .ok (.aload_n 0, 1) := by decide +kernel
theorem dX11_canChange_49 : decode cX11_canChange 49 = .ok (.getfield 186, 3) := by decide +kernel
theorem dX11_canChange_52 : decode cX11_canChange 52 = .ok (.iconst (-1), 1) := by decide +kernel
theorem dX11_canChange_53 : decode cX11_canChange 53 = .ok (.if_icmp .eq 7, 3) := by decide +kernel
theorem dX11_canChange_56 : decode cX11_canChange 56 = .ok (.iconst 1, 1) := by decide +kernel
theorem dX11_canChange_57 : decode cX11_canChange 57 = .ok (.goto 4, 3) := by decide +kernel
theorem dX11_canChange_60 : decode cX11_canChange 60 = .ok (.iconst 0, 1) := by decide +kernel
theorem dX11_canChange_61 : decode cX11_canChange 61 = .ok (.if_icmp .ne 7, 3) := by decide +kernel
theorem dX11_canChange_64 : decode cX11_canChange 64 = .ok (.iconst 1, 1) := by decide +kernel
theorem dX11_canChange_65 : decode cX11_canChange 65 = .ok (.goto 4, 3) := by decide +kernel
theorem dX11_canChange_68 : decode cX11_canChange 68 = .ok (.iconst 0, 1) := by decide +kernel
theorem dX11_canChange_69 : decode cX11_canChange 69 = .ok (.ireturn, 1) := by decide +kernel
theorem dX11_isBy_0 : decode cX11_isBy 0 = .ok (.iload_n 1, 1) := by decide +kernel
theorem dX11_isBy_1 : decode cX11_isBy 1 = .ok (.ifCond .ne 7, 3) := by decide +kernel
theorem dX11_isBy_4 : decode cX11_isBy 4 = .ok (.iconst 1, 1) := by decide +kernel
theorem dX11_isBy_5 : decode cX11_isBy 5 = .ok (.goto 27, 3) := by decide +kernel
theorem dX11_isBy_8 : decode cX11_isBy 8 = .ok (.iload_n 1, 1) := by decide +kernel
theorem dX11_isBy_9 : decode cX11_isBy 9 = .ok (.iconst 1, 1) := by decide +kernel
theorem dX11_isBy_10 : decode cX11_isBy 10 = .ok (.if_icmp .ne 8, 3) := by decide +kernel
theorem dX11_isBy_13 : decode cX11_isBy 13 = .ok (.bipush 36, 2) := by decide +kernel
theorem dX11_isBy_15 : decode cX11_isBy 15 = .ok (.goto 17, 3) := by decide +kernel
theorem dX11_isBy_18 : decode cX11_isBy 18 = .ok (.iload_n 1, 1) := by decide +kernel
theorem dX11_isBy_19 : decode cX11_isBy 19 = .ok (.iconst 2, 1) := by decide +kernel
theorem dX11_isBy_20 : decode cX11_isBy 20 = .ok (.if_icmp .ne 9, 3) := by decide +kernel
theorem dX11_isBy_23 : decode cX11_isBy 23 = .ok (.sipush 1296, 3) := by decide +kernel
theorem dX11_isBy_26 : decode cX11_isBy 26 = .ok (.goto 6, 3) := by decide +kernel
theorem dX11_isBy_29 : decode cX11_isBy 29 = .ok (.ldc_w 472, 3) := by decide +kernel
theorem dX11_isBy_32 : decode cX11_isBy 32 = .ok (.istore_n 2, 1) := by decide +kernel
theorem dX11_isBy_33 : decode cX11_isBy 33 = .ok (.iconst 0, 1) := by decide +kernel
theorem dX11_isBy_34 : decode cX11_isBy 34 = .ok (.istore_n 3, 1) := by decide +kernel
theorem dX11_isBy_35 : decode cX11_isBy 35 = .ok (.iload_n 3, 1) := by decide +kernel
theorem dX11_isBy_36 : decode cX11_isBy 36 = .ok (.iload_n 2, 1) := by decide +kernel
theorem dX11_isBy_37 : decode cX11_isBy 37 = .ok (.if_icmp .ge 204, 3) := by decide +kernel
theorem dX11_isBy_40 : decode cX11_isBy 40 = .ok (.iload_n 3, 1) := by decide +kernel
theorem dX11_isBy_41 : decode cX11_isBy 41 = .ok (.istore 4, 2) := by decide +kernel
theorem dX11_isBy_43 : decode cX11_isBy 43 = .ok (.iconst 1, 1) := by decide +kernel
theorem dX11_isBy_44 : decode cX11_isBy 44 = .ok (.istore 5, 2) := by decide +kernel
theorem dX11_isBy_46 : decode cX11_isBy 46 = .ok (.iload_n 1, 1) := by decide +kernel
theorem dX11_isBy_47 : decode cX11_isBy 47 = .ok (.iconst 1, 1) := by decide +kernel
theorem dX11_isBy_48 : decode cX11_isBy 48 = .ok (.isub, 1) := by decide +kernel
theorem dX11_isBy_49 : decode cX11_isBy 49 = .ok (.istore 6, 2) := by decide +kernel
theorem dX11_isBy_51 : decode cX11_isBy 51 = .ok (.iload 6, 2) := by decide +kernel
theorem dX11_isBy_53 : decode cX11_isBy 53 = .ok (.ifCond .lt 81, 3) := by decide +kernel
theorem dX11_isBy_56 : decode cX11_isBy 56 = .ok (.aload_n 0, 1) := by decide +kernel
theorem dX11_isBy_57 : decode cX11_isBy 57 = .ok (.getfield 183, 3) := by decide +kernel
theorem dX11_isBy_60 : decode cX11_isBy 60 = .ok (.iload 6, 2) := by decide +kernel
theorem dX11_isBy_62 : decode cX11_isBy 62 = .ok (.iload 4, 2) := by decide +kernel
theorem dX11_isBy_64 : decode cX11_isBy 64 = .ok (.bipush 36, 2) := by decide +kernel
theorem dX11_isBy_66 : decode cX11_isBy 66 = .ok (.irem, 1) := by decide +kernel
theorem dX11_isBy_67 : decode cX11_isBy 67 = .ok (.iastore, 1) := by decide +kernel
theorem dX11_isBy_68 : decode cX11_isBy 68 = .ok (.iload 4, 2) := by decide +kernel
theorem dX11_isBy_70 : decode cX11_isBy 70 = .ok (.bipush 36, 2) := by decide +kernel
theorem dX11_isBy_72 : decode cX11_isBy 72 = .ok (.idiv, 1) := by decide +kernel
theorem dX11_isBy_73 : decode cX11_isBy 73 = .ok (.istore 4, 2) := by decide +kernel
theorem dX11_isBy_75 : decode cX11_isBy 75 = .ok (.iload 5, 2) := by decide +kernel
theorem dX11_isBy_77 : decode cX11_isBy 77 = .ok (.ifCond .eq 48, 3) := by decide +kernel
theorem dX11_isBy_80 : decode cX11_isBy 80 = .ok (.aload_n 0, 1) := by decide +kernel
theorem dX11_isBy_81 : decode cX11_isBy 81 = .ok (.aload_n 0, 1) := by decide +kernel
theorem dX11_isBy_82 : decode cX11_isBy 82 = .ok (.getfield 183, 3) := by decide +kernel
theorem dX11_isBy_85 : decode cX11_isBy 85 = .ok (.iload 6, 2) := by decide +kernel
theorem dX11_isBy_87 : decode cX11_isBy 87 = .ok (.iaload, 1) := by decide +kernel
theorem dX11_isBy_88 : decode cX11_isBy 88 = .ok (.invokevirtual 473, 3) := by decide +kernel
theorem dX11_isBy_91 : decode cX11_isBy 91 = .ok (.ifCond .eq 34, 3) := by decide +kernel
theorem dX11_isBy_94 : decode cX11_isBy 94 = .ok (.iload 6, 2) := by decide +kernel
theorem dX11_isBy_96 : decode cX11_isBy 96 = .ok (.iload_n 1, 1) := by decide +kernel
theorem dX11_isBy_97 : decode cX11_isBy 97 = .ok (.iconst 1, 1) := by decide +kernel
theorem dX11_isBy_98 : decode cX11_isBy 98 = .ok (.isub, 1) := by decide +kernel
theorem dX11_isBy_99 : decode cX11_isBy 99 = .ok (.if_icmp .eq 22, 3) := by decide +kernel
theorem dX11_isBy_102 : decode cX11_isBy 102 = .ok (.aload_n 0, 1) := by decide +kernel
theorem dX11_isBy_103 : decode cX11_isBy 103 = .ok (.getfield 183, 3) := by decide +kernel
theorem dX11_isBy_106 : decode cX11_isBy 106 = .ok (.iload 6, 2) := by decide +kernel
theorem dX11_isBy_108 : decode cX11_isBy 108 = .ok (.iaload, 1) := by decide +kernel
theorem dX11_isBy_109 : decode cX11_isBy 109 = .ok (.aload_n 0, 1) := by decide +kernel
theorem dX11_isBy_110 : decode cX11_isBy 110 = .ok (.getfield 183, 3) := by decide +kernel
theorem dX11_isBy_113 : decode cX11_isBy 113 = .ok (.iload 6, 2) := by decide +kernel
theorem dX11_isBy_115 : decode cX11_isBy 115 = .ok (.iconst 1, 1) := by decide +kernel
theorem dX11_isBy_116 : decode cX11_isBy 116 = .ok (.iadd, 1) := by decide +kernel
theorem dX11_isBy_117 : decode cX11_isBy 117 = .ok (.iaload, 1) := by decide +kernel
theorem dX11_isBy_118 : decode cX11_isBy 118 = .ok (.if_icmp .ge 7, 3) := by decide +kernel
theorem dX11_isBy_121 : decode cX11_isBy 121 = .ok (.iconst 1, 1) := by decide +kernel
theorem dX11_isBy_122 : decode cX11_isBy 122 = .ok (.goto 4, 3) := by decide +kernel
theorem dX11_isBy_125 : decode cX11_isBy 125 = .ok (.iconst 0, 1) := by decide +kernel
theorem dX11_isBy_126 : decode cX11_isBy 126 = .ok (.istore 5, 2) := by decide +kernel
theorem dX11_isBy_128 : decode cX11_isBy 128 = .ok (.iinc 6 (-1), 3) := by decide +kernel
theorem dX11_isBy_131 : decode cX11_isBy 131 = .ok (.goto (-80), 3) := by decide +kernel
theorem dX11_isBy_134 : decode cX11_isBy 134 = .ok (.iload 5, 2) := by decide +kernel
theorem dX11_isBy_136 : decode cX11_isBy 136 = .ok (.ifCond .ne 6, 3) := by decide +kernel
theorem dX11_isBy_139 : decode cX11_isBy 139 = .ok (.goto 96, 3) := by decide +kernel
theorem dX11_isBy_142 : decode cX11_isBy 142 = .ok (.iconst 0, 1) := by decide +kernel
theorem dX11_isBy_143 : decode cX11_isBy 143 = .ok (.istore 6, 2) := by decide +kernel
theorem dX11_isBy_145 : decode cX11_isBy 145 = .ok (.iload 6, 2) := by decide +kernel
theorem dX11_isBy_147 : decode cX11_isBy 147 = .ok (.iload_n 1, 1) := by decide +kernel
theorem dX11_isBy_148 : decode cX11_isBy 148 = .ok (.if_icmp .ge 34, 3) := by decide +kernel
theorem dX11_isBy_151 : decode cX11_isBy 151 = .ok (.aload_n 0, 1) := by decide +kernel
theorem dX11_isBy_152 : decode cX11_isBy 152 = .ok (.getfield 180, 3) := by decide +kernel
theorem dX11_isBy_155 : decode cX11_isBy 155 = .ok (.aload_n 0, 1) := by decide +kernel
theorem dX11_isBy_156 : decode cX11_isBy 156 = .ok (.getfield 183, 3) := by decide +kernel
theorem dX11_isBy_159 : decode cX11_isBy 159 = .ok (.iload 6, 2) := by decide +kernel
theorem dX11_isBy_161 : decode cX11_isBy 161 = .ok (.iaload, 1) := by decide +kernel
theorem dX11_isBy_162 : decode cX11_isBy 162 = .ok (.aload_n 0, 1) := by decide +kernel
theorem dX11_isBy_163 : decode cX11_isBy 163 = .ok (.getfield 186, 3) := by decide +kernel
theorem dX11_isBy_166 : decode cX11_isBy 166 = .ok (.iconst (-1), 1) := by decide +kernel
theorem dX11_isBy_167 : decode cX11_isBy 167 = .ok (.if_icmp .ne 7, 3) := by decide +kernel
theorem dX11_isBy_170 : decode cX11_isBy 170 = .ok (.iconst 1, 1) := by decide +kernel
theorem dX11_isBy_171 : decode cX11_isBy 171 = .ok (.goto 4, 3) := by decide +kernel
theorem dX11_isBy_174 : decode cX11_isBy 174 = .ok (.iconst 0, 1) := by decide +kernel
theorem dX11_isBy_175 : decode cX11_isBy 175 = .ok (.bastore, 1) := by decide +kernel
theorem dX11_isBy_176 : decode cX11_isBy 176 = .ok (.iinc 6 1, 3) := by decide +kernel
theorem dX11_isBy_179 : decode cX11_isBy 179 = .ok (.goto (-34), 3) := by decide +kernel
theorem dX11_isBy_182 : decode cX11_isBy 182 = .ok (.aload_n 0, 1) := by decide +kernel
theorem dX11_isBy_183 : decode cX11_isBy 183 = .ok (.invokevirtual 476, 3) := by decide +kernel
theorem dX11_isBy_186 : decode cX11_isBy 186 = .ok (.istore 6, 2) := by decide +kernel
theorem dX11_isBy_188 : decode cX11_isBy 188 = .ok (.iconst 0, 1) := by decide +kernel
theorem dX11_isBy_189 : decode cX11_isBy 189 = .ok (.istore 7, 2) := by decide +kernel
theorem dX11_isBy_191 : decode cX11_isBy 191 = .ok (.iload 7, 2) := by decide +kernel
theorem dX11_isBy_193 : decode cX11_isBy 193 = .ok (.iload_n 1, 1) := by decide +kernel
theorem dX11_isBy_194 : decode cX11_isBy 194 = .ok (.if_icmp .ge 34, 3) := by decide +kernel
theorem dX11_isBy_197 : decode cX11_isBy 197 = .ok (.aload_n 0, 1) := by decide +kernel
theorem dX11_isBy_198 : decode cX11_isBy 198 = .ok (.getfield 180, 3) := by decide +kernel
theorem dX11_isBy_201 : decode cX11_isBy 201 = .ok (.aload_n 0, 1) := by decide +kernel
theorem dX11_isBy_202 : decode cX11_isBy 202 = .ok (.getfield 183, 3) := by decide +kernel
theorem dX11_isBy_205 : decode cX11_isBy 205 = .ok (.iload 7, 2) := by decide +kernel
theorem dX11_isBy_207 : decode cX11_isBy 207 = .ok (.iaload, 1) := by decide +kernel
theorem dX11_isBy_208 : decode cX11_isBy 208 = .ok (.aload_n 0, 1) := by decide +kernel
theorem dX11_isBy_209 : decode cX11_isBy 209 = .ok (.getfield 186, 3) := by decide +kernel
theorem dX11_isBy_212 : decode cX11_isBy 212 = .ok (.iconst (-1), 1) := by decide +kernel
theorem dX11_isBy_213 : decode cX11_isBy 213 = .ok (.if_icmp .eq 7, 3) := by decide +kernel
theorem dX11_isBy_216 : decode cX11_isBy 216 = .ok (.iconst 1, 1) := by decide +kernel
theorem dX11_isBy_217 : decode cX11_isBy 217 = .ok (.goto 4, 3) := by decide +kernel
theorem dX11_isBy_220 : decode cX11_isBy 220 = .ok (.iconst 0, 1) := by decide +kernel
theorem dX11_isBy_221 : decode cX11_isBy 221 = .ok (.bastore, 1) := by decide +kernel
theorem dX11_isBy_222 : decode cX11_isBy 222 = .ok (.iinc 7 1, 3) := by decide +kernel
theorem dX11_isBy_225 : decode cX11_isBy 225 = .ok (.goto (-34), 3) := by decide +kernel
theorem dX11_isBy_228 : decode cX11_isBy 228 = .ok (.iload 6, 2) := by decide +kernel
theorem dX11_isBy_230 : decode cX11_isBy 230 = .ok (.ifCond .eq 5, 3) := by decide +kernel
theorem dX11_isBy_233 : decode cX11_isBy 233 = .ok (.iconst 1, 1) := by decide +kernel
theorem dX11_isBy_234 : decode cX11_isBy 234 = .ok (.ireturn, 1) := by decide +kernel
theorem dX11_isBy_235 : decode cX11_isBy 235 = .ok (.iinc 3 1, 3) := by decide +kernel
theorem dX11_isBy_238 : decode cX11_isBy 238 = .ok (.goto (-203), 3) := by decide +kernel
theorem dX11_isBy_241 : decode cX11_isBy 241 = .ok (.iconst 0, 1) := by decide +kernel
theorem dX11_isBy_242 : decode cX11_isBy 242 = .ok (.ireturn, 1) := by decide +kernel
theorem dX11_fewest_0 : decode cX11_fewest 0 = .ok (.aload_n 0, 1) := by decide +kernel
theorem dX11_fewest_1 : decode cX11_fewest 1 = .ok (.invokevirtual 463, 3) := by decide +kernel
theorem dX11_fewest_4 : decode cX11_fewest 4 = .ok (.iconst 0, 1) := by decide +kernel
theorem dX11_fewest_5 : decode cX11_fewest 5 = .ok (.istore_n 2, 1) := by decide +kernel
theorem dX11_fewest_6 : decode cX11_fewest 6 = .ok (.iload_n 2, 1) := by decide +kernel
theorem dX11_fewest_7 : decode cX11_fewest 7 = .ok (.iconst 3, 1) := by decide +kernel
theorem dX11_fewest_8 : decode cX11_fewest 8 = .ok (.if_icmp .gt 48, 3) := by decide +kernel
theorem dX11_fewest_11 : decode cX11_fewest 11 = .ok (.aload_n 0, 1) := by decide +kernel
theorem dX11_fewest_12 : decode cX11_fewest 12 = .ok (.iload_n 2, 1) := by decide +kernel
theorem dX11_fewest_13 : decode cX11_fewest 13 = .ok (.invokevirtual 479, 3) := by decide +kernel
theorem dX11_fewest_16 : decode cX11_fewest 16 = .ok (.ifCond .eq 34, 3) := by decide +kernel
theorem dX11_fewest_19 : decode cX11_fewest 19 = .ok (.iload_n 1, 1) := by decide +kernel
theorem dX11_fewest_20 : decode cX11_fewest 20 = .ok (.iconst (-1), 1) := by decide +kernel
theorem dX11_fewest_21 : decode cX11_fewest 21 = .ok (.if_icmp .ne 7, 3) := by decide +kernel
theorem dX11_fewest_24 : decode cX11_fewest 24 = .ok (.iload_n 2, 1) := by decide +kernel
theorem dX11_fewest_25 : decode cX11_fewest 25 = .ok (.goto 24, 3) := by decide +kernel
theorem dX11_fewest_28 : decode cX11_fewest 28 = .ok (.iload_n 1, 1) := by decide +kernel
theorem dX11_fewest_29 : decode cX11_fewest 29 = .ok (.iconst 0, 1) := by decide +kernel
theorem dX11_fewest_30 : decode cX11_fewest 30 = .ok (.iload_n 2, 1) := by decide +kernel
theorem dX11_fewest_31 : decode cX11_fewest 31 = .ok (.iconst 1, 1) := by decide +kernel
theorem dX11_fewest_32 : decode cX11_fewest 32 = .ok (.isub, 1) := by decide +kernel
theorem dX11_fewest_33 : decode cX11_fewest 33 = .ok (.invokestatic 287, 3) := by decide +kernel
theorem dX11_fewest_36 : decode cX11_fewest 36 = .ok (.ifCond .eq 12, 3) := by decide +kernel
theorem dX11_fewest_39 : decode cX11_fewest 39 = .ok (.aload_n 0, 1) := by decide +kernel
theorem dX11_fewest_40 : decode cX11_fewest 40 = .ok (.getfield 183, 3) := by decide +kernel
theorem dX11_fewest_43 : decode cX11_fewest 43 = .ok (.iload_n 1, 1) := by decide +kernel
theorem dX11_fewest_44 : decode cX11_fewest 44 = .ok (.iaload, 1) := by decide +kernel
theorem dX11_fewest_45 : decode cX11_fewest 45 = .ok (.goto 4, 3) := by decide +kernel
theorem dX11_fewest_48 : decode cX11_fewest 48 = .ok (.iconst (-1), 1) := by decide +kernel
theorem dX11_fewest_49 : decode cX11_fewest 49 = .ok (.ireturn, 1) := by decide +kernel
theorem dX11_fewest_50 : decode cX11_fewest 50 = .ok (.iinc 2 1, 3) := by decide +kernel
theorem dX11_fewest_53 : decode cX11_fewest 53 = .ok (.goto (-47), 3) := by decide +kernel
theorem dX11_fewest_56 : decode cX11_fewest 56 = .ok (.iconst (-1), 1) := by decide +kernel
theorem dX11_fewest_57 : decode cX11_fewest 57 = .ok (.ireturn, 1) := by decide +kernel
theorem dX11_wide_0 : decode cX11_wide 0 = .ok (.aload_n 0, 1) := by decide +kernel
theorem dX11_wide_1 : decode cX11_wide 1 = .ok (.iconst (-1), 1) := by decide +kernel
theorem dX11_wide_2 : decode cX11_wide 2 = .ok (.putfield 186, 3) := by decide +kernel
theorem dX11_wide_5 : decode cX11_wide 5 = .ok (.aload_n 0, 1) := by decide +kernel
theorem dX11_wide_6 : decode cX11_wide 6 = .ok (.iload_n 1, 1) := by decide +kernel
theorem dX11_wide_7 : decode cX11_wide 7 = .ok (.invokevirtual 482, 3) := by decide +kernel
theorem dX11_wide_10 : decode cX11_wide 10 = .ok (.ireturn, 1) := by decide +kernel
theorem dX11_cut_0 : decode cX11_cut 0 = .ok (.aload_n 0, 1) := by decide +kernel
theorem dX11_cut_1 : decode cX11_cut 1 = .ok (.iload_n 1, 1) := by decide +kernel
theorem dX11_cut_2 : decode cX11_cut 2 = .ok (.iload_n 2, 1) := by decide +kernel
theorem dX11_cut_3 : decode cX11_cut 3 = .ok (.invokevirtual 450, 3) := by decide +kernel
theorem dX11_cut_6 : decode cX11_cut 6 = .ok (.ifCond .ne 5, 3) := by decide +kernel
theorem dX11_cut_9 : decode cX11_cut 9 = .ok (.iconst (-1), 1) := by decide +kernel
theorem dX11_cut_10 : decode cX11_cut 10 = .ok (.ireturn, 1) := by decide +kernel
theorem dX11_cut_11 : decode cX11_cut 11 = .ok (.aload_n 0, 1) := by decide +kernel
theorem dX11_cut_12 : decode cX11_cut 12 = .ok (.iload_n 1, 1) := by decide +kernel
theorem dX11_cut_13 : decode cX11_cut 13 = .ok (.putfield 186, 3) := by decide +kernel
theorem dX11_cut_16 : decode cX11_cut 16 = .ok (.aload_n 0, 1) := by decide +kernel
theorem dX11_cut_17 : decode cX11_cut 17 = .ok (.iload_n 2, 1) := by decide +kernel
theorem dX11_cut_18 : decode cX11_cut 18 = .ok (.putfield 189, 3) := by decide +kernel
theorem dX11_cut_21 : decode cX11_cut 21 = .ok (.aload_n 0, 1) := by decide +kernel
theorem dX11_cut_22 : decode cX11_cut 22 = .ok (.iload_n 3, 1) := by decide +kernel
theorem dX11_cut_23 : decode cX11_cut 23 = .ok (.invokevirtual 482, 3) := by decide +kernel
theorem dX11_cut_26 : decode cX11_cut 26 = .ok (.istore 4, 2) := by decide +kernel
theorem dX11_cut_28 : decode cX11_cut 28 = .ok (.aload_n 0, 1) := by decide +kernel
theorem dX11_cut_29 : decode cX11_cut 29 = .ok (.iconst (-1), 1) := by decide +kernel
theorem dX11_cut_30 : decode cX11_cut 30 = .ok (.putfield 186, 3) := by decide +kernel
theorem dX11_cut_33 : decode cX11_cut 33 = .ok (.iload 4, 2) := by decide +kernel
theorem dX11_cut_35 : decode cX11_cut 35 = .ok (.ireturn, 1) := by decide +kernel
theorem dX11_isRing_0 : decode cX11_isRing 0 = .ok (.iconst 0, 1) := by decide +kernel
theorem dX11_isRing_1 : decode cX11_isRing 1 = .ok (.istore_n 2, 1) := by decide +kernel
theorem dX11_isRing_2 : decode cX11_isRing 2 = .ok (.iload_n 2, 1) := by decide +kernel
theorem dX11_isRing_3 : decode cX11_isRing 3 = .ok (.iload_n 1, 1) := by decide +kernel
theorem dX11_isRing_4 : decode cX11_isRing 4 = .ok (.if_icmp .ge 78, 3) := by decide +kernel
theorem dX11_isRing_7 : decode cX11_isRing 7 = .ok (.aload_n 0, 1) := by decide +kernel
theorem dX11_isRing_8 : decode cX11_isRing 8 = .ok (.getfield 180, 3) := by decide +kernel
theorem dX11_isRing_11 : decode cX11_isRing 11 = .ok (.bipush 6, 2) := by decide +kernel
theorem dX11_isRing_13 : decode cX11_isRing 13 = .ok (.aload_n 0, 1) := by decide +kernel
theorem dX11_isRing_14 : decode cX11_isRing 14 = .ok (.getfield 192, 3) := by decide +kernel
theorem dX11_isRing_17 : decode cX11_isRing 17 = .ok (.iload_n 2, 1) := by decide +kernel
theorem dX11_isRing_18 : decode cX11_isRing 18 = .ok (.iaload, 1) := by decide +kernel
theorem dX11_isRing_19 : decode cX11_isRing 19 = .ok (.imul, 1) := by decide +kernel
theorem dX11_isRing_20 : decode cX11_isRing 20 = .ok (.aload_n 0, 1) := by decide +kernel
theorem dX11_isRing_21 : decode cX11_isRing 21 = .ok (.getfield 192, 3) := by decide +kernel
theorem dX11_isRing_24 : decode cX11_isRing 24 = .ok (.iload_n 2, 1) := by decide +kernel
theorem dX11_isRing_25 : decode cX11_isRing 25 = .ok (.iconst 1, 1) := by decide +kernel
theorem dX11_isRing_26 : decode cX11_isRing 26 = .ok (.iadd, 1) := by decide +kernel
theorem dX11_isRing_27 : decode cX11_isRing 27 = .ok (.iload_n 1, 1) := by decide +kernel
theorem dX11_isRing_28 : decode cX11_isRing 28 = .ok (.if_icmp .ge 9, 3) := by decide +kernel
theorem dX11_isRing_31 : decode cX11_isRing 31 = .ok (.iload_n 2, 1) := by decide +kernel
theorem dX11_isRing_32 : decode cX11_isRing 32 = .ok (.iconst 1, 1) := by decide +kernel
theorem dX11_isRing_33 : decode cX11_isRing 33 = .ok (.iadd, 1) := by decide +kernel
theorem dX11_isRing_34 : decode cX11_isRing 34 = .ok (.goto 4, 3) := by decide +kernel
theorem dX11_isRing_37 : decode cX11_isRing 37 = .ok (.iconst 0, 1) := by decide +kernel
theorem dX11_isRing_38 : decode cX11_isRing 38 = .ok (.iaload, 1) := by decide +kernel
theorem dX11_isRing_39 : decode cX11_isRing 39 = .ok (.iadd, 1) := by decide +kernel
theorem dX11_isRing_40 : decode cX11_isRing 40 = .ok (.baload, 1) := by decide +kernel
theorem dX11_isRing_41 : decode cX11_isRing 41 = .ok (.ifCond .ne 5, 3) := by decide +kernel
theorem dX11_isRing_44 : decode cX11_isRing 44 = .ok (.iconst 0, 1) := by decide +kernel
theorem dX11_isRing_45 : decode cX11_isRing 45 = .ok (.ireturn, 1) := by decide +kernel
theorem dX11_isRing_46 : decode cX11_isRing 46 = .ok (.iconst 0, 1) := by decide +kernel
theorem dX11_isRing_47 : decode cX11_isRing 47 = .ok (.istore_n 3, 1) := by decide +kernel
theorem dX11_isRing_48 : decode cX11_isRing 48 = .ok (.iload_n 3, 1) := by decide +kernel
theorem dX11_isRing_49 : decode cX11_isRing 49 = .ok (.iload_n 2, 1) := by decide +kernel
theorem dX11_isRing_50 : decode cX11_isRing 50 = .ok (.if_icmp .ge 26, 3) := by decide +kernel
theorem dX11_isRing_53 : decode cX11_isRing 53 = .ok (.aload_n 0, 1) := by decide +kernel
theorem dX11_isRing_54 : decode cX11_isRing 54 = .ok (.getfield 192, 3) := by decide +kernel
theorem dX11_isRing_57 : decode cX11_isRing 57 = .ok (.iload_n 3, 1) := by decide +kernel
theorem dX11_isRing_58 : decode cX11_isRing 58 = .ok (.iaload, 1) := by decide +kernel
theorem dX11_isRing_59 : decode cX11_isRing 59 = .ok (.aload_n 0, 1) := by decide +kernel
theorem dX11_isRing_60 : decode cX11_isRing 60 = .ok (.getfield 192, 3) := by decide +kernel
theorem dX11_isRing_63 : decode cX11_isRing 63 = .ok (.iload_n 2, 1) := by decide +kernel
theorem dX11_isRing_64 : decode cX11_isRing 64 = .ok (.iaload, 1) := by decide +kernel
theorem dX11_isRing_65 : decode cX11_isRing 65 = .ok (.if_icmp .ne 5, 3) := by decide +kernel
theorem dX11_isRing_68 : decode cX11_isRing 68 = .ok (.iconst 0, 1) := by decide +kernel
theorem dX11_isRing_69 : decode cX11_isRing 69 = .ok (.ireturn, 1) := by decide +kernel
theorem dX11_isRing_70 : decode cX11_isRing 70 = .ok (.iinc 3 1, 3) := by decide +kernel
theorem dX11_isRing_73 : decode cX11_isRing 73 = .ok (.goto (-25), 3) := by decide +kernel
theorem dX11_isRing_76 : decode cX11_isRing 76 = .ok (.iinc 2 1, 3) := by decide +kernel
theorem dX11_isRing_79 : decode cX11_isRing 79 = .ok (.goto (-77), 3) := by decide +kernel
theorem dX11_isRing_82 : decode cX11_isRing 82 = .ok (.iconst 1, 1) := by decide +kernel
theorem dX11_isRing_83 : decode cX11_isRing 83 = .ok (.ireturn, 1) := by decide +kernel
theorem dX11_ring_0 : decode cX11_ring 0 = .ok (.aload_n 0, 1) := by decide +kernel
theorem dX11_ring_1 : decode cX11_ring 1 = .ok (.iload_n 1, 1) := by decide +kernel
theorem dX11_ring_2 : decode cX11_ring 2 = .ok (.invokevirtual 445, 3) := by decide +kernel
theorem dX11_ring_5 : decode cX11_ring 5 = .ok (.ifCond .ne 5, 3) := by decide +kernel
theorem dX11_ring_8 : decode cX11_ring 8 = .ok (.iconst (-1), 1) := by decide +kernel
theorem dX11_ring_9 : decode cX11_ring 9 = .ok (.ireturn, 1) := by decide +kernel
theorem dX11_ring_10 : decode cX11_ring 10 = .ok (.aload_n 0, 1) := by decide +kernel
theorem dX11_ring_11 : decode cX11_ring 11 = .ok (.invokevirtual 463, 3) := by decide +kernel
theorem dX11_ring_14 : decode cX11_ring 14 = .ok (.aload_n 0, 1) := by decide +kernel
theorem dX11_ring_15 : decode cX11_ring 15 = .ok (.getfield 192, 3) := by decide +kernel
theorem dX11_ring_18 : decode cX11_ring 18 = .ok (.iconst 0, 1) := by decide +kernel
theorem dX11_ring_19 : decode cX11_ring 19 = .ok (.iload_n 1, 1) := by decide +kernel
theorem dX11_ring_20 : decode cX11_ring 20 = .ok (.iastore, 1) := by decide +kernel
theorem dX11_ring_21 : decode cX11_ring 21 = .ok (.iconst 1, 1) := by decide +kernel
theorem dX11_ring_22 : decode cX11_ring 22 = .ok (.istore_n 3, 1) := by decide +kernel
theorem dX11_ring_23 : decode cX11_ring 23 = .ok (.iconst 2, 1) := by decide +kernel
theorem dX11_ring_24 : decode cX11_ring 24 = .ok (.istore 4, 2) := by decide +kernel
theorem dX11_ring_26 : decode cX11_ring 26 = .ok (.iload 4, 2) := by decide +kernel
theorem dX11_ring_28 : decode cX11_ring 28 = .ok (.bipush 6, 2) := by decide +kernel
theorem dX11_ring_30 : decode cX11_ring 30 = .ok (.if_icmp .gt 111, 3) := by decide +kernel
theorem dX11_ring_33 : decode cX11_ring 33 = .ok (.iload_n 3, 1) := by decide +kernel
theorem dX11_ring_34 : decode cX11_ring 34 = .ok (.bipush 6, 2) := by decide +kernel
theorem dX11_ring_36 : decode cX11_ring 36 = .ok (.imul, 1) := by decide +kernel
theorem dX11_ring_37 : decode cX11_ring 37 = .ok (.istore_n 3, 1) := by decide +kernel
theorem dX11_ring_38 : decode cX11_ring 38 = .ok (.iconst 0, 1) := by decide +kernel
theorem dX11_ring_39 : decode cX11_ring 39 = .ok (.istore 5, 2) := by decide +kernel
theorem dX11_ring_41 : decode cX11_ring 41 = .ok (.iload 5, 2) := by decide +kernel
theorem dX11_ring_43 : decode cX11_ring 43 = .ok (.iload_n 3, 1) := by decide +kernel
theorem dX11_ring_44 : decode cX11_ring 44 = .ok (.if_icmp .ge 91, 3) := by decide +kernel
theorem dX11_ring_47 : decode cX11_ring 47 = .ok (.iload 5, 2) := by decide +kernel
theorem dX11_ring_49 : decode cX11_ring 49 = .ok (.istore 6, 2) := by decide +kernel
theorem dX11_ring_51 : decode cX11_ring 51 = .ok (.iload 4, 2) := by decide +kernel
theorem dX11_ring_53 : decode cX11_ring 53 = .ok (.iconst 1, 1) := by decide +kernel
theorem dX11_ring_54 : decode cX11_ring 54 = .ok (.isub, 1) := by decide +kernel
theorem dX11_ring_55 : decode cX11_ring 55 = .ok (.istore 7, 2) := by decide +kernel
theorem dX11_ring_57 : decode cX11_ring 57 = .ok (.iload 7, 2) := by decide +kernel
theorem dX11_ring_59 : decode cX11_ring 59 = .ok (.ifCond .le 28, 3) := by decide +kernel
theorem dX11_ring_62 : decode cX11_ring 62 = .ok (.aload_n 0, 1) := by decide +kernel
theorem dX11_ring_63 : decode cX11_ring 63 = .ok (.getfield 192, 3) := by decide +kernel
theorem dX11_ring_66 : decode cX11_ring 66 = .ok (.iload 7, 2) := by decide +kernel
theorem dX11_ring_68 : decode cX11_ring 68 = .ok (.iload 6, 2) := by decide +kernel
theorem dX11_ring_70 : decode cX11_ring 70 = .ok (.bipush 6, 2) := by decide +kernel
theorem dX11_ring_72 : decode cX11_ring 72 = .ok (.irem, 1) := by decide +kernel
theorem dX11_ring_73 : decode cX11_ring 73 = .ok (.iastore, 1) := by decide +kernel
theorem dX11_ring_74 : decode cX11_ring 74 = .ok (.iload 6, 2) := by decide +kernel
theorem dX11_ring_76 : decode cX11_ring 76 = .ok (.bipush 6, 2) := by decide +kernel
theorem dX11_ring_78 : decode cX11_ring 78 = .ok (.idiv, 1) := by decide +kernel
theorem dX11_ring_79 : decode cX11_ring 79 = .ok (.istore 6, 2) := by decide +kernel
theorem dX11_ring_81 : decode cX11_ring 81 = .ok (.iinc 7 (-1), 3) := by decide +kernel
theorem dX11_ring_84 : decode cX11_ring 84 = .ok (.goto (-27), 3) := by decide +kernel
theorem dX11_ring_87 : decode cX11_ring 87 = .ok (.aload_n 0, 1) := by decide +kernel
theorem dX11_ring_88 : decode cX11_ring 88 = .ok (.iload 4, 2) := by decide +kernel
theorem dX11_ring_90 : decode cX11_ring 90 = .ok (.invokevirtual 485, 3) := by decide +kernel
theorem dX11_ring_93 : decode cX11_ring 93 = .ok (.ifCond .eq 36, 3) := by decide +kernel
theorem dX11_ring_96 : decode cX11_ring 96 = .ok (.iload_n 2, 1) := by decide +kernel
theorem dX11_ring_97 : decode cX11_ring 97 = .ok (.iconst (-1), 1) := by decide +kernel
theorem dX11_ring_98 : decode cX11_ring 98 = .ok (.if_icmp .ne 8, 3) := by decide +kernel
theorem dX11_ring_101 : decode cX11_ring 101 = .ok (.iload 4, 2) := by decide +kernel
theorem dX11_ring_103 : decode cX11_ring 103 = .ok (.goto 25, 3) := by decide +kernel
theorem dX11_ring_106 : decode cX11_ring 106 = .ok (.iload_n 2, 1) := by decide +kernel
theorem dX11_ring_107 : decode cX11_ring 107 = .ok (.iconst 0, 1) := by decide +kernel
theorem dX11_ring_108 : decode cX11_ring 108 = .ok (.iload 4, 2) := by decide +kernel
theorem dX11_ring_110 : decode cX11_ring 110 = .ok (.iconst 1, 1) := by decide +kernel
theorem dX11_ring_111 : decode cX11_ring 111 = .ok (.isub, 1) := by decide +kernel
theorem dX11_ring_112 : decode cX11_ring 112 = .ok (.invokestatic 287, 3) := by decide +kernel
theorem dX11_ring_115 : decode cX11_ring 115 = .ok (.ifCond .eq 12, 3) := by decide +kernel
theorem dX11_ring_118 : decode cX11_ring 118 = .ok (.aload_n 0, 1) := by decide +kernel
theorem dX11_ring_119 : decode cX11_ring 119 = .ok (.getfield 192, 3) := by decide +kernel
theorem dX11_ring_122 : decode cX11_ring 122 = .ok (.iload_n 2, 1) := by decide +kernel
theorem dX11_ring_123 : decode cX11_ring 123 = .ok (.iaload, 1) := by decide +kernel
theorem dX11_ring_124 : decode cX11_ring 124 = .ok (.goto 4, 3) := by decide +kernel
theorem dX11_ring_127 : decode cX11_ring 127 = .ok (.iconst (-1), 1) := by decide +kernel
theorem dX11_ring_128 : decode cX11_ring 128 = .ok (.ireturn, 1) := by decide +kernel
theorem dX11_ring_129 : decode cX11_ring 129 = .ok (.iinc 5 1, 3) := by decide +kernel
theorem dX11_ring_132 : decode cX11_ring 132 = .ok (.goto (-91), 3) := by decide +kernel
theorem dX11_ring_135 : decode cX11_ring 135 = .ok (.iinc 4 1, 3) := by decide +kernel
theorem dX11_ring_138 : decode cX11_ring 138 = .ok (.goto (-112), 3) := by decide +kernel
theorem dX11_ring_141 : decode cX11_ring 141 = .ok (.iconst (-1), 1) := by decide +kernel
theorem dX11_ring_142 : decode cX11_ring 142 = .ok (.ireturn, 1) := by decide +kernel
theorem dX11_worthOf_0 : decode cX11_worthOf 0 = .ok (.lconst 0, 1) := by decide +kernel
theorem dX11_worthOf_1 : decode cX11_worthOf 1 = .ok (.lstore_n 3, 1) := by decide +kernel
theorem dX11_worthOf_2 : decode cX11_worthOf 2 = .ok (.iconst 0, 1) := by decide +kernel
theorem dX11_worthOf_3 : decode cX11_worthOf 3 = .ok (.istore 5, 2) := by decide +kernel
theorem dX11_worthOf_5 : decode cX11_worthOf 5 = .ok (.iload 5, 2) := by decide +kernel
theorem dX11_worthOf_7 : decode cX11_worthOf 7 = .ok (.aload_n 0, 1) := by decide +kernel
theorem dX11_worthOf_8 : decode cX11_worthOf 8 = .ok (.getfield 54, 3) := by decide +kernel
theorem dX11_worthOf_11 : decode cX11_worthOf 11 = .ok (.aload_n 0, 1) := by decide +kernel
theorem dX11_worthOf_12 : decode cX11_worthOf 12 = .ok (.getfield 51, 3) := by decide +kernel
theorem dX11_worthOf_15 : decode cX11_worthOf 15 = .ok (.iaload, 1) := by decide +kernel
theorem dX11_worthOf_16 : decode cX11_worthOf 16 = .ok (.if_icmp .ge 61, 3) := by decide +kernel
theorem dX11_worthOf_19 : decode cX11_worthOf 19 = .ok (.iload_n 2, 1) := by decide +kernel
theorem dX11_worthOf_20 : decode cX11_worthOf 20 = .ok (.iload 5, 2) := by decide +kernel
theorem dX11_worthOf_22 : decode cX11_worthOf 22 = .ok (.if_icmp .ne 6, 3) := by decide +kernel
theorem dX11_worthOf_25 : decode cX11_worthOf 25 = .ok (.goto 46, 3) := by decide +kernel
theorem dX11_worthOf_28 : decode cX11_worthOf 28 = .ok (.aload_n 0, 1) := by decide +kernel
theorem dX11_worthOf_29 : decode cX11_worthOf 29 = .ok (.iload_n 1, 1) := by decide +kernel
theorem dX11_worthOf_30 : decode cX11_worthOf 30 = .ok (.iload_n 2, 1) := by decide +kernel
theorem dX11_worthOf_31 : decode cX11_worthOf 31 = .ok (.iload 5, 2) := by decide +kernel
theorem dX11_worthOf_33 : decode cX11_worthOf 33 = .ok (.invokevirtual 414, 3) := by decide +kernel
theorem dX11_worthOf_36 : decode cX11_worthOf 36 = .ok (.lload_n 3, 1) := by decide +kernel
theorem dX11_worthOf_37 : decode cX11_worthOf 37 = .ok (.aload_n 0, 1) := by decide +kernel
theorem dX11_worthOf_38 : decode cX11_worthOf 38 = .ok (.iconst 2, 1) := by decide +kernel
theorem dX11_worthOf_39 : decode cX11_worthOf 39 = .ok (.invokevirtual 418, 3) := by decide +kernel
theorem dX11_worthOf_42 : decode cX11_worthOf 42 = .ok (.ifCond .eq 11, 3) := by decide +kernel
theorem dX11_worthOf_45 : decode cX11_worthOf 45 = .ok (.aload_n 0, 1) := by decide +kernel
theorem dX11_worthOf_46 : decode cX11_worthOf 46 = .ok (.iconst 2, 1) := by decide +kernel
theorem dX11_worthOf_47 : decode cX11_worthOf 47 = .ok (.invokevirtual 421, 3) := by decide +kernel
theorem dX11_worthOf_50 : decode cX11_worthOf 50 = .ok (.goto 4, 3) := by decide +kernel
theorem dX11_worthOf_53 : decode cX11_worthOf 53 = .ok (.lconst 1, 1) := by decide +kernel
theorem dX11_worthOf_54 : decode cX11_worthOf 54 = .ok (.aload_n 0, 1) := by decide +kernel
theorem dX11_worthOf_55 : decode cX11_worthOf 55 = .ok (.getfield 135, 3) := by decide +kernel
theorem dX11_worthOf_58 : decode cX11_worthOf 58 = .ok (.aload_n 0, 1) := by decide +kernel
theorem dX11_worthOf_59 : decode cX11_worthOf 59 = .ok (.iload_n 1, 1) := by decide +kernel
theorem dX11_worthOf_60 : decode cX11_worthOf 60 = .ok (.iload_n 2, 1) := by decide +kernel
theorem dX11_worthOf_61 : decode cX11_worthOf 61 = .ok (.iload 5, 2) := by decide +kernel
theorem dX11_worthOf_63 : decode cX11_worthOf 63 = .ok (.invokevirtual 344, 3) := by decide +kernel
theorem dX11_worthOf_66 : decode cX11_worthOf 66 = .ok (.iaload, 1) := by decide +kernel
theorem dX11_worthOf_67 : decode cX11_worthOf 67 = .ok (.i2l, 1) := by decide +kernel
theorem dX11_worthOf_68 : decode cX11_worthOf 68 = .ok (.lmul, 1) := by decide +kernel
theorem dX11_worthOf_69 : decode cX11_worthOf 69 = .ok (.ladd, 1) := by decide +kernel
theorem dX11_worthOf_70 : decode cX11_worthOf 70 = .ok (.lstore_n 3, 1) := by decide +kernel
theorem dX11_worthOf_71 : decode cX11_worthOf 71 = .ok (.iinc 5 1, 3) := by decide +kernel
theorem dX11_worthOf_74 : decode cX11_worthOf 74 = .ok (.goto (-69), 3) := by decide +kernel
theorem dX11_worthOf_77 : decode cX11_worthOf 77 = .ok (.lload_n 3, 1) := by decide +kernel
theorem dX11_worthOf_78 : decode cX11_worthOf 78 = .ok (.lreturn, 1) := by decide +kernel
theorem dX11_swap_0 : decode cX11_swap 0 = .ok (.iload_n 1, 1) := by decide +kernel
theorem dX11_swap_1 : decode cX11_swap 1 = .ok (.iconst 0, 1) := by decide +kernel
theorem dX11_swap_2 : decode cX11_swap 2 = .ok (.iconst 4, 1) := by decide +kernel
theorem dX11_swap_3 : decode cX11_swap 3 = .ok (.invokestatic 287, 3) := by decide +kernel
theorem dX11_swap_6 : decode cX11_swap 6 = .ok (.ifCond .ne 5, 3) := by decide +kernel
theorem dX11_swap_9 : decode cX11_swap 9 = .ok (.iconst (-1), 1) := by decide +kernel
theorem dX11_swap_10 : decode cX11_swap 10 = .ok (.ireturn, 1) := by decide +kernel
theorem dX11_swap_11 : decode cX11_swap 11 = .ok (.iconst (-1), 1) := by decide +kernel
theorem dX11_swap_12 : decode cX11_swap 12 = .ok (.istore_n 2, 1) := by decide +kernel
theorem dX11_swap_13 : decode cX11_swap 13 = .ok (.lconst 0, 1) := by decide +kernel
theorem dX11_swap_14 : decode cX11_swap 14 = .ok (.lstore_n 3, 1) := by decide +kernel
theorem dX11_swap_15 : decode cX11_swap 15 = .ok (.aload_n 0, 1) := by decide +kernel
theorem dX11_swap_16 : decode cX11_swap 16 = .ok (.iconst 1, 1) := by decide +kernel
theorem dX11_swap_17 : decode cX11_swap 17 = .ok (.iconst 0, 1) := by decide +kernel
theorem dX11_swap_18 : decode cX11_swap 18 = .ok (.invokevirtual 389, 3) := by decide +kernel
theorem dX11_swap_21 : decode cX11_swap 21 = .ok (.iconst 0, 1) := by decide +kernel
theorem dX11_swap_22 : decode cX11_swap 22 = .ok (.istore 5, 2) := by decide +kernel
theorem dX11_swap_24 : decode cX11_swap 24 = .ok (.iload 5, 2) := by decide +kernel
theorem dX11_swap_26 : decode cX11_swap 26 = .ok (.sipush 1296, 3) := by decide +kernel
theorem dX11_swap_29 : decode cX11_swap 29 = .ok (.if_icmp .ge 272, 3) := by decide +kernel
theorem dX11_swap_32 : decode cX11_swap 32 = .ok (.iload 5, 2) := by decide +kernel
theorem dX11_swap_34 : decode cX11_swap 34 = .ok (.bipush 36, 2) := by decide +kernel
theorem dX11_swap_36 : decode cX11_swap 36 = .ok (.idiv, 1) := by decide +kernel
theorem dX11_swap_37 : decode cX11_swap 37 = .ok (.bipush 6, 2) := by decide +kernel
theorem dX11_swap_39 : decode cX11_swap 39 = .ok (.idiv, 1) := by decide +kernel
theorem dX11_swap_40 : decode cX11_swap 40 = .ok (.istore 6, 2) := by decide +kernel
theorem dX11_swap_42 : decode cX11_swap 42 = .ok (.iload 5, 2) := by decide +kernel
theorem dX11_swap_44 : decode cX11_swap 44 = .ok (.bipush 36, 2) := by decide +kernel
theorem dX11_swap_46 : decode cX11_swap 46 = .ok (.idiv, 1) := by decide +kernel
theorem dX11_swap_47 : decode cX11_swap 47 = .ok (.bipush 6, 2) := by decide +kernel
theorem dX11_swap_49 : decode cX11_swap 49 = .ok (.irem, 1) := by decide +kernel
theorem dX11_swap_50 : decode cX11_swap 50 = .ok (.istore 7, 2) := by decide +kernel
theorem dX11_swap_52 : decode cX11_swap 52 = .ok (.iload 5, 2) := by decide +kernel
theorem dX11_swap_54 : decode cX11_swap 54 = .ok (.bipush 6, 2) := by decide +kernel
theorem dX11_swap_56 : decode cX11_swap 56 = .ok (.idiv, 1) := by decide +kernel
theorem dX11_swap_57 : decode cX11_swap 57 = .ok (.bipush 6, 2) := by decide +kernel
theorem dX11_swap_59 : decode cX11_swap 59 = .ok (.irem, 1) := by decide +kernel
theorem dX11_swap_60 : decode cX11_swap 60 = .ok (.istore 8, 2) := by decide +kernel
theorem dX11_swap_62 : decode cX11_swap 62 = .ok (.iload 5, 2) := by decide +kernel
theorem dX11_swap_64 : decode cX11_swap 64 = .ok (.bipush 6, 2) := by decide +kernel
theorem dX11_swap_66 : decode cX11_swap 66 = .ok (.irem, 1) := by decide +kernel
theorem dX11_swap_67 : decode cX11_swap 67 = .ok (.istore 9, 2) := by decide +kernel
theorem dX11_swap_69 : decode cX11_swap 69 = .ok (.iload 6, 2) := by decide +kernel
theorem dX11_swap_71 : decode cX11_swap 71 = .ok (.iload 7, 2) := by decide +kernel
theorem dX11_swap_73 : decode cX11_swap 73 = .ok (.if_icmp .ge 222, 3) := by decide +kernel
theorem dX11_swap_76 : decode cX11_swap 76 = .ok (.aload_n 0, 1) := by decide +kernel
theorem dX11_swap_77 : decode cX11_swap 77 = .ok (.iload 7, 2) := by decide +kernel
theorem dX11_swap_79 : decode cX11_swap 79 = .ok (.invokevirtual 445, 3) := by decide +kernel
theorem dX11_swap_82 : decode cX11_swap 82 = .ok (.ifCond .eq 213, 3) := by decide +kernel
theorem dX11_swap_85 : decode cX11_swap 85 = .ok (.aload_n 0, 1) := by decide +kernel
theorem dX11_swap_86 : decode cX11_swap 86 = .ok (.iload 8, 2) := by decide +kernel
theorem dX11_swap_88 : decode cX11_swap 88 = .ok (.invokevirtual 445, 3) := by decide +kernel
theorem dX11_swap_91 : decode cX11_swap 91 = .ok (.ifCond .eq 204, 3) := by decide +kernel
theorem dX11_swap_94 : decode cX11_swap 94 = .ok (.aload_n 0, 1) := by decide +kernel
theorem dX11_swap_95 : decode cX11_swap 95 = .ok (.iload 9, 2) := by decide +kernel
theorem dX11_swap_97 : decode cX11_swap 97 = .ok (.invokevirtual 445, 3) := by decide +kernel
theorem dX11_swap_100 : decode cX11_swap 100 = .ok (.ifCond .eq 195, 3) := by decide +kernel
theorem dX11_swap_103 : decode cX11_swap 103 = .ok (.iload 8, 2) := by decide +kernel
theorem dX11_swap_105 : decode cX11_swap 105 = .ok (.iload 6, 2) := by decide +kernel
theorem dX11_swap_107 : decode cX11_swap 107 = .ok (.if_icmp .eq 188, 3) := by decide +kernel
theorem dX11_swap_110 : decode cX11_swap 110 = .ok (.iload 8, 2) := by decide +kernel
theorem dX11_swap_112 : decode cX11_swap 112 = .ok (.iload 7, 2) := by decide +kernel
theorem dX11_swap_114 : decode cX11_swap 114 = .ok (.if_icmp .eq 181, 3) := by decide +kernel
theorem dX11_swap_117 : decode cX11_swap 117 = .ok (.iload 9, 2) := by decide +kernel
theorem dX11_swap_119 : decode cX11_swap 119 = .ok (.iload 6, 2) := by decide +kernel
theorem dX11_swap_121 : decode cX11_swap 121 = .ok (.if_icmp .eq 174, 3) := by decide +kernel
theorem dX11_swap_124 : decode cX11_swap 124 = .ok (.iload 9, 2) := by decide +kernel
theorem dX11_swap_126 : decode cX11_swap 126 = .ok (.iload 7, 2) := by decide +kernel
theorem dX11_swap_128 : decode cX11_swap 128 = .ok (.if_icmp .eq 167, 3) := by decide +kernel
theorem dX11_swap_131 : decode cX11_swap 131 = .ok (.iload 8, 2) := by decide +kernel
theorem dX11_swap_133 : decode cX11_swap 133 = .ok (.iload 9, 2) := by decide +kernel
theorem dX11_swap_135 : decode cX11_swap 135 = .ok (.if_icmp .ne 6, 3) := by decide +kernel
theorem dX11_swap_138 : decode cX11_swap 138 = .ok (.goto 157, 3) := by decide +kernel
theorem dX11_swap_141 : decode cX11_swap 141 = .ok (.aload_n 0, 1) := by decide +kernel
theorem dX11_swap_142 : decode cX11_swap 142 = .ok (.getfield 135, 3) := by decide +kernel
theorem dX11_swap_145 : decode cX11_swap 145 = .ok (.aload_n 0, 1) := by decide +kernel
theorem dX11_swap_146 : decode cX11_swap 146 = .ok (.iconst 1, 1) := by decide +kernel
theorem dX11_swap_147 : decode cX11_swap 147 = .ok (.iload 6, 2) := by decide +kernel
theorem dX11_swap_149 : decode cX11_swap 149 = .ok (.iload 8, 2) := by decide +kernel
theorem dX11_swap_151 : decode cX11_swap 151 = .ok (.invokevirtual 344, 3) := by decide +kernel
theorem dX11_swap_154 : decode cX11_swap 154 = .ok (.iaload, 1) := by decide +kernel
theorem dX11_swap_155 : decode cX11_swap 155 = .ok (.ifCond .eq 140, 3) := by decide +kernel
theorem dX11_swap_158 : decode cX11_swap 158 = .ok (.aload_n 0, 1) := by decide +kernel
theorem dX11_swap_159 : decode cX11_swap 159 = .ok (.getfield 135, 3) := by decide +kernel
theorem dX11_swap_162 : decode cX11_swap 162 = .ok (.aload_n 0, 1) := by decide +kernel
theorem dX11_swap_163 : decode cX11_swap 163 = .ok (.iconst 1, 1) := by decide +kernel
theorem dX11_swap_164 : decode cX11_swap 164 = .ok (.iload 7, 2) := by decide +kernel
theorem dX11_swap_166 : decode cX11_swap 166 = .ok (.iload 9, 2) := by decide +kernel
theorem dX11_swap_168 : decode cX11_swap 168 = .ok (.invokevirtual 344, 3) := by decide +kernel
theorem dX11_swap_171 : decode cX11_swap 171 = .ok (.iaload, 1) := by decide +kernel
theorem dX11_swap_172 : decode cX11_swap 172 = .ok (.ifCond .eq 123, 3) := by decide +kernel
theorem dX11_swap_175 : decode cX11_swap 175 = .ok (.aload_n 0, 1) := by decide +kernel
theorem dX11_swap_176 : decode cX11_swap 176 = .ok (.getfield 135, 3) := by decide +kernel
theorem dX11_swap_179 : decode cX11_swap 179 = .ok (.aload_n 0, 1) := by decide +kernel
theorem dX11_swap_180 : decode cX11_swap 180 = .ok (.iconst 1, 1) := by decide +kernel
theorem dX11_swap_181 : decode cX11_swap 181 = .ok (.iload 6, 2) := by decide +kernel
theorem dX11_swap_183 : decode cX11_swap 183 = .ok (.iload 9, 2) := by decide +kernel
theorem dX11_swap_185 : decode cX11_swap 185 = .ok (.invokevirtual 344, 3) := by decide +kernel
theorem dX11_swap_188 : decode cX11_swap 188 = .ok (.iaload, 1) := by decide +kernel
theorem dX11_swap_189 : decode cX11_swap 189 = .ok (.bipush 99, 2) := by decide +kernel
theorem dX11_swap_191 : decode cX11_swap 191 = .ok (.if_icmp .eq 104, 3) := by decide +kernel
theorem dX11_swap_194 : decode cX11_swap 194 = .ok (.aload_n 0, 1) := by decide +kernel
theorem dX11_swap_195 : decode cX11_swap 195 = .ok (.getfield 135, 3) := by decide +kernel
theorem dX11_swap_198 : decode cX11_swap 198 = .ok (.aload_n 0, 1) := by decide +kernel
theorem dX11_swap_199 : decode cX11_swap 199 = .ok (.iconst 1, 1) := by decide +kernel
theorem dX11_swap_200 : decode cX11_swap 200 = .ok (.iload 7, 2) := by decide +kernel
theorem dX11_swap_202 : decode cX11_swap 202 = .ok (.iload 8, 2) := by decide +kernel
theorem dX11_swap_204 : decode cX11_swap 204 = .ok (.invokevirtual 344, 3) := by decide +kernel
theorem dX11_swap_207 : decode cX11_swap 207 = .ok (.iaload, 1) := by decide +kernel
theorem dX11_swap_208 : decode cX11_swap 208 = .ok (.bipush 99, 2) := by decide +kernel
theorem dX11_swap_210 : decode cX11_swap 210 = .ok (.if_icmp .ne 6, 3) := by decide +kernel
theorem dX11_swap_213 : decode cX11_swap 213 = .ok (.goto 82, 3) := by decide +kernel
theorem dX11_swap_216 : decode cX11_swap 216 = .ok (.aload_n 0, 1) := by decide +kernel
theorem dX11_swap_217 : decode cX11_swap 217 = .ok (.iconst 1, 1) := by decide +kernel
theorem dX11_swap_218 : decode cX11_swap 218 = .ok (.iload 6, 2) := by decide +kernel
theorem dX11_swap_220 : decode cX11_swap 220 = .ok (.invokevirtual 488, 3) := by decide +kernel
theorem dX11_swap_223 : decode cX11_swap 223 = .ok (.aload_n 0, 1) := by decide +kernel
theorem dX11_swap_224 : decode cX11_swap 224 = .ok (.iconst 1, 1) := by decide +kernel
theorem dX11_swap_225 : decode cX11_swap 225 = .ok (.iload 7, 2) := by decide +kernel
theorem dX11_swap_227 : decode cX11_swap 227 = .ok (.invokevirtual 488, 3) := by decide +kernel
theorem dX11_swap_230 : decode cX11_swap 230 = .ok (.ladd, 1) := by decide +kernel
theorem dX11_swap_231 : decode cX11_swap 231 = .ok (.lstore 10, 2) := by decide +kernel
theorem dX11_swap_233 : decode cX11_swap 233 = .ok (.aload_n 0, 1) := by decide +kernel
theorem dX11_swap_234 : decode cX11_swap 234 = .ok (.iload 6, 2) := by decide +kernel
theorem dX11_swap_236 : decode cX11_swap 236 = .ok (.iload 7, 2) := by decide +kernel
theorem dX11_swap_238 : decode cX11_swap 238 = .ok (.iload 8, 2) := by decide +kernel
theorem dX11_swap_240 : decode cX11_swap 240 = .ok (.iload 9, 2) := by decide +kernel
theorem dX11_swap_242 : decode cX11_swap 242 = .ok (.iconst 1, 1) := by decide +kernel
theorem dX11_swap_243 : decode cX11_swap 243 = .ok (.invokevirtual 492, 3) := by decide +kernel
theorem dX11_swap_246 : decode cX11_swap 246 = .ok (.aload_n 0, 1) := by decide +kernel
theorem dX11_swap_247 : decode cX11_swap 247 = .ok (.iconst 1, 1) := by decide +kernel
theorem dX11_swap_248 : decode cX11_swap 248 = .ok (.iload 6, 2) := by decide +kernel
theorem dX11_swap_250 : decode cX11_swap 250 = .ok (.invokevirtual 488, 3) := by decide +kernel
theorem dX11_swap_253 : decode cX11_swap 253 = .ok (.aload_n 0, 1) := by decide +kernel
theorem dX11_swap_254 : decode cX11_swap 254 = .ok (.iconst 1, 1) := by decide +kernel
theorem dX11_swap_255 : decode cX11_swap 255 = .ok (.iload 7, 2) := by decide +kernel
theorem dX11_swap_257 : decode cX11_swap 257 = .ok (.invokevirtual 488, 3) := by decide +kernel
theorem dX11_swap_260 : decode cX11_swap 260 = .ok (.ladd, 1) := by decide +kernel
theorem dX11_swap_261 : decode cX11_swap 261 = .ok (.lload 10, 2) := by decide +kernel
theorem dX11_swap_263 : decode cX11_swap 263 = .ok (.lsub, 1) := by decide +kernel
theorem dX11_swap_264 : decode cX11_swap 264 = .ok (.lstore 12, 2) := by decide +kernel
theorem dX11_swap_266 : decode cX11_swap 266 = .ok (.aload_n 0, 1) := by decide +kernel
theorem dX11_swap_267 : decode cX11_swap 267 = .ok (.iload 6, 2) := by decide +kernel
theorem dX11_swap_269 : decode cX11_swap 269 = .ok (.iload 7, 2) := by decide +kernel
theorem dX11_swap_271 : decode cX11_swap 271 = .ok (.iload 8, 2) := by decide +kernel
theorem dX11_swap_273 : decode cX11_swap 273 = .ok (.iload 9, 2) := by decide +kernel
theorem dX11_swap_275 : decode cX11_swap 275 = .ok (.iconst (-1), 1) := by decide +kernel
theorem dX11_swap_276 : decode cX11_swap 276 = .ok (.invokevirtual 492, 3) := by decide +kernel
theorem dX11_swap_279 : decode cX11_swap 279 = .ok (.lload 12, 2) := by decide +kernel
theorem dX11_swap_281 : decode cX11_swap 281 = .ok (.lload_n 3, 1) := by decide +kernel
theorem dX11_swap_282 : decode cX11_swap 282 = .ok (.lcmp, 1) := by decide +kernel
theorem dX11_swap_283 : decode cX11_swap 283 = .ok (.ifCond .gt 6, 3) := by decide +kernel
theorem dX11_swap_286 : decode cX11_swap 286 = .ok (.goto 9, 3) := by decide +kernel
theorem dX11_swap_289 : decode cX11_swap 289 = .ok (.lload 12, 2) := by decide +kernel
theorem dX11_swap_291 : decode cX11_swap 291 = .ok (.lstore_n 3, 1) := by decide +kernel
theorem dX11_swap_292 : decode cX11_swap 292 = .ok (.iload 5, 2) := by decide +kernel
theorem dX11_swap_294 : decode cX11_swap 294 = .ok (.istore_n 2, 1) := by decide +kernel
theorem dX11_swap_295 : decode cX11_swap 295 = .ok (.iinc 5 1, 3) := by decide +kernel
theorem dX11_swap_298 : decode cX11_swap 298 = .ok (.goto (-274), 3) := by decide +kernel
theorem dX11_swap_301 : decode cX11_swap 301 = .ok (.iload_n 2, 1) := by decide +kernel
theorem dX11_swap_302 : decode cX11_swap 302 = .ok (.iconst (-1), 1) := by decide +kernel
theorem dX11_swap_303 : decode cX11_swap 303 = .ok (.if_icmp .ne 5, 3) := by decide +kernel
theorem dX11_swap_306 : decode cX11_swap 306 = .ok (.iconst (-1), 1) := by decide +kernel
theorem dX11_swap_307 : decode cX11_swap 307 = .ok (.ireturn, 1) := by decide +kernel
theorem dX11_swap_308 : decode cX11_swap 308 = .ok (.iload_n 1, 1) := by decide +kernel
theorem dX11_swap_309 : decode cX11_swap 309 = .ok (.ifCond .ne 13, 3) := by decide +kernel
theorem dX11_swap_312 : decode cX11_swap 312 = .ok (.iload_n 2, 1) := by decide +kernel
theorem dX11_swap_313 : decode cX11_swap 313 = .ok (.bipush 36, 2) := by decide +kernel
theorem dX11_swap_315 : decode cX11_swap 315 = .ok (.idiv, 1) := by decide +kernel
theorem dX11_swap_316 : decode cX11_swap 316 = .ok (.bipush 6, 2) := by decide +kernel
theorem dX11_swap_318 : decode cX11_swap 318 = .ok (.idiv, 1) := by decide +kernel
theorem dX11_swap_319 : decode cX11_swap 319 = .ok (.goto 47, 3) := by decide +kernel
theorem dX11_swap_322 : decode cX11_swap 322 = .ok (.iload_n 1, 1) := by decide +kernel
theorem dX11_swap_323 : decode cX11_swap 323 = .ok (.iconst 1, 1) := by decide +kernel
theorem dX11_swap_324 : decode cX11_swap 324 = .ok (.if_icmp .ne 13, 3) := by decide +kernel
theorem dX11_swap_327 : decode cX11_swap 327 = .ok (.iload_n 2, 1) := by decide +kernel
theorem dX11_swap_328 : decode cX11_swap 328 = .ok (.bipush 36, 2) := by decide +kernel
theorem dX11_swap_330 : decode cX11_swap 330 = .ok (.idiv, 1) := by decide +kernel
theorem dX11_swap_331 : decode cX11_swap 331 = .ok (.bipush 6, 2) := by decide +kernel
theorem dX11_swap_333 : decode cX11_swap 333 = .ok (.irem, 1) := by decide +kernel
theorem dX11_swap_334 : decode cX11_swap 334 = .ok (.goto 32, 3) := by decide +kernel
theorem dX11_swap_337 : decode cX11_swap 337 = .ok (.iload_n 1, 1) := by decide +kernel
theorem dX11_swap_338 : decode cX11_swap 338 = .ok (.iconst 2, 1) := by decide +kernel
theorem dX11_swap_339 : decode cX11_swap 339 = .ok (.if_icmp .ne 13, 3) := by decide +kernel
theorem dX11_swap_342 : decode cX11_swap 342 = .ok (.iload_n 2, 1) := by decide +kernel
theorem dX11_swap_343 : decode cX11_swap 343 = .ok (.bipush 6, 2) := by decide +kernel
theorem dX11_swap_345 : decode cX11_swap 345 = .ok (.idiv, 1) := by decide +kernel
theorem dX11_swap_346 : decode cX11_swap 346 = .ok (.bipush 6, 2) := by decide +kernel
theorem dX11_swap_348 : decode cX11_swap 348 = .ok (.irem, 1) := by decide +kernel
theorem dX11_swap_349 : decode cX11_swap 349 = .ok (.goto 17, 3) := by decide +kernel
theorem dX11_swap_352 : decode cX11_swap 352 = .ok (.iload_n 1, 1) := by decide +kernel
theorem dX11_swap_353 : decode cX11_swap 353 = .ok (.iconst 3, 1) := by decide +kernel
theorem dX11_swap_354 : decode cX11_swap 354 = .ok (.if_icmp .ne 10, 3) := by decide +kernel
theorem dX11_swap_357 : decode cX11_swap 357 = .ok (.iload_n 2, 1) := by decide +kernel
theorem dX11_swap_358 : decode cX11_swap 358 = .ok (.bipush 6, 2) := by decide +kernel
theorem dX11_swap_360 : decode cX11_swap 360 = .ok (.irem, 1) := by decide +kernel
theorem dX11_swap_361 : decode cX11_swap 361 = .ok (.goto 5, 3) := by decide +kernel
theorem dX11_swap_364 : decode cX11_swap 364 = .ok (.lload_n 3, 1) := by decide +kernel
theorem dX11_swap_365 : decode cX11_swap 365 = .ok (.l2i, 1) := by decide +kernel
theorem dX11_swap_366 : decode cX11_swap 366 = .ok (.ireturn, 1) := by decide +kernel
theorem dX11_swaps_0 : decode cX11_swaps 0 = .ok (.aload_n 0, 1) := by decide +kernel
theorem dX11_swaps_1 : decode cX11_swaps 1 = .ok (.getfield 135, 3) := by decide +kernel
theorem dX11_swaps_4 : decode cX11_swaps 4 = .ok (.aload_n 0, 1) := by decide +kernel
theorem dX11_swaps_5 : decode cX11_swaps 5 = .ok (.iconst 1, 1) := by decide +kernel
theorem dX11_swaps_6 : decode cX11_swaps 6 = .ok (.iload_n 1, 1) := by decide +kernel
theorem dX11_swaps_7 : decode cX11_swaps 7 = .ok (.iload_n 3, 1) := by decide +kernel
theorem dX11_swaps_8 : decode cX11_swaps 8 = .ok (.invokevirtual 344, 3) := by decide +kernel
theorem dX11_swaps_11 : decode cX11_swaps 11 = .ok (.dup2, 1) := by decide +kernel
theorem dX11_swaps_12 : decode cX11_swaps 12 = .ok (.iaload, 1) := by decide +kernel
theorem dX11_swaps_13 : decode cX11_swaps 13 = .ok (.iload 5, 2) := by decide +kernel
theorem dX11_swaps_15 : decode cX11_swaps 15 = .ok (.isub, 1) := by decide +kernel
theorem dX11_swaps_16 : decode cX11_swaps 16 = .ok (.iastore, 1) := by decide +kernel
theorem dX11_swaps_17 : decode cX11_swaps 17 = .ok (.aload_n 0, 1) := by decide +kernel
theorem dX11_swaps_18 : decode cX11_swaps 18 = .ok (.getfield 135, 3) := by decide +kernel
theorem dX11_swaps_21 : decode cX11_swaps 21 = .ok (.aload_n 0, 1) := by decide +kernel
theorem dX11_swaps_22 : decode cX11_swaps 22 = .ok (.iconst 1, 1) := by decide +kernel
theorem dX11_swaps_23 : decode cX11_swaps 23 = .ok (.iload_n 2, 1) := by decide +kernel
theorem dX11_swaps_24 : decode cX11_swaps 24 = .ok (.iload_n 3, 1) := by decide +kernel
theorem dX11_swaps_25 : decode cX11_swaps 25 = .ok (.invokevirtual 344, 3) := by decide +kernel
theorem dX11_swaps_28 : decode cX11_swaps 28 = .ok (.dup2, 1) := by decide +kernel
theorem dX11_swaps_29 : decode cX11_swaps 29 = .ok (.iaload, 1) := by decide +kernel
theorem dX11_swaps_30 : decode cX11_swaps 30 = .ok (.iload 5, 2) := by decide +kernel
theorem dX11_swaps_32 : decode cX11_swaps 32 = .ok (.iadd, 1) := by decide +kernel
theorem dX11_swaps_33 : decode cX11_swaps 33 = .ok (.iastore, 1) := by decide +kernel
theorem dX11_swaps_34 : decode cX11_swaps 34 = .ok (.aload_n 0, 1) := by decide +kernel
theorem dX11_swaps_35 : decode cX11_swaps 35 = .ok (.getfield 135, 3) := by decide +kernel
theorem dX11_swaps_38 : decode cX11_swaps 38 = .ok (.aload_n 0, 1) := by decide +kernel
theorem dX11_swaps_39 : decode cX11_swaps 39 = .ok (.iconst 1, 1) := by decide +kernel
theorem dX11_swaps_40 : decode cX11_swaps 40 = .ok (.iload_n 2, 1) := by decide +kernel
theorem dX11_swaps_41 : decode cX11_swaps 41 = .ok (.iload 4, 2) := by decide +kernel
theorem dX11_swaps_43 : decode cX11_swaps 43 = .ok (.invokevirtual 344, 3) := by decide +kernel
theorem dX11_swaps_46 : decode cX11_swaps 46 = .ok (.dup2, 1) := by decide +kernel
theorem dX11_swaps_47 : decode cX11_swaps 47 = .ok (.iaload, 1) := by decide +kernel
theorem dX11_swaps_48 : decode cX11_swaps 48 = .ok (.iload 5, 2) := by decide +kernel
theorem dX11_swaps_50 : decode cX11_swaps 50 = .ok (.isub, 1) := by decide +kernel
theorem dX11_swaps_51 : decode cX11_swaps 51 = .ok (.iastore, 1) := by decide +kernel
theorem dX11_swaps_52 : decode cX11_swaps 52 = .ok (.aload_n 0, 1) := by decide +kernel
theorem dX11_swaps_53 : decode cX11_swaps 53 = .ok (.getfield 135, 3) := by decide +kernel
theorem dX11_swaps_56 : decode cX11_swaps 56 = .ok (.aload_n 0, 1) := by decide +kernel
theorem dX11_swaps_57 : decode cX11_swaps 57 = .ok (.iconst 1, 1) := by decide +kernel
theorem dX11_swaps_58 : decode cX11_swaps 58 = .ok (.iload_n 1, 1) := by decide +kernel
theorem dX11_swaps_59 : decode cX11_swaps 59 = .ok (.iload 4, 2) := by decide +kernel
theorem dX11_swaps_61 : decode cX11_swaps 61 = .ok (.invokevirtual 344, 3) := by decide +kernel
theorem dX11_swaps_64 : decode cX11_swaps 64 = .ok (.dup2, 1) := by decide +kernel
theorem dX11_swaps_65 : decode cX11_swaps 65 = .ok (.iaload, 1) := by decide +kernel
theorem dX11_swaps_66 : decode cX11_swaps 66 = .ok (.iload 5, 2) := by decide +kernel
theorem dX11_swaps_68 : decode cX11_swaps 68 = .ok (.iadd, 1) := by decide +kernel
theorem dX11_swaps_69 : decode cX11_swaps 69 = .ok (.iastore, 1) := by decide +kernel
theorem dX11_swaps_70 : decode cX11_swaps 70 = .ok (.return_, 1) := by decide +kernel
theorem dX11_bag_0 : decode cX11_bag 0 = .ok (.aload_n 0, 1) := by decide +kernel
theorem dX11_bag_1 : decode cX11_bag 1 = .ok (.getfield 13, 3) := by decide +kernel
theorem dX11_bag_4 : decode cX11_bag 4 = .ok (.istore_n 1, 1) := by decide +kernel
theorem dX11_bag_5 : decode cX11_bag 5 = .ok (.aload_n 0, 1) := by decide +kernel
theorem dX11_bag_6 : decode cX11_bag 6 = .ok (.iconst 0, 1) := by decide +kernel
theorem dX11_bag_7 : decode cX11_bag 7 = .ok (.putfield 13, 3) := by decide +kernel
theorem dX11_bag_10 : decode cX11_bag 10 = .ok (.iload_n 1, 1) := by decide +kernel
theorem dX11_bag_11 : decode cX11_bag 11 = .ok (.ifCond .le 19, 3) := by decide +kernel
theorem dX11_bag_14 : decode cX11_bag 14 = .ok (.iload_n 1, 1) := by decide +kernel
theorem dX11_bag_15 : decode cX11_bag 15 = .ok (.iconst 2, 1) := by decide +kernel
theorem dX11_bag_16 : decode cX11_bag 16 = .ok (.irem, 1) := by decide +kernel
theorem dX11_bag_17 : decode cX11_bag 17 = .ok (.ifCond .ne 13, 3) := by decide +kernel
theorem dX11_bag_20 : decode cX11_bag 20 = .ok (.iload_n 1, 1) := by decide +kernel
theorem dX11_bag_21 : decode cX11_bag 21 = .ok (.bipush 32, 2) := by decide +kernel
theorem dX11_bag_23 : decode cX11_bag 23 = .ok (.if_icmp .gt 7, 3) := by decide +kernel
theorem dX11_bag_26 : decode cX11_bag 26 = .ok (.iconst 1, 1) := by decide +kernel
theorem dX11_bag_27 : decode cX11_bag 27 = .ok (.goto 4, 3) := by decide +kernel
theorem dX11_bag_30 : decode cX11_bag 30 = .ok (.iconst 0, 1) := by decide +kernel
theorem dX11_bag_31 : decode cX11_bag 31 = .ok (.istore_n 2, 1) := by decide +kernel
theorem dX11_bag_32 : decode cX11_bag 32 = .ok (.iconst 0, 1) := by decide +kernel
theorem dX11_bag_33 : decode cX11_bag 33 = .ok (.istore_n 3, 1) := by decide +kernel
theorem dX11_bag_34 : decode cX11_bag 34 = .ok (.iload_n 3, 1) := by decide +kernel
theorem dX11_bag_35 : decode cX11_bag 35 = .ok (.iload_n 1, 1) := by decide +kernel
theorem dX11_bag_36 : decode cX11_bag 36 = .ok (.if_icmp .ge 24, 3) := by decide +kernel
theorem dX11_bag_39 : decode cX11_bag 39 = .ok (.iload_n 2, 1) := by decide +kernel
theorem dX11_bag_40 : decode cX11_bag 40 = .ok (.ifCond .eq 20, 3) := by decide +kernel
theorem dX11_bag_43 : decode cX11_bag 43 = .ok (.aload_n 0, 1) := by decide +kernel
theorem dX11_bag_44 : decode cX11_bag 44 = .ok (.aload_n 0, 1) := by decide +kernel
theorem dX11_bag_45 : decode cX11_bag 45 = .ok (.getfield 7, 3) := by decide +kernel
theorem dX11_bag_48 : decode cX11_bag 48 = .ok (.iload_n 3, 1) := by decide +kernel
theorem dX11_bag_49 : decode cX11_bag 49 = .ok (.iaload, 1) := by decide +kernel
theorem dX11_bag_50 : decode cX11_bag 50 = .ok (.invokevirtual 445, 3) := by decide +kernel
theorem dX11_bag_53 : decode cX11_bag 53 = .ok (.istore_n 2, 1) := by decide +kernel
theorem dX11_bag_54 : decode cX11_bag 54 = .ok (.iinc 3 2, 3) := by decide +kernel
theorem dX11_bag_57 : decode cX11_bag 57 = .ok (.goto (-23), 3) := by decide +kernel
theorem dX11_bag_60 : decode cX11_bag 60 = .ok (.iload_n 2, 1) := by decide +kernel
theorem dX11_bag_61 : decode cX11_bag 61 = .ok (.ifCond .ne 9, 3) := by decide +kernel
theorem dX11_bag_64 : decode cX11_bag 64 = .ok (.aload_n 0, 1) := by decide +kernel
theorem dX11_bag_65 : decode cX11_bag 65 = .ok (.iconst 5, 1) := by decide +kernel
theorem dX11_bag_66 : decode cX11_bag 66 = .ok (.invokevirtual 214, 3) := by decide +kernel
theorem dX11_bag_69 : decode cX11_bag 69 = .ok (.ireturn, 1) := by decide +kernel
theorem dX11_bag_70 : decode cX11_bag 70 = .ok (.aload_n 0, 1) := by decide +kernel
theorem dX11_bag_71 : decode cX11_bag 71 = .ok (.iload_n 1, 1) := by decide +kernel
theorem dX11_bag_72 : decode cX11_bag 72 = .ok (.iconst 2, 1) := by decide +kernel
theorem dX11_bag_73 : decode cX11_bag 73 = .ok (.idiv, 1) := by decide +kernel
theorem dX11_bag_74 : decode cX11_bag 74 = .ok (.putfield 195, 3) := by decide +kernel
theorem dX11_bag_77 : decode cX11_bag 77 = .ok (.iconst 0, 1) := by decide +kernel
theorem dX11_bag_78 : decode cX11_bag 78 = .ok (.istore_n 3, 1) := by decide +kernel
theorem dX11_bag_79 : decode cX11_bag 79 = .ok (.iload_n 3, 1) := by decide +kernel
theorem dX11_bag_80 : decode cX11_bag 80 = .ok (.aload_n 0, 1) := by decide +kernel
theorem dX11_bag_81 : decode cX11_bag 81 = .ok (.getfield 195, 3) := by decide +kernel
theorem dX11_bag_84 : decode cX11_bag 84 = .ok (.if_icmp .ge 39, 3) := by decide +kernel
theorem dX11_bag_87 : decode cX11_bag 87 = .ok (.aload_n 0, 1) := by decide +kernel
theorem dX11_bag_88 : decode cX11_bag 88 = .ok (.getfield 198, 3) := by decide +kernel
theorem dX11_bag_91 : decode cX11_bag 91 = .ok (.iload_n 3, 1) := by decide +kernel
theorem dX11_bag_92 : decode cX11_bag 92 = .ok (.aload_n 0, 1) := by decide +kernel
theorem dX11_bag_93 : decode cX11_bag 93 = .ok (.getfield 7, 3) := by decide +kernel
theorem dX11_bag_96 : decode cX11_bag 96 = .ok (.iconst 2, 1) := by decide +kernel
theorem dX11_bag_97 : decode cX11_bag 97 = .ok (.iload_n 3, 1) := by decide +kernel
theorem dX11_bag_98 : decode cX11_bag 98 = .ok (.imul, 1) := by decide +kernel
theorem dX11_bag_99 : decode cX11_bag 99 = .ok (.iaload, 1) := by decide +kernel
theorem dX11_bag_100 : decode cX11_bag 100 = .ok (.iastore, 1) := by decide +kernel
theorem dX11_bag_101 : decode cX11_bag 101 = .ok (.aload_n 0, 1) := by decide +kernel
theorem dX11_bag_102 : decode cX11_bag 102 = .ok (.getfield 201, 3) := by decide +kernel
theorem dX11_bag_105 : decode cX11_bag 105 = .ok (.iload_n 3, 1) := by decide +kernel
theorem dX11_bag_106 : decode cX11_bag 106 = .ok (.aload_n 0, 1) := by decide +kernel
theorem dX11_bag_107 : decode cX11_bag 107 = .ok (.getfield 7, 3) := by decide +kernel
theorem dX11_bag_110 : decode cX11_bag 110 = .ok (.iconst 2, 1) := by decide +kernel
theorem dX11_bag_111 : decode cX11_bag 111 = .ok (.iload_n 3, 1) := by decide +kernel
theorem dX11_bag_112 : decode cX11_bag 112 = .ok (.imul, 1) := by decide +kernel
theorem dX11_bag_113 : decode cX11_bag 113 = .ok (.iconst 1, 1) := by decide +kernel
theorem dX11_bag_114 : decode cX11_bag 114 = .ok (.iadd, 1) := by decide +kernel
theorem dX11_bag_115 : decode cX11_bag 115 = .ok (.iaload, 1) := by decide +kernel
theorem dX11_bag_116 : decode cX11_bag 116 = .ok (.iastore, 1) := by decide +kernel
theorem dX11_bag_117 : decode cX11_bag 117 = .ok (.iinc 3 1, 3) := by decide +kernel
theorem dX11_bag_120 : decode cX11_bag 120 = .ok (.goto (-41), 3) := by decide +kernel
theorem dX11_bag_123 : decode cX11_bag 123 = .ok (.aload_n 0, 1) := by decide +kernel
theorem dX11_bag_124 : decode cX11_bag 124 = .ok (.getfield 195, 3) := by decide +kernel
theorem dX11_bag_127 : decode cX11_bag 127 = .ok (.ireturn, 1) := by decide +kernel
theorem dX11_isBag_0 : decode cX11_isBag 0 = .ok (.iconst 0, 1) := by decide +kernel
theorem dX11_isBag_1 : decode cX11_isBag 1 = .ok (.istore_n 2, 1) := by decide +kernel
theorem dX11_isBag_2 : decode cX11_isBag 2 = .ok (.iload_n 2, 1) := by decide +kernel
theorem dX11_isBag_3 : decode cX11_isBag 3 = .ok (.aload_n 0, 1) := by decide +kernel
theorem dX11_isBag_4 : decode cX11_isBag 4 = .ok (.getfield 195, 3) := by decide +kernel
theorem dX11_isBag_7 : decode cX11_isBag 7 = .ok (.if_icmp .ge 37, 3) := by decide +kernel
theorem dX11_isBag_10 : decode cX11_isBag 10 = .ok (.aload_n 0, 1) := by decide +kernel
theorem dX11_isBag_11 : decode cX11_isBag 11 = .ok (.getfield 135, 3) := by decide +kernel
theorem dX11_isBag_14 : decode cX11_isBag 14 = .ok (.aload_n 0, 1) := by decide +kernel
theorem dX11_isBag_15 : decode cX11_isBag 15 = .ok (.iconst 0, 1) := by decide +kernel
theorem dX11_isBag_16 : decode cX11_isBag 16 = .ok (.iload_n 1, 1) := by decide +kernel
theorem dX11_isBag_17 : decode cX11_isBag 17 = .ok (.aload_n 0, 1) := by decide +kernel
theorem dX11_isBag_18 : decode cX11_isBag 18 = .ok (.getfield 198, 3) := by decide +kernel
theorem dX11_isBag_21 : decode cX11_isBag 21 = .ok (.iload_n 2, 1) := by decide +kernel
theorem dX11_isBag_22 : decode cX11_isBag 22 = .ok (.iaload, 1) := by decide +kernel
theorem dX11_isBag_23 : decode cX11_isBag 23 = .ok (.invokevirtual 344, 3) := by decide +kernel
theorem dX11_isBag_26 : decode cX11_isBag 26 = .ok (.iaload, 1) := by decide +kernel
theorem dX11_isBag_27 : decode cX11_isBag 27 = .ok (.aload_n 0, 1) := by decide +kernel
theorem dX11_isBag_28 : decode cX11_isBag 28 = .ok (.getfield 201, 3) := by decide +kernel
theorem dX11_isBag_31 : decode cX11_isBag 31 = .ok (.iload_n 2, 1) := by decide +kernel
theorem dX11_isBag_32 : decode cX11_isBag 32 = .ok (.iaload, 1) := by decide +kernel
theorem dX11_isBag_33 : decode cX11_isBag 33 = .ok (.if_icmp .eq 5, 3) := by decide +kernel
theorem dX11_isBag_36 : decode cX11_isBag 36 = .ok (.iconst 0, 1) := by decide +kernel
theorem dX11_isBag_37 : decode cX11_isBag 37 = .ok (.ireturn, 1) := by decide +kernel
theorem dX11_isBag_38 : decode cX11_isBag 38 = .ok (.iinc 2 1, 3) := by decide +kernel
theorem dX11_isBag_41 : decode cX11_isBag 41 = .ok (.goto (-39), 3) := by decide +kernel
theorem dX11_isBag_44 : decode cX11_isBag 44 = .ok (.iconst 1, 1) := by decide +kernel
theorem dX11_isBag_45 : decode cX11_isBag 45 = .ok (.ireturn, 1) := by decide +kernel
theorem dX11_whose_0 : decode cX11_whose 0 = .ok (.iload_n 1, 1) := by decide +kernel
theorem dX11_whose_1 : decode cX11_whose 1 = .ok (.iconst 0, 1) := by decide +kernel
theorem dX11_whose_2 : decode cX11_whose 2 = .ok (.iconst 2, 1) := by decide +kernel
theorem dX11_whose_3 : decode cX11_whose 3 = .ok (.invokestatic 287, 3) := by decide +kernel
theorem dX11_whose_6 : decode cX11_whose 6 = .ok (.ifCond .ne 5, 3) := by decide +kernel
theorem dX11_whose_9 : decode cX11_whose 9 = .ok (.iconst (-1), 1) := by decide +kernel
theorem dX11_whose_10 : decode cX11_whose 10 = .ok (.ireturn, 1) := by decide +kernel
theorem dX11_whose_11 : decode cX11_whose 11 = .ok (.iconst 0, 1) := by decide +kernel
theorem dX11_whose_12 : decode cX11_whose 12 = .ok (.istore_n 2, 1) := by decide +kernel
theorem dX11_whose_13 : decode cX11_whose 13 = .ok (.iconst 0, 1) := by decide +kernel
theorem dX11_whose_14 : decode cX11_whose 14 = .ok (.istore_n 3, 1) := by decide +kernel
theorem dX11_whose_15 : decode cX11_whose 15 = .ok (.iload_n 3, 1) := by decide +kernel
theorem dX11_whose_16 : decode cX11_whose 16 = .ok (.aload_n 0, 1) := by decide +kernel
theorem dX11_whose_17 : decode cX11_whose 17 = .ok (.getfield 54, 3) := by decide +kernel
theorem dX11_whose_20 : decode cX11_whose 20 = .ok (.aload_n 0, 1) := by decide +kernel
theorem dX11_whose_21 : decode cX11_whose 21 = .ok (.getfield 51, 3) := by decide +kernel
theorem dX11_whose_24 : decode cX11_whose 24 = .ok (.iaload, 1) := by decide +kernel
theorem dX11_whose_25 : decode cX11_whose 25 = .ok (.if_icmp .ge 27, 3) := by decide +kernel
theorem dX11_whose_28 : decode cX11_whose 28 = .ok (.iload_n 2, 1) := by decide +kernel
theorem dX11_whose_29 : decode cX11_whose 29 = .ok (.aload_n 0, 1) := by decide +kernel
theorem dX11_whose_30 : decode cX11_whose 30 = .ok (.iload_n 3, 1) := by decide +kernel
theorem dX11_whose_31 : decode cX11_whose 31 = .ok (.invokevirtual 496, 3) := by decide +kernel
theorem dX11_whose_34 : decode cX11_whose 34 = .ok (.ifCond .eq 9, 3) := by decide +kernel
theorem dX11_whose_37 : decode cX11_whose 37 = .ok (.iconst 1, 1) := by decide +kernel
theorem dX11_whose_38 : decode cX11_whose 38 = .ok (.iload_n 3, 1) := by decide +kernel
theorem dX11_whose_39 : decode cX11_whose 39 = .ok (.ishl, 1) := by decide +kernel
theorem dX11_whose_40 : decode cX11_whose 40 = .ok (.goto 4, 3) := by decide +kernel
theorem dX11_whose_43 : decode cX11_whose 43 = .ok (.iconst 0, 1) := by decide +kernel
theorem dX11_whose_44 : decode cX11_whose 44 = .ok (.ior, 1) := by decide +kernel
theorem dX11_whose_45 : decode cX11_whose 45 = .ok (.istore_n 2, 1) := by decide +kernel
theorem dX11_whose_46 : decode cX11_whose 46 = .ok (.iinc 3 1, 3) := by decide +kernel
theorem dX11_whose_49 : decode cX11_whose 49 = .ok (.goto (-34), 3) := by decide +kernel
theorem dX11_whose_52 : decode cX11_whose 52 = .ok (.iload_n 1, 1) := by decide +kernel
theorem dX11_whose_53 : decode cX11_whose 53 = .ok (.ifCond .ne 5, 3) := by decide +kernel
theorem dX11_whose_56 : decode cX11_whose 56 = .ok (.iload_n 2, 1) := by decide +kernel
theorem dX11_whose_57 : decode cX11_whose 57 = .ok (.ireturn, 1) := by decide +kernel
theorem dX11_whose_58 : decode cX11_whose 58 = .ok (.iconst (-1), 1) := by decide +kernel
theorem dX11_whose_59 : decode cX11_whose 59 = .ok (.istore_n 3, 1) := by decide +kernel
theorem dX11_whose_60 : decode cX11_whose 60 = .ok (.ldc_w 373, 3) := by decide +kernel
theorem dX11_whose_63 : decode cX11_whose 63 = .ok (.istore 4, 2) := by decide +kernel
theorem dX11_whose_65 : decode cX11_whose 65 = .ok (.iconst 0, 1) := by decide +kernel
theorem dX11_whose_66 : decode cX11_whose 66 = .ok (.istore 5, 2) := by decide +kernel
theorem dX11_whose_68 : decode cX11_whose 68 = .ok (.iload 5, 2) := by decide +kernel
theorem dX11_whose_70 : decode cX11_whose 70 = .ok (.aload_n 0, 1) := by decide +kernel
theorem dX11_whose_71 : decode cX11_whose 71 = .ok (.getfield 54, 3) := by decide +kernel
theorem dX11_whose_74 : decode cX11_whose 74 = .ok (.aload_n 0, 1) := by decide +kernel
theorem dX11_whose_75 : decode cX11_whose 75 = .ok (.getfield 51, 3) := by decide +kernel
theorem dX11_whose_78 : decode cX11_whose 78 = .ok (.iaload, 1) := by decide +kernel
theorem dX11_whose_79 : decode cX11_whose 79 = .ok (.if_icmp .ge 157, 3) := by decide +kernel
theorem dX11_whose_82 : decode cX11_whose 82 = .ok (.iload_n 2, 1) := by decide +kernel
theorem dX11_whose_83 : decode cX11_whose 83 = .ok (.ifCond .eq 153, 3) := by decide +kernel
theorem dX11_whose_86 : decode cX11_whose 86 = .ok (.iconst 0, 1) := by decide +kernel
theorem dX11_whose_87 : decode cX11_whose 87 = .ok (.istore 6, 2) := by decide +kernel
theorem dX11_whose_89 : decode cX11_whose 89 = .ok (.iconst 0, 1) := by decide +kernel
theorem dX11_whose_90 : decode cX11_whose 90 = .ok (.istore 7, 2) := by decide +kernel
theorem dX11_whose_92 : decode cX11_whose 92 = .ok (.iload 7, 2) := by decide +kernel
theorem dX11_whose_94 : decode cX11_whose 94 = .ok (.aload_n 0, 1) := by decide +kernel
theorem dX11_whose_95 : decode cX11_whose 95 = .ok (.getfield 54, 3) := by decide +kernel
theorem dX11_whose_98 : decode cX11_whose 98 = .ok (.aload_n 0, 1) := by decide +kernel
theorem dX11_whose_99 : decode cX11_whose 99 = .ok (.getfield 51, 3) := by decide +kernel
theorem dX11_whose_102 : decode cX11_whose 102 = .ok (.iaload, 1) := by decide +kernel
theorem dX11_whose_103 : decode cX11_whose 103 = .ok (.if_icmp .ge 110, 3) := by decide +kernel
theorem dX11_whose_106 : decode cX11_whose 106 = .ok (.iconst 0, 1) := by decide +kernel
theorem dX11_whose_107 : decode cX11_whose 107 = .ok (.istore 8, 2) := by decide +kernel
