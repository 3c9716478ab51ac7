theorem dX4_isSilent_31 : decode cX4_isSilent 31 = .ok (.ireturn, 1) := by decide +kernel
theorem dX4_isSilent_32 : decode cX4_isSilent 32 = .ok (.iinc 3 1, 3) := by decide +kernel
theorem dX4_isSilent_35 : decode cX4_isSilent 35 = .ok (.goto (-24), 3) := by decide +kernel
theorem dX4_isSilent_38 : decode cX4_isSilent 38 = .ok (.iconst 1, 1) := by decide +kernel
theorem dX4_isSilent_39 : decode cX4_isSilent 39 = .ok (.ireturn, 1) := by decide +kernel
theorem dX4_targetOf_0 : decode cX4_targetOf 0 = .ok (.iconst (-1), 1) := by decide +kernel
theorem dX4_targetOf_1 : decode cX4_targetOf 1 = .ok (.istore 4, 2) := by decide +kernel
theorem dX4_targetOf_3 : decode cX4_targetOf 3 = .ok (.iconst 0, 1) := by decide +kernel
theorem dX4_targetOf_4 : decode cX4_targetOf 4 = .ok (.istore 5, 2) := by decide +kernel
theorem dX4_targetOf_6 : decode cX4_targetOf 6 = .ok (.aload_n 2, 1) := by decide +kernel
theorem dX4_targetOf_7 : decode cX4_targetOf 7 = .ok (.getfield 57, 3) := by decide +kernel
theorem dX4_targetOf_10 : decode cX4_targetOf 10 = .ok (.bipush 60, 2) := by decide +kernel
theorem dX4_targetOf_12 : decode cX4_targetOf 12 = .ok (.if_icmp .lt 5, 3) := by decide +kernel
theorem dX4_targetOf_15 : decode cX4_targetOf 15 = .ok (.iconst (-1), 1) := by decide +kernel
theorem dX4_targetOf_16 : decode cX4_targetOf 16 = .ok (.ireturn, 1) := by decide +kernel
theorem dX4_targetOf_17 : decode cX4_targetOf 17 = .ok (.iconst 0, 1) := by decide +kernel
theorem dX4_targetOf_18 : decode cX4_targetOf 18 = .ok (.istore 6, 2) := by decide +kernel
theorem dX4_targetOf_20 : decode cX4_targetOf 20 = .ok (.iload 6, 2) := by decide +kernel
theorem dX4_targetOf_22 : decode cX4_targetOf 22 = .ok (.aload_n 1, 1) := by decide +kernel
theorem dX4_targetOf_23 : decode cX4_targetOf 23 = .ok (.getfield 19, 3) := by decide +kernel
theorem dX4_targetOf_26 : decode cX4_targetOf 26 = .ok (.if_icmp .ge 72, 3) := by decide +kernel
theorem dX4_targetOf_29 : decode cX4_targetOf 29 = .ok (.iload_n 3, 1) := by decide +kernel
theorem dX4_targetOf_30 : decode cX4_targetOf 30 = .ok (.bipush 6, 2) := by decide +kernel
theorem dX4_targetOf_32 : decode cX4_targetOf 32 = .ok (.imul, 1) := by decide +kernel
theorem dX4_targetOf_33 : decode cX4_targetOf 33 = .ok (.iload 6, 2) := by decide +kernel
theorem dX4_targetOf_35 : decode cX4_targetOf 35 = .ok (.iadd, 1) := by decide +kernel
theorem dX4_targetOf_36 : decode cX4_targetOf 36 = .ok (.istore 7, 2) := by decide +kernel
theorem dX4_targetOf_38 : decode cX4_targetOf 38 = .ok (.aload_n 0, 1) := by decide +kernel
theorem dX4_targetOf_39 : decode cX4_targetOf 39 = .ok (.aload_n 1, 1) := by decide +kernel
theorem dX4_targetOf_40 : decode cX4_targetOf 40 = .ok (.aload_n 2, 1) := by decide +kernel
theorem dX4_targetOf_41 : decode cX4_targetOf 41 = .ok (.iload 7, 2) := by decide +kernel
theorem dX4_targetOf_43 : decode cX4_targetOf 43 = .ok (.invokevirtual 82, 3) := by decide +kernel
theorem dX4_targetOf_46 : decode cX4_targetOf 46 = .ok (.ifCond .eq 46, 3) := by decide +kernel
theorem dX4_targetOf_49 : decode cX4_targetOf 49 = .ok (.aload_n 0, 1) := by decide +kernel
theorem dX4_targetOf_50 : decode cX4_targetOf 50 = .ok (.aload_n 1, 1) := by decide +kernel
theorem dX4_targetOf_51 : decode cX4_targetOf 51 = .ok (.aload_n 1, 1) := by decide +kernel
theorem dX4_targetOf_52 : decode cX4_targetOf 52 = .ok (.getfield 86, 3) := by decide +kernel
theorem dX4_targetOf_55 : decode cX4_targetOf 55 = .ok (.iconst 0, 1) := by decide +kernel
theorem dX4_targetOf_56 : decode cX4_targetOf 56 = .ok (.aload_n 2, 1) := by decide +kernel
theorem dX4_targetOf_57 : decode cX4_targetOf 57 = .ok (.iload 7, 2) := by decide +kernel
theorem dX4_targetOf_59 : decode cX4_targetOf 59 = .ok (.aload_n 2, 1) := by decide +kernel
theorem dX4_targetOf_60 : decode cX4_targetOf 60 = .ok (.getfield 89, 3) := by decide +kernel
theorem dX4_targetOf_63 : decode cX4_targetOf 63 = .ok (.iload 7, 2) := by decide +kernel
theorem dX4_targetOf_65 : decode cX4_targetOf 65 = .ok (.iaload, 1) := by decide +kernel
theorem dX4_targetOf_66 : decode cX4_targetOf 66 = .ok (.invokevirtual 92, 3) := by decide +kernel
theorem dX4_targetOf_69 : decode cX4_targetOf 69 = .ok (.istore 8, 2) := by decide +kernel
theorem dX4_targetOf_71 : decode cX4_targetOf 71 = .ok (.iload 4, 2) := by decide +kernel
theorem dX4_targetOf_73 : decode cX4_targetOf 73 = .ok (.iconst (-1), 1) := by decide +kernel
theorem dX4_targetOf_74 : decode cX4_targetOf 74 = .ok (.if_icmp .eq 10, 3) := by decide +kernel
theorem dX4_targetOf_77 : decode cX4_targetOf 77 = .ok (.iload 8, 2) := by decide +kernel
theorem dX4_targetOf_79 : decode cX4_targetOf 79 = .ok (.iload 5, 2) := by decide +kernel
theorem dX4_targetOf_81 : decode cX4_targetOf 81 = .ok (.if_icmp .le 11, 3) := by decide +kernel
theorem dX4_targetOf_84 : decode cX4_targetOf 84 = .ok (.iload 6, 2) := by decide +kernel
theorem dX4_targetOf_86 : decode cX4_targetOf 86 = .ok (.istore 4, 2) := by decide +kernel
theorem dX4_targetOf_88 : decode cX4_targetOf 88 = .ok (.iload 8, 2) := by decide +kernel
theorem dX4_targetOf_90 : decode cX4_targetOf 90 = .ok (.istore 5, 2) := by decide +kernel
theorem dX4_targetOf_92 : decode cX4_targetOf 92 = .ok (.iinc 6 1, 3) := by decide +kernel
theorem dX4_targetOf_95 : decode cX4_targetOf 95 = .ok (.goto (-75), 3) := by decide +kernel
theorem dX4_targetOf_98 : decode cX4_targetOf 98 = .ok (.iload 4, 2) := by decide +kernel
theorem dX4_targetOf_100 : decode cX4_targetOf 100 = .ok (.ireturn, 1) := by decide +kernel
theorem dX4_canWrite_0 : decode cX4_canWrite 0 = .ok (.iload_n 3, 1) := by decide +kernel
theorem dX4_canWrite_1 : decode cX4_canWrite 1 = .ok (.ifCond .lt 52, 3) := by decide +kernel
theorem dX4_canWrite_4 : decode cX4_canWrite 4 = .ok (.iload_n 3, 1) := by decide +kernel
theorem dX4_canWrite_5 : decode cX4_canWrite 5 = .ok (.bipush 36, 2) := by decide +kernel
theorem dX4_canWrite_7 : decode cX4_canWrite 7 = .ok (.if_icmp .ge 46, 3) := by decide +kernel
theorem dX4_canWrite_10 : decode cX4_canWrite 10 = .ok (.aload_n 1, 1) := by decide +kernel
theorem dX4_canWrite_11 : decode cX4_canWrite 11 = .ok (.getfield 29, 3) := by decide +kernel
theorem dX4_canWrite_14 : decode cX4_canWrite 14 = .ok (.iload_n 3, 1) := by decide +kernel
theorem dX4_canWrite_15 : decode cX4_canWrite 15 = .ok (.iaload, 1) := by decide +kernel
theorem dX4_canWrite_16 : decode cX4_canWrite 16 = .ok (.ifCond .le 37, 3) := by decide +kernel
theorem dX4_canWrite_19 : decode cX4_canWrite 19 = .ok (.aload_n 2, 1) := by decide +kernel
theorem dX4_canWrite_20 : decode cX4_canWrite 20 = .ok (.getfield 89, 3) := by decide +kernel
theorem dX4_canWrite_23 : decode cX4_canWrite 23 = .ok (.iload_n 3, 1) := by decide +kernel
theorem dX4_canWrite_24 : decode cX4_canWrite 24 = .ok (.iaload, 1) := by decide +kernel
theorem dX4_canWrite_25 : decode cX4_canWrite 25 = .ok (.ifCond .le 28, 3) := by decide +kernel
theorem dX4_canWrite_28 : decode cX4_canWrite 28 = .ok (.aload_n 0, 1) := by decide +kernel
theorem dX4_canWrite_29 : decode cX4_canWrite 29 = .ok (.aload_n 1, 1) := by decide +kernel
theorem dX4_canWrite_30 : decode cX4_canWrite 30 = .ok (.aload_n 1, 1) := by decide +kernel
theorem dX4_canWrite_31 : decode cX4_canWrite 31 = .ok (.getfield 96, 3) := by decide +kernel
theorem dX4_canWrite_34 : decode cX4_canWrite 34 = .ok (.iconst 1, 1) := by decide +kernel
theorem dX4_canWrite_35 : decode cX4_canWrite 35 = .ok (.aload_n 2, 1) := by decide +kernel
theorem dX4_canWrite_36 : decode cX4_canWrite 36 = .ok (.iload_n 3, 1) := by decide +kernel
theorem dX4_canWrite_37 : decode cX4_canWrite 37 = .ok (.aload_n 2, 1) := by decide +kernel
theorem dX4_canWrite_38 : decode cX4_canWrite 38 = .ok (.getfield 89, 3) := by decide +kernel
theorem dX4_canWrite_41 : decode cX4_canWrite 41 = .ok (.iload_n 3, 1) := by decide +kernel
theorem dX4_canWrite_42 : decode cX4_canWrite 42 = .ok (.iaload, 1) := by decide +kernel
theorem dX4_canWrite_43 : decode cX4_canWrite 43 = .ok (.invokevirtual 92, 3) := by decide +kernel
theorem dX4_canWrite_46 : decode cX4_canWrite 46 = .ok (.ifCond .eq 7, 3) := by decide +kernel
theorem dX4_canWrite_49 : decode cX4_canWrite 49 = .ok (.iconst 1, 1) := by decide +kernel
theorem dX4_canWrite_50 : decode cX4_canWrite 50 = .ok (.goto 4, 3) := by decide +kernel
theorem dX4_canWrite_53 : decode cX4_canWrite 53 = .ok (.iconst 0, 1) := by decide +kernel
theorem dX4_canWrite_54 : decode cX4_canWrite 54 = .ok (.ireturn, 1) := by decide +kernel
theorem dX4_reckon_0 : decode cX4_reckon 0 = .ok (.aload_n 2, 1) := by decide +kernel
theorem dX4_reckon_1 : decode cX4_reckon 1 = .ok (.ifnonnull 5, 3) := by decide +kernel
theorem dX4_reckon_4 : decode cX4_reckon 4 = .ok (.iload_n 3, 1) := by decide +kernel
theorem dX4_reckon_5 : decode cX4_reckon 5 = .ok (.ireturn, 1) := by decide +kernel
theorem dX4_reckon_6 : decode cX4_reckon 6 = .ok (.iconst 0, 1) := by decide +kernel
theorem dX4_reckon_7 : decode cX4_reckon 7 = .ok (.istore 7, 2) := by decide +kernel
theorem dX4_reckon_9 : decode cX4_reckon 9 = .ok (.iconst 0, 1) := by decide +kernel
theorem dX4_reckon_10 : decode cX4_reckon 10 = .ok (.istore 8, 2) := by decide +kernel
theorem dX4_reckon_12 : decode cX4_reckon 12 = .ok (.iload 8, 2) := by decide +kernel
theorem dX4_reckon_14 : decode cX4_reckon 14 = .ok (.aload_n 2, 1) := by decide +kernel
theorem dX4_reckon_15 : decode cX4_reckon 15 = .ok (.arraylength, 1) := by decide +kernel
theorem dX4_reckon_16 : decode cX4_reckon 16 = .ok (.if_icmp .ge 210, 3) := by decide +kernel
theorem dX4_reckon_19 : decode cX4_reckon 19 = .ok (.aload_n 2, 1) := by decide +kernel
theorem dX4_reckon_20 : decode cX4_reckon 20 = .ok (.iload 8, 2) := by decide +kernel
theorem dX4_reckon_22 : decode cX4_reckon 22 = .ok (.iaload, 1) := by decide +kernel
theorem dX4_reckon_23 : decode cX4_reckon 23 = .ok (.istore 9, 2) := by decide +kernel
theorem dX4_reckon_25 : decode cX4_reckon 25 = .ok (.iload 9, 2) := by decide +kernel
theorem dX4_reckon_27 : decode cX4_reckon 27 = .ok (.iconst 5, 1) := by decide +kernel
theorem dX4_reckon_28 : decode cX4_reckon 28 = .ok (.if_icmp .lt 10, 3) := by decide +kernel
theorem dX4_reckon_31 : decode cX4_reckon 31 = .ok (.iload 9, 2) := by decide +kernel
theorem dX4_reckon_33 : decode cX4_reckon 33 = .ok (.bipush 100, 2) := by decide +kernel
theorem dX4_reckon_35 : decode cX4_reckon 35 = .ok (.if_icmp .lt 51, 3) := by decide +kernel
theorem dX4_reckon_38 : decode cX4_reckon 38 = .ok (.iload 7, 2) := by decide +kernel
theorem dX4_reckon_40 : decode cX4_reckon 40 = .ok (.sipush 128, 3) := by decide +kernel
theorem dX4_reckon_43 : decode cX4_reckon 43 = .ok (.if_icmp .ge 177, 3) := by decide +kernel
theorem dX4_reckon_46 : decode cX4_reckon 46 = .ok (.aload_n 0, 1) := by decide +kernel
theorem dX4_reckon_47 : decode cX4_reckon 47 = .ok (.getfield 11, 3) := by decide +kernel
theorem dX4_reckon_50 : decode cX4_reckon 50 = .ok (.iload 7, 2) := by decide +kernel
theorem dX4_reckon_52 : decode cX4_reckon 52 = .ok (.iload 9, 2) := by decide +kernel
theorem dX4_reckon_54 : decode cX4_reckon 54 = .ok (.bipush 100, 2) := by decide +kernel
theorem dX4_reckon_56 : decode cX4_reckon 56 = .ok (.if_icmp .lt 11, 3) := by decide +kernel
theorem dX4_reckon_59 : decode cX4_reckon 59 = .ok (.iload 9, 2) := by decide +kernel
theorem dX4_reckon_61 : decode cX4_reckon 61 = .ok (.bipush 100, 2) := by decide +kernel
theorem dX4_reckon_63 : decode cX4_reckon 63 = .ok (.isub, 1) := by decide +kernel
theorem dX4_reckon_64 : decode cX4_reckon 64 = .ok (.goto 15, 3) := by decide +kernel
theorem dX4_reckon_67 : decode cX4_reckon 67 = .ok (.iload 9, 2) := by decide +kernel
theorem dX4_reckon_69 : decode cX4_reckon 69 = .ok (.aload_n 1, 1) := by decide +kernel
theorem dX4_reckon_70 : decode cX4_reckon 70 = .ok (.aload 4, 2) := by decide +kernel
theorem dX4_reckon_72 : decode cX4_reckon 72 = .ok (.iload 5, 2) := by decide +kernel
theorem dX4_reckon_74 : decode cX4_reckon 74 = .ok (.iload 6, 2) := by decide +kernel
theorem dX4_reckon_76 : decode cX4_reckon 76 = .ok (.invokestatic 99, 3) := by decide +kernel
theorem dX4_reckon_79 : decode cX4_reckon 79 = .ok (.iastore, 1) := by decide +kernel
theorem dX4_reckon_80 : decode cX4_reckon 80 = .ok (.iinc 7 1, 3) := by decide +kernel
theorem dX4_reckon_83 : decode cX4_reckon 83 = .ok (.goto 137, 3) := by decide +kernel
theorem dX4_reckon_86 : decode cX4_reckon 86 = .ok (.iload 9, 2) := by decide +kernel
theorem dX4_reckon_88 : decode cX4_reckon 88 = .ok (.bipush 17, 2) := by decide +kernel
theorem dX4_reckon_90 : decode cX4_reckon 90 = .ok (.if_icmp .ne 32, 3) := by decide +kernel
theorem dX4_reckon_93 : decode cX4_reckon 93 = .ok (.iload 7, 2) := by decide +kernel
theorem dX4_reckon_95 : decode cX4_reckon 95 = .ok (.iconst 1, 1) := by decide +kernel
theorem dX4_reckon_96 : decode cX4_reckon 96 = .ok (.if_icmp .lt 124, 3) := by decide +kernel
theorem dX4_reckon_99 : decode cX4_reckon 99 = .ok (.aload_n 0, 1) := by decide +kernel
theorem dX4_reckon_100 : decode cX4_reckon 100 = .ok (.getfield 11, 3) := by decide +kernel
theorem dX4_reckon_103 : decode cX4_reckon 103 = .ok (.iload 7, 2) := by decide +kernel
theorem dX4_reckon_105 : decode cX4_reckon 105 = .ok (.iconst 1, 1) := by decide +kernel
theorem dX4_reckon_106 : decode cX4_reckon 106 = .ok (.isub, 1) := by decide +kernel
theorem dX4_reckon_107 : decode cX4_reckon 107 = .ok (.iconst 1, 1) := by decide +kernel
theorem dX4_reckon_108 : decode cX4_reckon 108 = .ok (.aload_n 0, 1) := by decide +kernel
theorem dX4_reckon_109 : decode cX4_reckon 109 = .ok (.getfield 11, 3) := by decide +kernel
theorem dX4_reckon_112 : decode cX4_reckon 112 = .ok (.iload 7, 2) := by decide +kernel
theorem dX4_reckon_114 : decode cX4_reckon 114 = .ok (.iconst 1, 1) := by decide +kernel
theorem dX4_reckon_115 : decode cX4_reckon 115 = .ok (.isub, 1) := by decide +kernel
theorem dX4_reckon_116 : decode cX4_reckon 116 = .ok (.iaload, 1) := by decide +kernel
theorem dX4_reckon_117 : decode cX4_reckon 117 = .ok (.isub, 1) := by decide +kernel
theorem dX4_reckon_118 : decode cX4_reckon 118 = .ok (.iastore, 1) := by decide +kernel
theorem dX4_reckon_119 : decode cX4_reckon 119 = .ok (.goto 101, 3) := by decide +kernel
theorem dX4_reckon_122 : decode cX4_reckon 122 = .ok (.iload 9, 2) := by decide +kernel
theorem dX4_reckon_124 : decode cX4_reckon 124 = .ok (.bipush 18, 2) := by decide +kernel
theorem dX4_reckon_126 : decode cX4_reckon 126 = .ok (.if_icmp .ne 55, 3) := by decide +kernel
theorem dX4_reckon_129 : decode cX4_reckon 129 = .ok (.iload 7, 2) := by decide +kernel
theorem dX4_reckon_131 : decode cX4_reckon 131 = .ok (.iconst 3, 1) := by decide +kernel
theorem dX4_reckon_132 : decode cX4_reckon 132 = .ok (.if_icmp .lt 88, 3) := by decide +kernel
theorem dX4_reckon_135 : decode cX4_reckon 135 = .ok (.iinc 7 (-2), 3) := by decide +kernel
theorem dX4_reckon_138 : decode cX4_reckon 138 = .ok (.aload_n 0, 1) := by decide +kernel
theorem dX4_reckon_139 : decode cX4_reckon 139 = .ok (.getfield 11, 3) := by decide +kernel
theorem dX4_reckon_142 : decode cX4_reckon 142 = .ok (.iload 7, 2) := by decide +kernel
theorem dX4_reckon_144 : decode cX4_reckon 144 = .ok (.iconst 1, 1) := by decide +kernel
theorem dX4_reckon_145 : decode cX4_reckon 145 = .ok (.isub, 1) := by decide +kernel
theorem dX4_reckon_146 : decode cX4_reckon 146 = .ok (.aload_n 0, 1) := by decide +kernel
theorem dX4_reckon_147 : decode cX4_reckon 147 = .ok (.getfield 11, 3) := by decide +kernel
theorem dX4_reckon_150 : decode cX4_reckon 150 = .ok (.iload 7, 2) := by decide +kernel
theorem dX4_reckon_152 : decode cX4_reckon 152 = .ok (.iconst 1, 1) := by decide +kernel
theorem dX4_reckon_153 : decode cX4_reckon 153 = .ok (.isub, 1) := by decide +kernel
theorem dX4_reckon_154 : decode cX4_reckon 154 = .ok (.iaload, 1) := by decide +kernel
theorem dX4_reckon_155 : decode cX4_reckon 155 = .ok (.ifCond .eq 13, 3) := by decide +kernel
theorem dX4_reckon_158 : decode cX4_reckon 158 = .ok (.aload_n 0, 1) := by decide +kernel
theorem dX4_reckon_159 : decode cX4_reckon 159 = .ok (.getfield 11, 3) := by decide +kernel
theorem dX4_reckon_162 : decode cX4_reckon 162 = .ok (.iload 7, 2) := by decide +kernel
theorem dX4_reckon_164 : decode cX4_reckon 164 = .ok (.iaload, 1) := by decide +kernel
theorem dX4_reckon_165 : decode cX4_reckon 165 = .ok (.goto 12, 3) := by decide +kernel
theorem dX4_reckon_168 : decode cX4_reckon 168 = .ok (.aload_n 0, 1) := by decide +kernel
theorem dX4_reckon_169 : decode cX4_reckon 169 = .ok (.getfield 11, 3) := by decide +kernel
theorem dX4_reckon_172 : decode cX4_reckon 172 = .ok (.iload 7, 2) := by decide +kernel
theorem dX4_reckon_174 : decode cX4_reckon 174 = .ok (.iconst 1, 1) := by decide +kernel
theorem dX4_reckon_175 : decode cX4_reckon 175 = .ok (.iadd, 1) := by decide +kernel
theorem dX4_reckon_176 : decode cX4_reckon 176 = .ok (.iaload, 1) := by decide +kernel
theorem dX4_reckon_177 : decode cX4_reckon 177 = .ok (.iastore, 1) := by decide +kernel
theorem dX4_reckon_178 : decode cX4_reckon 178 = .ok (.goto 42, 3) := by decide +kernel
theorem dX4_reckon_181 : decode cX4_reckon 181 = .ok (.iload 7, 2) := by decide +kernel
theorem dX4_reckon_183 : decode cX4_reckon 183 = .ok (.iconst 2, 1) := by decide +kernel
theorem dX4_reckon_184 : decode cX4_reckon 184 = .ok (.if_icmp .lt 36, 3) := by decide +kernel
theorem dX4_reckon_187 : decode cX4_reckon 187 = .ok (.iinc 7 (-1), 3) := by decide +kernel
theorem dX4_reckon_190 : decode cX4_reckon 190 = .ok (.aload_n 0, 1) := by decide +kernel
theorem dX4_reckon_191 : decode cX4_reckon 191 = .ok (.getfield 11, 3) := by decide +kernel
theorem dX4_reckon_194 : decode cX4_reckon 194 = .ok (.iload 7, 2) := by decide +kernel
theorem dX4_reckon_196 : decode cX4_reckon 196 = .ok (.iconst 1, 1) := by decide +kernel
theorem dX4_reckon_197 : decode cX4_reckon 197 = .ok (.isub, 1) := by decide +kernel
theorem dX4_reckon_198 : decode cX4_reckon 198 = .ok (.iload 9, 2) := by decide +kernel
theorem dX4_reckon_200 : decode cX4_reckon 200 = .ok (.aload_n 0, 1) := by decide +kernel
theorem dX4_reckon_201 : decode cX4_reckon 201 = .ok (.getfield 11, 3) := by decide +kernel
theorem dX4_reckon_204 : decode cX4_reckon 204 = .ok (.iload 7, 2) := by decide +kernel
theorem dX4_reckon_206 : decode cX4_reckon 206 = .ok (.iconst 1, 1) := by decide +kernel
theorem dX4_reckon_207 : decode cX4_reckon 207 = .ok (.isub, 1) := by decide +kernel
theorem dX4_reckon_208 : decode cX4_reckon 208 = .ok (.iaload, 1) := by decide +kernel
theorem dX4_reckon_209 : decode cX4_reckon 209 = .ok (.aload_n 0, 1) := by decide +kernel
theorem dX4_reckon_210 : decode cX4_reckon 210 = .ok (.getfield 11, 3) := by decide +kernel
theorem dX4_reckon_213 : decode cX4_reckon 213 = .ok (.iload 7, 2) := by decide +kernel
theorem dX4_reckon_215 : decode cX4_reckon 215 = .ok (.iaload, 1) := by decide +kernel
theorem dX4_reckon_216 : decode cX4_reckon 216 = .ok (.invokestatic 103, 3) := by decide +kernel
theorem dX4_reckon_219 : decode cX4_reckon 219 = .ok (.iastore, 1) := by decide +kernel
theorem dX4_reckon_220 : decode cX4_reckon 220 = .ok (.iinc 8 1, 3) := by decide +kernel
theorem dX4_reckon_223 : decode cX4_reckon 223 = .ok (.goto (-211), 3) := by decide +kernel
theorem dX4_reckon_226 : decode cX4_reckon 226 = .ok (.iload 7, 2) := by decide +kernel
theorem dX4_reckon_228 : decode cX4_reckon 228 = .ok (.ifCond .le 15, 3) := by decide +kernel
theorem dX4_reckon_231 : decode cX4_reckon 231 = .ok (.aload_n 0, 1) := by decide +kernel
theorem dX4_reckon_232 : decode cX4_reckon 232 = .ok (.getfield 11, 3) := by decide +kernel
theorem dX4_reckon_235 : decode cX4_reckon 235 = .ok (.iload 7, 2) := by decide +kernel
theorem dX4_reckon_237 : decode cX4_reckon 237 = .ok (.iconst 1, 1) := by decide +kernel
theorem dX4_reckon_238 : decode cX4_reckon 238 = .ok (.isub, 1) := by decide +kernel
theorem dX4_reckon_239 : decode cX4_reckon 239 = .ok (.iaload, 1) := by decide +kernel
theorem dX4_reckon_240 : decode cX4_reckon 240 = .ok (.goto 4, 3) := by decide +kernel
theorem dX4_reckon_243 : decode cX4_reckon 243 = .ok (.iload_n 3, 1) := by decide +kernel
theorem dX4_reckon_244 : decode cX4_reckon 244 = .ok (.ireturn, 1) := by decide +kernel
theorem dX4_factOf_0 : decode cX4_factOf 0 = .ok (.iload_n 3, 1) := by decide +kernel
theorem dX4_factOf_1 : decode cX4_factOf 1 = .ok (.ifCond .lt 9, 3) := by decide +kernel
theorem dX4_factOf_4 : decode cX4_factOf 4 = .ok (.iload_n 3, 1) := by decide +kernel
theorem dX4_factOf_5 : decode cX4_factOf 5 = .ok (.bipush 36, 2) := by decide +kernel
theorem dX4_factOf_7 : decode cX4_factOf 7 = .ok (.if_icmp .lt 5, 3) := by decide +kernel
theorem dX4_factOf_10 : decode cX4_factOf 10 = .ok (.iconst 0, 1) := by decide +kernel
theorem dX4_factOf_11 : decode cX4_factOf 11 = .ok (.ireturn, 1) := by decide +kernel
theorem dX4_factOf_12 : decode cX4_factOf 12 = .ok (.iload_n 0, 1) := by decide +kernel
theorem dX4_factOf_13 : decode cX4_factOf 13 = .ok (.tableswitch 78 0 4 #[35, 38, 59, 64, 71], 35) := by decide +kernel
theorem dX4_factOf_48 : decode cX4_factOf 48 = .ok (.iload 4, 2) := by decide +kernel
theorem dX4_factOf_50 : decode cX4_factOf 50 = .ok (.ireturn, 1) := by decide +kernel
theorem dX4_factOf_51 : decode cX4_factOf 51 = .ok (.aload_n 1, 1) := by decide +kernel
theorem dX4_factOf_52 : decode cX4_factOf 52 = .ok (.getfield 29, 3) := by decide +kernel
theorem dX4_factOf_55 : decode cX4_factOf 55 = .ok (.iload_n 3, 1) := by decide +kernel
theorem dX4_factOf_56 : decode cX4_factOf 56 = .ok (.iaload, 1) := by decide +kernel
theorem dX4_factOf_57 : decode cX4_factOf 57 = .ok (.ifCond .le 12, 3) := by decide +kernel
theorem dX4_factOf_60 : decode cX4_factOf 60 = .ok (.aload_n 1, 1) := by decide +kernel
theorem dX4_factOf_61 : decode cX4_factOf 61 = .ok (.getfield 29, 3) := by decide +kernel
theorem dX4_factOf_64 : decode cX4_factOf 64 = .ok (.iload_n 3, 1) := by decide +kernel
theorem dX4_factOf_65 : decode cX4_factOf 65 = .ok (.iaload, 1) := by decide +kernel
theorem dX4_factOf_66 : decode cX4_factOf 66 = .ok (.goto 5, 3) := by decide +kernel
theorem dX4_factOf_69 : decode cX4_factOf 69 = .ok (.bipush 99, 2) := by decide +kernel
theorem dX4_factOf_71 : decode cX4_factOf 71 = .ok (.ireturn, 1) := by decide +kernel
theorem dX4_factOf_72 : decode cX4_factOf 72 = .ok (.aload_n 2, 1) := by decide +kernel
theorem dX4_factOf_73 : decode cX4_factOf 73 = .ok (.getfield 38, 3) := by decide +kernel
theorem dX4_factOf_76 : decode cX4_factOf 76 = .ok (.ireturn, 1) := by decide +kernel
theorem dX4_factOf_77 : decode cX4_factOf 77 = .ok (.aload_n 2, 1) := by decide +kernel
theorem dX4_factOf_78 : decode cX4_factOf 78 = .ok (.getfield 107, 3) := by decide +kernel
theorem dX4_factOf_81 : decode cX4_factOf 81 = .ok (.iload_n 3, 1) := by decide +kernel
theorem dX4_factOf_82 : decode cX4_factOf 82 = .ok (.iaload, 1) := by decide +kernel
theorem dX4_factOf_83 : decode cX4_factOf 83 = .ok (.ireturn, 1) := by decide +kernel
theorem dX4_factOf_84 : decode cX4_factOf 84 = .ok (.aload_n 2, 1) := by decide +kernel
theorem dX4_factOf_85 : decode cX4_factOf 85 = .ok (.getfield 110, 3) := by decide +kernel
theorem dX4_factOf_88 : decode cX4_factOf 88 = .ok (.iload_n 3, 1) := by decide +kernel
theorem dX4_factOf_89 : decode cX4_factOf 89 = .ok (.iaload, 1) := by decide +kernel
theorem dX4_factOf_90 : decode cX4_factOf 90 = .ok (.ireturn, 1) := by decide +kernel
theorem dX4_factOf_91 : decode cX4_factOf 91 = .ok (.iconst 0, 1) := by decide +kernel
theorem dX4_factOf_92 : decode cX4_factOf 92 = .ok (.ireturn, 1) := by decide +kernel
theorem dX4_joined_0 : decode cX4_joined 0 = .ok (.iload_n 0, 1) := by decide +kernel
theorem dX4_joined_1 : decode cX4_joined 1 = .ok (.tableswitch 175 5 16 #[63, 72, 81, 90, 108, 122, 128, 134, 138, 142, 153, 164], 63) := by decide +kernel
theorem dX4_joined_64 : decode cX4_joined 64 = .ok (.iload_n 1, 1) := by decide +kernel
theorem dX4_joined_65 : decode cX4_joined 65 = .ok (.i2l, 1) := by decide +kernel
theorem dX4_joined_66 : decode cX4_joined 66 = .ok (.iload_n 2, 1) := by decide +kernel
theorem dX4_joined_67 : decode cX4_joined 67 = .ok (.i2l, 1) := by decide +kernel
theorem dX4_joined_68 : decode cX4_joined 68 = .ok (.ladd, 1) := by decide +kernel
theorem dX4_joined_69 : decode cX4_joined 69 = .ok (.invokestatic 113, 3) := by decide +kernel
theorem dX4_joined_72 : decode cX4_joined 72 = .ok (.ireturn, 1) := by decide +kernel
theorem dX4_joined_73 : decode cX4_joined 73 = .ok (.iload_n 1, 1) := by decide +kernel
theorem dX4_joined_74 : decode cX4_joined 74 = .ok (.i2l, 1) := by decide +kernel
theorem dX4_joined_75 : decode cX4_joined 75 = .ok (.iload_n 2, 1) := by decide +kernel
theorem dX4_joined_76 : decode cX4_joined 76 = .ok (.i2l, 1) := by decide +kernel
theorem dX4_joined_77 : decode cX4_joined 77 = .ok (.lsub, 1) := by decide +kernel
theorem dX4_joined_78 : decode cX4_joined 78 = .ok (.invokestatic 113, 3) := by decide +kernel
theorem dX4_joined_81 : decode cX4_joined 81 = .ok (.ireturn, 1) := by decide +kernel
theorem dX4_joined_82 : decode cX4_joined 82 = .ok (.iload_n 1, 1) := by decide +kernel
theorem dX4_joined_83 : decode cX4_joined 83 = .ok (.i2l, 1) := by decide +kernel
theorem dX4_joined_84 : decode cX4_joined 84 = .ok (.iload_n 2, 1) := by decide +kernel
theorem dX4_joined_85 : decode cX4_joined 85 = .ok (.i2l, 1) := by decide +kernel
theorem dX4_joined_86 : decode cX4_joined 86 = .ok (.lmul, 1) := by decide +kernel
theorem dX4_joined_87 : decode cX4_joined 87 = .ok (.invokestatic 113, 3) := by decide +kernel
theorem dX4_joined_90 : decode cX4_joined 90 = .ok (.ireturn, 1) := by decide +kernel
theorem dX4_joined_91 : decode cX4_joined 91 = .ok (.iload_n 2, 1) := by decide +kernel
theorem dX4_joined_92 : decode cX4_joined 92 = .ok (.ifCond .ne 7, 3) := by decide +kernel
theorem dX4_joined_95 : decode cX4_joined 95 = .ok (.iconst 0, 1) := by decide +kernel
theorem dX4_joined_96 : decode cX4_joined 96 = .ok (.goto 12, 3) := by decide +kernel
theorem dX4_joined_99 : decode cX4_joined 99 = .ok (.iload_n 1, 1) := by decide +kernel
theorem dX4_joined_100 : decode cX4_joined 100 = .ok (.iload_n 2, 1) := by decide +kernel
theorem dX4_joined_101 : decode cX4_joined 101 = .ok (.invokestatic 117, 3) := by decide +kernel
theorem dX4_joined_104 : decode cX4_joined 104 = .ok (.i2l, 1) := by decide +kernel
theorem dX4_joined_105 : decode cX4_joined 105 = .ok (.invokestatic 113, 3) := by decide +kernel
theorem dX4_joined_108 : decode cX4_joined 108 = .ok (.ireturn, 1) := by decide +kernel
theorem dX4_joined_109 : decode cX4_joined 109 = .ok (.iload_n 2, 1) := by decide +kernel
theorem dX4_joined_110 : decode cX4_joined 110 = .ok (.ifCond .ne 7, 3) := by decide +kernel
theorem dX4_joined_113 : decode cX4_joined 113 = .ok (.iconst 0, 1) := by decide +kernel
theorem dX4_joined_114 : decode cX4_joined 114 = .ok (.goto 8, 3) := by decide +kernel
theorem dX4_joined_117 : decode cX4_joined 117 = .ok (.iload_n 1, 1) := by decide +kernel
theorem dX4_joined_118 : decode cX4_joined 118 = .ok (.iload_n 2, 1) := by decide +kernel
theorem dX4_joined_119 : decode cX4_joined 119 = .ok (.invokestatic 120, 3) := by decide +kernel
theorem dX4_joined_122 : decode cX4_joined 122 = .ok (.ireturn, 1) := by decide +kernel
theorem dX4_joined_123 : decode cX4_joined 123 = .ok (.iload_n 1, 1) := by decide +kernel
theorem dX4_joined_124 : decode cX4_joined 124 = .ok (.iload_n 2, 1) := by decide +kernel
theorem dX4_joined_125 : decode cX4_joined 125 = .ok (.invokestatic 41, 3) := by decide +kernel
theorem dX4_joined_128 : decode cX4_joined 128 = .ok (.ireturn, 1) := by decide +kernel
theorem dX4_joined_129 : decode cX4_joined 129 = .ok (.iload_n 1, 1) := by decide +kernel
theorem dX4_joined_130 : decode cX4_joined 130 = .ok (.iload_n 2, 1) := by decide +kernel
theorem dX4_joined_131 : decode cX4_joined 131 = .ok (.invokestatic 123, 3) := by decide +kernel
theorem dX4_joined_134 : decode cX4_joined 134 = .ok (.ireturn, 1) := by decide +kernel
theorem dX4_joined_135 : decode cX4_joined 135 = .ok (.iload_n 1, 1) := by decide +kernel
theorem dX4_joined_136 : decode cX4_joined 136 = .ok (.iload_n 2, 1) := by decide +kernel
theorem dX4_joined_137 : decode cX4_joined 137 = .ok (.ior, 1) := by decide +kernel
theorem dX4_joined_138 : decode cX4_joined 138 = .ok (.ireturn, 1) := by decide +kernel
theorem dX4_joined_139 : decode cX4_joined 139 = .ok (.iload_n 1, 1) := by decide +kernel
theorem dX4_joined_140 : decode cX4_joined 140 = .ok (.iload_n 2, 1) := by decide +kernel
theorem dX4_joined_141 : decode cX4_joined 141 = .ok (.iand, 1) := by decide +kernel
theorem dX4_joined_142 : decode cX4_joined 142 = .ok (.ireturn, 1) := by decide +kernel
theorem dX4_joined_143 : decode cX4_joined 143 = .ok (.iload_n 1, 1) := by decide +kernel
theorem dX4_joined_144 : decode cX4_joined 144 = .ok (.iload_n 2, 1) := by decide +kernel
theorem dX4_joined_145 : decode cX4_joined 145 = .ok (.if_icmp .ge 7, 3) := by decide +kernel
theorem dX4_joined_148 : decode cX4_joined 148 = .ok (.iconst 1, 1) := by decide +kernel
theorem dX4_joined_149 : decode cX4_joined 149 = .ok (.goto 4, 3) := by decide +kernel
theorem dX4_joined_152 : decode cX4_joined 152 = .ok (.iconst 0, 1) := by decide +kernel
theorem dX4_joined_153 : decode cX4_joined 153 = .ok (.ireturn, 1) := by decide +kernel
theorem dX4_joined_154 : decode cX4_joined 154 = .ok (.iload_n 1, 1) := by decide +kernel
theorem dX4_joined_155 : decode cX4_joined 155 = .ok (.iload_n 2, 1) := by decide +kernel
theorem dX4_joined_156 : decode cX4_joined 156 = .ok (.if_icmp .le 7, 3) := by decide +kernel
theorem dX4_joined_159 : decode cX4_joined 159 = .ok (.iconst 1, 1) := by decide +kernel
theorem dX4_joined_160 : decode cX4_joined 160 = .ok (.goto 4, 3) := by decide +kernel
theorem dX4_joined_163 : decode cX4_joined 163 = .ok (.iconst 0, 1) := by decide +kernel
theorem dX4_joined_164 : decode cX4_joined 164 = .ok (.ireturn, 1) := by decide +kernel
theorem dX4_joined_165 : decode cX4_joined 165 = .ok (.iload_n 1, 1) := by decide +kernel
theorem dX4_joined_166 : decode cX4_joined 166 = .ok (.iload_n 2, 1) := by decide +kernel
theorem dX4_joined_167 : decode cX4_joined 167 = .ok (.if_icmp .ne 7, 3) := by decide +kernel
theorem dX4_joined_170 : decode cX4_joined 170 = .ok (.iconst 1, 1) := by decide +kernel
theorem dX4_joined_171 : decode cX4_joined 171 = .ok (.goto 4, 3) := by decide +kernel
theorem dX4_joined_174 : decode cX4_joined 174 = .ok (.iconst 0, 1) := by decide +kernel
theorem dX4_joined_175 : decode cX4_joined 175 = .ok (.ireturn, 1) := by decide +kernel
theorem dX4_joined_176 : decode cX4_joined 176 = .ok (.iconst 0, 1) := by decide +kernel
theorem dX4_joined_177 : decode cX4_joined 177 = .ok (.ireturn, 1) := by decide +kernel
theorem dX4_bounded_0 : decode cX4_bounded 0 = .ok (.ldc2_w 126, 3) := by decide +kernel
theorem dX4_bounded_3 : decode cX4_bounded 3 = .ok (.ldc2_w 128, 3) := by decide +kernel
theorem dX4_bounded_6 : decode cX4_bounded 6 = .ok (.lload_n 0, 1) := by decide +kernel
theorem dX4_bounded_7 : decode cX4_bounded 7 = .ok (.invokestatic 130, 3) := by decide +kernel
theorem dX4_bounded_10 : decode cX4_bounded 10 = .ok (.invokestatic 133, 3) := by decide +kernel
theorem dX4_bounded_13 : decode cX4_bounded 13 = .ok (.l2i, 1) := by decide +kernel
theorem dX4_bounded_14 : decode cX4_bounded 14 = .ok (.ireturn, 1) := by decide +kernel
theorem dX5_readTown_0 : decode cX5_readTown 0 = .ok (.aload_n 0, 1) := by decide +kernel
theorem dX5_readTown_1 : decode cX5_readTown 1 = .ok (.getfield 29, 3) := by decide +kernel
theorem dX5_readTown_4 : decode cX5_readTown 4 = .ok (.getfield 120, 3) := by decide +kernel
theorem dX5_readTown_7 : decode cX5_readTown 7 = .ok (.bipush 6, 2) := by decide +kernel
theorem dX5_readTown_9 : decode cX5_readTown 9 = .ok (.if_icmp .lt 14, 3) := by decide +kernel
theorem dX5_readTown_12 : decode cX5_readTown 12 = .ok (.aload_n 0, 1) := by decide +kernel
theorem dX5_readTown_13 : decode cX5_readTown 13 = .ok (.bipush 6, 2) := by decide +kernel
theorem dX5_readTown_15 : decode cX5_readTown 15 = .ok (.aload_n 0, 1) := by decide +kernel
theorem dX5_readTown_16 : decode cX5_readTown 16 = .ok (.getfield 23, 3) := by decide +kernel
theorem dX5_readTown_19 : decode cX5_readTown 19 = .ok (.invokevirtual 73, 3) := by decide +kernel
theorem dX5_readTown_22 : decode cX5_readTown 22 = .ok (.return_, 1) := by decide +kernel
theorem dX5_readTown_23 : decode cX5_readTown 23 = .ok (.aload_n 0, 1) := by decide +kernel
theorem dX5_readTown_24 : decode cX5_readTown 24 = .ok (.invokevirtual 70, 3) := by decide +kernel
theorem dX5_readTown_27 : decode cX5_readTown 27 = .ok (.aload_n 0, 1) := by decide +kernel
theorem dX5_readTown_28 : decode cX5_readTown 28 = .ok (.getfield 17, 3) := by decide +kernel
theorem dX5_readTown_31 : decode cX5_readTown 31 = .ok (.iconst 3, 1) := by decide +kernel
theorem dX5_readTown_32 : decode cX5_readTown 32 = .ok (.if_icmp .eq 10, 3) := by decide +kernel
theorem dX5_readTown_35 : decode cX5_readTown 35 = .ok (.aload_n 0, 1) := by decide +kernel
theorem dX5_readTown_36 : decode cX5_readTown 36 = .ok (.invokevirtual 117, 3) := by decide +kernel
theorem dX5_readTown_39 : decode cX5_readTown 39 = .ok (.goto 66, 3) := by decide +kernel
theorem dX5_readTown_42 : decode cX5_readTown 42 = .ok (.aload_n 0, 1) := by decide +kernel
theorem dX5_readTown_43 : decode cX5_readTown 43 = .ok (.getfield 29, 3) := by decide +kernel
theorem dX5_readTown_46 : decode cX5_readTown 46 = .ok (.aload_n 0, 1) := by decide +kernel
theorem dX5_readTown_47 : decode cX5_readTown 47 = .ok (.getfield 20, 3) := by decide +kernel
theorem dX5_readTown_50 : decode cX5_readTown 50 = .ok (.invokevirtual 123, 3) := by decide +kernel
theorem dX5_readTown_53 : decode cX5_readTown 53 = .ok (.iconst (-1), 1) := by decide +kernel
theorem dX5_readTown_54 : decode cX5_readTown 54 = .ok (.if_icmp .eq 15, 3) := by decide +kernel
theorem dX5_readTown_57 : decode cX5_readTown 57 = .ok (.aload_n 0, 1) := by decide +kernel
theorem dX5_readTown_58 : decode cX5_readTown 58 = .ok (.iconst 2, 1) := by decide +kernel
theorem dX5_readTown_59 : decode cX5_readTown 59 = .ok (.aload_n 0, 1) := by decide +kernel
theorem dX5_readTown_60 : decode cX5_readTown 60 = .ok (.getfield 23, 3) := by decide +kernel
theorem dX5_readTown_63 : decode cX5_readTown 63 = .ok (.invokevirtual 73, 3) := by decide +kernel
theorem dX5_readTown_66 : decode cX5_readTown 66 = .ok (.goto 39, 3) := by decide +kernel
theorem dX5_readTown_69 : decode cX5_readTown 69 = .ok (.aload_n 0, 1) := by decide +kernel
theorem dX5_readTown_70 : decode cX5_readTown 70 = .ok (.getfield 29, 3) := by decide +kernel
theorem dX5_readTown_73 : decode cX5_readTown 73 = .ok (.getfield 127, 3) := by decide +kernel
theorem dX5_readTown_76 : decode cX5_readTown 76 = .ok (.aload_n 0, 1) := by decide +kernel
theorem dX5_readTown_77 : decode cX5_readTown 77 = .ok (.getfield 29, 3) := by decide +kernel
theorem dX5_readTown_80 : decode cX5_readTown 80 = .ok (.getfield 120, 3) := by decide +kernel
theorem dX5_readTown_83 : decode cX5_readTown 83 = .ok (.aload_n 0, 1) := by decide +kernel
theorem dX5_readTown_84 : decode cX5_readTown 84 = .ok (.getfield 20, 3) := by decide +kernel
theorem dX5_readTown_87 : decode cX5_readTown 87 = .ok (.iastore, 1) := by decide +kernel
theorem dX5_readTown_88 : decode cX5_readTown 88 = .ok (.aload_n 0, 1) := by decide +kernel
theorem dX5_readTown_89 : decode cX5_readTown 89 = .ok (.getfield 29, 3) := by decide +kernel
theorem dX5_readTown_92 : decode cX5_readTown 92 = .ok (.dup, 1) := by decide +kernel
theorem dX5_readTown_93 : decode cX5_readTown 93 = .ok (.getfield 120, 3) := by decide +kernel
theorem dX5_readTown_96 : decode cX5_readTown 96 = .ok (.iconst 1, 1) := by decide +kernel
theorem dX5_readTown_97 : decode cX5_readTown 97 = .ok (.iadd, 1) := by decide +kernel
theorem dX5_readTown_98 : decode cX5_readTown 98 = .ok (.putfield 120, 3) := by decide +kernel
theorem dX5_readTown_101 : decode cX5_readTown 101 = .ok (.aload_n 0, 1) := by decide +kernel
theorem dX5_readTown_102 : decode cX5_readTown 102 = .ok (.invokevirtual 70, 3) := by decide +kernel
theorem dX5_readTown_105 : decode cX5_readTown 105 = .ok (.return_, 1) := by decide +kernel
theorem dX5_readCart_0 : decode cX5_readCart 0 = .ok (.aload_n 0, 1) := by decide +kernel
theorem dX5_readCart_1 : decode cX5_readCart 1 = .ok (.getfield 29, 3) := by decide +kernel
theorem dX5_readCart_4 : decode cX5_readCart 4 = .ok (.getfield 130, 3) := by decide +kernel
theorem dX5_readCart_7 : decode cX5_readCart 7 = .ok (.bipush 12, 2) := by decide +kernel
theorem dX5_readCart_9 : decode cX5_readCart 9 = .ok (.if_icmp .lt 14, 3) := by decide +kernel
theorem dX5_readCart_12 : decode cX5_readCart 12 = .ok (.aload_n 0, 1) := by decide +kernel
theorem dX5_readCart_13 : decode cX5_readCart 13 = .ok (.bipush 6, 2) := by decide +kernel
theorem dX5_readCart_15 : decode cX5_readCart 15 = .ok (.aload_n 0, 1) := by decide +kernel
theorem dX5_readCart_16 : decode cX5_readCart 16 = .ok (.getfield 23, 3) := by decide +kernel
theorem dX5_readCart_19 : decode cX5_readCart 19 = .ok (.invokevirtual 73, 3) := by decide +kernel
theorem dX5_readCart_22 : decode cX5_readCart 22 = .ok (.return_, 1) := by decide +kernel
theorem dX5_readCart_23 : decode cX5_readCart 23 = .ok (.aload_n 0, 1) := by decide +kernel
theorem dX5_readCart_24 : decode cX5_readCart 24 = .ok (.invokevirtual 70, 3) := by decide +kernel
theorem dX5_readCart_27 : decode cX5_readCart 27 = .ok (.aload_n 0, 1) := by decide +kernel
theorem dX5_readCart_28 : decode cX5_readCart 28 = .ok (.iconst (-1), 1) := by decide +kernel
theorem dX5_readCart_29 : decode cX5_readCart 29 = .ok (.iconst 1, 1) := by decide +kernel
theorem dX5_readCart_30 : decode cX5_readCart 30 = .ok (.invokevirtual 133, 3) := by decide +kernel
theorem dX5_readCart_33 : decode cX5_readCart 33 = .ok (.istore_n 1, 1) := by decide +kernel
theorem dX5_readCart_34 : decode cX5_readCart 34 = .ok (.aload_n 0, 1) := by decide +kernel
theorem dX5_readCart_35 : decode cX5_readCart 35 = .ok (.iconst 2, 1) := by decide +kernel
theorem dX5_readCart_36 : decode cX5_readCart 36 = .ok (.invokevirtual 137, 3) := by decide +kernel
theorem dX5_readCart_39 : decode cX5_readCart 39 = .ok (.aload_n 0, 1) := by decide +kernel
theorem dX5_readCart_40 : decode cX5_readCart 40 = .ok (.iload_n 1, 1) := by decide +kernel
theorem dX5_readCart_41 : decode cX5_readCart 41 = .ok (.iconst 1, 1) := by decide +kernel
theorem dX5_readCart_42 : decode cX5_readCart 42 = .ok (.invokevirtual 133, 3) := by decide +kernel
theorem dX5_readCart_45 : decode cX5_readCart 45 = .ok (.istore_n 2, 1) := by decide +kernel
theorem dX5_readCart_46 : decode cX5_readCart 46 = .ok (.aload_n 0, 1) := by decide +kernel
theorem dX5_readCart_47 : decode cX5_readCart 47 = .ok (.iconst 3, 1) := by decide +kernel
theorem dX5_readCart_48 : decode cX5_readCart 48 = .ok (.invokevirtual 137, 3) := by decide +kernel
theorem dX5_readCart_51 : decode cX5_readCart 51 = .ok (.aload_n 0, 1) := by decide +kernel
theorem dX5_readCart_52 : decode cX5_readCart 52 = .ok (.iconst 1, 1) := by decide +kernel
theorem dX5_readCart_53 : decode cX5_readCart 53 = .ok (.bipush 9, 2) := by decide +kernel
theorem dX5_readCart_55 : decode cX5_readCart 55 = .ok (.invokevirtual 108, 3) := by decide +kernel
theorem dX5_readCart_58 : decode cX5_readCart 58 = .ok (.istore_n 3, 1) := by decide +kernel
theorem dX5_readCart_59 : decode cX5_readCart 59 = .ok (.aload_n 0, 1) := by decide +kernel
theorem dX5_readCart_60 : decode cX5_readCart 60 = .ok (.getfield 43, 3) := by decide +kernel
theorem dX5_readCart_63 : decode cX5_readCart 63 = .ok (.ifCond .ne 58, 3) := by decide +kernel
theorem dX5_readCart_66 : decode cX5_readCart 66 = .ok (.aload_n 0, 1) := by decide +kernel
theorem dX5_readCart_67 : decode cX5_readCart 67 = .ok (.getfield 29, 3) := by decide +kernel
theorem dX5_readCart_70 : decode cX5_readCart 70 = .ok (.iload_n 1, 1) := by decide +kernel
theorem dX5_readCart_71 : decode cX5_readCart 71 = .ok (.iload_n 2, 1) := by decide +kernel
theorem dX5_readCart_72 : decode cX5_readCart 72 = .ok (.invokevirtual 140, 3) := by decide +kernel
theorem dX5_readCart_75 : decode cX5_readCart 75 = .ok (.ifCond .eq 46, 3) := by decide +kernel
theorem dX5_readCart_78 : decode cX5_readCart 78 = .ok (.aload_n 0, 1) := by decide +kernel
theorem dX5_readCart_79 : decode cX5_readCart 79 = .ok (.getfield 29, 3) := by decide +kernel
theorem dX5_readCart_82 : decode cX5_readCart 82 = .ok (.getfield 144, 3) := by decide +kernel
theorem dX5_readCart_85 : decode cX5_readCart 85 = .ok (.iload_n 1, 1) := by decide +kernel
theorem dX5_readCart_86 : decode cX5_readCart 86 = .ok (.bipush 6, 2) := by decide +kernel
theorem dX5_readCart_88 : decode cX5_readCart 88 = .ok (.imul, 1) := by decide +kernel
theorem dX5_readCart_89 : decode cX5_readCart 89 = .ok (.iload_n 2, 1) := by decide +kernel
theorem dX5_readCart_90 : decode cX5_readCart 90 = .ok (.iadd, 1) := by decide +kernel
theorem dX5_readCart_91 : decode cX5_readCart 91 = .ok (.iload_n 3, 1) := by decide +kernel
theorem dX5_readCart_92 : decode cX5_readCart 92 = .ok (.iastore, 1) := by decide +kernel
theorem dX5_readCart_93 : decode cX5_readCart 93 = .ok (.aload_n 0, 1) := by decide +kernel
theorem dX5_readCart_94 : decode cX5_readCart 94 = .ok (.getfield 29, 3) := by decide +kernel
theorem dX5_readCart_97 : decode cX5_readCart 97 = .ok (.getfield 144, 3) := by decide +kernel
theorem dX5_readCart_100 : decode cX5_readCart 100 = .ok (.iload_n 2, 1) := by decide +kernel
theorem dX5_readCart_101 : decode cX5_readCart 101 = .ok (.bipush 6, 2) := by decide +kernel
theorem dX5_readCart_103 : decode cX5_readCart 103 = .ok (.imul, 1) := by decide +kernel
theorem dX5_readCart_104 : decode cX5_readCart 104 = .ok (.iload_n 1, 1) := by decide +kernel
theorem dX5_readCart_105 : decode cX5_readCart 105 = .ok (.iadd, 1) := by decide +kernel
theorem dX5_readCart_106 : decode cX5_readCart 106 = .ok (.iload_n 3, 1) := by decide +kernel
theorem dX5_readCart_107 : decode cX5_readCart 107 = .ok (.iastore, 1) := by decide +kernel
theorem dX5_readCart_108 : decode cX5_readCart 108 = .ok (.aload_n 0, 1) := by decide +kernel
theorem dX5_readCart_109 : decode cX5_readCart 109 = .ok (.getfield 29, 3) := by decide +kernel
theorem dX5_readCart_112 : decode cX5_readCart 112 = .ok (.dup, 1) := by decide +kernel
theorem dX5_readCart_113 : decode cX5_readCart 113 = .ok (.getfield 130, 3) := by decide +kernel
theorem dX5_readCart_116 : decode cX5_readCart 116 = .ok (.iconst 1, 1) := by decide +kernel
theorem dX5_readCart_117 : decode cX5_readCart 117 = .ok (.iadd, 1) := by decide +kernel
theorem dX5_readCart_118 : decode cX5_readCart 118 = .ok (.putfield 130, 3) := by decide +kernel
theorem dX5_readCart_121 : decode cX5_readCart 121 = .ok (.return_, 1) := by decide +kernel
theorem dX5_readHolds_0 : decode cX5_readHolds 0 = .ok (.aload_n 0, 1) := by decide +kernel
theorem dX5_readHolds_1 : decode cX5_readHolds 1 = .ok (.invokevirtual 70, 3) := by decide +kernel
theorem dX5_readHolds_4 : decode cX5_readHolds 4 = .ok (.aload_n 0, 1) := by decide +kernel
theorem dX5_readHolds_5 : decode cX5_readHolds 5 = .ok (.iconst (-1), 1) := by decide +kernel
theorem dX5_readHolds_6 : decode cX5_readHolds 6 = .ok (.iconst 0, 1) := by decide +kernel
theorem dX5_readHolds_7 : decode cX5_readHolds 7 = .ok (.invokevirtual 133, 3) := by decide +kernel
theorem dX5_readHolds_10 : decode cX5_readHolds 10 = .ok (.istore_n 1, 1) := by decide +kernel
theorem dX5_readHolds_11 : decode cX5_readHolds 11 = .ok (.aload_n 0, 1) := by decide +kernel
theorem dX5_readHolds_12 : decode cX5_readHolds 12 = .ok (.iconst 5, 1) := by decide +kernel
theorem dX5_readHolds_13 : decode cX5_readHolds 13 = .ok (.invokevirtual 137, 3) := by decide +kernel
theorem dX5_readHolds_16 : decode cX5_readHolds 16 = .ok (.aload_n 0, 1) := by decide +kernel
theorem dX5_readHolds_17 : decode cX5_readHolds 17 = .ok (.iload_n 1, 1) := by decide +kernel
theorem dX5_readHolds_18 : decode cX5_readHolds 18 = .ok (.iconst 0, 1) := by decide +kernel
theorem dX5_readHolds_19 : decode cX5_readHolds 19 = .ok (.invokevirtual 133, 3) := by decide +kernel
theorem dX5_readHolds_22 : decode cX5_readHolds 22 = .ok (.istore_n 2, 1) := by decide +kernel
theorem dX5_readHolds_23 : decode cX5_readHolds 23 = .ok (.aload_n 0, 1) := by decide +kernel
theorem dX5_readHolds_24 : decode cX5_readHolds 24 = .ok (.iconst 0, 1) := by decide +kernel
theorem dX5_readHolds_25 : decode cX5_readHolds 25 = .ok (.bipush 20, 2) := by decide +kernel
theorem dX5_readHolds_27 : decode cX5_readHolds 27 = .ok (.invokevirtual 108, 3) := by decide +kernel
theorem dX5_readHolds_30 : decode cX5_readHolds 30 = .ok (.istore_n 3, 1) := by decide +kernel
theorem dX5_readHolds_31 : decode cX5_readHolds 31 = .ok (.aload_n 0, 1) := by decide +kernel
theorem dX5_readHolds_32 : decode cX5_readHolds 32 = .ok (.getfield 43, 3) := by decide +kernel
theorem dX5_readHolds_35 : decode cX5_readHolds 35 = .ok (.ifCond .ne 30, 3) := by decide +kernel
theorem dX5_readHolds_38 : decode cX5_readHolds 38 = .ok (.aload_n 0, 1) := by decide +kernel
theorem dX5_readHolds_39 : decode cX5_readHolds 39 = .ok (.getfield 29, 3) := by decide +kernel
theorem dX5_readHolds_42 : decode cX5_readHolds 42 = .ok (.iload_n 1, 1) := by decide +kernel
theorem dX5_readHolds_43 : decode cX5_readHolds 43 = .ok (.iload_n 2, 1) := by decide +kernel
theorem dX5_readHolds_44 : decode cX5_readHolds 44 = .ok (.invokevirtual 140, 3) := by decide +kernel
theorem dX5_readHolds_47 : decode cX5_readHolds 47 = .ok (.ifCond .eq 18, 3) := by decide +kernel
theorem dX5_readHolds_50 : decode cX5_readHolds 50 = .ok (.aload_n 0, 1) := by decide +kernel
theorem dX5_readHolds_51 : decode cX5_readHolds 51 = .ok (.getfield 29, 3) := by decide +kernel
theorem dX5_readHolds_54 : decode cX5_readHolds 54 = .ok (.getfield 147, 3) := by decide +kernel
theorem dX5_readHolds_57 : decode cX5_readHolds 57 = .ok (.iload_n 1, 1) := by decide +kernel
theorem dX5_readHolds_58 : decode cX5_readHolds 58 = .ok (.bipush 6, 2) := by decide +kernel
theorem dX5_readHolds_60 : decode cX5_readHolds 60 = .ok (.imul, 1) := by decide +kernel
theorem dX5_readHolds_61 : decode cX5_readHolds 61 = .ok (.iload_n 2, 1) := by decide +kernel
theorem dX5_readHolds_62 : decode cX5_readHolds 62 = .ok (.iadd, 1) := by decide +kernel
theorem dX5_readHolds_63 : decode cX5_readHolds 63 = .ok (.iload_n 3, 1) := by decide +kernel
theorem dX5_readHolds_64 : decode cX5_readHolds 64 = .ok (.iastore, 1) := by decide +kernel
theorem dX5_readHolds_65 : decode cX5_readHolds 65 = .ok (.return_, 1) := by decide +kernel
theorem dX5_readNamed_0 : decode cX5_readNamed 0 = .ok (.aload_n 0, 1) := by decide +kernel
theorem dX5_readNamed_1 : decode cX5_readNamed 1 = .ok (.getfield 17, 3) := by decide +kernel
theorem dX5_readNamed_4 : decode cX5_readNamed 4 = .ok (.iconst 3, 1) := by decide +kernel
theorem dX5_readNamed_5 : decode cX5_readNamed 5 = .ok (.if_icmp .eq 9, 3) := by decide +kernel
theorem dX5_readNamed_8 : decode cX5_readNamed 8 = .ok (.aload_n 0, 1) := by decide +kernel
theorem dX5_readNamed_9 : decode cX5_readNamed 9 = .ok (.invokevirtual 117, 3) := by decide +kernel
theorem dX5_readNamed_12 : decode cX5_readNamed 12 = .ok (.iconst (-1), 1) := by decide +kernel
theorem dX5_readNamed_13 : decode cX5_readNamed 13 = .ok (.ireturn, 1) := by decide +kernel
theorem dX5_readNamed_14 : decode cX5_readNamed 14 = .ok (.aload_n 0, 1) := by decide +kernel
theorem dX5_readNamed_15 : decode cX5_readNamed 15 = .ok (.getfield 29, 3) := by decide +kernel
theorem dX5_readNamed_18 : decode cX5_readNamed 18 = .ok (.aload_n 0, 1) := by decide +kernel
theorem dX5_readNamed_19 : decode cX5_readNamed 19 = .ok (.getfield 20, 3) := by decide +kernel
theorem dX5_readNamed_22 : decode cX5_readNamed 22 = .ok (.invokevirtual 123, 3) := by decide +kernel
theorem dX5_readNamed_25 : decode cX5_readNamed 25 = .ok (.istore_n 3, 1) := by decide +kernel
theorem dX5_readNamed_26 : decode cX5_readNamed 26 = .ok (.iload_n 3, 1) := by decide +kernel
theorem dX5_readNamed_27 : decode cX5_readNamed 27 = .ok (.iconst (-1), 1) := by decide +kernel
theorem dX5_readNamed_28 : decode cX5_readNamed 28 = .ok (.if_icmp .eq 8, 3) := by decide +kernel
theorem dX5_readNamed_31 : decode cX5_readNamed 31 = .ok (.iload_n 3, 1) := by decide +kernel
theorem dX5_readNamed_32 : decode cX5_readNamed 32 = .ok (.iload_n 1, 1) := by decide +kernel
theorem dX5_readNamed_33 : decode cX5_readNamed 33 = .ok (.if_icmp .ne 7, 3) := by decide +kernel
theorem dX5_readNamed_36 : decode cX5_readNamed 36 = .ok (.iconst 1, 1) := by decide +kernel
theorem dX5_readNamed_37 : decode cX5_readNamed 37 = .ok (.goto 4, 3) := by decide +kernel
theorem dX5_readNamed_40 : decode cX5_readNamed 40 = .ok (.iconst 0, 1) := by decide +kernel
theorem dX5_readNamed_41 : decode cX5_readNamed 41 = .ok (.istore 4, 2) := by decide +kernel
theorem dX5_readNamed_43 : decode cX5_readNamed 43 = .ok (.iload 4, 2) := by decide +kernel
theorem dX5_readNamed_45 : decode cX5_readNamed 45 = .ok (.ifCond .ne 43, 3) := by decide +kernel
theorem dX5_readNamed_48 : decode cX5_readNamed 48 = .ok (.iload_n 2, 1) := by decide +kernel
theorem dX5_readNamed_49 : decode cX5_readNamed 49 = .ok (.ifCond .eq 39, 3) := by decide +kernel
theorem dX5_readNamed_52 : decode cX5_readNamed 52 = .ok (.aload_n 0, 1) := by decide +kernel
theorem dX5_readNamed_53 : decode cX5_readNamed 53 = .ok (.getfield 29, 3) := by decide +kernel
theorem dX5_readNamed_56 : decode cX5_readNamed 56 = .ok (.iload_n 1, 1) := by decide +kernel
theorem dX5_readNamed_57 : decode cX5_readNamed 57 = .ok (.iload_n 3, 1) := by decide +kernel
theorem dX5_readNamed_58 : decode cX5_readNamed 58 = .ok (.invokevirtual 140, 3) := by decide +kernel
theorem dX5_readNamed_61 : decode cX5_readNamed 61 = .ok (.ifCond .eq 27, 3) := by decide +kernel
theorem dX5_readNamed_64 : decode cX5_readNamed 64 = .ok (.aload_n 0, 1) := by decide +kernel
theorem dX5_readNamed_65 : decode cX5_readNamed 65 = .ok (.getfield 29, 3) := by decide +kernel
theorem dX5_readNamed_68 : decode cX5_readNamed 68 = .ok (.getfield 144, 3) := by decide +kernel
theorem dX5_readNamed_71 : decode cX5_readNamed 71 = .ok (.iload_n 1, 1) := by decide +kernel
theorem dX5_readNamed_72 : decode cX5_readNamed 72 = .ok (.bipush 6, 2) := by decide +kernel
theorem dX5_readNamed_74 : decode cX5_readNamed 74 = .ok (.imul, 1) := by decide +kernel
theorem dX5_readNamed_75 : decode cX5_readNamed 75 = .ok (.iload_n 3, 1) := by decide +kernel
theorem dX5_readNamed_76 : decode cX5_readNamed 76 = .ok (.iadd, 1) := by decide +kernel
theorem dX5_readNamed_77 : decode cX5_readNamed 77 = .ok (.iaload, 1) := by decide +kernel
theorem dX5_readNamed_78 : decode cX5_readNamed 78 = .ok (.ifCond .le 7, 3) := by decide +kernel
theorem dX5_readNamed_81 : decode cX5_readNamed 81 = .ok (.iconst 1, 1) := by decide +kernel
theorem dX5_readNamed_82 : decode cX5_readNamed 82 = .ok (.goto 4, 3) := by decide +kernel
theorem dX5_readNamed_85 : decode cX5_readNamed 85 = .ok (.iconst 0, 1) := by decide +kernel
theorem dX5_readNamed_86 : decode cX5_readNamed 86 = .ok (.istore 4, 2) := by decide +kernel
theorem dX5_readNamed_88 : decode cX5_readNamed 88 = .ok (.iload 4, 2) := by decide +kernel
theorem dX5_readNamed_90 : decode cX5_readNamed 90 = .ok (.ifCond .eq 14, 3) := by decide +kernel
theorem dX5_readNamed_93 : decode cX5_readNamed 93 = .ok (.aload_n 0, 1) := by decide +kernel
theorem dX5_readNamed_94 : decode cX5_readNamed 94 = .ok (.iconst 3, 1) := by decide +kernel
theorem dX5_readNamed_95 : decode cX5_readNamed 95 = .ok (.aload_n 0, 1) := by decide +kernel
theorem dX5_readNamed_96 : decode cX5_readNamed 96 = .ok (.getfield 23, 3) := by decide +kernel
theorem dX5_readNamed_99 : decode cX5_readNamed 99 = .ok (.invokevirtual 73, 3) := by decide +kernel
theorem dX5_readNamed_102 : decode cX5_readNamed 102 = .ok (.iconst (-1), 1) := by decide +kernel
theorem dX5_readNamed_103 : decode cX5_readNamed 103 = .ok (.ireturn, 1) := by decide +kernel
theorem dX5_readNamed_104 : decode cX5_readNamed 104 = .ok (.aload_n 0, 1) := by decide +kernel
theorem dX5_readNamed_105 : decode cX5_readNamed 105 = .ok (.invokevirtual 70, 3) := by decide +kernel
theorem dX5_readNamed_108 : decode cX5_readNamed 108 = .ok (.iload_n 3, 1) := by decide +kernel
theorem dX5_readNamed_109 : decode cX5_readNamed 109 = .ok (.ireturn, 1) := by decide +kernel
theorem dX5_readNumber_0 : decode cX5_readNumber 0 = .ok (.aload_n 0, 1) := by decide +kernel
theorem dX5_readNumber_1 : decode cX5_readNumber 1 = .ok (.getfield 17, 3) := by decide +kernel
theorem dX5_readNumber_4 : decode cX5_readNumber 4 = .ok (.iconst 2, 1) := by decide +kernel
theorem dX5_readNumber_5 : decode cX5_readNumber 5 = .ok (.if_icmp .eq 9, 3) := by decide +kernel
theorem dX5_readNumber_8 : decode cX5_readNumber 8 = .ok (.aload_n 0, 1) := by decide +kernel
theorem dX5_readNumber_9 : decode cX5_readNumber 9 = .ok (.invokevirtual 117, 3) := by decide +kernel
theorem dX5_readNumber_12 : decode cX5_readNumber 12 = .ok (.iconst 0, 1) := by decide +kernel
theorem dX5_readNumber_13 : decode cX5_readNumber 13 = .ok (.ireturn, 1) := by decide +kernel
theorem dX5_readNumber_14 : decode cX5_readNumber 14 = .ok (.aload_n 0, 1) := by decide +kernel
theorem dX5_readNumber_15 : decode cX5_readNumber 15 = .ok (.getfield 20, 3) := by decide +kernel
theorem dX5_readNumber_18 : decode cX5_readNumber 18 = .ok (.istore_n 3, 1) := by decide +kernel
theorem dX5_readNumber_19 : decode cX5_readNumber 19 = .ok (.iload_n 3, 1) := by decide +kernel
theorem dX5_readNumber_20 : decode cX5_readNumber 20 = .ok (.iload_n 1, 1) := by decide +kernel
theorem dX5_readNumber_21 : decode cX5_readNumber 21 = .ok (.if_icmp .lt 8, 3) := by decide +kernel
theorem dX5_readNumber_24 : decode cX5_readNumber 24 = .ok (.iload_n 3, 1) := by decide +kernel
theorem dX5_readNumber_25 : decode cX5_readNumber 25 = .ok (.iload_n 2, 1) := by decide +kernel
theorem dX5_readNumber_26 : decode cX5_readNumber 26 = .ok (.if_icmp .le 14, 3) := by decide +kernel
theorem dX5_readNumber_29 : decode cX5_readNumber 29 = .ok (.aload_n 0, 1) := by decide +kernel
theorem dX5_readNumber_30 : decode cX5_readNumber 30 = .ok (.iconst 4, 1) := by decide +kernel
theorem dX5_readNumber_31 : decode cX5_readNumber 31 = .ok (.aload_n 0, 1) := by decide +kernel
theorem dX5_readNumber_32 : decode cX5_readNumber 32 = .ok (.getfield 23, 3) := by decide +kernel
theorem dX5_readNumber_35 : decode cX5_readNumber 35 = .ok (.invokevirtual 73, 3) := by decide +kernel
theorem dX5_readNumber_38 : decode cX5_readNumber 38 = .ok (.iconst 0, 1) := by decide +kernel
theorem dX5_readNumber_39 : decode cX5_readNumber 39 = .ok (.ireturn, 1) := by decide +kernel
theorem dX5_readNumber_40 : decode cX5_readNumber 40 = .ok (.aload_n 0, 1) := by decide +kernel
theorem dX5_readNumber_41 : decode cX5_readNumber 41 = .ok (.invokevirtual 70, 3) := by decide +kernel
theorem dX5_readNumber_44 : decode cX5_readNumber 44 = .ok (.iload_n 3, 1) := by decide +kernel
theorem dX5_readNumber_45 : decode cX5_readNumber 45 = .ok (.ireturn, 1) := by decide +kernel
theorem dX5_readTest_0 : decode cX5_readTest 0 = .ok (.aload_n 0, 1) := by decide +kernel
theorem dX5_readTest_1 : decode cX5_readTest 1 = .ok (.invokevirtual 161, 3) := by decide +kernel
theorem dX5_readTest_4 : decode cX5_readTest 4 = .ok (.iconst 0, 1) := by decide +kernel
theorem dX5_readTest_5 : decode cX5_readTest 5 = .ok (.istore_n 1, 1) := by decide +kernel
theorem dX5_readTest_6 : decode cX5_readTest 6 = .ok (.iload_n 1, 1) := by decide +kernel
theorem dX5_readTest_7 : decode cX5_readTest 7 = .ok (.sipush 1600, 3) := by decide +kernel
theorem dX5_readTest_10 : decode cX5_readTest 10 = .ok (.if_icmp .ge 32, 3) := by decide +kernel
theorem dX5_readTest_13 : decode cX5_readTest 13 = .ok (.aload_n 0, 1) := by decide +kernel
theorem dX5_readTest_14 : decode cX5_readTest 14 = .ok (.bipush 17, 2) := by decide +kernel
theorem dX5_readTest_16 : decode cX5_readTest 16 = .ok (.invokevirtual 164, 3) := by decide +kernel
theorem dX5_readTest_19 : decode cX5_readTest 19 = .ok (.ifCond .eq 23, 3) := by decide +kernel
theorem dX5_readTest_22 : decode cX5_readTest 22 = .ok (.aload_n 0, 1) := by decide +kernel
theorem dX5_readTest_23 : decode cX5_readTest 23 = .ok (.invokevirtual 70, 3) := by decide +kernel
theorem dX5_readTest_26 : decode cX5_readTest 26 = .ok (.aload_n 0, 1) := by decide +kernel
theorem dX5_readTest_27 : decode cX5_readTest 27 = .ok (.invokevirtual 161, 3) := by decide +kernel
theorem dX5_readTest_30 : decode cX5_readTest 30 = .ok (.aload_n 0, 1) := by decide +kernel
theorem dX5_readTest_31 : decode cX5_readTest 31 = .ok (.bipush 12, 2) := by decide +kernel
theorem dX5_readTest_33 : decode cX5_readTest 33 = .ok (.invokevirtual 170, 3) := by decide +kernel
theorem dX5_readTest_36 : decode cX5_readTest 36 = .ok (.iinc 1 1, 3) := by decide +kernel
theorem dX5_readTest_39 : decode cX5_readTest 39 = .ok (.goto (-33), 3) := by decide +kernel
theorem dX5_readTest_42 : decode cX5_readTest 42 = .ok (.return_, 1) := by decide +kernel
theorem dX5_readBoth_0 : decode cX5_readBoth 0 = .ok (.aload_n 0, 1) := by decide +kernel
theorem dX5_readBoth_1 : decode cX5_readBoth 1 = .ok (.invokevirtual 173, 3) := by decide +kernel
theorem dX5_readBoth_4 : decode cX5_readBoth 4 = .ok (.iconst 0, 1) := by decide +kernel
theorem dX5_readBoth_5 : decode cX5_readBoth 5 = .ok (.istore_n 1, 1) := by decide +kernel
theorem dX5_readBoth_6 : decode cX5_readBoth 6 = .ok (.iload_n 1, 1) := by decide +kernel
theorem dX5_readBoth_7 : decode cX5_readBoth 7 = .ok (.sipush 1600, 3) := by decide +kernel
theorem dX5_readBoth_10 : decode cX5_readBoth 10 = .ok (.if_icmp .ge 32, 3) := by decide +kernel
theorem dX5_readBoth_13 : decode cX5_readBoth 13 = .ok (.aload_n 0, 1) := by decide +kernel
theorem dX5_readBoth_14 : decode cX5_readBoth 14 = .ok (.bipush 18, 2) := by decide +kernel
theorem dX5_readBoth_16 : decode cX5_readBoth 16 = .ok (.invokevirtual 164, 3) := by decide +kernel
theorem dX5_readBoth_19 : decode cX5_readBoth 19 = .ok (.ifCond .eq 23, 3) := by decide +kernel
theorem dX5_readBoth_22 : decode cX5_readBoth 22 = .ok (.aload_n 0, 1) := by decide +kernel
theorem dX5_readBoth_23 : decode cX5_readBoth 23 = .ok (.invokevirtual 70, 3) := by decide +kernel
theorem dX5_readBoth_26 : decode cX5_readBoth 26 = .ok (.aload_n 0, 1) := by decide +kernel
theorem dX5_readBoth_27 : decode cX5_readBoth 27 = .ok (.invokevirtual 173, 3) := by decide +kernel
theorem dX5_readBoth_30 : decode cX5_readBoth 30 = .ok (.aload_n 0, 1) := by decide +kernel
theorem dX5_readBoth_31 : decode cX5_readBoth 31 = .ok (.bipush 13, 2) := by decide +kernel
theorem dX5_readBoth_33 : decode cX5_readBoth 33 = .ok (.invokevirtual 170, 3) := by decide +kernel
theorem dX5_readBoth_36 : decode cX5_readBoth 36 = .ok (.iinc 1 1, 3) := by decide +kernel
theorem dX5_readBoth_39 : decode cX5_readBoth 39 = .ok (.goto (-33), 3) := by decide +kernel
theorem dX5_readBoth_42 : decode cX5_readBoth 42 = .ok (.return_, 1) := by decide +kernel
theorem dX5_readFact_0 : decode cX5_readFact 0 = .ok (.aload_n 0, 1) := by decide +kernel
theorem dX5_readFact_1 : decode cX5_readFact 1 = .ok (.bipush 19, 2) := by decide +kernel
theorem dX5_readFact_3 : decode cX5_readFact 3 = .ok (.invokevirtual 164, 3) := by decide +kernel
theorem dX5_readFact_6 : decode cX5_readFact 6 = .ok (.ifCond .eq 33, 3) := by decide +kernel
theorem dX5_readFact_9 : decode cX5_readFact 9 = .ok (.aload_n 0, 1) := by decide +kernel
theorem dX5_readFact_10 : decode cX5_readFact 10 = .ok (.invokevirtual 176, 3) := by decide +kernel
theorem dX5_readFact_13 : decode cX5_readFact 13 = .ok (.ifCond .eq 91, 3) := by decide +kernel
theorem dX5_readFact_16 : decode cX5_readFact 16 = .ok (.aload_n 0, 1) := by decide +kernel
theorem dX5_readFact_17 : decode cX5_readFact 17 = .ok (.invokevirtual 173, 3) := by decide +kernel
theorem dX5_readFact_20 : decode cX5_readFact 20 = .ok (.aload_n 0, 1) := by decide +kernel
theorem dX5_readFact_21 : decode cX5_readFact 21 = .ok (.dup, 1) := by decide +kernel
theorem dX5_readFact_22 : decode cX5_readFact 22 = .ok (.getfield 36, 3) := by decide +kernel
theorem dX5_readFact_25 : decode cX5_readFact 25 = .ok (.iconst 1, 1) := by decide +kernel
theorem dX5_readFact_26 : decode cX5_readFact 26 = .ok (.isub, 1) := by decide +kernel
theorem dX5_readFact_27 : decode cX5_readFact 27 = .ok (.putfield 36, 3) := by decide +kernel
theorem dX5_readFact_30 : decode cX5_readFact 30 = .ok (.aload_n 0, 1) := by decide +kernel
theorem dX5_readFact_31 : decode cX5_readFact 31 = .ok (.bipush 17, 2) := by decide +kernel
theorem dX5_readFact_33 : decode cX5_readFact 33 = .ok (.invokevirtual 170, 3) := by decide +kernel
theorem dX5_readFact_36 : decode cX5_readFact 36 = .ok (.goto 68, 3) := by decide +kernel
theorem dX5_readFact_39 : decode cX5_readFact 39 = .ok (.aload_n 0, 1) := by decide +kernel
theorem dX5_readFact_40 : decode cX5_readFact 40 = .ok (.bipush 91, 2) := by decide +kernel
theorem dX5_readFact_42 : decode cX5_readFact 42 = .ok (.invokevirtual 180, 3) := by decide +kernel
theorem dX5_readFact_45 : decode cX5_readFact 45 = .ok (.ifCond .eq 33, 3) := by decide +kernel
theorem dX5_readFact_48 : decode cX5_readFact 48 = .ok (.aload_n 0, 1) := by decide +kernel
theorem dX5_readFact_49 : decode cX5_readFact 49 = .ok (.invokevirtual 176, 3) := by decide +kernel
theorem dX5_readFact_52 : decode cX5_readFact 52 = .ok (.ifCond .eq 52, 3) := by decide +kernel
theorem dX5_readFact_55 : decode cX5_readFact 55 = .ok (.aload_n 0, 1) := by decide +kernel
theorem dX5_readFact_56 : decode cX5_readFact 56 = .ok (.invokevirtual 150, 3) := by decide +kernel
theorem dX5_readFact_59 : decode cX5_readFact 59 = .ok (.aload_n 0, 1) := by decide +kernel
theorem dX5_readFact_60 : decode cX5_readFact 60 = .ok (.bipush 93, 2) := by decide +kernel
theorem dX5_readFact_62 : decode cX5_readFact 62 = .ok (.invokevirtual 80, 3) := by decide +kernel
theorem dX5_readFact_65 : decode cX5_readFact 65 = .ok (.aload_n 0, 1) := by decide +kernel
theorem dX5_readFact_66 : decode cX5_readFact 66 = .ok (.dup, 1) := by decide +kernel
theorem dX5_readFact_67 : decode cX5_readFact 67 = .ok (.getfield 36, 3) := by decide +kernel
theorem dX5_readFact_70 : decode cX5_readFact 70 = .ok (.iconst 1, 1) := by decide +kernel
theorem dX5_readFact_71 : decode cX5_readFact 71 = .ok (.isub, 1) := by decide +kernel
theorem dX5_readFact_72 : decode cX5_readFact 72 = .ok (.putfield 36, 3) := by decide +kernel
theorem dX5_readFact_75 : decode cX5_readFact 75 = .ok (.goto 29, 3) := by decide +kernel
theorem dX5_readFact_78 : decode cX5_readFact 78 = .ok (.aload_n 0, 1) := by decide +kernel
theorem dX5_readFact_79 : decode cX5_readFact 79 = .ok (.bipush 20, 2) := by decide +kernel
theorem dX5_readFact_81 : decode cX5_readFact 81 = .ok (.invokevirtual 164, 3) := by decide +kernel
theorem dX5_readFact_84 : decode cX5_readFact 84 = .ok (.ifCond .eq 16, 3) := by decide +kernel
theorem dX5_readFact_87 : decode cX5_readFact 87 = .ok (.aload_n 0, 1) := by decide +kernel
theorem dX5_readFact_88 : decode cX5_readFact 88 = .ok (.invokevirtual 70, 3) := by decide +kernel
theorem dX5_readFact_91 : decode cX5_readFact 91 = .ok (.aload_n 0, 1) := by decide +kernel
theorem dX5_readFact_92 : decode cX5_readFact 92 = .ok (.bipush 101, 2) := by decide +kernel
theorem dX5_readFact_94 : decode cX5_readFact 94 = .ok (.invokevirtual 170, 3) := by decide +kernel
theorem dX5_readFact_97 : decode cX5_readFact 97 = .ok (.goto 7, 3) := by decide +kernel
theorem dX5_readFact_100 : decode cX5_readFact 100 = .ok (.aload_n 0, 1) := by decide +kernel
theorem dX5_readFact_101 : decode cX5_readFact 101 = .ok (.invokevirtual 183, 3) := by decide +kernel
theorem dX5_readFact_104 : decode cX5_readFact 104 = .ok (.return_, 1) := by decide +kernel
theorem dX5_readComparison_0 : decode cX5_readComparison 0 = .ok (.aload_n 0, 1) := by decide +kernel
theorem dX5_readComparison_1 : decode cX5_readComparison 1 = .ok (.invokevirtual 153, 3) := by decide +kernel
theorem dX5_readComparison_4 : decode cX5_readComparison 4 = .ok (.aload_n 0, 1) := by decide +kernel
theorem dX5_readComparison_5 : decode cX5_readComparison 5 = .ok (.getfield 17, 3) := by decide +kernel
theorem dX5_readComparison_8 : decode cX5_readComparison 8 = .ok (.iconst 1, 1) := by decide +kernel
theorem dX5_readComparison_9 : decode cX5_readComparison 9 = .ok (.if_icmp .ne 10, 3) := by decide +kernel
theorem dX5_readComparison_12 : decode cX5_readComparison 12 = .ok (.aload_n 0, 1) := by decide +kernel
theorem dX5_readComparison_13 : decode cX5_readComparison 13 = .ok (.getfield 20, 3) := by decide +kernel
theorem dX5_readComparison_16 : decode cX5_readComparison 16 = .ok (.goto 4, 3) := by decide +kernel
theorem dX5_readComparison_19 : decode cX5_readComparison 19 = .ok (.iconst (-1), 1) := by decide +kernel
theorem dX5_readComparison_20 : decode cX5_readComparison 20 = .ok (.istore_n 1, 1) := by decide +kernel
theorem dX5_readComparison_21 : decode cX5_readComparison 21 = .ok (.iload_n 1, 1) := by decide +kernel
theorem dX5_readComparison_22 : decode cX5_readComparison 22 = .ok (.bipush 60, 2) := by decide +kernel
theorem dX5_readComparison_24 : decode cX5_readComparison 24 = .ok (.if_icmp .eq 20, 3) := by decide +kernel
theorem dX5_readComparison_27 : decode cX5_readComparison 27 = .ok (.iload_n 1, 1) := by decide +kernel
theorem dX5_readComparison_28 : decode cX5_readComparison 28 = .ok (.bipush 62, 2) := by decide +kernel
theorem dX5_readComparison_30 : decode cX5_readComparison 30 = .ok (.if_icmp .eq 14, 3) := by decide +kernel
theorem dX5_readComparison_33 : decode cX5_readComparison 33 = .ok (.iload_n 1, 1) := by decide +kernel
theorem dX5_readComparison_34 : decode cX5_readComparison 34 = .ok (.bipush 61, 2) := by decide +kernel
theorem dX5_readComparison_36 : decode cX5_readComparison 36 = .ok (.if_icmp .eq 8, 3) := by decide +kernel
theorem dX5_readComparison_39 : decode cX5_readComparison 39 = .ok (.aload_n 0, 1) := by decide +kernel
theorem dX5_readComparison_40 : decode cX5_readComparison 40 = .ok (.invokevirtual 117, 3) := by decide +kernel
theorem dX5_readComparison_43 : decode cX5_readComparison 43 = .ok (.return_, 1) := by decide +kernel
theorem dX5_readComparison_44 : decode cX5_readComparison 44 = .ok (.aload_n 0, 1) := by decide +kernel
theorem dX5_readComparison_45 : decode cX5_readComparison 45 = .ok (.invokevirtual 70, 3) := by decide +kernel
theorem dX5_readComparison_48 : decode cX5_readComparison 48 = .ok (.aload_n 0, 1) := by decide +kernel
theorem dX5_readComparison_49 : decode cX5_readComparison 49 = .ok (.invokevirtual 153, 3) := by decide +kernel
theorem dX5_readComparison_52 : decode cX5_readComparison 52 = .ok (.aload_n 0, 1) := by decide +kernel
theorem dX5_readComparison_53 : decode cX5_readComparison 53 = .ok (.iload_n 1, 1) := by decide +kernel
theorem dX5_readComparison_54 : decode cX5_readComparison 54 = .ok (.bipush 60, 2) := by decide +kernel
theorem dX5_readComparison_56 : decode cX5_readComparison 56 = .ok (.if_icmp .ne 8, 3) := by decide +kernel
theorem dX5_readComparison_59 : decode cX5_readComparison 59 = .ok (.bipush 14, 2) := by decide +kernel
theorem dX5_readComparison_61 : decode cX5_readComparison 61 = .ok (.goto 16, 3) := by decide +kernel
theorem dX5_readComparison_64 : decode cX5_readComparison 64 = .ok (.iload_n 1, 1) := by decide +kernel
theorem dX5_readComparison_65 : decode cX5_readComparison 65 = .ok (.bipush 62, 2) := by decide +kernel
theorem dX5_readComparison_67 : decode cX5_readComparison 67 = .ok (.if_icmp .ne 8, 3) := by decide +kernel
theorem dX5_readComparison_70 : decode cX5_readComparison 70 = .ok (.bipush 15, 2) := by decide +kernel
theorem dX5_readComparison_72 : decode cX5_readComparison 72 = .ok (.goto 5, 3) := by decide +kernel
theorem dX5_readComparison_75 : decode cX5_readComparison 75 = .ok (.bipush 16, 2) := by decide +kernel
theorem dX5_readComparison_77 : decode cX5_readComparison 77 = .ok (.invokevirtual 170, 3) := by decide +kernel
theorem dX5_readComparison_80 : decode cX5_readComparison 80 = .ok (.return_, 1) := by decide +kernel
theorem dX5_readSum_0 : decode cX5_readSum 0 = .ok (.aload_n 0, 1) := by decide +kernel
theorem dX5_readSum_1 : decode cX5_readSum 1 = .ok (.invokevirtual 186, 3) := by decide +kernel
theorem dX5_readSum_4 : decode cX5_readSum 4 = .ok (.iconst 0, 1) := by decide +kernel
theorem dX5_readSum_5 : decode cX5_readSum 5 = .ok (.istore_n 1, 1) := by decide +kernel
theorem dX5_readSum_6 : decode cX5_readSum 6 = .ok (.iload_n 1, 1) := by decide +kernel
theorem dX5_readSum_7 : decode cX5_readSum 7 = .ok (.sipush 1600, 3) := by decide +kernel
theorem dX5_readSum_10 : decode cX5_readSum 10 = .ok (.if_icmp .ge 56, 3) := by decide +kernel
theorem dX5_readSum_13 : decode cX5_readSum 13 = .ok (.aload_n 0, 1) := by decide +kernel
theorem dX5_readSum_14 : decode cX5_readSum 14 = .ok (.bipush 43, 2) := by decide +kernel
theorem dX5_readSum_16 : decode cX5_readSum 16 = .ok (.invokevirtual 180, 3) := by decide +kernel
theorem dX5_readSum_19 : decode cX5_readSum 19 = .ok (.ifCond .ne 12, 3) := by decide +kernel
theorem dX5_readSum_22 : decode cX5_readSum 22 = .ok (.aload_n 0, 1) := by decide +kernel
theorem dX5_readSum_23 : decode cX5_readSum 23 = .ok (.bipush 45, 2) := by decide +kernel
theorem dX5_readSum_25 : decode cX5_readSum 25 = .ok (.invokevirtual 180, 3) := by decide +kernel
theorem dX5_readSum_28 : decode cX5_readSum 28 = .ok (.ifCond .eq 38, 3) := by decide +kernel
theorem dX5_readSum_31 : decode cX5_readSum 31 = .ok (.aload_n 0, 1) := by decide +kernel
theorem dX5_readSum_32 : decode cX5_readSum 32 = .ok (.bipush 43, 2) := by decide +kernel
theorem dX5_readSum_34 : decode cX5_readSum 34 = .ok (.invokevirtual 180, 3) := by decide +kernel
theorem dX5_readSum_37 : decode cX5_readSum 37 = .ok (.ifCond .eq 7, 3) := by decide +kernel
theorem dX5_readSum_40 : decode cX5_readSum 40 = .ok (.iconst 5, 1) := by decide +kernel
theorem dX5_readSum_41 : decode cX5_readSum 41 = .ok (.goto 5, 3) := by decide +kernel
theorem dX5_readSum_44 : decode cX5_readSum 44 = .ok (.bipush 6, 2) := by decide +kernel
theorem dX5_readSum_46 : decode cX5_readSum 46 = .ok (.istore_n 2, 1) := by decide +kernel
theorem dX5_readSum_47 : decode cX5_readSum 47 = .ok (.aload_n 0, 1) := by decide +kernel
theorem dX5_readSum_48 : decode cX5_readSum 48 = .ok (.invokevirtual 70, 3) := by decide +kernel
theorem dX5_readSum_51 : decode cX5_readSum 51 = .ok (.aload_n 0, 1) := by decide +kernel
theorem dX5_readSum_52 : decode cX5_readSum 52 = .ok (.invokevirtual 186, 3) := by decide +kernel
theorem dX5_readSum_55 : decode cX5_readSum 55 = .ok (.aload_n 0, 1) := by decide +kernel
theorem dX5_readSum_56 : decode cX5_readSum 56 = .ok (.iload_n 2, 1) := by decide +kernel
theorem dX5_readSum_57 : decode cX5_readSum 57 = .ok (.invokevirtual 170, 3) := by decide +kernel
theorem dX5_readSum_60 : decode cX5_readSum 60 = .ok (.iinc 1 1, 3) := by decide +kernel
theorem dX5_readSum_63 : decode cX5_readSum 63 = .ok (.goto (-57), 3) := by decide +kernel
theorem dX5_readSum_66 : decode cX5_readSum 66 = .ok (.return_, 1) := by decide +kernel
theorem dX5_readProduct_0 : decode cX5_readProduct 0 = .ok (.aload_n 0, 1) := by decide +kernel
theorem dX5_readProduct_1 : decode cX5_readProduct 1 = .ok (.invokevirtual 189, 3) := by decide +kernel
theorem dX5_readProduct_4 : decode cX5_readProduct 4 = .ok (.iconst 0, 1) := by decide +kernel
theorem dX5_readProduct_5 : decode cX5_readProduct 5 = .ok (.istore_n 1, 1) := by decide +kernel
theorem dX5_readProduct_6 : decode cX5_readProduct 6 = .ok (.iload_n 1, 1) := by decide +kernel
theorem dX5_readProduct_7 : decode cX5_readProduct 7 = .ok (.sipush 1600, 3) := by decide +kernel
theorem dX5_readProduct_10 : decode cX5_readProduct 10 = .ok (.if_icmp .ge 80, 3) := by decide +kernel
theorem dX5_readProduct_13 : decode cX5_readProduct 13 = .ok (.aload_n 0, 1) := by decide +kernel
theorem dX5_readProduct_14 : decode cX5_readProduct 14 = .ok (.bipush 42, 2) := by decide +kernel
theorem dX5_readProduct_16 : decode cX5_readProduct 16 = .ok (.invokevirtual 180, 3) := by decide +kernel
theorem dX5_readProduct_19 : decode cX5_readProduct 19 = .ok (.ifCond .ne 21, 3) := by decide +kernel
theorem dX5_readProduct_22 : decode cX5_readProduct 22 = .ok (.aload_n 0, 1) := by decide +kernel
theorem dX5_readProduct_23 : decode cX5_readProduct 23 = .ok (.bipush 47, 2) := by decide +kernel
theorem dX5_readProduct_25 : decode cX5_readProduct 25 = .ok (.invokevirtual 180, 3) := by decide +kernel
theorem dX5_readProduct_28 : decode cX5_readProduct 28 = .ok (.ifCond .ne 12, 3) := by decide +kernel
theorem dX5_readProduct_31 : decode cX5_readProduct 31 = .ok (.aload_n 0, 1) := by decide +kernel
theorem dX5_readProduct_32 : decode cX5_readProduct 32 = .ok (.bipush 37, 2) := by decide +kernel
theorem dX5_readProduct_34 : decode cX5_readProduct 34 = .ok (.invokevirtual 180, 3) := by decide +kernel
theorem dX5_readProduct_37 : decode cX5_readProduct 37 = .ok (.ifCond .eq 53, 3) := by decide +kernel
theorem dX5_readProduct_40 : decode cX5_readProduct 40 = .ok (.aload_n 0, 1) := by decide +kernel
theorem dX5_readProduct_41 : decode cX5_readProduct 41 = .ok (.bipush 42, 2) := by decide +kernel
theorem dX5_readProduct_43 : decode cX5_readProduct 43 = .ok (.invokevirtual 180, 3) := by decide +kernel
theorem dX5_readProduct_46 : decode cX5_readProduct 46 = .ok (.ifCond .eq 8, 3) := by decide +kernel
theorem dX5_readProduct_49 : decode cX5_readProduct 49 = .ok (.bipush 7, 2) := by decide +kernel
theorem dX5_readProduct_51 : decode cX5_readProduct 51 = .ok (.goto 19, 3) := by decide +kernel
theorem dX5_readProduct_54 : decode cX5_readProduct 54 = .ok (.aload_n 0, 1) := by decide +kernel
theorem dX5_readProduct_55 : decode cX5_readProduct 55 = .ok (.bipush 47, 2) := by decide +kernel
theorem dX5_readProduct_57 : decode cX5_readProduct 57 = .ok (.invokevirtual 180, 3) := by decide +kernel
theorem dX5_readProduct_60 : decode cX5_readProduct 60 = .ok (.ifCond .eq 8, 3) := by decide +kernel
theorem dX5_readProduct_63 : decode cX5_readProduct 63 = .ok (.bipush 8, 2) := by decide +kernel
theorem dX5_readProduct_65 : decode cX5_readProduct 65 = .ok (.goto 5, 3) := by decide +kernel
theorem dX5_readProduct_68 : decode cX5_readProduct 68 = .ok (.bipush 9, 2) := by decide +kernel
theorem dX5_readProduct_70 : decode cX5_readProduct 70 = .ok (.istore_n 2, 1) := by decide +kernel
theorem dX5_readProduct_71 : decode cX5_readProduct 71 = .ok (.aload_n 0, 1) := by decide +kernel
theorem dX5_readProduct_72 : decode cX5_readProduct 72 = .ok (.invokevirtual 70, 3) := by decide +kernel
theorem dX5_readProduct_75 : decode cX5_readProduct 75 = .ok (.aload_n 0, 1) := by decide +kernel
theorem dX5_readProduct_76 : decode cX5_readProduct 76 = .ok (.invokevirtual 189, 3) := by decide +kernel
theorem dX5_readProduct_79 : decode cX5_readProduct 79 = .ok (.aload_n 0, 1) := by decide +kernel
theorem dX5_readProduct_80 : decode cX5_readProduct 80 = .ok (.iload_n 2, 1) := by decide +kernel
theorem dX5_readProduct_81 : decode cX5_readProduct 81 = .ok (.invokevirtual 170, 3) := by decide +kernel
theorem dX5_readProduct_84 : decode cX5_readProduct 84 = .ok (.iinc 1 1, 3) := by decide +kernel
theorem dX5_readProduct_87 : decode cX5_readProduct 87 = .ok (.goto (-81), 3) := by decide +kernel
theorem dX5_readProduct_90 : decode cX5_readProduct 90 = .ok (.return_, 1) := by decide +kernel
theorem dX5_readPart_0 : decode cX5_readPart 0 = .ok (.aload_n 0, 1) := by decide +kernel
theorem dX5_readPart_1 : decode cX5_readPart 1 = .ok (.getfield 17, 3) := by decide +kernel
theorem dX5_readPart_4 : decode cX5_readPart 4 = .ok (.iconst 2, 1) := by decide +kernel
theorem dX5_readPart_5 : decode cX5_readPart 5 = .ok (.if_icmp .ne 21, 3) := by decide +kernel
theorem dX5_readPart_8 : decode cX5_readPart 8 = .ok (.aload_n 0, 1) := by decide +kernel
theorem dX5_readPart_9 : decode cX5_readPart 9 = .ok (.bipush 100, 2) := by decide +kernel
theorem dX5_readPart_11 : decode cX5_readPart 11 = .ok (.aload_n 0, 1) := by decide +kernel
theorem dX5_readPart_12 : decode cX5_readPart 12 = .ok (.getfield 20, 3) := by decide +kernel
theorem dX5_readPart_15 : decode cX5_readPart 15 = .ok (.iadd, 1) := by decide +kernel
theorem dX5_readPart_16 : decode cX5_readPart 16 = .ok (.invokevirtual 170, 3) := by decide +kernel
theorem dX5_readPart_19 : decode cX5_readPart 19 = .ok (.aload_n 0, 1) := by decide +kernel
theorem dX5_readPart_20 : decode cX5_readPart 20 = .ok (.invokevirtual 70, 3) := by decide +kernel
theorem dX5_readPart_23 : decode cX5_readPart 23 = .ok (.goto 103, 3) := by decide +kernel
theorem dX5_readPart_26 : decode cX5_readPart 26 = .ok (.aload_n 0, 1) := by decide +kernel
theorem dX5_readPart_27 : decode cX5_readPart 27 = .ok (.bipush 40, 2) := by decide +kernel
theorem dX5_readPart_29 : decode cX5_readPart 29 = .ok (.invokevirtual 180, 3) := by decide +kernel
theorem dX5_readPart_32 : decode cX5_readPart 32 = .ok (.ifCond .eq 33, 3) := by decide +kernel
theorem dX5_readPart_35 : decode cX5_readPart 35 = .ok (.aload_n 0, 1) := by decide +kernel
theorem dX5_readPart_36 : decode cX5_readPart 36 = .ok (.invokevirtual 176, 3) := by decide +kernel
theorem dX5_readPart_39 : decode cX5_readPart 39 = .ok (.ifCond .eq 87, 3) := by decide +kernel
theorem dX5_readPart_42 : decode cX5_readPart 42 = .ok (.aload_n 0, 1) := by decide +kernel
theorem dX5_readPart_43 : decode cX5_readPart 43 = .ok (.invokevirtual 153, 3) := by decide +kernel
theorem dX5_readPart_46 : decode cX5_readPart 46 = .ok (.aload_n 0, 1) := by decide +kernel
theorem dX5_readPart_47 : decode cX5_readPart 47 = .ok (.bipush 41, 2) := by decide +kernel
theorem dX5_readPart_49 : decode cX5_readPart 49 = .ok (.invokevirtual 80, 3) := by decide +kernel
theorem dX5_readPart_52 : decode cX5_readPart 52 = .ok (.aload_n 0, 1) := by decide +kernel
theorem dX5_readPart_53 : decode cX5_readPart 53 = .ok (.dup, 1) := by decide +kernel
theorem dX5_readPart_54 : decode cX5_readPart 54 = .ok (.getfield 36, 3) := by decide +kernel
theorem dX5_readPart_57 : decode cX5_readPart 57 = .ok (.iconst 1, 1) := by decide +kernel
theorem dX5_readPart_58 : decode cX5_readPart 58 = .ok (.isub, 1) := by decide +kernel
theorem dX5_readPart_59 : decode cX5_readPart 59 = .ok (.putfield 36, 3) := by decide +kernel
theorem dX5_readPart_62 : decode cX5_readPart 62 = .ok (.goto 64, 3) := by decide +kernel
theorem dX5_readPart_65 : decode cX5_readPart 65 = .ok (.aload_n 0, 1) := by decide +kernel
theorem dX5_readPart_66 : decode cX5_readPart 66 = .ok (.bipush 21, 2) := by decide +kernel
theorem dX5_readPart_68 : decode cX5_readPart 68 = .ok (.invokevirtual 164, 3) := by decide +kernel
theorem dX5_readPart_71 : decode cX5_readPart 71 = .ok (.ifCond .ne 12, 3) := by decide +kernel
theorem dX5_readPart_74 : decode cX5_readPart 74 = .ok (.aload_n 0, 1) := by decide +kernel
theorem dX5_readPart_75 : decode cX5_readPart 75 = .ok (.bipush 22, 2) := by decide +kernel
theorem dX5_readPart_77 : decode cX5_readPart 77 = .ok (.invokevirtual 164, 3) := by decide +kernel
theorem dX5_readPart_80 : decode cX5_readPart 80 = .ok (.ifCond .eq 26, 3) := by decide +kernel
theorem dX5_readPart_83 : decode cX5_readPart 83 = .ok (.aload_n 0, 1) := by decide +kernel
theorem dX5_readPart_84 : decode cX5_readPart 84 = .ok (.aload_n 0, 1) := by decide +kernel
theorem dX5_readPart_85 : decode cX5_readPart 85 = .ok (.bipush 21, 2) := by decide +kernel
theorem dX5_readPart_87 : decode cX5_readPart 87 = .ok (.invokevirtual 164, 3) := by decide +kernel
theorem dX5_readPart_90 : decode cX5_readPart 90 = .ok (.ifCond .eq 8, 3) := by decide +kernel
theorem dX5_readPart_93 : decode cX5_readPart 93 = .ok (.bipush 10, 2) := by decide +kernel
theorem dX5_readPart_95 : decode cX5_readPart 95 = .ok (.goto 5, 3) := by decide +kernel
theorem dX5_readPart_98 : decode cX5_readPart 98 = .ok (.bipush 11, 2) := by decide +kernel
theorem dX5_readPart_100 : decode cX5_readPart 100 = .ok (.invokevirtual 192, 3) := by decide +kernel
theorem dX5_readPart_103 : decode cX5_readPart 103 = .ok (.goto 23, 3) := by decide +kernel
theorem dX5_readPart_106 : decode cX5_readPart 106 = .ok (.aload_n 0, 1) := by decide +kernel
theorem dX5_readPart_107 : decode cX5_readPart 107 = .ok (.bipush 16, 2) := by decide +kernel
theorem dX5_readPart_109 : decode cX5_readPart 109 = .ok (.invokevirtual 164, 3) := by decide +kernel
theorem dX5_readPart_112 : decode cX5_readPart 112 = .ok (.ifCond .eq 10, 3) := by decide +kernel
theorem dX5_readPart_115 : decode cX5_readPart 115 = .ok (.aload_n 0, 1) := by decide +kernel
theorem dX5_readPart_116 : decode cX5_readPart 116 = .ok (.invokevirtual 195, 3) := by decide +kernel
theorem dX5_readPart_119 : decode cX5_readPart 119 = .ok (.goto 7, 3) := by decide +kernel
theorem dX5_readPart_122 : decode cX5_readPart 122 = .ok (.aload_n 0, 1) := by decide +kernel
theorem dX5_readPart_123 : decode cX5_readPart 123 = .ok (.invokevirtual 198, 3) := by decide +kernel
theorem dX5_readPart_126 : decode cX5_readPart 126 = .ok (.return_, 1) := by decide +kernel
theorem dX5_readFactNamed_0 : decode cX5_readFactNamed 0 = .ok (.aload_n 0, 1) := by decide +kernel
theorem dX5_readFactNamed_1 : decode cX5_readFactNamed 1 = .ok (.getfield 17, 3) := by decide +kernel
theorem dX5_readFactNamed_4 : decode cX5_readFactNamed 4 = .ok (.iconst 4, 1) := by decide +kernel
theorem dX5_readFactNamed_5 : decode cX5_readFactNamed 5 = .ok (.if_icmp .ne 10, 3) := by decide +kernel
theorem dX5_readFactNamed_8 : decode cX5_readFactNamed 8 = .ok (.aload_n 0, 1) := by decide +kernel
theorem dX5_readFactNamed_9 : decode cX5_readFactNamed 9 = .ok (.getfield 20, 3) := by decide +kernel
theorem dX5_readFactNamed_12 : decode cX5_readFactNamed 12 = .ok (.goto 4, 3) := by decide +kernel
theorem dX5_readFactNamed_15 : decode cX5_readFactNamed 15 = .ok (.iconst (-1), 1) := by decide +kernel
theorem dX5_readFactNamed_16 : decode cX5_readFactNamed 16 = .ok (.istore_n 1, 1) := by decide +kernel
theorem dX5_readFactNamed_17 : decode cX5_readFactNamed 17 = .ok (.iload_n 1, 1) := by decide +kernel
theorem dX5_readFactNamed_18 : decode cX5_readFactNamed 18 = .ok (.bipush 14, 2) := by decide +kernel
theorem dX5_readFactNamed_20 : decode cX5_readFactNamed 20 = .ok (.if_icmp .eq 9, 3) := by decide +kernel
theorem dX5_readFactNamed_23 : decode cX5_readFactNamed 23 = .ok (.iload_n 1, 1) := by decide +kernel
theorem dX5_readFactNamed_24 : decode cX5_readFactNamed 24 = .ok (.bipush 15, 2) := by decide +kernel
theorem dX5_readFactNamed_26 : decode cX5_readFactNamed 26 = .ok (.if_icmp .ne 7, 3) := by decide +kernel
theorem dX5_readFactNamed_29 : decode cX5_readFactNamed 29 = .ok (.iconst 1, 1) := by decide +kernel
theorem dX5_readFactNamed_30 : decode cX5_readFactNamed 30 = .ok (.goto 4, 3) := by decide +kernel
theorem dX5_readFactNamed_33 : decode cX5_readFactNamed 33 = .ok (.iconst 0, 1) := by decide +kernel
theorem dX5_readFactNamed_34 : decode cX5_readFactNamed 34 = .ok (.istore_n 2, 1) := by decide +kernel
theorem dX5_readFactNamed_35 : decode cX5_readFactNamed 35 = .ok (.iload_n 1, 1) := by decide +kernel
theorem dX5_readFactNamed_36 : decode cX5_readFactNamed 36 = .ok (.bipush 11, 2) := by decide +kernel
theorem dX5_readFactNamed_38 : decode cX5_readFactNamed 38 = .ok (.if_icmp .lt 20, 3) := by decide +kernel
theorem dX5_readFactNamed_41 : decode cX5_readFactNamed 41 = .ok (.iload_n 1, 1) := by decide +kernel
theorem dX5_readFactNamed_42 : decode cX5_readFactNamed 42 = .ok (.bipush 15, 2) := by decide +kernel
theorem dX5_readFactNamed_44 : decode cX5_readFactNamed 44 = .ok (.if_icmp .gt 14, 3) := by decide +kernel
theorem dX5_readFactNamed_47 : decode cX5_readFactNamed 47 = .ok (.iload_n 2, 1) := by decide +kernel
theorem dX5_readFactNamed_48 : decode cX5_readFactNamed 48 = .ok (.ifCond .eq 15, 3) := by decide +kernel
theorem dX5_readFactNamed_51 : decode cX5_readFactNamed 51 = .ok (.aload_n 0, 1) := by decide +kernel
theorem dX5_readFactNamed_52 : decode cX5_readFactNamed 52 = .ok (.getfield 39, 3) := by decide +kernel
