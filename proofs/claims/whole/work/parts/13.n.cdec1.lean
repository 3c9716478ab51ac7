theorem dX4_reckon_70 : decode cX4_reckon 70 = .ok (.aload 4, 2) := by decide +kernel
theorem dX4_reckon_72 : decode cX4_reckon 72 = .ok (.iload 5, 2) := by decide +kernel
theorem dX4_reckon_74 : decode cX4_reckon 74 = .ok (.iload 6, 2) := by decide +kernel
theorem dX4_reckon_76 : decode cX4_reckon 76 = .ok (.invokestatic 99, 3) := by decide +kernel
theorem dX4_reckon_79 : decode cX4_reckon 79 = .ok (.iastore, 1) := by decide +kernel
theorem dX4_reckon_80 : decode cX4_reckon 80 = .ok (.iinc 7 1, 3) := by decide +kernel
theorem dX4_reckon_83 : decode cX4_reckon 83 = .ok (.goto 137, 3) := by decide +kernel
theorem dX4_reckon_86 : decode cX4_reckon 86 = .ok (.iload 9, 2) := by decide +kernel
theorem dX4_reckon_88 : decode cX4_reckon 88 = .ok (.bipush 17, 2) := by decide +kernel
theorem dX4_reckon_90 : decode cX4_reckon 90 = .ok (.if_icmp .ne 32, 3) := by decide +kernel
theorem dX4_reckon_93 : decode cX4_reckon 93 = .ok (.iload 7, 2) := by decide +kernel
theorem dX4_reckon_95 : decode cX4_reckon 95 = .ok (.iconst 1, 1) := by decide +kernel
theorem dX4_reckon_96 : decode cX4_reckon 96 = .ok (.if_icmp .lt 124, 3) := by decide +kernel
theorem dX4_reckon_99 : decode cX4_reckon 99 = .ok (.aload_n 0, 1) := by decide +kernel
theorem dX4_reckon_100 : decode cX4_reckon 100 = .ok (.getfield 11, 3) := by decide +kernel
theorem dX4_reckon_103 : decode cX4_reckon 103 = .ok (.iload 7, 2) := by decide +kernel
theorem dX4_reckon_105 : decode cX4_reckon 105 = .ok (.iconst 1, 1) := by decide +kernel
theorem dX4_reckon_106 : decode cX4_reckon 106 = .ok (.isub, 1) := by decide +kernel
theorem dX4_reckon_107 : decode cX4_reckon 107 = .ok (.iconst 1, 1) := by decide +kernel
theorem dX4_reckon_108 : decode cX4_reckon 108 = .ok (.aload_n 0, 1) := by decide +kernel
theorem dX4_reckon_109 : decode cX4_reckon 109 = .ok (.getfield 11, 3) := by decide +kernel
theorem dX4_reckon_112 : decode cX4_reckon 112 = .ok (.iload 7, 2) := by decide +kernel
theorem dX4_reckon_114 : decode cX4_reckon 114 = .ok (.iconst 1, 1) := by decide +kernel
theorem dX4_reckon_115 : decode cX4_reckon 115 = .ok (.isub, 1) := by decide +kernel
theorem dX4_reckon_116 : decode cX4_reckon 116 = .ok (.iaload, 1) := by decide +kernel
theorem dX4_reckon_117 : decode cX4_reckon 117 = .ok (.isub, 1) := by decide +kernel
theorem dX4_reckon_118 : decode cX4_reckon 118 = .ok (.iastore, 1) := by decide +kernel
theorem dX4_reckon_119 : decode cX4_reckon 119 = .ok (.goto 101, 3) := by decide +kernel
theorem dX4_reckon_122 : decode cX4_reckon 122 = .ok (.iload 9, 2) := by decide +kernel
theorem dX4_reckon_124 : decode cX4_reckon 124 = .ok (.bipush 18, 2) := by decide +kernel
theorem dX4_reckon_126 : decode cX4_reckon 126 = .ok (.if_icmp .ne 55, 3) := by decide +kernel
theorem dX4_reckon_129 : decode cX4_reckon 129 = .ok (.iload 7, 2) := by decide +kernel
theorem dX4_reckon_131 : decode cX4_reckon 131 = .ok (.iconst 3, 1) := by decide +kernel
theorem dX4_reckon_132 : decode cX4_reckon 132 = .ok (.if_icmp .lt 88, 3) := by decide +kernel
theorem dX4_reckon_135 : decode cX4_reckon 135 = .ok (.iinc 7 (-2), 3) := by decide +kernel
theorem dX4_reckon_138 : decode cX4_reckon 138 = .ok (.aload_n 0, 1) := by decide +kernel
theorem dX4_reckon_139 : decode cX4_reckon 139 = .ok (.getfield 11, 3) := by decide +kernel
theorem dX4_reckon_142 : decode cX4_reckon 142 = .ok (.iload 7, 2) := by decide +kernel
theorem dX4_reckon_144 : decode cX4_reckon 144 = .ok (.iconst 1, 1) := by decide +kernel
theorem dX4_reckon_145 : decode cX4_reckon 145 = .ok (.isub, 1) := by decide +kernel
theorem dX4_reckon_146 : decode cX4_reckon 146 = .ok (.aload_n 0, 1) := by decide +kernel
theorem dX4_reckon_147 : decode cX4_reckon 147 = .ok (.getfield 11, 3) := by decide +kernel
theorem dX4_reckon_150 : decode cX4_reckon 150 = .ok (.iload 7, 2) := by decide +kernel
theorem dX4_reckon_152 : decode cX4_reckon 152 = .ok (.iconst 1, 1) := by decide +kernel
theorem dX4_reckon_153 : decode cX4_reckon 153 = .ok (.isub, 1) := by decide +kernel
theorem dX4_reckon_154 : decode cX4_reckon 154 = .ok (.iaload, 1) := by decide +kernel
theorem dX4_reckon_155 : decode cX4_reckon 155 = .ok (.ifCond .eq 13, 3) := by decide +kernel
theorem dX4_reckon_158 : decode cX4_reckon 158 = .ok (.aload_n 0, 1) := by decide +kernel
theorem dX4_reckon_159 : decode cX4_reckon 159 = .ok (.getfield 11, 3) := by decide +kernel
theorem dX4_reckon_162 : decode cX4_reckon 162 = .ok (.iload 7, 2) := by decide +kernel
theorem dX4_reckon_164 : decode cX4_reckon 164 = .ok (.iaload, 1) := by decide +kernel
theorem dX4_reckon_165 : decode cX4_reckon 165 = .ok (.goto 12, 3) := by decide +kernel
theorem dX4_reckon_168 : decode cX4_reckon 168 = .ok (.aload_n 0, 1) := by decide +kernel
theorem dX4_reckon_169 : decode cX4_reckon 169 = .ok (.getfield 11, 3) := by decide +kernel
theorem dX4_reckon_172 : decode cX4_reckon 172 = .ok (.iload 7, 2) := by decide +kernel
theorem dX4_reckon_174 : decode cX4_reckon 174 = .ok (.iconst 1, 1) := by decide +kernel
theorem dX4_reckon_175 : decode cX4_reckon 175 = .ok (.iadd, 1) := by decide +kernel
theorem dX4_reckon_176 : decode cX4_reckon 176 = .ok (.iaload, 1) := by decide +kernel
theorem dX4_reckon_177 : decode cX4_reckon 177 = .ok (.iastore, 1) := by decide +kernel
theorem dX4_reckon_178 : decode cX4_reckon 178 = .ok (.goto 42, 3) := by decide +kernel
theorem dX4_reckon_181 : decode cX4_reckon 181 = .ok (.iload 7, 2) := by decide +kernel
theorem dX4_reckon_183 : decode cX4_reckon 183 = .ok (.iconst 2, 1) := by decide +kernel
theorem dX4_reckon_184 : decode cX4_reckon 184 = .ok (.if_icmp .lt 36, 3) := by decide +kernel
theorem dX4_reckon_187 : decode cX4_reckon 187 = .ok (.iinc 7 (-1), 3) := by decide +kernel
theorem dX4_reckon_190 : decode cX4_reckon 190 = .ok (.aload_n 0, 1) := by decide +kernel
theorem dX4_reckon_191 : decode cX4_reckon 191 = .ok (.getfield 11, 3) := by decide +kernel
theorem dX4_reckon_194 : decode cX4_reckon 194 = .ok (.iload 7, 2) := by decide +kernel
theorem dX4_reckon_196 : decode cX4_reckon 196 = .ok (.iconst 1, 1) := by decide +kernel
theorem dX4_reckon_197 : decode cX4_reckon 197 = .ok (.isub, 1) := by decide +kernel
theorem dX4_reckon_198 : decode cX4_reckon 198 = .ok (.iload 9, 2) := by decide +kernel
theorem dX4_reckon_200 : decode cX4_reckon 200 = .ok (.aload_n 0, 1) := by decide +kernel
theorem dX4_reckon_201 : decode cX4_reckon 201 = .ok (.getfield 11, 3) := by decide +kernel
theorem dX4_reckon_204 : decode cX4_reckon 204 = .ok (.iload 7, 2) := by decide +kernel
theorem dX4_reckon_206 : decode cX4_reckon 206 = .ok (.iconst 1, 1) := by decide +kernel
theorem dX4_reckon_207 : decode cX4_reckon 207 = .ok (.isub, 1) := by decide +kernel
theorem dX4_reckon_208 : decode cX4_reckon 208 = .ok (.iaload, 1) := by decide +kernel
theorem dX4_reckon_209 : decode cX4_reckon 209 = .ok (.aload_n 0, 1) := by decide +kernel
theorem dX4_reckon_210 : decode cX4_reckon 210 = .ok (.getfield 11, 3) := by decide +kernel
theorem dX4_reckon_213 : decode cX4_reckon 213 = .ok (.iload 7, 2) := by decide +kernel
theorem dX4_reckon_215 : decode cX4_reckon 215 = .ok (.iaload, 1) := by decide +kernel
theorem dX4_reckon_216 : decode cX4_reckon 216 = .ok (.invokestatic 103, 3) := by decide +kernel
theorem dX4_reckon_219 : decode cX4_reckon 219 = .ok (.iastore, 1) := by decide +kernel
theorem dX4_reckon_220 : decode cX4_reckon 220 = .ok (.iinc 8 1, 3) := by decide +kernel
theorem dX4_reckon_223 : decode cX4_reckon 223 = .ok (.goto (-211), 3) := by decide +kernel
theorem dX4_reckon_226 : decode cX4_reckon 226 = .ok (.iload 7, 2) := by decide +kernel
theorem dX4_reckon_228 : decode cX4_reckon 228 = .ok (.ifCond .le 15, 3) := by decide +kernel
theorem dX4_reckon_231 : decode cX4_reckon 231 = .ok (.aload_n 0, 1) := by decide +kernel
theorem dX4_reckon_232 : decode cX4_reckon 232 = .ok (.getfield 11, 3) := by decide +kernel
theorem dX4_reckon_235 : decode cX4_reckon 235 = .ok (.iload 7, 2) := by decide +kernel
theorem dX4_reckon_237 : decode cX4_reckon 237 = .ok (.iconst 1, 1) := by decide +kernel
theorem dX4_reckon_238 : decode cX4_reckon 238 = .ok (.isub, 1) := by decide +kernel
theorem dX4_reckon_239 : decode cX4_reckon 239 = .ok (.iaload, 1) := by decide +kernel
theorem dX4_reckon_240 : decode cX4_reckon 240 = .ok (.goto 4, 3) := by decide +kernel
theorem dX4_reckon_243 : decode cX4_reckon 243 = .ok (.iload_n 3, 1) := by decide +kernel
theorem dX4_reckon_244 : decode cX4_reckon 244 = .ok (.ireturn, 1) := by decide +kernel
theorem dX4_factOf_0 : decode cX4_factOf 0 = .ok (.iload_n 3, 1) := by decide +kernel
theorem dX4_factOf_1 : decode cX4_factOf 1 = .ok (.ifCond .lt 9, 3) := by decide +kernel
theorem dX4_factOf_4 : decode cX4_factOf 4 = .ok (.iload_n 3, 1) := by decide +kernel
theorem dX4_factOf_5 : decode cX4_factOf 5 = .ok (.bipush 36, 2) := by decide +kernel
theorem dX4_factOf_7 : decode cX4_factOf 7 = .ok (.if_icmp .lt 5, 3) := by decide +kernel
theorem dX4_factOf_10 : decode cX4_factOf 10 = .ok (.iconst 0, 1) := by decide +kernel
theorem dX4_factOf_11 : decode cX4_factOf 11 = .ok (.ireturn, 1) := by decide +kernel
theorem dX4_factOf_12 : decode cX4_factOf 12 = .ok (.iload_n 0, 1) := by decide +kernel
theorem dX4_factOf_13 : decode cX4_factOf 13 = .ok (.tableswitch 78 0 4 #[35, 38, 59, 64, 71], 35) := by decide +kernel
theorem dX4_factOf_48 : decode cX4_factOf 48 = .ok (.iload 4, 2) := by decide +kernel
theorem dX4_factOf_50 : decode cX4_factOf 50 = .ok (.ireturn, 1) := by decide +kernel
theorem dX4_factOf_51 : decode cX4_factOf 51 = .ok (.aload_n 1, 1) := by decide +kernel
theorem dX4_factOf_52 : decode cX4_factOf 52 = .ok (.getfield 29, 3) := by decide +kernel
theorem dX4_factOf_55 : decode cX4_factOf 55 = .ok (.iload_n 3, 1) := by decide +kernel
theorem dX4_factOf_56 : decode cX4_factOf 56 = .ok (.iaload, 1) := by decide +kernel
theorem dX4_factOf_57 : decode cX4_factOf 57 = .ok (.ifCond .le 12, 3) := by decide +kernel
theorem dX4_factOf_60 : decode cX4_factOf 60 = .ok (.aload_n 1, 1) := by decide +kernel
theorem dX4_factOf_61 : decode cX4_factOf 61 = .ok (.getfield 29, 3) := by decide +kernel
theorem dX4_factOf_64 : decode cX4_factOf 64 = .ok (.iload_n 3, 1) := by decide +kernel
theorem dX4_factOf_65 : decode cX4_factOf 65 = .ok (.iaload, 1) := by decide +kernel
theorem dX4_factOf_66 : decode cX4_factOf 66 = .ok (.goto 5, 3) := by decide +kernel
theorem dX4_factOf_69 : decode cX4_factOf 69 = .ok (.bipush 99, 2) := by decide +kernel
theorem dX4_factOf_71 : decode cX4_factOf 71 = .ok (.ireturn, 1) := by decide +kernel
theorem dX4_factOf_72 : decode cX4_factOf 72 = .ok (.aload_n 2, 1) := by decide +kernel
theorem dX4_factOf_73 : decode cX4_factOf 73 = .ok (.getfield 38, 3) := by decide +kernel
theorem dX4_factOf_76 : decode cX4_factOf 76 = .ok (.ireturn, 1) := by decide +kernel
theorem dX4_factOf_77 : decode cX4_factOf 77 = .ok (.aload_n 2, 1) := by decide +kernel
theorem dX4_factOf_78 : decode cX4_factOf 78 = .ok (.getfield 107, 3) := by decide +kernel
theorem dX4_factOf_81 : decode cX4_factOf 81 = .ok (.iload_n 3, 1) := by decide +kernel
theorem dX4_factOf_82 : decode cX4_factOf 82 = .ok (.iaload, 1) := by decide +kernel
theorem dX4_factOf_83 : decode cX4_factOf 83 = .ok (.ireturn, 1) := by decide +kernel
theorem dX4_factOf_84 : decode cX4_factOf 84 = .ok (.aload_n 2, 1) := by decide +kernel
theorem dX4_factOf_85 : decode cX4_factOf 85 = .ok (.getfield 110, 3) := by decide +kernel
theorem dX4_factOf_88 : decode cX4_factOf 88 = .ok (.iload_n 3, 1) := by decide +kernel
theorem dX4_factOf_89 : decode cX4_factOf 89 = .ok (.iaload, 1) := by decide +kernel
theorem dX4_factOf_90 : decode cX4_factOf 90 = .ok (.ireturn, 1) := by decide +kernel
theorem dX4_factOf_91 : decode cX4_factOf 91 = .ok (.iconst 0, 1) := by decide +kernel
theorem dX4_factOf_92 : decode cX4_factOf 92 = .ok (.ireturn, 1) := by decide +kernel
theorem dX4_joined_0 : decode cX4_joined 0 = .ok (.iload_n 0, 1) := by decide +kernel
theorem dX4_joined_1 : decode cX4_joined 1 = .ok (.tableswitch 175 5 16 #[63, 72, 81, 90, 108, 122, 128, 134, 138, 142, 153, 164], 63) := by decide +kernel
theorem dX4_joined_64 : decode cX4_joined 64 = .ok (.iload_n 1, 1) := by decide +kernel
theorem dX4_joined_65 : decode cX4_joined 65 = .ok (.i2l, 1) := by decide +kernel
theorem dX4_joined_66 : decode cX4_joined 66 = .ok (.iload_n 2, 1) := by decide +kernel
theorem dX4_joined_67 : decode cX4_joined 67 = .ok (.i2l, 1) := by decide +kernel
theorem dX4_joined_68 : decode cX4_joined 68 = .ok (.ladd, 1) := by decide +kernel
theorem dX4_joined_69 : decode cX4_joined 69 = .ok (.invokestatic 113, 3) := by decide +kernel
theorem dX4_joined_72 : decode cX4_joined 72 = .ok (.ireturn, 1) := by decide +kernel
theorem dX4_joined_73 : decode cX4_joined 73 = .ok (.iload_n 1, 1) := by decide +kernel
theorem dX4_joined_74 : decode cX4_joined 74 = .ok (.i2l, 1) := by decide +kernel
theorem dX4_joined_75 : decode cX4_joined 75 = .ok (.iload_n 2, 1) := by decide +kernel
theorem dX4_joined_76 : decode cX4_joined 76 = .ok (.i2l, 1) := by decide +kernel
theorem dX4_joined_77 : decode cX4_joined 77 = .ok (.lsub, 1) := by decide +kernel
theorem dX4_joined_78 : decode cX4_joined 78 = .ok (.invokestatic 113, 3) := by decide +kernel
theorem dX4_joined_81 : decode cX4_joined 81 = .ok (.ireturn, 1) := by decide +kernel
theorem dX4_joined_82 : decode cX4_joined 82 = .ok (.iload_n 1, 1) := by decide +kernel
theorem dX4_joined_83 : decode cX4_joined 83 = .ok (.i2l, 1) := by decide +kernel
theorem dX4_joined_84 : decode cX4_joined 84 = .ok (.iload_n 2, 1) := by decide +kernel
theorem dX4_joined_85 : decode cX4_joined 85 = .ok (.i2l, 1) := by decide +kernel
theorem dX4_joined_86 : decode cX4_joined 86 = .ok (.lmul, 1) := by decide +kernel
theorem dX4_joined_87 : decode cX4_joined 87 = .ok (.invokestatic 113, 3) := by decide +kernel
theorem dX4_joined_90 : decode cX4_joined 90 = .ok (.ireturn, 1) := by decide +kernel
theorem dX4_joined_91 : decode cX4_joined 91 = .ok (.iload_n 2, 1) := by decide +kernel
theorem dX4_joined_92 : decode cX4_joined 92 = .ok (.ifCond .ne 7, 3) := by decide +kernel
theorem dX4_joined_95 : decode cX4_joined 95 = .ok (.iconst 0, 1) := by decide +kernel
theorem dX4_joined_96 : decode cX4_joined 96 = .ok (.goto 12, 3) := by decide +kernel
theorem dX4_joined_99 : decode cX4_joined 99 = .ok (.iload_n 1, 1) := by decide +kernel
theorem dX4_joined_100 : decode cX4_joined 100 = .ok (.iload_n 2, 1) := by decide +kernel
theorem dX4_joined_101 : decode cX4_joined 101 = .ok (.invokestatic 117, 3) := by decide +kernel
theorem dX4_joined_104 : decode cX4_joined 104 = .ok (.i2l, 1) := by decide +kernel
theorem dX4_joined_105 : decode cX4_joined 105 = .ok (.invokestatic 113, 3) := by decide +kernel
theorem dX4_joined_108 : decode cX4_joined 108 = .ok (.ireturn, 1) := by decide +kernel
theorem dX4_joined_109 : decode cX4_joined 109 = .ok (.iload_n 2, 1) := by decide +kernel
theorem dX4_joined_110 : decode cX4_joined 110 = .ok (.ifCond .ne 7, 3) := by decide +kernel
theorem dX4_joined_113 : decode cX4_joined 113 = .ok (.iconst 0, 1) := by decide +kernel
theorem dX4_joined_114 : decode cX4_joined 114 = .ok (.goto 8, 3) := by decide +kernel
theorem dX4_joined_117 : decode cX4_joined 117 = .ok (.iload_n 1, 1) := by decide +kernel
theorem dX4_joined_118 : decode cX4_joined 118 = .ok (.iload_n 2, 1) := by decide +kernel
theorem dX4_joined_119 : decode cX4_joined 119 = .ok (.invokestatic 120, 3) := by decide +kernel
theorem dX4_joined_122 : decode cX4_joined 122 = .ok (.ireturn, 1) := by decide +kernel
theorem dX4_joined_123 : decode cX4_joined 123 = .ok (.iload_n 1, 1) := by decide +kernel
theorem dX4_joined_124 : decode cX4_joined 124 = .ok (.iload_n 2, 1) := by decide +kernel
theorem dX4_joined_125 : decode cX4_joined 125 = .ok (.invokestatic 41, 3) := by decide +kernel
theorem dX4_joined_128 : decode cX4_joined 128 = .ok (.ireturn, 1) := by decide +kernel
theorem dX4_joined_129 : decode cX4_joined 129 = .ok (.iload_n 1, 1) := by decide +kernel
theorem dX4_joined_130 : decode cX4_joined 130 = .ok (.iload_n 2, 1) := by decide +kernel
theorem dX4_joined_131 : decode cX4_joined 131 = .ok (.invokestatic 123, 3) := by decide +kernel
theorem dX4_joined_134 : decode cX4_joined 134 = .ok (.ireturn, 1) := by decide +kernel
theorem dX4_joined_135 : decode cX4_joined 135 = .ok (.iload_n 1, 1) := by decide +kernel
theorem dX4_joined_136 : decode cX4_joined 136 = .ok (.iload_n 2, 1) := by decide +kernel
theorem dX4_joined_137 : decode cX4_joined 137 = .ok (.ior, 1) := by decide +kernel
theorem dX4_joined_138 : decode cX4_joined 138 = .ok (.ireturn, 1) := by decide +kernel
theorem dX4_joined_139 : decode cX4_joined 139 = .ok (.iload_n 1, 1) := by decide +kernel
theorem dX4_joined_140 : decode cX4_joined 140 = .ok (.iload_n 2, 1) := by decide +kernel
theorem dX4_joined_141 : decode cX4_joined 141 = .ok (.iand, 1) := by decide +kernel
theorem dX4_joined_142 : decode cX4_joined 142 = .ok (.ireturn, 1) := by decide +kernel
theorem dX4_joined_143 : decode cX4_joined 143 = .ok (.iload_n 1, 1) := by decide +kernel
theorem dX4_joined_144 : decode cX4_joined 144 = .ok (.iload_n 2, 1) := by decide +kernel
theorem dX4_joined_145 : decode cX4_joined 145 = .ok (.if_icmp .ge 7, 3) := by decide +kernel
theorem dX4_joined_148 : decode cX4_joined 148 = .ok (.iconst 1, 1) := by decide +kernel
theorem dX4_joined_149 : decode cX4_joined 149 = .ok (.goto 4, 3) := by decide +kernel
theorem dX4_joined_152 : decode cX4_joined 152 = .ok (.iconst 0, 1) := by decide +kernel
theorem dX4_joined_153 : decode cX4_joined 153 = .ok (.ireturn, 1) := by decide +kernel
theorem dX4_joined_154 : decode cX4_joined 154 = .ok (.iload_n 1, 1) := by decide +kernel
theorem dX4_joined_155 : decode cX4_joined 155 = .ok (.iload_n 2, 1) := by decide +kernel
theorem dX4_joined_156 : decode cX4_joined 156 = .ok (.if_icmp .le 7, 3) := by decide +kernel
theorem dX4_joined_159 : decode cX4_joined 159 = .ok (.iconst 1, 1) := by decide +kernel
theorem dX4_joined_160 : decode cX4_joined 160 = .ok (.goto 4, 3) := by decide +kernel
theorem dX4_joined_163 : decode cX4_joined 163 = .ok (.iconst 0, 1) := by decide +kernel
theorem dX4_joined_164 : decode cX4_joined 164 = .ok (.ireturn, 1) := by decide +kernel
theorem dX4_joined_165 : decode cX4_joined 165 = .ok (.iload_n 1, 1) := by decide +kernel
theorem dX4_joined_166 : decode cX4_joined 166 = .ok (.iload_n 2, 1) := by decide +kernel
theorem dX4_joined_167 : decode cX4_joined 167 = .ok (.if_icmp .ne 7, 3) := by decide +kernel
theorem dX4_joined_170 : decode cX4_joined 170 = .ok (.iconst 1, 1) := by decide +kernel
theorem dX4_joined_171 : decode cX4_joined 171 = .ok (.goto 4, 3) := by decide +kernel
theorem dX4_joined_174 : decode cX4_joined 174 = .ok (.iconst 0, 1) := by decide +kernel
theorem dX4_joined_175 : decode cX4_joined 175 = .ok (.ireturn, 1) := by decide +kernel
theorem dX4_joined_176 : decode cX4_joined 176 = .ok (.iconst 0, 1) := by decide +kernel
theorem dX4_joined_177 : decode cX4_joined 177 = .ok (.ireturn, 1) := by decide +kernel
theorem dX4_bounded_0 : decode cX4_bounded 0 = .ok (.ldc2_w 126, 3) := by decide +kernel
theorem dX4_bounded_3 : decode cX4_bounded 3 = .ok (.ldc2_w 128, 3) := by decide +kernel
theorem dX4_bounded_6 : decode cX4_bounded 6 = .ok (.lload_n 0, 1) := by decide +kernel
theorem dX4_bounded_7 : decode cX4_bounded 7 = .ok (.invokestatic 130, 3) := by decide +kernel
theorem dX4_bounded_10 : decode cX4_bounded 10 = .ok (.invokestatic 133, 3) := by decide +kernel
theorem dX4_bounded_13 : decode cX4_bounded 13 = .ok (.l2i, 1) := by decide +kernel
theorem dX4_bounded_14 : decode cX4_bounded 14 = .ok (.ireturn, 1) := by decide +kernel
theorem dX5_readTown_0 : decode cX5_readTown 0 = .ok (.aload_n 0, 1) := by decide +kernel
theorem dX5_readTown_1 : decode cX5_readTown 1 = .ok (.getfield 29, 3) := by decide +kernel
theorem dX5_readTown_4 : decode cX5_readTown 4 = .ok (.getfield 120, 3) := by decide +kernel
theorem dX5_readTown_7 : decode cX5_readTown 7 = .ok (.bipush 6, 2) := by decide +kernel
theorem dX5_readTown_9 : decode cX5_readTown 9 = .ok (.if_icmp .lt 14, 3) := by decide +kernel
theorem dX5_readTown_12 : decode cX5_readTown 12 = .ok (.aload_n 0, 1) := by decide +kernel
theorem dX5_readTown_13 : decode cX5_readTown 13 = .ok (.bipush 6, 2) := by decide +kernel
theorem dX5_readTown_15 : decode cX5_readTown 15 = .ok (.aload_n 0, 1) := by decide +kernel
theorem dX5_readTown_16 : decode cX5_readTown 16 = .ok (.getfield 23, 3) := by decide +kernel
theorem dX5_readTown_19 : decode cX5_readTown 19 = .ok (.invokevirtual 73, 3) := by decide +kernel
theorem dX5_readTown_22 : decode cX5_readTown 22 = .ok (.return_, 1) := by decide +kernel
theorem dX5_readTown_23 : decode cX5_readTown 23 = .ok (.aload_n 0, 1) := by decide +kernel
theorem dX5_readTown_24 : decode cX5_readTown 24 = .ok (.invokevirtual 70, 3) := by decide +kernel
theorem dX5_readTown_27 : decode cX5_readTown 27 = .ok (.aload_n 0, 1) := by decide +kernel
theorem dX5_readTown_28 : decode cX5_readTown 28 = .ok (.getfield 17, 3) := by decide +kernel
theorem dX5_readTown_31 : decode cX5_readTown 31 = .ok (.iconst 3, 1) := by decide +kernel
theorem dX5_readTown_32 : decode cX5_readTown 32 = .ok (.if_icmp .eq 10, 3) := by decide +kernel
theorem dX5_readTown_35 : decode cX5_readTown 35 = .ok (.aload_n 0, 1) := by decide +kernel
theorem dX5_readTown_36 : decode cX5_readTown 36 = .ok (.invokevirtual 117, 3) := by decide +kernel
theorem dX5_readTown_39 : decode cX5_readTown 39 = .ok (.goto 66, 3) := by decide +kernel
theorem dX5_readTown_42 : decode cX5_readTown 42 = .ok (.aload_n 0, 1) := by decide +kernel
theorem dX5_readTown_43 : decode cX5_readTown 43 = .ok (.getfield 29, 3) := by decide +kernel
theorem dX5_readTown_46 : decode cX5_readTown 46 = .ok (.aload_n 0, 1) := by decide +kernel
theorem dX5_readTown_47 : decode cX5_readTown 47 = .ok (.getfield 20, 3) := by decide +kernel
theorem dX5_readTown_50 : decode cX5_readTown 50 = .ok (.invokevirtual 123, 3) := by decide +kernel
theorem dX5_readTown_53 : decode cX5_readTown 53 = .ok (.iconst (-1), 1) := by decide +kernel
theorem dX5_readTown_54 : decode cX5_readTown 54 = .ok (.if_icmp .eq 15, 3) := by decide +kernel
theorem dX5_readTown_57 : decode cX5_readTown 57 = .ok (.aload_n 0, 1) := by decide +kernel
theorem dX5_readTown_58 : decode cX5_readTown 58 = .ok (.iconst 2, 1) := by decide +kernel
theorem dX5_readTown_59 : decode cX5_readTown 59 = .ok (.aload_n 0, 1) := by decide +kernel
theorem dX5_readTown_60 : decode cX5_readTown 60 = .ok (.getfield 23, 3) := by decide +kernel
theorem dX5_readTown_63 : decode cX5_readTown 63 = .ok (.invokevirtual 73, 3) := by decide +kernel
theorem dX5_readTown_66 : decode cX5_readTown 66 = .ok (.goto 39, 3) := by decide +kernel
theorem dX5_readTown_69 : decode cX5_readTown 69 = .ok (.aload_n 0, 1) := by decide +kernel
theorem dX5_readTown_70 : decode cX5_readTown 70 = .ok (.getfield 29, 3) := by decide +kernel
theorem dX5_readTown_73 : decode cX5_readTown 73 = .ok (.getfield 127, 3) := by decide +kernel
theorem dX5_readTown_76 : decode cX5_readTown 76 = .ok (.aload_n 0, 1) := by decide +kernel
theorem dX5_readTown_77 : decode cX5_readTown 77 = .ok (.getfield 29, 3) := by decide +kernel
theorem dX5_readTown_80 : decode cX5_readTown 80 = .ok (.getfield 120, 3) := by decide +kernel
theorem dX5_readTown_83 : decode cX5_readTown 83 = .ok (.aload_n 0, 1) := by decide +kernel
theorem dX5_readTown_84 : decode cX5_readTown 84 = .ok (.getfield 20, 3) := by decide +kernel
theorem dX5_readTown_87 : decode cX5_readTown 87 = .ok (.iastore, 1) := by decide +kernel
theorem dX5_readTown_88 : decode cX5_readTown 88 = .ok (.aload_n 0, 1) := by decide +kernel
theorem dX5_readTown_89 : decode cX5_readTown 89 = .ok (.getfield 29, 3) := by decide +kernel
theorem dX5_readTown_92 : decode cX5_readTown 92 = .ok (.dup, 1) := by decide +kernel
theorem dX5_readTown_93 : decode cX5_readTown 93 = .ok (.getfield 120, 3) := by decide +kernel
theorem dX5_readTown_96 : decode cX5_readTown 96 = .ok (.iconst 1, 1) := by decide +kernel
theorem dX5_readTown_97 : decode cX5_readTown 97 = .ok (.iadd, 1) := by decide +kernel
theorem dX5_readTown_98 : decode cX5_readTown 98 = .ok (.putfield 120, 3) := by decide +kernel
theorem dX5_readTown_101 : decode cX5_readTown 101 = .ok (.aload_n 0, 1) := by decide +kernel
theorem dX5_readTown_102 : decode cX5_readTown 102 = .ok (.invokevirtual 70, 3) := by decide +kernel
theorem dX5_readTown_105 : decode cX5_readTown 105 = .ok (.return_, 1) := by decide +kernel
theorem dX5_readCart_0 : decode cX5_readCart 0 = .ok (.aload_n 0, 1) := by decide +kernel
theorem dX5_readCart_1 : decode cX5_readCart 1 = .ok (.getfield 29, 3) := by decide +kernel
theorem dX5_readCart_4 : decode cX5_readCart 4 = .ok (.getfield 130, 3) := by decide +kernel
theorem dX5_readCart_7 : decode cX5_readCart 7 = .ok (.bipush 12, 2) := by decide +kernel
theorem dX5_readCart_9 : decode cX5_readCart 9 = .ok (.if_icmp .lt 14, 3) := by decide +kernel
theorem dX5_readCart_12 : decode cX5_readCart 12 = .ok (.aload_n 0, 1) := by decide +kernel
theorem dX5_readCart_13 : decode cX5_readCart 13 = .ok (.bipush 6, 2) := by decide +kernel
theorem dX5_readCart_15 : decode cX5_readCart 15 = .ok (.aload_n 0, 1) := by decide +kernel
theorem dX5_readCart_16 : decode cX5_readCart 16 = .ok (.getfield 23, 3) := by decide +kernel
theorem dX5_readCart_19 : decode cX5_readCart 19 = .ok (.invokevirtual 73, 3) := by decide +kernel
theorem dX5_readCart_22 : decode cX5_readCart 22 = .ok (.return_, 1) := by decide +kernel
theorem dX5_readCart_23 : decode cX5_readCart 23 = .ok (.aload_n 0, 1) := by decide +kernel
theorem dX5_readCart_24 : decode cX5_readCart 24 = .ok (.invokevirtual 70, 3) := by decide +kernel
theorem dX5_readCart_27 : decode cX5_readCart 27 = .ok (.aload_n 0, 1) := by decide +kernel
theorem dX5_readCart_28 : decode cX5_readCart 28 = .ok (.iconst (-1), 1) := by decide +kernel
theorem dX5_readCart_29 : decode cX5_readCart 29 = .ok (.iconst 1, 1) := by decide +kernel
theorem dX5_readCart_30 : decode cX5_readCart 30 = .ok (.invokevirtual 133, 3) := by decide +kernel
theorem dX5_readCart_33 : decode cX5_readCart 33 = .ok (.istore_n 1, 1) := by decide +kernel
theorem dX5_readCart_34 : decode cX5_readCart 34 = .ok (.aload_n 0, 1) := by decide +kernel
theorem dX5_readCart_35 : decode cX5_readCart 35 = .ok (.iconst 2, 1) := by decide +kernel
theorem dX5_readCart_36 : decode cX5_readCart 36 = .ok (.invokevirtual 137, 3) := by decide +kernel
theorem dX5_readCart_39 : decode cX5_readCart 39 = .ok (.aload_n 0, 1) := by decide +kernel
theorem dX5_readCart_40 : decode cX5_readCart 40 = .ok (.iload_n 1, 1) := by decide +kernel
theorem dX5_readCart_41 : decode cX5_readCart 41 = .ok (.iconst 1, 1) := by decide +kernel
theorem dX5_readCart_42 : decode cX5_readCart 42 = .ok (.invokevirtual 133, 3) := by decide +kernel
theorem dX5_readCart_45 : decode cX5_readCart 45 = .ok (.istore_n 2, 1) := by decide +kernel
theorem dX5_readCart_46 : decode cX5_readCart 46 = .ok (.aload_n 0, 1) := by decide +kernel
theorem dX5_readCart_47 : decode cX5_readCart 47 = .ok (.iconst 3, 1) := by decide +kernel
theorem dX5_readCart_48 : decode cX5_readCart 48 = .ok (.invokevirtual 137, 3) := by decide +kernel
theorem dX5_readCart_51 : decode cX5_readCart 51 = .ok (.aload_n 0, 1) := by decide +kernel
theorem dX5_readCart_52 : decode cX5_readCart 52 = .ok (.iconst 1, 1) := by decide +kernel
theorem dX5_readCart_53 : decode cX5_readCart 53 = .ok (.bipush 9, 2) := by decide +kernel
theorem dX5_readCart_55 : decode cX5_readCart 55 = .ok (.invokevirtual 108, 3) := by decide +kernel
theorem dX5_readCart_58 : decode cX5_readCart 58 = .ok (.istore_n 3, 1) := by decide +kernel
theorem dX5_readCart_59 : decode cX5_readCart 59 = .ok (.aload_n 0, 1) := by decide +kernel
theorem dX5_readCart_60 : decode cX5_readCart 60 = .ok (.getfield 43, 3) := by decide +kernel
theorem dX5_readCart_63 : decode cX5_readCart 63 = .ok (.ifCond .ne 58, 3) := by decide +kernel
theorem dX5_readCart_66 : decode cX5_readCart 66 = .ok (.aload_n 0, 1) := by decide +kernel
theorem dX5_readCart_67 : decode cX5_readCart 67 = .ok (.getfield 29, 3) := by decide +kernel
theorem dX5_readCart_70 : decode cX5_readCart 70 = .ok (.iload_n 1, 1) := by decide +kernel
theorem dX5_readCart_71 : decode cX5_readCart 71 = .ok (.iload_n 2, 1) := by decide +kernel
theorem dX5_readCart_72 : decode cX5_readCart 72 = .ok (.invokevirtual 140, 3) := by decide +kernel
theorem dX5_readCart_75 : decode cX5_readCart 75 = .ok (.ifCond .eq 46, 3) := by decide +kernel
theorem dX5_readCart_78 : decode cX5_readCart 78 = .ok (.aload_n 0, 1) := by decide +kernel
theorem dX5_readCart_79 : decode cX5_readCart 79 = .ok (.getfield 29, 3) := by decide +kernel
theorem dX5_readCart_82 : decode cX5_readCart 82 = .ok (.getfield 144, 3) := by decide +kernel
theorem dX5_readCart_85 : decode cX5_readCart 85 = .ok (.iload_n 1, 1) := by decide +kernel
theorem dX5_readCart_86 : decode cX5_readCart 86 = .ok (.bipush 6, 2) := by decide +kernel
theorem dX5_readCart_88 : decode cX5_readCart 88 = .ok (.imul, 1) := by decide +kernel
theorem dX5_readCart_89 : decode cX5_readCart 89 = .ok (.iload_n 2, 1) := by decide +kernel
theorem dX5_readCart_90 : decode cX5_readCart 90 = .ok (.iadd, 1) := by decide +kernel
theorem dX5_readCart_91 : decode cX5_readCart 91 = .ok (.iload_n 3, 1) := by decide +kernel
theorem dX5_readCart_92 : decode cX5_readCart 92 = .ok (.iastore, 1) := by decide +kernel
theorem dX5_readCart_93 : decode cX5_readCart 93 = .ok (.aload_n 0, 1) := by decide +kernel
theorem dX5_readCart_94 : decode cX5_readCart 94 = .ok (.getfield 29, 3) := by decide +kernel
theorem dX5_readCart_97 : decode cX5_readCart 97 = .ok (.getfield 144, 3) := by decide +kernel
theorem dX5_readCart_100 : decode cX5_readCart 100 = .ok (.iload_n 2, 1) := by decide +kernel
theorem dX5_readCart_101 : decode cX5_readCart 101 = .ok (.bipush 6, 2) := by decide +kernel
theorem dX5_readCart_103 : decode cX5_readCart 103 = .ok (.imul, 1) := by decide +kernel
theorem dX5_readCart_104 : decode cX5_readCart 104 = .ok (.iload_n 1, 1) := by decide +kernel
theorem dX5_readCart_105 : decode cX5_readCart 105 = .ok (.iadd, 1) := by decide +kernel
theorem dX5_readCart_106 : decode cX5_readCart 106 = .ok (.iload_n 3, 1) := by decide +kernel
theorem dX5_readCart_107 : decode cX5_readCart 107 = .ok (.iastore, 1) := by decide +kernel
theorem dX5_readCart_108 : decode cX5_readCart 108 = .ok (.aload_n 0, 1) := by decide +kernel
theorem dX5_readCart_109 : decode cX5_readCart 109 = .ok (.getfield 29, 3) := by decide +kernel
theorem dX5_readCart_112 : decode cX5_readCart 112 = .ok (.dup, 1) := by decide +kernel
theorem dX5_readCart_113 : decode cX5_readCart 113 = .ok (.getfield 130, 3) := by decide +kernel
theorem dX5_readCart_116 : decode cX5_readCart 116 = .ok (.iconst 1, 1) := by decide +kernel
theorem dX5_readCart_117 : decode cX5_readCart 117 = .ok (.iadd, 1) := by decide +kernel
theorem dX5_readCart_118 : decode cX5_readCart 118 = .ok (.putfield 130, 3) := by decide +kernel
theorem dX5_readCart_121 : decode cX5_readCart 121 = .ok (.return_, 1) := by decide +kernel
theorem dX5_readHolds_0 : decode cX5_readHolds 0 = .ok (.aload_n 0, 1) := by decide +kernel
theorem dX5_readHolds_1 : decode cX5_readHolds 1 = .ok (.invokevirtual 70, 3) := by decide +kernel
theorem dX5_readHolds_4 : decode cX5_readHolds 4 = .ok (.aload_n 0, 1) := by decide +kernel
theorem dX5_readHolds_5 : decode cX5_readHolds 5 = .ok (.iconst (-1), 1) := by decide +kernel
theorem dX5_readHolds_6 : decode cX5_readHolds 6 = .ok (.iconst 0, 1) := by decide +kernel
theorem dX5_readHolds_7 : decode cX5_readHolds 7 = .ok (.invokevirtual 133, 3) := by decide +kernel
theorem dX5_readHolds_10 : decode cX5_readHolds 10 = .ok (.istore_n 1, 1) := by decide +kernel
theorem dX5_readHolds_11 : decode cX5_readHolds 11 = .ok (.aload_n 0, 1) := by decide +kernel
theorem dX5_readHolds_12 : decode cX5_readHolds 12 = .ok (.iconst 5, 1) := by decide +kernel
theorem dX5_readHolds_13 : decode cX5_readHolds 13 = .ok (.invokevirtual 137, 3) := by decide +kernel
theorem dX5_readHolds_16 : decode cX5_readHolds 16 = .ok (.aload_n 0, 1) := by decide +kernel
theorem dX5_readHolds_17 : decode cX5_readHolds 17 = .ok (.iload_n 1, 1) := by decide +kernel
theorem dX5_readHolds_18 : decode cX5_readHolds 18 = .ok (.iconst 0, 1) := by decide +kernel
theorem dX5_readHolds_19 : decode cX5_readHolds 19 = .ok (.invokevirtual 133, 3) := by decide +kernel
theorem dX5_readHolds_22 : decode cX5_readHolds 22 = .ok (.istore_n 2, 1) := by decide +kernel
theorem dX5_readHolds_23 : decode cX5_readHolds 23 = .ok (.aload_n 0, 1) := by decide +kernel
theorem dX5_readHolds_24 : decode cX5_readHolds 24 = .ok (.iconst 0, 1) := by decide +kernel
theorem dX5_readHolds_25 : decode cX5_readHolds 25 = .ok (.bipush 20, 2) := by decide +kernel
theorem dX5_readHolds_27 : decode cX5_readHolds 27 = .ok (.invokevirtual 108, 3) := by decide +kernel
theorem dX5_readHolds_30 : decode cX5_readHolds 30 = .ok (.istore_n 3, 1) := by decide +kernel
theorem dX5_readHolds_31 : decode cX5_readHolds 31 = .ok (.aload_n 0, 1) := by decide +kernel
theorem dX5_readHolds_32 : decode cX5_readHolds 32 = .ok (.getfield 43, 3) := by decide +kernel
theorem dX5_readHolds_35 : decode cX5_readHolds 35 = .ok (.ifCond .ne 30, 3) := by decide +kernel
theorem dX5_readHolds_38 : decode cX5_readHolds 38 = .ok (.aload_n 0, 1) := by decide +kernel
theorem dX5_readHolds_39 : decode cX5_readHolds 39 = .ok (.getfield 29, 3) := by decide +kernel
theorem dX5_readHolds_42 : decode cX5_readHolds 42 = .ok (.iload_n 1, 1) := by decide +kernel
theorem dX5_readHolds_43 : decode cX5_readHolds 43 = .ok (.iload_n 2, 1) := by decide +kernel
theorem dX5_readHolds_44 : decode cX5_readHolds 44 = .ok (.invokevirtual 140, 3) := by decide +kernel
theorem dX5_readHolds_47 : decode cX5_readHolds 47 = .ok (.ifCond .eq 18, 3) := by decide +kernel
theorem dX5_readHolds_50 : decode cX5_readHolds 50 = .ok (.aload_n 0, 1) := by decide +kernel
theorem dX5_readHolds_51 : decode cX5_readHolds 51 = .ok (.getfield 29, 3) := by decide +kernel
theorem dX5_readHolds_54 : decode cX5_readHolds 54 = .ok (.getfield 147, 3) := by decide +kernel
theorem dX5_readHolds_57 : decode cX5_readHolds 57 = .ok (.iload_n 1, 1) := by decide +kernel
theorem dX5_readHolds_58 : decode cX5_readHolds 58 = .ok (.bipush 6, 2) := by decide +kernel
theorem dX5_readHolds_60 : decode cX5_readHolds 60 = .ok (.imul, 1) := by decide +kernel
theorem dX5_readHolds_61 : decode cX5_readHolds 61 = .ok (.iload_n 2, 1) := by decide +kernel
theorem dX5_readHolds_62 : decode cX5_readHolds 62 = .ok (.iadd, 1) := by decide +kernel
theorem dX5_readHolds_63 : decode cX5_readHolds 63 = .ok (.iload_n 3, 1) := by decide +kernel
theorem dX5_readHolds_64 : decode cX5_readHolds 64 = .ok (.iastore, 1) := by decide +kernel
theorem dX5_readHolds_65 : decode cX5_readHolds 65 = .ok (.return_, 1) := by decide +kernel
theorem dX5_readNamed_0 : decode cX5_readNamed 0 = .ok (.aload_n 0, 1) := by decide +kernel
theorem dX5_readNamed_1 : decode cX5_readNamed 1 = .ok (.getfield 17, 3) := by decide +kernel
theorem dX5_readNamed_4 : decode cX5_readNamed 4 = .ok (.iconst 3, 1) := by decide +kernel
theorem dX5_readNamed_5 : decode cX5_readNamed 5 = .ok (.if_icmp .eq 9, 3) := by decide +kernel
theorem dX5_readNamed_8 : decode cX5_readNamed 8 = .ok (.aload_n 0, 1) := by decide +kernel
theorem dX5_readNamed_9 : decode cX5_readNamed 9 = .ok (.invokevirtual 117, 3) := by decide +kernel
theorem dX5_readNamed_12 : decode cX5_readNamed 12 = .ok (.iconst (-1), 1) := by decide +kernel
theorem dX5_readNamed_13 : decode cX5_readNamed 13 = .ok (.ireturn, 1) := by decide +kernel
theorem dX5_readNamed_14 : decode cX5_readNamed 14 = .ok (.aload_n 0, 1) := by decide +kernel
theorem dX5_readNamed_15 : decode cX5_readNamed 15 = .ok (.getfield 29, 3) := by decide +kernel
theorem dX5_readNamed_18 : decode cX5_readNamed 18 = .ok (.aload_n 0, 1) := by decide +kernel
theorem dX5_readNamed_19 : decode cX5_readNamed 19 = .ok (.getfield 20, 3) := by decide +kernel
theorem dX5_readNamed_22 : decode cX5_readNamed 22 = .ok (.invokevirtual 123, 3) := by decide +kernel
theorem dX5_readNamed_25 : decode cX5_readNamed 25 = .ok (.istore_n 3, 1) := by decide +kernel
theorem dX5_readNamed_26 : decode cX5_readNamed 26 = .ok (.iload_n 3, 1) := by decide +kernel
theorem dX5_readNamed_27 : decode cX5_readNamed 27 = .ok (.iconst (-1), 1) := by decide +kernel
theorem dX5_readNamed_28 : decode cX5_readNamed 28 = .ok (.if_icmp .eq 8, 3) := by decide +kernel
theorem dX5_readNamed_31 : decode cX5_readNamed 31 = .ok (.iload_n 3, 1) := by decide +kernel
theorem dX5_readNamed_32 : decode cX5_readNamed 32 = .ok (.iload_n 1, 1) := by decide +kernel
theorem dX5_readNamed_33 : decode cX5_readNamed 33 = .ok (.if_icmp .ne 7, 3) := by decide +kernel
theorem dX5_readNamed_36 : decode cX5_readNamed 36 = .ok (.iconst 1, 1) := by decide +kernel
theorem dX5_readNamed_37 : decode cX5_readNamed 37 = .ok (.goto 4, 3) := by decide +kernel
theorem dX5_readNamed_40 : decode cX5_readNamed 40 = .ok (.iconst 0, 1) := by decide +kernel
theorem dX5_readNamed_41 : decode cX5_readNamed 41 = .ok (.istore 4, 2) := by decide +kernel
theorem dX5_readNamed_43 : decode cX5_readNamed 43 = .ok (.iload 4, 2) := by decide +kernel
theorem dX5_readNamed_45 : decode cX5_readNamed 45 = .ok (.ifCond .ne 43, 3) := by decide +kernel
theorem dX5_readNamed_48 : decode cX5_readNamed 48 = .ok (.iload_n 2, 1) := by decide +kernel
theorem dX5_readNamed_49 : decode cX5_readNamed 49 = .ok (.ifCond .eq 39, 3) := by decide +kernel
theorem dX5_readNamed_52 : decode cX5_readNamed 52 = .ok (.aload_n 0, 1) := by decide +kernel
theorem dX5_readNamed_53 : decode cX5_readNamed 53 = .ok (.getfield 29, 3) := by decide +kernel
theorem dX5_readNamed_56 : decode cX5_readNamed 56 = .ok (.iload_n 1, 1) := by decide +kernel
theorem dX5_readNamed_57 : decode cX5_readNamed 57 = .ok (.iload_n 3, 1) := by decide +kernel
theorem dX5_readNamed_58 : decode cX5_readNamed 58 = .ok (.invokevirtual 140, 3) := by decide +kernel
theorem dX5_readNamed_61 : decode cX5_readNamed 61 = .ok (.ifCond .eq 27, 3) := by decide +kernel
theorem dX5_readNamed_64 : decode cX5_readNamed 64 = .ok (.aload_n 0, 1) := by decide +kernel
theorem dX5_readNamed_65 : decode cX5_readNamed 65 = .ok (.getfield 29, 3) := by decide +kernel
theorem dX5_readNamed_68 : decode cX5_readNamed 68 = .ok (.getfield 144, 3) := by decide +kernel
theorem dX5_readNamed_71 : decode cX5_readNamed 71 = .ok (.iload_n 1, 1) := by decide +kernel
theorem dX5_readNamed_72 : decode cX5_readNamed 72 = .ok (.bipush 6, 2) := by decide +kernel
theorem dX5_readNamed_74 : decode cX5_readNamed 74 = .ok (.imul, 1) := by decide +kernel
theorem dX5_readNamed_75 : decode cX5_readNamed 75 = .ok (.iload_n 3, 1) := by decide +kernel
theorem dX5_readNamed_76 : decode cX5_readNamed 76 = .ok (.iadd, 1) := by decide +kernel
theorem dX5_readNamed_77 : decode cX5_readNamed 77 = .ok (.iaload, 1) := by decide +kernel
theorem dX5_readNamed_78 : decode cX5_readNamed 78 = .ok (.ifCond .le 7, 3) := by decide +kernel
theorem dX5_readNamed_81 : decode cX5_readNamed 81 = .ok (.iconst 1, 1) := by decide +kernel
theorem dX5_readNamed_82 : decode cX5_readNamed 82 = .ok (.goto 4, 3) := by decide +kernel
theorem dX5_readNamed_85 : decode cX5_readNamed 85 = .ok (.iconst 0, 1) := by decide +kernel
theorem dX5_readNamed_86 : decode cX5_readNamed 86 = .ok (.istore 4, 2) := by decide +kernel
theorem dX5_readNamed_88 : decode cX5_readNamed 88 = .ok (.iload 4, 2) := by decide +kernel
theorem dX5_readNamed_90 : decode cX5_readNamed 90 = .ok (.ifCond .eq 14, 3) := by decide +kernel
theorem dX5_readNamed_93 : decode cX5_readNamed 93 = .ok (.aload_n 0, 1) := by decide +kernel
theorem dX5_readNamed_94 : decode cX5_readNamed 94 = .ok (.iconst 3, 1) := by decide +kernel
theorem dX5_readNamed_95 : decode cX5_readNamed 95 = .ok (.aload_n 0, 1) := by decide +kernel
theorem dX5_readNamed_96 : decode cX5_readNamed 96 = .ok (.getfield 23, 3) := by decide +kernel
theorem dX5_readNamed_99 : decode cX5_readNamed 99 = .ok (.invokevirtual 73, 3) := by decide +kernel
theorem dX5_readNamed_102 : decode cX5_readNamed 102 = .ok (.iconst (-1), 1) := by decide +kernel
theorem dX5_readNamed_103 : decode cX5_readNamed 103 = .ok (.ireturn, 1) := by decide +kernel
theorem dX5_readNamed_104 : decode cX5_readNamed 104 = .ok (.aload_n 0, 1) := by decide +kernel
theorem dX5_readNamed_105 : decode cX5_readNamed 105 = .ok (.invokevirtual 70, 3) := by decide +kernel
theorem dX5_readNamed_108 : decode cX5_readNamed 108 = .ok (.iload_n 3, 1) := by decide +kernel
theorem dX5_readNamed_109 : decode cX5_readNamed 109 = .ok (.ireturn, 1) := by decide +kernel
theorem dX5_readNumber_0 : decode cX5_readNumber 0 = .ok (.aload_n 0, 1) := by decide +kernel
theorem dX5_readNumber_1 : decode cX5_readNumber 1 = .ok (.getfield 17, 3) := by decide +kernel
theorem dX5_readNumber_4 : decode cX5_readNumber 4 = .ok (.iconst 2, 1) := by decide +kernel
theorem dX5_readNumber_5 : decode cX5_readNumber 5 = .ok (.if_icmp .eq 9, 3) := by decide +kernel
theorem dX5_readNumber_8 : decode cX5_readNumber 8 = .ok (.aload_n 0, 1) := by decide +kernel
theorem dX5_readNumber_9 : decode cX5_readNumber 9 = .ok (.invokevirtual 117, 3) := by decide +kernel
theorem dX5_readNumber_12 : decode cX5_readNumber 12 = .ok (.iconst 0, 1) := by decide +kernel
theorem dX5_readNumber_13 : decode cX5_readNumber 13 = .ok (.ireturn, 1) := by decide +kernel
theorem dX5_readNumber_14 : decode cX5_readNumber 14 = .ok (.aload_n 0, 1) := by decide +kernel
theorem dX5_readNumber_15 : decode cX5_readNumber 15 = .ok (.getfield 20, 3) := by decide +kernel
theorem dX5_readNumber_18 : decode cX5_readNumber 18 = .ok (.istore_n 3, 1) := by decide +kernel
theorem dX5_readNumber_19 : decode cX5_readNumber 19 = .ok (.iload_n 3, 1) := by decide +kernel
theorem dX5_readNumber_20 : decode cX5_readNumber 20 = .ok (.iload_n 1, 1) := by decide +kernel
theorem dX5_readNumber_21 : decode cX5_readNumber 21 = .ok (.if_icmp .lt 8, 3) := by decide +kernel
theorem dX5_readNumber_24 : decode cX5_readNumber 24 = .ok (.iload_n 3, 1) := by decide +kernel
theorem dX5_readNumber_25 : decode cX5_readNumber 25 = .ok (.iload_n 2, 1) := by decide +kernel
theorem dX5_readNumber_26 : decode cX5_readNumber 26 = .ok (.if_icmp .le 14, 3) := by decide +kernel
theorem dX5_readNumber_29 : decode cX5_readNumber 29 = .ok (.aload_n 0, 1) := by decide +kernel
theorem dX5_readNumber_30 : decode cX5_readNumber 30 = .ok (.iconst 4, 1) := by decide +kernel
theorem dX5_readNumber_31 : decode cX5_readNumber 31 = .ok (.aload_n 0, 1) := by decide +kernel
theorem dX5_readNumber_32 : decode cX5_readNumber 32 = .ok (.getfield 23, 3) := by decide +kernel
theorem dX5_readNumber_35 : decode cX5_readNumber 35 = .ok (.invokevirtual 73, 3) := by decide +kernel
theorem dX5_readNumber_38 : decode cX5_readNumber 38 = .ok (.iconst 0, 1) := by decide +kernel
theorem dX5_readNumber_39 : decode cX5_readNumber 39 = .ok (.ireturn, 1) := by decide +kernel
theorem dX5_readNumber_40 : decode cX5_readNumber 40 = .ok (.aload_n 0, 1) := by decide +kernel
theorem dX5_readNumber_41 : decode cX5_readNumber 41 = .ok (.invokevirtual 70, 3) := by decide +kernel
theorem dX5_readNumber_44 : decode cX5_readNumber 44 = .ok (.iload_n 3, 1) := by decide +kernel
theorem dX5_readNumber_45 : decode cX5_readNumber 45 = .ok (.ireturn, 1) := by decide +kernel
theorem dX5_readFactNamed_0 : decode cX5_readFactNamed 0 = .ok (.aload_n 0, 1) := by decide +kernel
theorem dX5_readFactNamed_1 : decode cX5_readFactNamed 1 = .ok (.getfield 17, 3) := by decide +kernel
theorem dX5_readFactNamed_4 : decode cX5_readFactNamed 4 = .ok (.iconst 4, 1) := by decide +kernel
theorem dX5_readFactNamed_5 : decode cX5_readFactNamed 5 = .ok (.if_icmp .ne 10, 3) := by decide +kernel
theorem dX5_readFactNamed_8 : decode cX5_readFactNamed 8 = .ok (.aload_n 0, 1) := by decide +kernel
theorem dX5_readFactNamed_9 : decode cX5_readFactNamed 9 = .ok (.getfield 20, 3) := by decide +kernel
theorem dX5_readFactNamed_12 : decode cX5_readFactNamed 12 = .ok (.goto 4, 3) := by decide +kernel
theorem dX5_readFactNamed_15 : decode cX5_readFactNamed 15 = .ok (.iconst (-1), 1) := by decide +kernel
theorem dX5_readFactNamed_16 : decode cX5_readFactNamed 16 = .ok (.istore_n 1, 1) := by decide +kernel
theorem dX5_readFactNamed_17 : decode cX5_readFactNamed 17 = .ok (.iload_n 1, 1) := by decide +kernel
theorem dX5_readFactNamed_18 : decode cX5_readFactNamed 18 = .ok (.bipush 14, 2) := by decide +kernel
theorem dX5_readFactNamed_20 : decode cX5_readFactNamed 20 = .ok (.if_icmp .eq 9, 3) := by decide +kernel
theorem dX5_readFactNamed_23 : decode cX5_readFactNamed 23 = .ok (.iload_n 1, 1) := by decide +kernel
theorem dX5_readFactNamed_24 : decode cX5_readFactNamed 24 = .ok (.bipush 15, 2) := by decide +kernel
theorem dX5_readFactNamed_26 : decode cX5_readFactNamed 26 = .ok (.if_icmp .ne 7, 3) := by decide +kernel
theorem dX5_readFactNamed_29 : decode cX5_readFactNamed 29 = .ok (.iconst 1, 1) := by decide +kernel
theorem dX5_readFactNamed_30 : decode cX5_readFactNamed 30 = .ok (.goto 4, 3) := by decide +kernel
theorem dX5_readFactNamed_33 : decode cX5_readFactNamed 33 = .ok (.iconst 0, 1) := by decide +kernel
theorem dX5_readFactNamed_34 : decode cX5_readFactNamed 34 = .ok (.istore_n 2, 1) := by decide +kernel
theorem dX5_readFactNamed_35 : decode cX5_readFactNamed 35 = .ok (.iload_n 1, 1) := by decide +kernel
theorem dX5_readFactNamed_36 : decode cX5_readFactNamed 36 = .ok (.bipush 11, 2) := by decide +kernel
theorem dX5_readFactNamed_38 : decode cX5_readFactNamed 38 = .ok (.if_icmp .lt 20, 3) := by decide +kernel
theorem dX5_readFactNamed_41 : decode cX5_readFactNamed 41 = .ok (.iload_n 1, 1) := by decide +kernel
theorem dX5_readFactNamed_42 : decode cX5_readFactNamed 42 = .ok (.bipush 15, 2) := by decide +kernel
theorem dX5_readFactNamed_44 : decode cX5_readFactNamed 44 = .ok (.if_icmp .gt 14, 3) := by decide +kernel
theorem dX5_readFactNamed_47 : decode cX5_readFactNamed 47 = .ok (.iload_n 2, 1) := by decide +kernel
theorem dX5_readFactNamed_48 : decode cX5_readFactNamed 48 = .ok (.ifCond .eq 15, 3) := by decide +kernel
theorem dX5_readFactNamed_51 : decode cX5_readFactNamed 51 = .ok (.aload_n 0, 1) := by decide +kernel
theorem dX5_readFactNamed_52 : decode cX5_readFactNamed 52 = .ok (.getfield 39, 3) := by decide +kernel
theorem dX5_readFactNamed_55 : decode cX5_readFactNamed 55 = .ok (.ifCond .eq 8, 3) := by decide +kernel
theorem dX5_readFactNamed_58 : decode cX5_readFactNamed 58 = .ok (.aload_n 0, 1) := by decide +kernel
theorem dX5_readFactNamed_59 : decode cX5_readFactNamed 59 = .ok (.invokevirtual 117, 3) := by decide +kernel
theorem dX5_readFactNamed_62 : decode cX5_readFactNamed 62 = .ok (.return_, 1) := by decide +kernel
theorem dX5_readFactNamed_63 : decode cX5_readFactNamed 63 = .ok (.aload_n 0, 1) := by decide +kernel
theorem dX5_readFactNamed_64 : decode cX5_readFactNamed 64 = .ok (.invokevirtual 70, 3) := by decide +kernel
theorem dX5_readFactNamed_67 : decode cX5_readFactNamed 67 = .ok (.aload_n 0, 1) := by decide +kernel
theorem dX5_readFactNamed_68 : decode cX5_readFactNamed 68 = .ok (.iconst 0, 1) := by decide +kernel
theorem dX5_readFactNamed_69 : decode cX5_readFactNamed 69 = .ok (.iload_n 1, 1) := by decide +kernel
theorem dX5_readFactNamed_70 : decode cX5_readFactNamed 70 = .ok (.iadd, 1) := by decide +kernel
theorem dX5_readFactNamed_71 : decode cX5_readFactNamed 71 = .ok (.bipush 11, 2) := by decide +kernel
theorem dX5_readFactNamed_73 : decode cX5_readFactNamed 73 = .ok (.isub, 1) := by decide +kernel
theorem dX5_readFactNamed_74 : decode cX5_readFactNamed 74 = .ok (.invokevirtual 170, 3) := by decide +kernel
theorem dX5_readFactNamed_77 : decode cX5_readFactNamed 77 = .ok (.return_, 1) := by decide +kernel
theorem dX5_opensWithParenthesis_0 : decode cX5_opensWithParenthesis 0 = .ok (.aload_n 0, 1) := by decide +kernel
theorem dX5_opensWithParenthesis_1 : decode cX5_opensWithParenthesis 1 = .ok (.bipush 40, 2) := by decide +kernel
theorem dX5_opensWithParenthesis_3 : decode cX5_opensWithParenthesis 3 = .ok (.invokevirtual 180, 3) := by decide +kernel
theorem dX5_opensWithParenthesis_6 : decode cX5_opensWithParenthesis 6 = .ok (.ifCond .ne 9, 3) := by decide +kernel
theorem dX5_opensWithParenthesis_9 : decode cX5_opensWithParenthesis 9 = .ok (.aload_n 0, 1) := by decide +kernel
theorem dX5_opensWithParenthesis_10 : decode cX5_opensWithParenthesis 10 = .ok (.invokevirtual 117, 3) := by decide +kernel
theorem dX5_opensWithParenthesis_13 : decode cX5_opensWithParenthesis 13 = .ok (.iconst 0, 1) := by decide +kernel
theorem dX5_opensWithParenthesis_14 : decode cX5_opensWithParenthesis 14 = .ok (.ireturn, 1) := by decide +kernel
theorem dX5_opensWithParenthesis_15 : decode cX5_opensWithParenthesis 15 = .ok (.aload_n 0, 1) := by decide +kernel
theorem dX5_opensWithParenthesis_16 : decode cX5_opensWithParenthesis 16 = .ok (.invokevirtual 176, 3) := by decide +kernel
theorem dX5_opensWithParenthesis_19 : decode cX5_opensWithParenthesis 19 = .ok (.ireturn, 1) := by decide +kernel
theorem dX5_opens_0 : decode cX5_opens 0 = .ok (.aload_n 0, 1) := by decide +kernel
theorem dX5_opens_1 : decode cX5_opens 1 = .ok (.getfield 36, 3) := by decide +kernel
theorem dX5_opens_4 : decode cX5_opens 4 = .ok (.bipush 7, 2) := by decide +kernel
theorem dX5_opens_6 : decode cX5_opens 6 = .ok (.if_icmp .lt 14, 3) := by decide +kernel
theorem dX5_opens_9 : decode cX5_opens 9 = .ok (.aload_n 0, 1) := by decide +kernel
theorem dX5_opens_10 : decode cX5_opens 10 = .ok (.iconst 5, 1) := by decide +kernel
theorem dX5_opens_11 : decode cX5_opens 11 = .ok (.aload_n 0, 1) := by decide +kernel
theorem dX5_opens_12 : decode cX5_opens 12 = .ok (.getfield 23, 3) := by decide +kernel
theorem dX5_opens_15 : decode cX5_opens 15 = .ok (.invokevirtual 73, 3) := by decide +kernel
theorem dX5_opens_18 : decode cX5_opens 18 = .ok (.iconst 0, 1) := by decide +kernel
theorem dX5_opens_19 : decode cX5_opens 19 = .ok (.ireturn, 1) := by decide +kernel
theorem dX5_opens_20 : decode cX5_opens 20 = .ok (.aload_n 0, 1) := by decide +kernel
theorem dX5_opens_21 : decode cX5_opens 21 = .ok (.dup, 1) := by decide +kernel
theorem dX5_opens_22 : decode cX5_opens 22 = .ok (.getfield 36, 3) := by decide +kernel
theorem dX5_opens_25 : decode cX5_opens 25 = .ok (.iconst 1, 1) := by decide +kernel
theorem dX5_opens_26 : decode cX5_opens 26 = .ok (.iadd, 1) := by decide +kernel
theorem dX5_opens_27 : decode cX5_opens 27 = .ok (.putfield 36, 3) := by decide +kernel
theorem dX5_opens_30 : decode cX5_opens 30 = .ok (.aload_n 0, 1) := by decide +kernel
theorem dX5_opens_31 : decode cX5_opens 31 = .ok (.invokevirtual 70, 3) := by decide +kernel
theorem dX5_opens_34 : decode cX5_opens 34 = .ok (.iconst 1, 1) := by decide +kernel
theorem dX5_opens_35 : decode cX5_opens 35 = .ok (.ireturn, 1) := by decide +kernel
theorem dX5_emit_0 : decode cX5_emit 0 = .ok (.aload_n 0, 1) := by decide +kernel
theorem dX5_emit_1 : decode cX5_emit 1 = .ok (.getfield 33, 3) := by decide +kernel
theorem dX5_emit_4 : decode cX5_emit 4 = .ok (.aload_n 0, 1) := by decide +kernel
theorem dX5_emit_5 : decode cX5_emit 5 = .ok (.getfield 66, 3) := by decide +kernel
theorem dX5_emit_8 : decode cX5_emit 8 = .ok (.arraylength, 1) := by decide +kernel
theorem dX5_emit_9 : decode cX5_emit 9 = .ok (.if_icmp .ge 23, 3) := by decide +kernel
theorem dX5_emit_12 : decode cX5_emit 12 = .ok (.aload_n 0, 1) := by decide +kernel
theorem dX5_emit_13 : decode cX5_emit 13 = .ok (.getfield 66, 3) := by decide +kernel
theorem dX5_emit_16 : decode cX5_emit 16 = .ok (.aload_n 0, 1) := by decide +kernel
theorem dX5_emit_17 : decode cX5_emit 17 = .ok (.getfield 33, 3) := by decide +kernel
theorem dX5_emit_20 : decode cX5_emit 20 = .ok (.iload_n 1, 1) := by decide +kernel
theorem dX5_emit_21 : decode cX5_emit 21 = .ok (.iastore, 1) := by decide +kernel
theorem dX5_emit_22 : decode cX5_emit 22 = .ok (.aload_n 0, 1) := by decide +kernel
theorem dX5_emit_23 : decode cX5_emit 23 = .ok (.dup, 1) := by decide +kernel
theorem dX5_emit_24 : decode cX5_emit 24 = .ok (.getfield 33, 3) := by decide +kernel
theorem dX5_emit_27 : decode cX5_emit 27 = .ok (.iconst 1, 1) := by decide +kernel
theorem dX5_emit_28 : decode cX5_emit 28 = .ok (.iadd, 1) := by decide +kernel
theorem dX5_emit_29 : decode cX5_emit 29 = .ok (.putfield 33, 3) := by decide +kernel
theorem dX5_emit_32 : decode cX5_emit 32 = .ok (.return_, 1) := by decide +kernel
theorem dX5_isSign_0 : decode cX5_isSign 0 = .ok (.aload_n 0, 1) := by decide +kernel
theorem dX5_isSign_1 : decode cX5_isSign 1 = .ok (.getfield 17, 3) := by decide +kernel
theorem dX5_isSign_4 : decode cX5_isSign 4 = .ok (.iconst 1, 1) := by decide +kernel
theorem dX5_isSign_5 : decode cX5_isSign 5 = .ok (.if_icmp .ne 15, 3) := by decide +kernel
theorem dX5_isSign_8 : decode cX5_isSign 8 = .ok (.aload_n 0, 1) := by decide +kernel
theorem dX5_isSign_9 : decode cX5_isSign 9 = .ok (.getfield 20, 3) := by decide +kernel
theorem dX5_isSign_12 : decode cX5_isSign 12 = .ok (.iload_n 1, 1) := by decide +kernel
theorem dX5_isSign_13 : decode cX5_isSign 13 = .ok (.if_icmp .ne 7, 3) := by decide +kernel
theorem dX5_isSign_16 : decode cX5_isSign 16 = .ok (.iconst 1, 1) := by decide +kernel
theorem dX5_isSign_17 : decode cX5_isSign 17 = .ok (.goto 4, 3) := by decide +kernel
theorem dX5_isSign_20 : decode cX5_isSign 20 = .ok (.iconst 0, 1) := by decide +kernel
theorem dX5_isSign_21 : decode cX5_isSign 21 = .ok (.ireturn, 1) := by decide +kernel
theorem dX5_isOwn_0 : decode cX5_isOwn 0 = .ok (.aload_n 0, 1) := by decide +kernel
theorem dX5_isOwn_1 : decode cX5_isOwn 1 = .ok (.getfield 17, 3) := by decide +kernel
theorem dX5_isOwn_4 : decode cX5_isOwn 4 = .ok (.iconst 4, 1) := by decide +kernel
theorem dX5_isOwn_5 : decode cX5_isOwn 5 = .ok (.if_icmp .ne 15, 3) := by decide +kernel
theorem dX5_isOwn_8 : decode cX5_isOwn 8 = .ok (.aload_n 0, 1) := by decide +kernel
theorem dX5_isOwn_9 : decode cX5_isOwn 9 = .ok (.getfield 20, 3) := by decide +kernel
theorem dX5_isOwn_12 : decode cX5_isOwn 12 = .ok (.iload_n 1, 1) := by decide +kernel
theorem dX5_isOwn_13 : decode cX5_isOwn 13 = .ok (.if_icmp .ne 7, 3) := by decide +kernel
theorem dX5_isOwn_16 : decode cX5_isOwn 16 = .ok (.iconst 1, 1) := by decide +kernel
theorem dX5_isOwn_17 : decode cX5_isOwn 17 = .ok (.goto 4, 3) := by decide +kernel
theorem dX5_isOwn_20 : decode cX5_isOwn 20 = .ok (.iconst 0, 1) := by decide +kernel
theorem dX5_isOwn_21 : decode cX5_isOwn 21 = .ok (.ireturn, 1) := by decide +kernel
theorem dX5_skipSign_0 : decode cX5_skipSign 0 = .ok (.aload_n 0, 1) := by decide +kernel
theorem dX5_skipSign_1 : decode cX5_skipSign 1 = .ok (.iload_n 1, 1) := by decide +kernel
theorem dX5_skipSign_2 : decode cX5_skipSign 2 = .ok (.invokevirtual 180, 3) := by decide +kernel
theorem dX5_skipSign_5 : decode cX5_skipSign 5 = .ok (.ifCond .eq 10, 3) := by decide +kernel
theorem dX5_skipSign_8 : decode cX5_skipSign 8 = .ok (.aload_n 0, 1) := by decide +kernel
theorem dX5_skipSign_9 : decode cX5_skipSign 9 = .ok (.invokevirtual 70, 3) := by decide +kernel
theorem dX5_skipSign_12 : decode cX5_skipSign 12 = .ok (.goto 7, 3) := by decide +kernel
theorem dX5_skipSign_15 : decode cX5_skipSign 15 = .ok (.aload_n 0, 1) := by decide +kernel
theorem dX5_skipSign_16 : decode cX5_skipSign 16 = .ok (.invokevirtual 117, 3) := by decide +kernel
theorem dX5_skipSign_19 : decode cX5_skipSign 19 = .ok (.return_, 1) := by decide +kernel
theorem dX5_skipOwn_0 : decode cX5_skipOwn 0 = .ok (.aload_n 0, 1) := by decide +kernel
theorem dX5_skipOwn_1 : decode cX5_skipOwn 1 = .ok (.iload_n 1, 1) := by decide +kernel
theorem dX5_skipOwn_2 : decode cX5_skipOwn 2 = .ok (.invokevirtual 164, 3) := by decide +kernel
theorem dX5_skipOwn_5 : decode cX5_skipOwn 5 = .ok (.ifCond .eq 10, 3) := by decide +kernel
theorem dX5_skipOwn_8 : decode cX5_skipOwn 8 = .ok (.aload_n 0, 1) := by decide +kernel
theorem dX5_skipOwn_9 : decode cX5_skipOwn 9 = .ok (.invokevirtual 70, 3) := by decide +kernel
theorem dX5_skipOwn_12 : decode cX5_skipOwn 12 = .ok (.goto 7, 3) := by decide +kernel
theorem dX5_skipOwn_15 : decode cX5_skipOwn 15 = .ok (.aload_n 0, 1) := by decide +kernel
theorem dX5_skipOwn_16 : decode cX5_skipOwn 16 = .ok (.invokevirtual 117, 3) := by decide +kernel
theorem dX5_skipOwn_19 : decode cX5_skipOwn 19 = .ok (.return_, 1) := by decide +kernel
theorem dX5_take_0 : decode cX5_take 0 = .ok (.aload_n 0, 1) := by decide +kernel
theorem dX5_take_1 : decode cX5_take 1 = .ok (.getfield 43, 3) := by decide +kernel
theorem dX5_take_4 : decode cX5_take 4 = .ok (.ifCond .ne 77, 3) := by decide +kernel
theorem dX5_take_7 : decode cX5_take 7 = .ok (.aload_n 0, 1) := by decide +kernel
theorem dX5_take_8 : decode cX5_take 8 = .ok (.getfield 9, 3) := by decide +kernel
theorem dX5_take_11 : decode cX5_take 11 = .ok (.aload_n 0, 1) := by decide +kernel
theorem dX5_take_12 : decode cX5_take 12 = .ok (.getfield 52, 3) := by decide +kernel
theorem dX5_take_15 : decode cX5_take 15 = .ok (.getfield 204, 3) := by decide +kernel
theorem dX5_take_18 : decode cX5_take 18 = .ok (.iconst 1, 1) := by decide +kernel
theorem dX5_take_19 : decode cX5_take 19 = .ok (.isub, 1) := by decide +kernel
theorem dX5_take_20 : decode cX5_take 20 = .ok (.if_icmp .ge 61, 3) := by decide +kernel
theorem dX5_take_23 : decode cX5_take 23 = .ok (.aload_n 0, 1) := by decide +kernel
theorem dX5_take_24 : decode cX5_take 24 = .ok (.dup, 1) := by decide +kernel
theorem dX5_take_25 : decode cX5_take 25 = .ok (.getfield 9, 3) := by decide +kernel
theorem dX5_take_28 : decode cX5_take 28 = .ok (.iconst 1, 1) := by decide +kernel
theorem dX5_take_29 : decode cX5_take 29 = .ok (.iadd, 1) := by decide +kernel
theorem dX5_take_30 : decode cX5_take 30 = .ok (.putfield 9, 3) := by decide +kernel
theorem dX5_take_33 : decode cX5_take 33 = .ok (.aload_n 0, 1) := by decide +kernel
theorem dX5_take_34 : decode cX5_take 34 = .ok (.aload_n 0, 1) := by decide +kernel
theorem dX5_take_35 : decode cX5_take 35 = .ok (.getfield 52, 3) := by decide +kernel
theorem dX5_take_38 : decode cX5_take 38 = .ok (.getfield 207, 3) := by decide +kernel
theorem dX5_take_41 : decode cX5_take 41 = .ok (.aload_n 0, 1) := by decide +kernel
theorem dX5_take_42 : decode cX5_take 42 = .ok (.getfield 9, 3) := by decide +kernel
theorem dX5_take_45 : decode cX5_take 45 = .ok (.iaload, 1) := by decide +kernel
theorem dX5_take_46 : decode cX5_take 46 = .ok (.putfield 17, 3) := by decide +kernel
theorem dX5_take_49 : decode cX5_take 49 = .ok (.aload_n 0, 1) := by decide +kernel
theorem dX5_take_50 : decode cX5_take 50 = .ok (.aload_n 0, 1) := by decide +kernel
theorem dX5_take_51 : decode cX5_take 51 = .ok (.getfield 52, 3) := by decide +kernel
theorem dX5_take_54 : decode cX5_take 54 = .ok (.getfield 209, 3) := by decide +kernel
theorem dX5_take_57 : decode cX5_take 57 = .ok (.aload_n 0, 1) := by decide +kernel
theorem dX5_take_58 : decode cX5_take 58 = .ok (.getfield 9, 3) := by decide +kernel
theorem dX5_take_61 : decode cX5_take 61 = .ok (.iaload, 1) := by decide +kernel
theorem dX5_take_62 : decode cX5_take 62 = .ok (.putfield 20, 3) := by decide +kernel
theorem dX5_take_65 : decode cX5_take 65 = .ok (.aload_n 0, 1) := by decide +kernel
theorem dX5_take_66 : decode cX5_take 66 = .ok (.aload_n 0, 1) := by decide +kernel
theorem dX5_take_67 : decode cX5_take 67 = .ok (.getfield 52, 3) := by decide +kernel
theorem dX5_take_70 : decode cX5_take 70 = .ok (.getfield 211, 3) := by decide +kernel
theorem dX5_take_73 : decode cX5_take 73 = .ok (.aload_n 0, 1) := by decide +kernel
theorem dX5_take_74 : decode cX5_take 74 = .ok (.getfield 9, 3) := by decide +kernel
theorem dX5_take_77 : decode cX5_take 77 = .ok (.iaload, 1) := by decide +kernel
theorem dX5_take_78 : decode cX5_take 78 = .ok (.putfield 23, 3) := by decide +kernel
theorem dX5_take_81 : decode cX5_take 81 = .ok (.return_, 1) := by decide +kernel
theorem dX5_failHere_0 : decode cX5_failHere 0 = .ok (.aload_n 0, 1) := by decide +kernel
theorem dX5_failHere_1 : decode cX5_failHere 1 = .ok (.iconst 1, 1) := by decide +kernel
theorem dX5_failHere_2 : decode cX5_failHere 2 = .ok (.aload_n 0, 1) := by decide +kernel
theorem dX5_failHere_3 : decode cX5_failHere 3 = .ok (.getfield 17, 3) := by decide +kernel
theorem dX5_failHere_6 : decode cX5_failHere 6 = .ok (.iconst 5, 1) := by decide +kernel
theorem dX5_failHere_7 : decode cX5_failHere 7 = .ok (.if_icmp .ne 10, 3) := by decide +kernel
theorem dX5_failHere_10 : decode cX5_failHere 10 = .ok (.aload_n 0, 1) := by decide +kernel
theorem dX5_failHere_11 : decode cX5_failHere 11 = .ok (.getfield 20, 3) := by decide +kernel
theorem dX5_failHere_14 : decode cX5_failHere 14 = .ok (.goto 7, 3) := by decide +kernel
theorem dX5_failHere_17 : decode cX5_failHere 17 = .ok (.aload_n 0, 1) := by decide +kernel
theorem dX5_failHere_18 : decode cX5_failHere 18 = .ok (.getfield 23, 3) := by decide +kernel
theorem dX5_failHere_21 : decode cX5_failHere 21 = .ok (.invokevirtual 73, 3) := by decide +kernel
theorem dX5_failHere_24 : decode cX5_failHere 24 = .ok (.return_, 1) := by decide +kernel
theorem dX5_fail_0 : decode cX5_fail 0 = .ok (.aload_n 0, 1) := by decide +kernel
theorem dX5_fail_1 : decode cX5_fail 1 = .ok (.getfield 43, 3) := by decide +kernel
theorem dX5_fail_4 : decode cX5_fail 4 = .ok (.ifCond .ne 18, 3) := by decide +kernel
theorem dX5_fail_7 : decode cX5_fail 7 = .ok (.aload_n 0, 1) := by decide +kernel
theorem dX5_fail_8 : decode cX5_fail 8 = .ok (.iload_n 1, 1) := by decide +kernel
theorem dX5_fail_9 : decode cX5_fail 9 = .ok (.putfield 43, 3) := by decide +kernel
theorem dX5_fail_12 : decode cX5_fail 12 = .ok (.aload_n 0, 1) := by decide +kernel
theorem dX5_fail_13 : decode cX5_fail 13 = .ok (.iload_n 2, 1) := by decide +kernel
theorem dX5_fail_14 : decode cX5_fail 14 = .ok (.putfield 46, 3) := by decide +kernel
theorem dX5_fail_17 : decode cX5_fail 17 = .ok (.aload_n 0, 1) := by decide +kernel
theorem dX5_fail_18 : decode cX5_fail 18 = .ok (.iconst 5, 1) := by decide +kernel
theorem dX5_fail_19 : decode cX5_fail 19 = .ok (.putfield 17, 3) := by decide +kernel
theorem dX5_fail_22 : decode cX5_fail 22 = .ok (.return_, 1) := by decide +kernel
theorem dX6_open_0 : decode cX6_open 0 = .ok (.lconst 0, 1) := by decide +kernel
theorem dX6_open_1 : decode cX6_open 1 = .ok (.lstore_n 2, 1) := by decide +kernel
theorem dX6_open_2 : decode cX6_open 2 = .ok (.iconst 0, 1) := by decide +kernel
theorem dX6_open_3 : decode cX6_open 3 = .ok (.istore 4, 2) := by decide +kernel
theorem dX6_open_5 : decode cX6_open 5 = .ok (.iload 4, 2) := by decide +kernel
theorem dX6_open_7 : decode cX6_open 7 = .ok (.bipush 36, 2) := by decide +kernel
theorem dX6_open_9 : decode cX6_open 9 = .ok (.if_icmp .ge 36, 3) := by decide +kernel
theorem dX6_open_12 : decode cX6_open 12 = .ok (.aload_n 0, 1) := by decide +kernel
theorem dX6_open_13 : decode cX6_open 13 = .ok (.getfield 9, 3) := by decide +kernel
theorem dX6_open_16 : decode cX6_open 16 = .ok (.iload 4, 2) := by decide +kernel
theorem dX6_open_18 : decode cX6_open 18 = .ok (.iaload, 1) := by decide +kernel
theorem dX6_open_19 : decode cX6_open 19 = .ok (.ifCond .le 20, 3) := by decide +kernel
theorem dX6_open_22 : decode cX6_open 22 = .ok (.aload_n 1, 1) := by decide +kernel
theorem dX6_open_23 : decode cX6_open 23 = .ok (.getfield 15, 3) := by decide +kernel
theorem dX6_open_26 : decode cX6_open 26 = .ok (.iload 4, 2) := by decide +kernel
theorem dX6_open_28 : decode cX6_open 28 = .ok (.iaload, 1) := by decide +kernel
theorem dX6_open_29 : decode cX6_open 29 = .ok (.ifCond .le 10, 3) := by decide +kernel
theorem dX6_open_32 : decode cX6_open 32 = .ok (.lload_n 2, 1) := by decide +kernel
theorem dX6_open_33 : decode cX6_open 33 = .ok (.lconst 1, 1) := by decide +kernel
theorem dX6_open_34 : decode cX6_open 34 = .ok (.iload 4, 2) := by decide +kernel
theorem dX6_open_36 : decode cX6_open 36 = .ok (.lshl, 1) := by decide +kernel
theorem dX6_open_37 : decode cX6_open 37 = .ok (.lor, 1) := by decide +kernel
theorem dX6_open_38 : decode cX6_open 38 = .ok (.lstore_n 2, 1) := by decide +kernel
theorem dX6_open_39 : decode cX6_open 39 = .ok (.iinc 4 1, 3) := by decide +kernel
theorem dX6_open_42 : decode cX6_open 42 = .ok (.goto (-37), 3) := by decide +kernel
theorem dX6_open_45 : decode cX6_open 45 = .ok (.lload_n 2, 1) := by decide +kernel
theorem dX6_open_46 : decode cX6_open 46 = .ok (.lreturn, 1) := by decide +kernel
theorem dX6_from_0 : decode cX6_from 0 = .ok (.lload_n 0, 1) := by decide +kernel
theorem dX6_from_1 : decode cX6_from 1 = .ok (.iload_n 2, 1) := by decide +kernel
theorem dX6_from_2 : decode cX6_from 2 = .ok (.bipush 6, 2) := by decide +kernel
theorem dX6_from_4 : decode cX6_from 4 = .ok (.imul, 1) := by decide +kernel
theorem dX6_from_5 : decode cX6_from 5 = .ok (.lushr, 1) := by decide +kernel
theorem dX6_from_6 : decode cX6_from 6 = .ok (.l2i, 1) := by decide +kernel
theorem dX6_from_7 : decode cX6_from 7 = .ok (.bipush 63, 2) := by decide +kernel
theorem dX6_from_9 : decode cX6_from 9 = .ok (.iand, 1) := by decide +kernel
theorem dX6_from_10 : decode cX6_from 10 = .ok (.ireturn, 1) := by decide +kernel
theorem dX6_reach_0 : decode cX6_reach 0 = .ok (.iconst 1, 1) := by decide +kernel
theorem dX6_reach_1 : decode cX6_reach 1 = .ok (.iload_n 2, 1) := by decide +kernel
theorem dX6_reach_2 : decode cX6_reach 2 = .ok (.ishl, 1) := by decide +kernel
theorem dX6_reach_3 : decode cX6_reach 3 = .ok (.istore_n 3, 1) := by decide +kernel
theorem dX6_reach_4 : decode cX6_reach 4 = .ok (.iconst 1, 1) := by decide +kernel
theorem dX6_reach_5 : decode cX6_reach 5 = .ok (.istore 4, 2) := by decide +kernel
theorem dX6_reach_7 : decode cX6_reach 7 = .ok (.iload 4, 2) := by decide +kernel
theorem dX6_reach_9 : decode cX6_reach 9 = .ok (.bipush 6, 2) := by decide +kernel
theorem dX6_reach_11 : decode cX6_reach 11 = .ok (.if_icmp .ge 55, 3) := by decide +kernel
theorem dX6_reach_14 : decode cX6_reach 14 = .ok (.iload_n 3, 1) := by decide +kernel
theorem dX6_reach_15 : decode cX6_reach 15 = .ok (.istore 5, 2) := by decide +kernel
theorem dX6_reach_17 : decode cX6_reach 17 = .ok (.iconst 0, 1) := by decide +kernel
theorem dX6_reach_18 : decode cX6_reach 18 = .ok (.istore 6, 2) := by decide +kernel
theorem dX6_reach_20 : decode cX6_reach 20 = .ok (.iload 6, 2) := by decide +kernel
theorem dX6_reach_22 : decode cX6_reach 22 = .ok (.bipush 6, 2) := by decide +kernel
theorem dX6_reach_24 : decode cX6_reach 24 = .ok (.if_icmp .ge 27, 3) := by decide +kernel
theorem dX6_reach_27 : decode cX6_reach 27 = .ok (.iload_n 3, 1) := by decide +kernel
theorem dX6_reach_28 : decode cX6_reach 28 = .ok (.iload 6, 2) := by decide +kernel
theorem dX6_reach_30 : decode cX6_reach 30 = .ok (.ishr, 1) := by decide +kernel
theorem dX6_reach_31 : decode cX6_reach 31 = .ok (.iconst 1, 1) := by decide +kernel
theorem dX6_reach_32 : decode cX6_reach 32 = .ok (.iand, 1) := by decide +kernel
theorem dX6_reach_33 : decode cX6_reach 33 = .ok (.ifCond .eq 12, 3) := by decide +kernel
theorem dX6_reach_36 : decode cX6_reach 36 = .ok (.iload_n 3, 1) := by decide +kernel
theorem dX6_reach_37 : decode cX6_reach 37 = .ok (.lload_n 0, 1) := by decide +kernel
theorem dX6_reach_38 : decode cX6_reach 38 = .ok (.iload 6, 2) := by decide +kernel
theorem dX6_reach_40 : decode cX6_reach 40 = .ok (.invokestatic 22, 3) := by decide +kernel
theorem dX6_reach_43 : decode cX6_reach 43 = .ok (.ior, 1) := by decide +kernel
theorem dX6_reach_44 : decode cX6_reach 44 = .ok (.istore_n 3, 1) := by decide +kernel
theorem dX6_reach_45 : decode cX6_reach 45 = .ok (.iinc 6 1, 3) := by decide +kernel
theorem dX6_reach_48 : decode cX6_reach 48 = .ok (.goto (-28), 3) := by decide +kernel
theorem dX6_reach_51 : decode cX6_reach 51 = .ok (.iload_n 3, 1) := by decide +kernel
theorem dX6_reach_52 : decode cX6_reach 52 = .ok (.iload 5, 2) := by decide +kernel
theorem dX6_reach_54 : decode cX6_reach 54 = .ok (.if_icmp .ne 6, 3) := by decide +kernel
theorem dX6_reach_57 : decode cX6_reach 57 = .ok (.goto 9, 3) := by decide +kernel
theorem dX6_reach_60 : decode cX6_reach 60 = .ok (.iinc 4 1, 3) := by decide +kernel
theorem dX6_reach_63 : decode cX6_reach 63 = .ok (.goto (-56), 3) := by decide +kernel
theorem dX6_reach_66 : decode cX6_reach 66 = .ok (.iload_n 3, 1) := by decide +kernel
theorem dX6_reach_67 : decode cX6_reach 67 = .ok (.ireturn, 1) := by decide +kernel
theorem dX6_joinAll_0 : decode cX6_joinAll 0 = .ok (.iconst 1, 1) := by decide +kernel
theorem dX6_joinAll_1 : decode cX6_joinAll 1 = .ok (.iload_n 2, 1) := by decide +kernel
theorem dX6_joinAll_2 : decode cX6_joinAll 2 = .ok (.ishl, 1) := by decide +kernel
theorem dX6_joinAll_3 : decode cX6_joinAll 3 = .ok (.iconst 1, 1) := by decide +kernel
theorem dX6_joinAll_4 : decode cX6_joinAll 4 = .ok (.isub, 1) := by decide +kernel
theorem dX6_joinAll_5 : decode cX6_joinAll 5 = .ok (.istore_n 3, 1) := by decide +kernel
theorem dX6_joinAll_6 : decode cX6_joinAll 6 = .ok (.iconst 0, 1) := by decide +kernel
theorem dX6_joinAll_7 : decode cX6_joinAll 7 = .ok (.istore 4, 2) := by decide +kernel
theorem dX6_joinAll_9 : decode cX6_joinAll 9 = .ok (.iload 4, 2) := by decide +kernel
theorem dX6_joinAll_11 : decode cX6_joinAll 11 = .ok (.iload_n 2, 1) := by decide +kernel
theorem dX6_joinAll_12 : decode cX6_joinAll 12 = .ok (.if_icmp .ge 21, 3) := by decide +kernel
theorem dX6_joinAll_15 : decode cX6_joinAll 15 = .ok (.lload_n 0, 1) := by decide +kernel
theorem dX6_joinAll_16 : decode cX6_joinAll 16 = .ok (.iload 4, 2) := by decide +kernel
theorem dX6_joinAll_18 : decode cX6_joinAll 18 = .ok (.invokestatic 26, 3) := by decide +kernel
theorem dX6_joinAll_21 : decode cX6_joinAll 21 = .ok (.iload_n 3, 1) := by decide +kernel
theorem dX6_joinAll_22 : decode cX6_joinAll 22 = .ok (.if_icmp .eq 5, 3) := by decide +kernel
theorem dX6_joinAll_25 : decode cX6_joinAll 25 = .ok (.iconst 0, 1) := by decide +kernel
theorem dX6_joinAll_26 : decode cX6_joinAll 26 = .ok (.ireturn, 1) := by decide +kernel
theorem dX6_joinAll_27 : decode cX6_joinAll 27 = .ok (.iinc 4 1, 3) := by decide +kernel
theorem dX6_joinAll_30 : decode cX6_joinAll 30 = .ok (.goto (-21), 3) := by decide +kernel
theorem dX6_joinAll_33 : decode cX6_joinAll 33 = .ok (.iconst 1, 1) := by decide +kernel
theorem dX6_joinAll_34 : decode cX6_joinAll 34 = .ok (.ireturn, 1) := by decide +kernel
theorem dX6_nearest_0 : decode cX6_nearest 0 = .ok (.bipush 99, 2) := by decide +kernel
theorem dX6_nearest_2 : decode cX6_nearest 2 = .ok (.istore 4, 2) := by decide +kernel
theorem dX6_nearest_4 : decode cX6_nearest 4 = .ok (.iconst 0, 1) := by decide +kernel
theorem dX6_nearest_5 : decode cX6_nearest 5 = .ok (.istore 5, 2) := by decide +kernel
theorem dX6_nearest_7 : decode cX6_nearest 7 = .ok (.iload 5, 2) := by decide +kernel
theorem dX6_nearest_9 : decode cX6_nearest 9 = .ok (.aload_n 3, 1) := by decide +kernel
theorem dX6_nearest_10 : decode cX6_nearest 10 = .ok (.arraylength, 1) := by decide +kernel
theorem dX6_nearest_11 : decode cX6_nearest 11 = .ok (.if_icmp .ge 33, 3) := by decide +kernel
theorem dX6_nearest_14 : decode cX6_nearest 14 = .ok (.lload_n 0, 1) := by decide +kernel
theorem dX6_nearest_15 : decode cX6_nearest 15 = .ok (.iload_n 2, 1) := by decide +kernel
theorem dX6_nearest_16 : decode cX6_nearest 16 = .ok (.invokestatic 22, 3) := by decide +kernel
theorem dX6_nearest_19 : decode cX6_nearest 19 = .ok (.iload 5, 2) := by decide +kernel
theorem dX6_nearest_21 : decode cX6_nearest 21 = .ok (.ishr, 1) := by decide +kernel
theorem dX6_nearest_22 : decode cX6_nearest 22 = .ok (.iconst 1, 1) := by decide +kernel
theorem dX6_nearest_23 : decode cX6_nearest 23 = .ok (.iand, 1) := by decide +kernel
theorem dX6_nearest_24 : decode cX6_nearest 24 = .ok (.ifCond .eq 14, 3) := by decide +kernel
theorem dX6_nearest_27 : decode cX6_nearest 27 = .ok (.iload 4, 2) := by decide +kernel
theorem dX6_nearest_29 : decode cX6_nearest 29 = .ok (.aload_n 3, 1) := by decide +kernel
theorem dX6_nearest_30 : decode cX6_nearest 30 = .ok (.iload 5, 2) := by decide +kernel
theorem dX6_nearest_32 : decode cX6_nearest 32 = .ok (.iaload, 1) := by decide +kernel
theorem dX6_nearest_33 : decode cX6_nearest 33 = .ok (.invokestatic 41, 3) := by decide +kernel
theorem dX6_nearest_36 : decode cX6_nearest 36 = .ok (.istore 4, 2) := by decide +kernel
theorem dX6_nearest_38 : decode cX6_nearest 38 = .ok (.iinc 5 1, 3) := by decide +kernel
theorem dX6_nearest_41 : decode cX6_nearest 41 = .ok (.goto (-34), 3) := by decide +kernel
theorem dX6_nearest_44 : decode cX6_nearest 44 = .ok (.iload 4, 2) := by decide +kernel
theorem dX6_nearest_46 : decode cX6_nearest 46 = .ok (.ireturn, 1) := by decide +kernel
theorem dX6_firstWith_0 : decode cX6_firstWith 0 = .ok (.iconst 0, 1) := by decide +kernel
theorem dX6_firstWith_1 : decode cX6_firstWith 1 = .ok (.istore 5, 2) := by decide +kernel
theorem dX6_firstWith_3 : decode cX6_firstWith 3 = .ok (.iload 5, 2) := by decide +kernel
theorem dX6_firstWith_5 : decode cX6_firstWith 5 = .ok (.aload_n 3, 1) := by decide +kernel
theorem dX6_firstWith_6 : decode cX6_firstWith 6 = .ok (.arraylength, 1) := by decide +kernel
theorem dX6_firstWith_7 : decode cX6_firstWith 7 = .ok (.if_icmp .ge 34, 3) := by decide +kernel
theorem dX6_firstWith_10 : decode cX6_firstWith 10 = .ok (.lload_n 0, 1) := by decide +kernel
theorem dX6_firstWith_11 : decode cX6_firstWith 11 = .ok (.iload_n 2, 1) := by decide +kernel
theorem dX6_firstWith_12 : decode cX6_firstWith 12 = .ok (.invokestatic 22, 3) := by decide +kernel
theorem dX6_firstWith_15 : decode cX6_firstWith 15 = .ok (.iload 5, 2) := by decide +kernel
theorem dX6_firstWith_17 : decode cX6_firstWith 17 = .ok (.ishr, 1) := by decide +kernel
theorem dX6_firstWith_18 : decode cX6_firstWith 18 = .ok (.iconst 1, 1) := by decide +kernel
theorem dX6_firstWith_19 : decode cX6_firstWith 19 = .ok (.iand, 1) := by decide +kernel
theorem dX6_firstWith_20 : decode cX6_firstWith 20 = .ok (.ifCond .eq 15, 3) := by decide +kernel
theorem dX6_firstWith_23 : decode cX6_firstWith 23 = .ok (.aload_n 3, 1) := by decide +kernel
theorem dX6_firstWith_24 : decode cX6_firstWith 24 = .ok (.iload 5, 2) := by decide +kernel
theorem dX6_firstWith_26 : decode cX6_firstWith 26 = .ok (.iaload, 1) := by decide +kernel
theorem dX6_firstWith_27 : decode cX6_firstWith 27 = .ok (.iload 4, 2) := by decide +kernel
theorem dX6_firstWith_29 : decode cX6_firstWith 29 = .ok (.if_icmp .ne 6, 3) := by decide +kernel
theorem dX6_firstWith_32 : decode cX6_firstWith 32 = .ok (.iload 5, 2) := by decide +kernel
theorem dX6_firstWith_34 : decode cX6_firstWith 34 = .ok (.ireturn, 1) := by decide +kernel
theorem dX6_firstWith_35 : decode cX6_firstWith 35 = .ok (.iinc 5 1, 3) := by decide +kernel
theorem dX6_firstWith_38 : decode cX6_firstWith 38 = .ok (.goto (-35), 3) := by decide +kernel
theorem dX6_firstWith_41 : decode cX6_firstWith 41 = .ok (.iconst (-1), 1) := by decide +kernel
theorem dX6_firstWith_42 : decode cX6_firstWith 42 = .ok (.ireturn, 1) := by decide +kernel
theorem dX7_begin_0 : decode cX7_begin 0 = .ok (.aload_n 0, 1) := by decide +kernel
theorem dX7_begin_1 : decode cX7_begin 1 = .ok (.iconst 0, 1) := by decide +kernel
theorem dX7_begin_2 : decode cX7_begin 2 = .ok (.putfield 9, 3) := by decide +kernel
theorem dX7_begin_5 : decode cX7_begin 5 = .ok (.aload_n 0, 1) := by decide +kernel
theorem dX7_begin_6 : decode cX7_begin 6 = .ok (.iconst 0, 1) := by decide +kernel
theorem dX7_begin_7 : decode cX7_begin 7 = .ok (.putfield 25, 3) := by decide +kernel
theorem dX7_begin_10 : decode cX7_begin 10 = .ok (.aload_n 0, 1) := by decide +kernel
theorem dX7_begin_11 : decode cX7_begin 11 = .ok (.iconst 0, 1) := by decide +kernel
theorem dX7_begin_12 : decode cX7_begin 12 = .ok (.putfield 34, 3) := by decide +kernel
theorem dX7_begin_15 : decode cX7_begin 15 = .ok (.iconst 0, 1) := by decide +kernel
theorem dX7_begin_16 : decode cX7_begin 16 = .ok (.istore_n 2, 1) := by decide +kernel
theorem dX7_begin_17 : decode cX7_begin 17 = .ok (.iload_n 2, 1) := by decide +kernel
theorem dX7_begin_18 : decode cX7_begin 18 = .ok (.bipush 36, 2) := by decide +kernel
theorem dX7_begin_20 : decode cX7_begin 20 = .ok (.if_icmp .ge 42, 3) := by decide +kernel
theorem dX7_begin_23 : decode cX7_begin 23 = .ok (.aload_n 0, 1) := by decide +kernel
theorem dX7_begin_24 : decode cX7_begin 24 = .ok (.getfield 15, 3) := by decide +kernel
theorem dX7_begin_27 : decode cX7_begin 27 = .ok (.iload_n 2, 1) := by decide +kernel
theorem dX7_begin_28 : decode cX7_begin 28 = .ok (.iload_n 2, 1) := by decide +kernel
theorem dX7_begin_29 : decode cX7_begin 29 = .ok (.aload_n 1, 1) := by decide +kernel
theorem dX7_begin_30 : decode cX7_begin 30 = .ok (.arraylength, 1) := by decide +kernel
theorem dX7_begin_31 : decode cX7_begin 31 = .ok (.if_icmp .ge 9, 3) := by decide +kernel
theorem dX7_begin_34 : decode cX7_begin 34 = .ok (.aload_n 1, 1) := by decide +kernel
theorem dX7_begin_35 : decode cX7_begin 35 = .ok (.iload_n 2, 1) := by decide +kernel
theorem dX7_begin_36 : decode cX7_begin 36 = .ok (.iaload, 1) := by decide +kernel
theorem dX7_begin_37 : decode cX7_begin 37 = .ok (.goto 4, 3) := by decide +kernel
theorem dX7_begin_40 : decode cX7_begin 40 = .ok (.iconst 0, 1) := by decide +kernel
theorem dX7_begin_41 : decode cX7_begin 41 = .ok (.iastore, 1) := by decide +kernel
theorem dX7_begin_42 : decode cX7_begin 42 = .ok (.aload_n 0, 1) := by decide +kernel
theorem dX7_begin_43 : decode cX7_begin 43 = .ok (.getfield 19, 3) := by decide +kernel
theorem dX7_begin_46 : decode cX7_begin 46 = .ok (.iload_n 2, 1) := by decide +kernel
theorem dX7_begin_47 : decode cX7_begin 47 = .ok (.iconst 0, 1) := by decide +kernel
theorem dX7_begin_48 : decode cX7_begin 48 = .ok (.iastore, 1) := by decide +kernel
theorem dX7_begin_49 : decode cX7_begin 49 = .ok (.aload_n 0, 1) := by decide +kernel
theorem dX7_begin_50 : decode cX7_begin 50 = .ok (.getfield 22, 3) := by decide +kernel
theorem dX7_begin_53 : decode cX7_begin 53 = .ok (.iload_n 2, 1) := by decide +kernel
theorem dX7_begin_54 : decode cX7_begin 54 = .ok (.iconst 0, 1) := by decide +kernel
theorem dX7_begin_55 : decode cX7_begin 55 = .ok (.iastore, 1) := by decide +kernel
theorem dX7_begin_56 : decode cX7_begin 56 = .ok (.iinc 2 1, 3) := by decide +kernel
theorem dX7_begin_59 : decode cX7_begin 59 = .ok (.goto (-42), 3) := by decide +kernel
theorem dX7_begin_62 : decode cX7_begin 62 = .ok (.return_, 1) := by decide +kernel
theorem dX7_copyFrom_0 : decode cX7_copyFrom 0 = .ok (.aload_n 0, 1) := by decide +kernel
theorem dX7_copyFrom_1 : decode cX7_copyFrom 1 = .ok (.aload_n 1, 1) := by decide +kernel
theorem dX7_copyFrom_2 : decode cX7_copyFrom 2 = .ok (.getfield 9, 3) := by decide +kernel
theorem dX7_copyFrom_5 : decode cX7_copyFrom 5 = .ok (.putfield 9, 3) := by decide +kernel
theorem dX7_copyFrom_8 : decode cX7_copyFrom 8 = .ok (.aload_n 1, 1) := by decide +kernel
theorem dX7_copyFrom_9 : decode cX7_copyFrom 9 = .ok (.getfield 15, 3) := by decide +kernel
theorem dX7_copyFrom_12 : decode cX7_copyFrom 12 = .ok (.iconst 0, 1) := by decide +kernel
theorem dX7_copyFrom_13 : decode cX7_copyFrom 13 = .ok (.aload_n 0, 1) := by decide +kernel
theorem dX7_copyFrom_14 : decode cX7_copyFrom 14 = .ok (.getfield 15, 3) := by decide +kernel
theorem dX7_copyFrom_17 : decode cX7_copyFrom 17 = .ok (.iconst 0, 1) := by decide +kernel
theorem dX7_copyFrom_18 : decode cX7_copyFrom 18 = .ok (.bipush 36, 2) := by decide +kernel
theorem dX7_copyFrom_20 : decode cX7_copyFrom 20 = .ok (.invokestatic 50, 3) := by decide +kernel
theorem dX7_copyFrom_23 : decode cX7_copyFrom 23 = .ok (.aload_n 1, 1) := by decide +kernel
theorem dX7_copyFrom_24 : decode cX7_copyFrom 24 = .ok (.getfield 19, 3) := by decide +kernel
theorem dX7_copyFrom_27 : decode cX7_copyFrom 27 = .ok (.iconst 0, 1) := by decide +kernel
theorem dX7_copyFrom_28 : decode cX7_copyFrom 28 = .ok (.aload_n 0, 1) := by decide +kernel
theorem dX7_copyFrom_29 : decode cX7_copyFrom 29 = .ok (.getfield 19, 3) := by decide +kernel
theorem dX7_copyFrom_32 : decode cX7_copyFrom 32 = .ok (.iconst 0, 1) := by decide +kernel
theorem dX7_copyFrom_33 : decode cX7_copyFrom 33 = .ok (.bipush 36, 2) := by decide +kernel
theorem dX7_copyFrom_35 : decode cX7_copyFrom 35 = .ok (.invokestatic 50, 3) := by decide +kernel
theorem dX7_copyFrom_38 : decode cX7_copyFrom 38 = .ok (.aload_n 1, 1) := by decide +kernel
theorem dX7_copyFrom_39 : decode cX7_copyFrom 39 = .ok (.getfield 22, 3) := by decide +kernel
theorem dX7_copyFrom_42 : decode cX7_copyFrom 42 = .ok (.iconst 0, 1) := by decide +kernel
theorem dX7_copyFrom_43 : decode cX7_copyFrom 43 = .ok (.aload_n 0, 1) := by decide +kernel
theorem dX7_copyFrom_44 : decode cX7_copyFrom 44 = .ok (.getfield 22, 3) := by decide +kernel
theorem dX7_copyFrom_47 : decode cX7_copyFrom 47 = .ok (.iconst 0, 1) := by decide +kernel
theorem dX7_copyFrom_48 : decode cX7_copyFrom 48 = .ok (.bipush 36, 2) := by decide +kernel
theorem dX7_copyFrom_50 : decode cX7_copyFrom 50 = .ok (.invokestatic 50, 3) := by decide +kernel
theorem dX7_copyFrom_53 : decode cX7_copyFrom 53 = .ok (.aload_n 0, 1) := by decide +kernel
theorem dX7_copyFrom_54 : decode cX7_copyFrom 54 = .ok (.aload_n 1, 1) := by decide +kernel
theorem dX7_copyFrom_55 : decode cX7_copyFrom 55 = .ok (.getfield 25, 3) := by decide +kernel
theorem dX7_copyFrom_58 : decode cX7_copyFrom 58 = .ok (.putfield 25, 3) := by decide +kernel
theorem dX7_copyFrom_61 : decode cX7_copyFrom 61 = .ok (.aload_n 1, 1) := by decide +kernel
theorem dX7_copyFrom_62 : decode cX7_copyFrom 62 = .ok (.getfield 28, 3) := by decide +kernel
theorem dX7_copyFrom_65 : decode cX7_copyFrom 65 = .ok (.iconst 0, 1) := by decide +kernel
