theorem dX10_image_65 : decode cX10_image 65 = .ok (.getfield 127, 3) := by decide +kernel
theorem dX10_image_68 : decode cX10_image 68 = .ok (.iload_n 1, 1) := by decide +kernel
theorem dX10_image_69 : decode cX10_image 69 = .ok (.iaload, 1) := by decide +kernel
theorem dX10_image_70 : decode cX10_image 70 = .ok (.invokevirtual 282, 3) := by decide +kernel
theorem dX10_image_73 : decode cX10_image 73 = .ok (.aload_n 0, 1) := by decide +kernel
theorem dX10_image_74 : decode cX10_image 74 = .ok (.aload_n 0, 1) := by decide +kernel
theorem dX10_image_75 : decode cX10_image 75 = .ok (.getfield 33, 3) := by decide +kernel
theorem dX10_image_78 : decode cX10_image 78 = .ok (.getfield 137, 3) := by decide +kernel
theorem dX10_image_81 : decode cX10_image 81 = .ok (.iload_n 1, 1) := by decide +kernel
theorem dX10_image_82 : decode cX10_image 82 = .ok (.iaload, 1) := by decide +kernel
theorem dX10_image_83 : decode cX10_image 83 = .ok (.invokevirtual 282, 3) := by decide +kernel
theorem dX10_image_86 : decode cX10_image 86 = .ok (.aload_n 0, 1) := by decide +kernel
theorem dX10_image_87 : decode cX10_image 87 = .ok (.aload_n 0, 1) := by decide +kernel
theorem dX10_image_88 : decode cX10_image 88 = .ok (.getfield 33, 3) := by decide +kernel
theorem dX10_image_91 : decode cX10_image 91 = .ok (.getfield 140, 3) := by decide +kernel
theorem dX10_image_94 : decode cX10_image 94 = .ok (.iload_n 1, 1) := by decide +kernel
theorem dX10_image_95 : decode cX10_image 95 = .ok (.iaload, 1) := by decide +kernel
theorem dX10_image_96 : decode cX10_image 96 = .ok (.invokevirtual 282, 3) := by decide +kernel
theorem dX10_image_99 : decode cX10_image 99 = .ok (.iinc 1 1, 3) := by decide +kernel
theorem dX10_image_102 : decode cX10_image 102 = .ok (.goto (-66), 3) := by decide +kernel
theorem dX10_image_105 : decode cX10_image 105 = .ok (.aload_n 0, 1) := by decide +kernel
theorem dX10_image_106 : decode cX10_image 106 = .ok (.aload_n 0, 1) := by decide +kernel
theorem dX10_image_107 : decode cX10_image 107 = .ok (.getfield 33, 3) := by decide +kernel
theorem dX10_image_110 : decode cX10_image 110 = .ok (.getfield 134, 3) := by decide +kernel
theorem dX10_image_113 : decode cX10_image 113 = .ok (.invokevirtual 282, 3) := by decide +kernel
theorem dX10_image_116 : decode cX10_image 116 = .ok (.iconst 0, 1) := by decide +kernel
theorem dX10_image_117 : decode cX10_image 117 = .ok (.istore_n 1, 1) := by decide +kernel
theorem dX10_image_118 : decode cX10_image 118 = .ok (.iload_n 1, 1) := by decide +kernel
theorem dX10_image_119 : decode cX10_image 119 = .ok (.aload_n 0, 1) := by decide +kernel
theorem dX10_image_120 : decode cX10_image 120 = .ok (.getfield 33, 3) := by decide +kernel
theorem dX10_image_123 : decode cX10_image 123 = .ok (.getfield 134, 3) := by decide +kernel
theorem dX10_image_126 : decode cX10_image 126 = .ok (.if_icmp .ge 60, 3) := by decide +kernel
theorem dX10_image_129 : decode cX10_image 129 = .ok (.iload_n 1, 1) := by decide +kernel
theorem dX10_image_130 : decode cX10_image 130 = .ok (.bipush 60, 2) := by decide +kernel
theorem dX10_image_132 : decode cX10_image 132 = .ok (.if_icmp .ge 54, 3) := by decide +kernel
theorem dX10_image_135 : decode cX10_image 135 = .ok (.aload_n 0, 1) := by decide +kernel
theorem dX10_image_136 : decode cX10_image 136 = .ok (.aload_n 0, 1) := by decide +kernel
theorem dX10_image_137 : decode cX10_image 137 = .ok (.getfield 33, 3) := by decide +kernel
theorem dX10_image_140 : decode cX10_image 140 = .ok (.getfield 172, 3) := by decide +kernel
theorem dX10_image_143 : decode cX10_image 143 = .ok (.iload_n 1, 1) := by decide +kernel
theorem dX10_image_144 : decode cX10_image 144 = .ok (.iaload, 1) := by decide +kernel
theorem dX10_image_145 : decode cX10_image 145 = .ok (.bipush 6, 2) := by decide +kernel
theorem dX10_image_147 : decode cX10_image 147 = .ok (.idiv, 1) := by decide +kernel
theorem dX10_image_148 : decode cX10_image 148 = .ok (.invokevirtual 282, 3) := by decide +kernel
theorem dX10_image_151 : decode cX10_image 151 = .ok (.aload_n 0, 1) := by decide +kernel
theorem dX10_image_152 : decode cX10_image 152 = .ok (.aload_n 0, 1) := by decide +kernel
theorem dX10_image_153 : decode cX10_image 153 = .ok (.getfield 33, 3) := by decide +kernel
theorem dX10_image_156 : decode cX10_image 156 = .ok (.getfield 172, 3) := by decide +kernel
theorem dX10_image_159 : decode cX10_image 159 = .ok (.iload_n 1, 1) := by decide +kernel
theorem dX10_image_160 : decode cX10_image 160 = .ok (.iaload, 1) := by decide +kernel
theorem dX10_image_161 : decode cX10_image 161 = .ok (.bipush 6, 2) := by decide +kernel
theorem dX10_image_163 : decode cX10_image 163 = .ok (.irem, 1) := by decide +kernel
theorem dX10_image_164 : decode cX10_image 164 = .ok (.invokevirtual 282, 3) := by decide +kernel
theorem dX10_image_167 : decode cX10_image 167 = .ok (.aload_n 0, 1) := by decide +kernel
theorem dX10_image_168 : decode cX10_image 168 = .ok (.aload_n 0, 1) := by decide +kernel
theorem dX10_image_169 : decode cX10_image 169 = .ok (.getfield 33, 3) := by decide +kernel
theorem dX10_image_172 : decode cX10_image 172 = .ok (.getfield 175, 3) := by decide +kernel
theorem dX10_image_175 : decode cX10_image 175 = .ok (.iload_n 1, 1) := by decide +kernel
theorem dX10_image_176 : decode cX10_image 176 = .ok (.iaload, 1) := by decide +kernel
theorem dX10_image_177 : decode cX10_image 177 = .ok (.invokevirtual 282, 3) := by decide +kernel
theorem dX10_image_180 : decode cX10_image 180 = .ok (.iinc 1 1, 3) := by decide +kernel
theorem dX10_image_183 : decode cX10_image 183 = .ok (.goto (-65), 3) := by decide +kernel
theorem dX10_image_186 : decode cX10_image 186 = .ok (.sipush 191, 3) := by decide +kernel
theorem dX10_image_189 : decode cX10_image 189 = .ok (.istore_n 1, 1) := by decide +kernel
theorem dX10_image_190 : decode cX10_image 190 = .ok (.iconst 0, 1) := by decide +kernel
theorem dX10_image_191 : decode cX10_image 191 = .ok (.istore_n 2, 1) := by decide +kernel
theorem dX10_image_192 : decode cX10_image 192 = .ok (.iload_n 2, 1) := by decide +kernel
theorem dX10_image_193 : decode cX10_image 193 = .ok (.aload_n 0, 1) := by decide +kernel
theorem dX10_image_194 : decode cX10_image 194 = .ok (.getfield 74, 3) := by decide +kernel
theorem dX10_image_197 : decode cX10_image 197 = .ok (.if_icmp .ge 20, 3) := by decide +kernel
theorem dX10_image_200 : decode cX10_image 200 = .ok (.iload_n 1, 1) := by decide +kernel
theorem dX10_image_201 : decode cX10_image 201 = .ok (.aload_n 0, 1) := by decide +kernel
theorem dX10_image_202 : decode cX10_image 202 = .ok (.getfield 71, 3) := by decide +kernel
theorem dX10_image_205 : decode cX10_image 205 = .ok (.iload_n 2, 1) := by decide +kernel
theorem dX10_image_206 : decode cX10_image 206 = .ok (.iaload, 1) := by decide +kernel
theorem dX10_image_207 : decode cX10_image 207 = .ok (.invokestatic 287, 3) := by decide +kernel
theorem dX10_image_210 : decode cX10_image 210 = .ok (.istore_n 1, 1) := by decide +kernel
theorem dX10_image_211 : decode cX10_image 211 = .ok (.iinc 2 1, 3) := by decide +kernel
theorem dX10_image_214 : decode cX10_image 214 = .ok (.goto (-22), 3) := by decide +kernel
theorem dX10_image_217 : decode cX10_image 217 = .ok (.aload_n 0, 1) := by decide +kernel
theorem dX10_image_218 : decode cX10_image 218 = .ok (.iload_n 1, 1) := by decide +kernel
theorem dX10_image_219 : decode cX10_image 219 = .ok (.invokevirtual 282, 3) := by decide +kernel
theorem dX10_image_222 : decode cX10_image 222 = .ok (.aload_n 0, 1) := by decide +kernel
theorem dX10_image_223 : decode cX10_image 223 = .ok (.getfield 74, 3) := by decide +kernel
theorem dX10_image_226 : decode cX10_image 226 = .ok (.ireturn, 1) := by decide +kernel
theorem dX10_putOctet_0 : decode cX10_putOctet 0 = .ok (.aload_n 0, 1) := by decide +kernel
theorem dX10_putOctet_1 : decode cX10_putOctet 1 = .ok (.getfield 74, 3) := by decide +kernel
theorem dX10_putOctet_4 : decode cX10_putOctet 4 = .ok (.sipush 512, 3) := by decide +kernel
theorem dX10_putOctet_7 : decode cX10_putOctet 7 = .ok (.if_icmp .ge 23, 3) := by decide +kernel
theorem dX10_putOctet_10 : decode cX10_putOctet 10 = .ok (.aload_n 0, 1) := by decide +kernel
theorem dX10_putOctet_11 : decode cX10_putOctet 11 = .ok (.getfield 71, 3) := by decide +kernel
theorem dX10_putOctet_14 : decode cX10_putOctet 14 = .ok (.aload_n 0, 1) := by decide +kernel
theorem dX10_putOctet_15 : decode cX10_putOctet 15 = .ok (.getfield 74, 3) := by decide +kernel
theorem dX10_putOctet_18 : decode cX10_putOctet 18 = .ok (.iload_n 1, 1) := by decide +kernel
theorem dX10_putOctet_19 : decode cX10_putOctet 19 = .ok (.iastore, 1) := by decide +kernel
theorem dX10_putOctet_20 : decode cX10_putOctet 20 = .ok (.aload_n 0, 1) := by decide +kernel
theorem dX10_putOctet_21 : decode cX10_putOctet 21 = .ok (.dup, 1) := by decide +kernel
theorem dX10_putOctet_22 : decode cX10_putOctet 22 = .ok (.getfield 74, 3) := by decide +kernel
theorem dX10_putOctet_25 : decode cX10_putOctet 25 = .ok (.iconst 1, 1) := by decide +kernel
theorem dX10_putOctet_26 : decode cX10_putOctet 26 = .ok (.iadd, 1) := by decide +kernel
theorem dX10_putOctet_27 : decode cX10_putOctet 27 = .ok (.putfield 74, 3) := by decide +kernel
theorem dX10_putOctet_30 : decode cX10_putOctet 30 = .ok (.return_, 1) := by decide +kernel
theorem dX10_octet_0 : decode cX10_octet 0 = .ok (.iload_n 1, 1) := by decide +kernel
theorem dX10_octet_1 : decode cX10_octet 1 = .ok (.ifCond .lt 20, 3) := by decide +kernel
theorem dX10_octet_4 : decode cX10_octet 4 = .ok (.iload_n 1, 1) := by decide +kernel
theorem dX10_octet_5 : decode cX10_octet 5 = .ok (.aload_n 0, 1) := by decide +kernel
theorem dX10_octet_6 : decode cX10_octet 6 = .ok (.getfield 74, 3) := by decide +kernel
theorem dX10_octet_9 : decode cX10_octet 9 = .ok (.if_icmp .ge 12, 3) := by decide +kernel
theorem dX10_octet_12 : decode cX10_octet 12 = .ok (.aload_n 0, 1) := by decide +kernel
theorem dX10_octet_13 : decode cX10_octet 13 = .ok (.getfield 71, 3) := by decide +kernel
theorem dX10_octet_16 : decode cX10_octet 16 = .ok (.iload_n 1, 1) := by decide +kernel
theorem dX10_octet_17 : decode cX10_octet 17 = .ok (.iaload, 1) := by decide +kernel
theorem dX10_octet_18 : decode cX10_octet 18 = .ok (.goto 4, 3) := by decide +kernel
theorem dX10_octet_21 : decode cX10_octet 21 = .ok (.iconst (-1), 1) := by decide +kernel
theorem dX10_octet_22 : decode cX10_octet 22 = .ok (.ireturn, 1) := by decide +kernel
theorem dX10_on_0 : decode cX10_on 0 = .ok (.aload_n 0, 1) := by decide +kernel
theorem dX10_on_1 : decode cX10_on 1 = .ok (.getfield 13, 3) := by decide +kernel
theorem dX10_on_4 : decode cX10_on 4 = .ok (.istore_n 1, 1) := by decide +kernel
theorem dX10_on_5 : decode cX10_on 5 = .ok (.aload_n 0, 1) := by decide +kernel
theorem dX10_on_6 : decode cX10_on 6 = .ok (.iconst 0, 1) := by decide +kernel
theorem dX10_on_7 : decode cX10_on 7 = .ok (.putfield 13, 3) := by decide +kernel
theorem dX10_on_10 : decode cX10_on 10 = .ok (.aload_n 0, 1) := by decide +kernel
theorem dX10_on_11 : decode cX10_on 11 = .ok (.getfield 9, 3) := by decide +kernel
theorem dX10_on_14 : decode cX10_on 14 = .ok (.iload_n 1, 1) := by decide +kernel
theorem dX10_on_15 : decode cX10_on 15 = .ok (.aload_n 0, 1) := by decide +kernel
theorem dX10_on_16 : decode cX10_on 16 = .ok (.getfield 20, 3) := by decide +kernel
theorem dX10_on_19 : decode cX10_on 19 = .ok (.aload_n 0, 1) := by decide +kernel
theorem dX10_on_20 : decode cX10_on 20 = .ok (.getfield 37, 3) := by decide +kernel
theorem dX10_on_23 : decode cX10_on 23 = .ok (.invokestatic 290, 3) := by decide +kernel
theorem dX10_on_26 : decode cX10_on 26 = .ok (.ifCond .ne 11, 3) := by decide +kernel
theorem dX10_on_29 : decode cX10_on 29 = .ok (.aload_n 0, 1) := by decide +kernel
theorem dX10_on_30 : decode cX10_on 30 = .ok (.iconst 5, 1) := by decide +kernel
theorem dX10_on_31 : decode cX10_on 31 = .ok (.invokevirtual 80, 3) := by decide +kernel
theorem dX10_on_34 : decode cX10_on 34 = .ok (.pop, 1) := by decide +kernel
theorem dX10_on_35 : decode cX10_on 35 = .ok (.iconst 0, 1) := by decide +kernel
theorem dX10_on_36 : decode cX10_on 36 = .ok (.ireturn, 1) := by decide +kernel
theorem dX10_on_37 : decode cX10_on 37 = .ok (.aload_n 0, 1) := by decide +kernel
theorem dX10_on_38 : decode cX10_on 38 = .ok (.getfield 33, 3) := by decide +kernel
theorem dX10_on_41 : decode cX10_on 41 = .ok (.aload_n 0, 1) := by decide +kernel
theorem dX10_on_42 : decode cX10_on 42 = .ok (.getfield 37, 3) := by decide +kernel
theorem dX10_on_45 : decode cX10_on 45 = .ok (.invokevirtual 186, 3) := by decide +kernel
theorem dX10_on_48 : decode cX10_on 48 = .ok (.aload_n 0, 1) := by decide +kernel
theorem dX10_on_49 : decode cX10_on 49 = .ok (.iconst 0, 1) := by decide +kernel
theorem dX10_on_50 : decode cX10_on 50 = .ok (.putfield 58, 3) := by decide +kernel
theorem dX10_on_53 : decode cX10_on 53 = .ok (.iconst 1, 1) := by decide +kernel
theorem dX10_on_54 : decode cX10_on 54 = .ok (.ireturn, 1) := by decide +kernel
theorem dX10_status_0 : decode cX10_status 0 = .ok (.iload_n 1, 1) := by decide +kernel
theorem dX10_status_1 : decode cX10_status 1 = .ok (.ifCond .lt 18, 3) := by decide +kernel
theorem dX10_status_4 : decode cX10_status 4 = .ok (.iload_n 1, 1) := by decide +kernel
theorem dX10_status_5 : decode cX10_status 5 = .ok (.bipush 6, 2) := by decide +kernel
theorem dX10_status_7 : decode cX10_status 7 = .ok (.if_icmp .ge 12, 3) := by decide +kernel
theorem dX10_status_10 : decode cX10_status 10 = .ok (.aload_n 0, 1) := by decide +kernel
theorem dX10_status_11 : decode cX10_status 11 = .ok (.getfield 77, 3) := by decide +kernel
theorem dX10_status_14 : decode cX10_status 14 = .ok (.iload_n 1, 1) := by decide +kernel
theorem dX10_status_15 : decode cX10_status 15 = .ok (.iaload, 1) := by decide +kernel
theorem dX10_status_16 : decode cX10_status 16 = .ok (.goto 4, 3) := by decide +kernel
theorem dX10_status_19 : decode cX10_status 19 = .ok (.iconst (-1), 1) := by decide +kernel
theorem dX10_status_20 : decode cX10_status 20 = .ok (.ireturn, 1) := by decide +kernel
theorem dX10_refuse_0 : decode cX10_refuse 0 = .ok (.iload_n 1, 1) := by decide +kernel
theorem dX10_refuse_1 : decode cX10_refuse 1 = .ok (.ifCond .lt 19, 3) := by decide +kernel
theorem dX10_refuse_4 : decode cX10_refuse 4 = .ok (.iload_n 1, 1) := by decide +kernel
theorem dX10_refuse_5 : decode cX10_refuse 5 = .ok (.bipush 6, 2) := by decide +kernel
theorem dX10_refuse_7 : decode cX10_refuse 7 = .ok (.if_icmp .ge 13, 3) := by decide +kernel
theorem dX10_refuse_10 : decode cX10_refuse 10 = .ok (.aload_n 0, 1) := by decide +kernel
theorem dX10_refuse_11 : decode cX10_refuse 11 = .ok (.getfield 77, 3) := by decide +kernel
theorem dX10_refuse_14 : decode cX10_refuse 14 = .ok (.iload_n 1, 1) := by decide +kernel
theorem dX10_refuse_15 : decode cX10_refuse 15 = .ok (.dup2, 1) := by decide +kernel
theorem dX10_refuse_16 : decode cX10_refuse 16 = .ok (.iaload, 1) := by decide +kernel
theorem dX10_refuse_17 : decode cX10_refuse 17 = .ok (.iconst 1, 1) := by decide +kernel
theorem dX10_refuse_18 : decode cX10_refuse 18 = .ok (.iadd, 1) := by decide +kernel
theorem dX10_refuse_19 : decode cX10_refuse 19 = .ok (.iastore, 1) := by decide +kernel
theorem dX10_refuse_20 : decode cX10_refuse 20 = .ok (.iconst (-1), 1) := by decide +kernel
theorem dX10_refuse_21 : decode cX10_refuse 21 = .ok (.ireturn, 1) := by decide +kernel
theorem dJ9_floorDiv_7cf53_0 : decode cJ9_floorDiv_7cf53 0 = .ok (.iload_n 0, 1) := by decide +kernel
theorem dJ9_floorDiv_7cf53_1 : decode cJ9_floorDiv_7cf53 1 = .ok (.iload_n 1, 1) := by decide +kernel
theorem dJ9_floorDiv_7cf53_2 : decode cJ9_floorDiv_7cf53 2 = .ok (.idiv, 1) := by decide +kernel
theorem dJ9_floorDiv_7cf53_3 : decode cJ9_floorDiv_7cf53 3 = .ok (.istore_n 2, 1) := by decide +kernel
theorem dJ9_floorDiv_7cf53_4 : decode cJ9_floorDiv_7cf53 4 = .ok (.iload_n 0, 1) := by decide +kernel
theorem dJ9_floorDiv_7cf53_5 : decode cJ9_floorDiv_7cf53 5 = .ok (.iload_n 1, 1) := by decide +kernel
theorem dJ9_floorDiv_7cf53_6 : decode cJ9_floorDiv_7cf53 6 = .ok (.ixor, 1) := by decide +kernel
theorem dJ9_floorDiv_7cf53_7 : decode cJ9_floorDiv_7cf53 7 = .ok (.ifCond .ge 14, 3) := by decide +kernel
theorem dJ9_floorDiv_7cf53_10 : decode cJ9_floorDiv_7cf53 10 = .ok (.iload_n 2, 1) := by decide +kernel
theorem dJ9_floorDiv_7cf53_11 : decode cJ9_floorDiv_7cf53 11 = .ok (.iload_n 1, 1) := by decide +kernel
theorem dJ9_floorDiv_7cf53_12 : decode cJ9_floorDiv_7cf53 12 = .ok (.imul, 1) := by decide +kernel
theorem dJ9_floorDiv_7cf53_13 : decode cJ9_floorDiv_7cf53 13 = .ok (.iload_n 0, 1) := by decide +kernel
theorem dJ9_floorDiv_7cf53_14 : decode cJ9_floorDiv_7cf53 14 = .ok (.if_icmp .eq 7, 3) := by decide +kernel
theorem dJ9_floorDiv_7cf53_17 : decode cJ9_floorDiv_7cf53 17 = .ok (.iload_n 2, 1) := by decide +kernel
theorem dJ9_floorDiv_7cf53_18 : decode cJ9_floorDiv_7cf53 18 = .ok (.iconst 1, 1) := by decide +kernel
theorem dJ9_floorDiv_7cf53_19 : decode cJ9_floorDiv_7cf53 19 = .ok (.isub, 1) := by decide +kernel
theorem dJ9_floorDiv_7cf53_20 : decode cJ9_floorDiv_7cf53 20 = .ok (.ireturn, 1) := by decide +kernel
theorem dJ9_floorDiv_7cf53_21 : decode cJ9_floorDiv_7cf53 21 = .ok (.iload_n 2, 1) := by decide +kernel
theorem dJ9_floorDiv_7cf53_22 : decode cJ9_floorDiv_7cf53 22 = .ok (.ireturn, 1) := by decide +kernel
theorem dJ9_floorMod_7cf53_0 : decode cJ9_floorMod_7cf53 0 = .ok (.iload_n 0, 1) := by decide +kernel
theorem dJ9_floorMod_7cf53_1 : decode cJ9_floorMod_7cf53 1 = .ok (.iload_n 1, 1) := by decide +kernel
theorem dJ9_floorMod_7cf53_2 : decode cJ9_floorMod_7cf53 2 = .ok (.irem, 1) := by decide +kernel
theorem dJ9_floorMod_7cf53_3 : decode cJ9_floorMod_7cf53 3 = .ok (.istore_n 2, 1) := by decide +kernel
theorem dJ9_floorMod_7cf53_4 : decode cJ9_floorMod_7cf53 4 = .ok (.iload_n 0, 1) := by decide +kernel
theorem dJ9_floorMod_7cf53_5 : decode cJ9_floorMod_7cf53 5 = .ok (.iload_n 1, 1) := by decide +kernel
theorem dJ9_floorMod_7cf53_6 : decode cJ9_floorMod_7cf53 6 = .ok (.ixor, 1) := by decide +kernel
theorem dJ9_floorMod_7cf53_7 : decode cJ9_floorMod_7cf53 7 = .ok (.ifCond .ge 11, 3) := by decide +kernel
theorem dJ9_floorMod_7cf53_10 : decode cJ9_floorMod_7cf53 10 = .ok (.iload_n 2, 1) := by decide +kernel
theorem dJ9_floorMod_7cf53_11 : decode cJ9_floorMod_7cf53 11 = .ok (.ifCond .eq 7, 3) := by decide +kernel
theorem dJ9_floorMod_7cf53_14 : decode cJ9_floorMod_7cf53 14 = .ok (.iload_n 2, 1) := by decide +kernel
theorem dJ9_floorMod_7cf53_15 : decode cJ9_floorMod_7cf53 15 = .ok (.iload_n 1, 1) := by decide +kernel
theorem dJ9_floorMod_7cf53_16 : decode cJ9_floorMod_7cf53 16 = .ok (.iadd, 1) := by decide +kernel
theorem dJ9_floorMod_7cf53_17 : decode cJ9_floorMod_7cf53 17 = .ok (.ireturn, 1) := by decide +kernel
theorem dJ9_floorMod_7cf53_18 : decode cJ9_floorMod_7cf53 18 = .ok (.iload_n 2, 1) := by decide +kernel
theorem dJ9_floorMod_7cf53_19 : decode cJ9_floorMod_7cf53 19 = .ok (.ireturn, 1) := by decide +kernel
