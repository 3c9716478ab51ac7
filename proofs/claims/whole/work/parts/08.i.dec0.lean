theorem dX11_must_25 : decode cX11_must 25 = .ok (.ifCond .ne 7, 3) := by decide +kernel
theorem dX11_must_28 : decode cX11_must 28 = .ok (.aload_n 0, 1) := by decide +kernel
theorem dX11_must_29 : decode cX11_must 29 = .ok (.invokevirtual 238, 3) := by decide +kernel
theorem dX11_must_32 : decode cX11_must 32 = .ok (.return_, 1) := by decide +kernel
theorem dX11_isOwn_0 : decode cX11_isOwn 0 = .ok (.lload_n 1, 1) := by decide +kernel
theorem dX11_isOwn_1 : decode cX11_isOwn 1 = .ok (.ldc2_w 241, 3) := by decide +kernel
theorem dX11_isOwn_4 : decode cX11_isOwn 4 = .ok (.lcmp, 1) := by decide +kernel
theorem dX11_isOwn_5 : decode cX11_isOwn 5 = .ok (.ifCond .eq 35, 3) := by decide +kernel
theorem dX11_isOwn_8 : decode cX11_isOwn 8 = .ok (.lload_n 1, 1) := by decide +kernel
theorem dX11_isOwn_9 : decode cX11_isOwn 9 = .ok (.ldc2_w 243, 3) := by decide +kernel
theorem dX11_isOwn_12 : decode cX11_isOwn 12 = .ok (.lcmp, 1) := by decide +kernel
theorem dX11_isOwn_13 : decode cX11_isOwn 13 = .ok (.ifCond .eq 27, 3) := by decide +kernel
theorem dX11_isOwn_16 : decode cX11_isOwn 16 = .ok (.lload_n 1, 1) := by decide +kernel
theorem dX11_isOwn_17 : decode cX11_isOwn 17 = .ok (.ldc2_w 245, 3) := by decide +kernel
theorem dX11_isOwn_20 : decode cX11_isOwn 20 = .ok (.lcmp, 1) := by decide +kernel
theorem dX11_isOwn_21 : decode cX11_isOwn 21 = .ok (.ifCond .eq 19, 3) := by decide +kernel
theorem dX11_isOwn_24 : decode cX11_isOwn 24 = .ok (.lload_n 1, 1) := by decide +kernel
theorem dX11_isOwn_25 : decode cX11_isOwn 25 = .ok (.ldc2_w 247, 3) := by decide +kernel
theorem dX11_isOwn_28 : decode cX11_isOwn 28 = .ok (.lcmp, 1) := by decide +kernel
theorem dX11_isOwn_29 : decode cX11_isOwn 29 = .ok (.ifCond .eq 11, 3) := by decide +kernel
theorem dX11_isOwn_32 : decode cX11_isOwn 32 = .ok (.lload_n 1, 1) := by decide +kernel
theorem dX11_isOwn_33 : decode cX11_isOwn 33 = .ok (.ldc2_w 249, 3) := by decide +kernel
theorem dX11_isOwn_36 : decode cX11_isOwn 36 = .ok (.lcmp, 1) := by decide +kernel
theorem dX11_isOwn_37 : decode cX11_isOwn 37 = .ok (.ifCond .ne 5, 3) := by decide +kernel
theorem dX11_isOwn_40 : decode cX11_isOwn 40 = .ok (.iconst 1, 1) := by decide +kernel
theorem dX11_isOwn_41 : decode cX11_isOwn 41 = .ok (.ireturn, 1) := by decide +kernel
theorem dX11_isOwn_42 : decode cX11_isOwn 42 = .ok (.lload_n 1, 1) := by decide +kernel
theorem dX11_isOwn_43 : decode cX11_isOwn 43 = .ok (.ldc2_w 251, 3) := by decide +kernel
theorem dX11_isOwn_46 : decode cX11_isOwn 46 = .ok (.lcmp, 1) := by decide +kernel
theorem dX11_isOwn_47 : decode cX11_isOwn 47 = .ok (.ifCond .eq 35, 3) := by decide +kernel
theorem dX11_isOwn_50 : decode cX11_isOwn 50 = .ok (.lload_n 1, 1) := by decide +kernel
theorem dX11_isOwn_51 : decode cX11_isOwn 51 = .ok (.ldc2_w 253, 3) := by decide +kernel
theorem dX11_isOwn_54 : decode cX11_isOwn 54 = .ok (.lcmp, 1) := by decide +kernel
theorem dX11_isOwn_55 : decode cX11_isOwn 55 = .ok (.ifCond .eq 27, 3) := by decide +kernel
theorem dX11_isOwn_58 : decode cX11_isOwn 58 = .ok (.lload_n 1, 1) := by decide +kernel
theorem dX11_isOwn_59 : decode cX11_isOwn 59 = .ok (.ldc2_w 255, 3) := by decide +kernel
theorem dX11_isOwn_62 : decode cX11_isOwn 62 = .ok (.lcmp, 1) := by decide +kernel
theorem dX11_isOwn_63 : decode cX11_isOwn 63 = .ok (.ifCond .eq 19, 3) := by decide +kernel
theorem dX11_isOwn_66 : decode cX11_isOwn 66 = .ok (.lload_n 1, 1) := by decide +kernel
theorem dX11_isOwn_67 : decode cX11_isOwn 67 = .ok (.ldc2_w 257, 3) := by decide +kernel
theorem dX11_isOwn_70 : decode cX11_isOwn 70 = .ok (.lcmp, 1) := by decide +kernel
theorem dX11_isOwn_71 : decode cX11_isOwn 71 = .ok (.ifCond .eq 11, 3) := by decide +kernel
theorem dX11_isOwn_74 : decode cX11_isOwn 74 = .ok (.lload_n 1, 1) := by decide +kernel
theorem dX11_isOwn_75 : decode cX11_isOwn 75 = .ok (.ldc2_w 259, 3) := by decide +kernel
theorem dX11_isOwn_78 : decode cX11_isOwn 78 = .ok (.lcmp, 1) := by decide +kernel
theorem dX11_isOwn_79 : decode cX11_isOwn 79 = .ok (.ifCond .ne 5, 3) := by decide +kernel
theorem dX11_isOwn_82 : decode cX11_isOwn 82 = .ok (.iconst 1, 1) := by decide +kernel
theorem dX11_isOwn_83 : decode cX11_isOwn 83 = .ok (.ireturn, 1) := by decide +kernel
theorem dX11_isOwn_84 : decode cX11_isOwn 84 = .ok (.lload_n 1, 1) := by decide +kernel
theorem dX11_isOwn_85 : decode cX11_isOwn 85 = .ok (.ldc2_w 261, 3) := by decide +kernel
theorem dX11_isOwn_88 : decode cX11_isOwn 88 = .ok (.lcmp, 1) := by decide +kernel
theorem dX11_isOwn_89 : decode cX11_isOwn 89 = .ok (.ifCond .eq 35, 3) := by decide +kernel
theorem dX11_isOwn_92 : decode cX11_isOwn 92 = .ok (.lload_n 1, 1) := by decide +kernel
theorem dX11_isOwn_93 : decode cX11_isOwn 93 = .ok (.ldc2_w 263, 3) := by decide +kernel
theorem dX11_isOwn_96 : decode cX11_isOwn 96 = .ok (.lcmp, 1) := by decide +kernel
theorem dX11_isOwn_97 : decode cX11_isOwn 97 = .ok (.ifCond .eq 27, 3) := by decide +kernel
theorem dX11_isOwn_100 : decode cX11_isOwn 100 = .ok (.lload_n 1, 1) := by decide +kernel
theorem dX11_isOwn_101 : decode cX11_isOwn 101 = .ok (.ldc2_w 265, 3) := by decide +kernel
theorem dX11_isOwn_104 : decode cX11_isOwn 104 = .ok (.lcmp, 1) := by decide +kernel
theorem dX11_isOwn_105 : decode cX11_isOwn 105 = .ok (.ifCond .eq 19, 3) := by decide +kernel
theorem dX11_isOwn_108 : decode cX11_isOwn 108 = .ok (.lload_n 1, 1) := by decide +kernel
theorem dX11_isOwn_109 : decode cX11_isOwn 109 = .ok (.ldc2_w 267, 3) := by decide +kernel
theorem dX11_isOwn_112 : decode cX11_isOwn 112 = .ok (.lcmp, 1) := by decide +kernel
theorem dX11_isOwn_113 : decode cX11_isOwn 113 = .ok (.ifCond .eq 11, 3) := by decide +kernel
theorem dX11_isOwn_116 : decode cX11_isOwn 116 = .ok (.lload_n 1, 1) := by decide +kernel
theorem dX11_isOwn_117 : decode cX11_isOwn 117 = .ok (.ldc2_w 269, 3) := by decide +kernel
theorem dX11_isOwn_120 : decode cX11_isOwn 120 = .ok (.lcmp, 1) := by decide +kernel
theorem dX11_isOwn_121 : decode cX11_isOwn 121 = .ok (.ifCond .ne 5, 3) := by decide +kernel
theorem dX11_isOwn_124 : decode cX11_isOwn 124 = .ok (.iconst 1, 1) := by decide +kernel
theorem dX11_isOwn_125 : decode cX11_isOwn 125 = .ok (.ireturn, 1) := by decide +kernel
theorem dX11_isOwn_126 : decode cX11_isOwn 126 = .ok (.lload_n 1, 1) := by decide +kernel
theorem dX11_isOwn_127 : decode cX11_isOwn 127 = .ok (.ldc2_w 271, 3) := by decide +kernel
theorem dX11_isOwn_130 : decode cX11_isOwn 130 = .ok (.lcmp, 1) := by decide +kernel
theorem dX11_isOwn_131 : decode cX11_isOwn 131 = .ok (.ifCond .eq 35, 3) := by decide +kernel
theorem dX11_isOwn_134 : decode cX11_isOwn 134 = .ok (.lload_n 1, 1) := by decide +kernel
theorem dX11_isOwn_135 : decode cX11_isOwn 135 = .ok (.ldc2_w 273, 3) := by decide +kernel
theorem dX11_isOwn_138 : decode cX11_isOwn 138 = .ok (.lcmp, 1) := by decide +kernel
theorem dX11_isOwn_139 : decode cX11_isOwn 139 = .ok (.ifCond .eq 27, 3) := by decide +kernel
theorem dX11_isOwn_142 : decode cX11_isOwn 142 = .ok (.lload_n 1, 1) := by decide +kernel
theorem dX11_isOwn_143 : decode cX11_isOwn 143 = .ok (.ldc2_w 275, 3) := by decide +kernel
theorem dX11_isOwn_146 : decode cX11_isOwn 146 = .ok (.lcmp, 1) := by decide +kernel
theorem dX11_isOwn_147 : decode cX11_isOwn 147 = .ok (.ifCond .eq 19, 3) := by decide +kernel
theorem dX11_isOwn_150 : decode cX11_isOwn 150 = .ok (.lload_n 1, 1) := by decide +kernel
theorem dX11_isOwn_151 : decode cX11_isOwn 151 = .ok (.ldc2_w 277, 3) := by decide +kernel
theorem dX11_isOwn_154 : decode cX11_isOwn 154 = .ok (.lcmp, 1) := by decide +kernel
theorem dX11_isOwn_155 : decode cX11_isOwn 155 = .ok (.ifCond .eq 11, 3) := by decide +kernel
theorem dX11_isOwn_158 : decode cX11_isOwn 158 = .ok (.lload_n 1, 1) := by decide +kernel
theorem dX11_isOwn_159 : decode cX11_isOwn 159 = .ok (.ldc2_w 279, 3) := by decide +kernel
theorem dX11_isOwn_162 : decode cX11_isOwn 162 = .ok (.lcmp, 1) := by decide +kernel
theorem dX11_isOwn_163 : decode cX11_isOwn 163 = .ok (.ifCond .ne 5, 3) := by decide +kernel
theorem dX11_isOwn_166 : decode cX11_isOwn 166 = .ok (.iconst 1, 1) := by decide +kernel
theorem dX11_isOwn_167 : decode cX11_isOwn 167 = .ok (.ireturn, 1) := by decide +kernel
theorem dX11_isOwn_168 : decode cX11_isOwn 168 = .ok (.lload_n 1, 1) := by decide +kernel
theorem dX11_isOwn_169 : decode cX11_isOwn 169 = .ok (.ldc2_w 281, 3) := by decide +kernel
theorem dX11_isOwn_172 : decode cX11_isOwn 172 = .ok (.lcmp, 1) := by decide +kernel
theorem dX11_isOwn_173 : decode cX11_isOwn 173 = .ok (.ifCond .eq 19, 3) := by decide +kernel
theorem dX11_isOwn_176 : decode cX11_isOwn 176 = .ok (.lload_n 1, 1) := by decide +kernel
theorem dX11_isOwn_177 : decode cX11_isOwn 177 = .ok (.ldc2_w 283, 3) := by decide +kernel
theorem dX11_isOwn_180 : decode cX11_isOwn 180 = .ok (.lcmp, 1) := by decide +kernel
theorem dX11_isOwn_181 : decode cX11_isOwn 181 = .ok (.ifCond .eq 11, 3) := by decide +kernel
theorem dX11_isOwn_184 : decode cX11_isOwn 184 = .ok (.lload_n 1, 1) := by decide +kernel
theorem dX11_isOwn_185 : decode cX11_isOwn 185 = .ok (.ldc2_w 285, 3) := by decide +kernel
theorem dX11_isOwn_188 : decode cX11_isOwn 188 = .ok (.lcmp, 1) := by decide +kernel
theorem dX11_isOwn_189 : decode cX11_isOwn 189 = .ok (.ifCond .ne 5, 3) := by decide +kernel
theorem dX11_isOwn_192 : decode cX11_isOwn 192 = .ok (.iconst 1, 1) := by decide +kernel
theorem dX11_isOwn_193 : decode cX11_isOwn 193 = .ok (.ireturn, 1) := by decide +kernel
theorem dX11_isOwn_194 : decode cX11_isOwn 194 = .ok (.iconst 0, 1) := by decide +kernel
theorem dX11_isOwn_195 : decode cX11_isOwn 195 = .ok (.ireturn, 1) := by decide +kernel
theorem dX11_isDefault_0 : decode cX11_isDefault 0 = .ok (.aload_n 0, 1) := by decide +kernel
theorem dX11_isDefault_1 : decode cX11_isDefault 1 = .ok (.getfield 69, 3) := by decide +kernel
theorem dX11_isDefault_4 : decode cX11_isDefault 4 = .ok (.iconst 2, 1) := by decide +kernel
theorem dX11_isDefault_5 : decode cX11_isDefault 5 = .ok (.iload_n 1, 1) := by decide +kernel
theorem dX11_isDefault_6 : decode cX11_isDefault 6 = .ok (.imul, 1) := by decide +kernel
theorem dX11_isDefault_7 : decode cX11_isDefault 7 = .ok (.iconst 0, 1) := by decide +kernel
theorem dX11_isDefault_8 : decode cX11_isDefault 8 = .ok (.iadd, 1) := by decide +kernel
theorem dX11_isDefault_9 : decode cX11_isDefault 9 = .ok (.iconst 1, 1) := by decide +kernel
theorem dX11_isDefault_10 : decode cX11_isDefault 10 = .ok (.iastore, 1) := by decide +kernel
theorem dX11_isDefault_11 : decode cX11_isDefault 11 = .ok (.aload_n 0, 1) := by decide +kernel
theorem dX11_isDefault_12 : decode cX11_isDefault 12 = .ok (.getfield 69, 3) := by decide +kernel
theorem dX11_isDefault_15 : decode cX11_isDefault 15 = .ok (.iconst 2, 1) := by decide +kernel
theorem dX11_isDefault_16 : decode cX11_isDefault 16 = .ok (.iload_n 1, 1) := by decide +kernel
theorem dX11_isDefault_17 : decode cX11_isDefault 17 = .ok (.imul, 1) := by decide +kernel
theorem dX11_isDefault_18 : decode cX11_isDefault 18 = .ok (.iconst 1, 1) := by decide +kernel
theorem dX11_isDefault_19 : decode cX11_isDefault 19 = .ok (.iadd, 1) := by decide +kernel
theorem dX11_isDefault_20 : decode cX11_isDefault 20 = .ok (.iconst 0, 1) := by decide +kernel
theorem dX11_isDefault_21 : decode cX11_isDefault 21 = .ok (.iastore, 1) := by decide +kernel
theorem dX11_isDefault_22 : decode cX11_isDefault 22 = .ok (.iconst 0, 1) := by decide +kernel
theorem dX11_isDefault_23 : decode cX11_isDefault 23 = .ok (.istore_n 2, 1) := by decide +kernel
theorem dX11_isDefault_24 : decode cX11_isDefault 24 = .ok (.iload_n 2, 1) := by decide +kernel
theorem dX11_isDefault_25 : decode cX11_isDefault 25 = .ok (.bipush 36, 2) := by decide +kernel
theorem dX11_isDefault_27 : decode cX11_isDefault 27 = .ok (.if_icmp .ge 33, 3) := by decide +kernel
theorem dX11_isDefault_30 : decode cX11_isDefault 30 = .ok (.aload_n 0, 1) := by decide +kernel
theorem dX11_isDefault_31 : decode cX11_isDefault 31 = .ok (.getfield 60, 3) := by decide +kernel
theorem dX11_isDefault_34 : decode cX11_isDefault 34 = .ok (.bipush 36, 2) := by decide +kernel
theorem dX11_isDefault_36 : decode cX11_isDefault 36 = .ok (.iload_n 1, 1) := by decide +kernel
theorem dX11_isDefault_37 : decode cX11_isDefault 37 = .ok (.imul, 1) := by decide +kernel
theorem dX11_isDefault_38 : decode cX11_isDefault 38 = .ok (.iload_n 2, 1) := by decide +kernel
theorem dX11_isDefault_39 : decode cX11_isDefault 39 = .ok (.iadd, 1) := by decide +kernel
theorem dX11_isDefault_40 : decode cX11_isDefault 40 = .ok (.iconst 0, 1) := by decide +kernel
theorem dX11_isDefault_41 : decode cX11_isDefault 41 = .ok (.iastore, 1) := by decide +kernel
theorem dX11_isDefault_42 : decode cX11_isDefault 42 = .ok (.aload_n 0, 1) := by decide +kernel
theorem dX11_isDefault_43 : decode cX11_isDefault 43 = .ok (.getfield 66, 3) := by decide +kernel
theorem dX11_isDefault_46 : decode cX11_isDefault 46 = .ok (.bipush 36, 2) := by decide +kernel
theorem dX11_isDefault_48 : decode cX11_isDefault 48 = .ok (.iload_n 1, 1) := by decide +kernel
theorem dX11_isDefault_49 : decode cX11_isDefault 49 = .ok (.imul, 1) := by decide +kernel
theorem dX11_isDefault_50 : decode cX11_isDefault 50 = .ok (.iload_n 2, 1) := by decide +kernel
theorem dX11_isDefault_51 : decode cX11_isDefault 51 = .ok (.iadd, 1) := by decide +kernel
theorem dX11_isDefault_52 : decode cX11_isDefault 52 = .ok (.iconst 0, 1) := by decide +kernel
theorem dX11_isDefault_53 : decode cX11_isDefault 53 = .ok (.iastore, 1) := by decide +kernel
theorem dX11_isDefault_54 : decode cX11_isDefault 54 = .ok (.iinc 2 1, 3) := by decide +kernel
theorem dX11_isDefault_57 : decode cX11_isDefault 57 = .ok (.goto (-33), 3) := by decide +kernel
theorem dX11_isDefault_60 : decode cX11_isDefault 60 = .ok (.return_, 1) := by decide +kernel
theorem dX11_toldOf_0 : decode cX11_toldOf 0 = .ok (.aload_n 0, 1) := by decide +kernel
theorem dX11_toldOf_1 : decode cX11_toldOf 1 = .ok (.getfield 69, 3) := by decide +kernel
theorem dX11_toldOf_4 : decode cX11_toldOf 4 = .ok (.iconst 2, 1) := by decide +kernel
theorem dX11_toldOf_5 : decode cX11_toldOf 5 = .ok (.aload_n 0, 1) := by decide +kernel
theorem dX11_toldOf_6 : decode cX11_toldOf 6 = .ok (.getfield 51, 3) := by decide +kernel
theorem dX11_toldOf_9 : decode cX11_toldOf 9 = .ok (.imul, 1) := by decide +kernel
theorem dX11_toldOf_10 : decode cX11_toldOf 10 = .ok (.iload_n 1, 1) := by decide +kernel
theorem dX11_toldOf_11 : decode cX11_toldOf 11 = .ok (.iadd, 1) := by decide +kernel
theorem dX11_toldOf_12 : decode cX11_toldOf 12 = .ok (.iaload, 1) := by decide +kernel
theorem dX11_toldOf_13 : decode cX11_toldOf 13 = .ok (.ireturn, 1) := by decide +kernel
theorem dX11_named_0 : decode cX11_named 0 = .ok (.iconst 0, 1) := by decide +kernel
theorem dX11_named_1 : decode cX11_named 1 = .ok (.istore_n 3, 1) := by decide +kernel
theorem dX11_named_2 : decode cX11_named 2 = .ok (.iload_n 3, 1) := by decide +kernel
theorem dX11_named_3 : decode cX11_named 3 = .ok (.aload_n 0, 1) := by decide +kernel
theorem dX11_named_4 : decode cX11_named 4 = .ok (.getfield 54, 3) := by decide +kernel
theorem dX11_named_7 : decode cX11_named 7 = .ok (.aload_n 0, 1) := by decide +kernel
theorem dX11_named_8 : decode cX11_named 8 = .ok (.getfield 91, 3) := by decide +kernel
theorem dX11_named_11 : decode cX11_named 11 = .ok (.iaload, 1) := by decide +kernel
theorem dX11_named_12 : decode cX11_named 12 = .ok (.if_icmp .ge 30, 3) := by decide +kernel
theorem dX11_named_15 : decode cX11_named 15 = .ok (.aload_n 0, 1) := by decide +kernel
theorem dX11_named_16 : decode cX11_named 16 = .ok (.getfield 84, 3) := by decide +kernel
theorem dX11_named_19 : decode cX11_named 19 = .ok (.bipush 6, 2) := by decide +kernel
theorem dX11_named_21 : decode cX11_named 21 = .ok (.aload_n 0, 1) := by decide +kernel
theorem dX11_named_22 : decode cX11_named 22 = .ok (.getfield 91, 3) := by decide +kernel
theorem dX11_named_25 : decode cX11_named 25 = .ok (.imul, 1) := by decide +kernel
theorem dX11_named_26 : decode cX11_named 26 = .ok (.iload_n 3, 1) := by decide +kernel
theorem dX11_named_27 : decode cX11_named 27 = .ok (.iadd, 1) := by decide +kernel
theorem dX11_named_28 : decode cX11_named 28 = .ok (.laload, 1) := by decide +kernel
theorem dX11_named_29 : decode cX11_named 29 = .ok (.lload_n 1, 1) := by decide +kernel
theorem dX11_named_30 : decode cX11_named 30 = .ok (.lcmp, 1) := by decide +kernel
theorem dX11_named_31 : decode cX11_named 31 = .ok (.ifCond .ne 5, 3) := by decide +kernel
theorem dX11_named_34 : decode cX11_named 34 = .ok (.iload_n 3, 1) := by decide +kernel
theorem dX11_named_35 : decode cX11_named 35 = .ok (.ireturn, 1) := by decide +kernel
theorem dX11_named_36 : decode cX11_named 36 = .ok (.iinc 3 1, 3) := by decide +kernel
theorem dX11_named_39 : decode cX11_named 39 = .ok (.goto (-37), 3) := by decide +kernel
theorem dX11_named_42 : decode cX11_named 42 = .ok (.iconst (-1), 1) := by decide +kernel
theorem dX11_named_43 : decode cX11_named 43 = .ok (.ireturn, 1) := by decide +kernel
theorem dX11_number_0 : decode cX11_number 0 = .ok (.aload_n 0, 1) := by decide +kernel
theorem dX11_number_1 : decode cX11_number 1 = .ok (.invokevirtual 232, 3) := by decide +kernel
theorem dX11_number_4 : decode cX11_number 4 = .ok (.aload_n 0, 1) := by decide +kernel
theorem dX11_number_5 : decode cX11_number 5 = .ok (.getfield 36, 3) := by decide +kernel
theorem dX11_number_8 : decode cX11_number 8 = .ok (.ifCond .le 5, 3) := by decide +kernel
theorem dX11_number_11 : decode cX11_number 11 = .ok (.iconst 0, 1) := by decide +kernel
theorem dX11_number_12 : decode cX11_number 12 = .ok (.ireturn, 1) := by decide +kernel
theorem dX11_number_13 : decode cX11_number 13 = .ok (.aload_n 0, 1) := by decide +kernel
theorem dX11_number_14 : decode cX11_number 14 = .ok (.getfield 20, 3) := by decide +kernel
theorem dX11_number_17 : decode cX11_number 17 = .ok (.iconst 2, 1) := by decide +kernel
theorem dX11_number_18 : decode cX11_number 18 = .ok (.if_icmp .eq 12, 3) := by decide +kernel
theorem dX11_number_21 : decode cX11_number 21 = .ok (.aload_n 0, 1) := by decide +kernel
theorem dX11_number_22 : decode cX11_number 22 = .ok (.iconst 1, 1) := by decide +kernel
theorem dX11_number_23 : decode cX11_number 23 = .ok (.aload_n 0, 1) := by decide +kernel
theorem dX11_number_24 : decode cX11_number 24 = .ok (.getfield 23, 3) := by decide +kernel
theorem dX11_number_27 : decode cX11_number 27 = .ok (.invokevirtual 221, 3) := by decide +kernel
theorem dX11_number_30 : decode cX11_number 30 = .ok (.aload_n 0, 1) := by decide +kernel
theorem dX11_number_31 : decode cX11_number 31 = .ok (.getfield 36, 3) := by decide +kernel
theorem dX11_number_34 : decode cX11_number 34 = .ok (.ifCond .ne 24, 3) := by decide +kernel
theorem dX11_number_37 : decode cX11_number 37 = .ok (.aload_n 0, 1) := by decide +kernel
theorem dX11_number_38 : decode cX11_number 38 = .ok (.getfield 29, 3) := by decide +kernel
theorem dX11_number_41 : decode cX11_number 41 = .ok (.iload_n 1, 1) := by decide +kernel
theorem dX11_number_42 : decode cX11_number 42 = .ok (.iload_n 2, 1) := by decide +kernel
theorem dX11_number_43 : decode cX11_number 43 = .ok (.invokestatic 287, 3) := by decide +kernel
theorem dX11_number_46 : decode cX11_number 46 = .ok (.ifCond .ne 12, 3) := by decide +kernel
theorem dX11_number_49 : decode cX11_number 49 = .ok (.aload_n 0, 1) := by decide +kernel
theorem dX11_number_50 : decode cX11_number 50 = .ok (.iconst 4, 1) := by decide +kernel
theorem dX11_number_51 : decode cX11_number 51 = .ok (.aload_n 0, 1) := by decide +kernel
theorem dX11_number_52 : decode cX11_number 52 = .ok (.getfield 23, 3) := by decide +kernel
theorem dX11_number_55 : decode cX11_number 55 = .ok (.invokevirtual 221, 3) := by decide +kernel
theorem dX11_number_58 : decode cX11_number 58 = .ok (.aload_n 0, 1) := by decide +kernel
theorem dX11_number_59 : decode cX11_number 59 = .ok (.getfield 29, 3) := by decide +kernel
theorem dX11_number_62 : decode cX11_number 62 = .ok (.istore_n 3, 1) := by decide +kernel
theorem dX11_number_63 : decode cX11_number 63 = .ok (.aload_n 0, 1) := by decide +kernel
theorem dX11_number_64 : decode cX11_number 64 = .ok (.getfield 36, 3) := by decide +kernel
theorem dX11_number_67 : decode cX11_number 67 = .ok (.ifCond .ne 7, 3) := by decide +kernel
theorem dX11_number_70 : decode cX11_number 70 = .ok (.aload_n 0, 1) := by decide +kernel
theorem dX11_number_71 : decode cX11_number 71 = .ok (.invokevirtual 238, 3) := by decide +kernel
theorem dX11_number_74 : decode cX11_number 74 = .ok (.iload_n 3, 1) := by decide +kernel
theorem dX11_number_75 : decode cX11_number 75 = .ok (.ireturn, 1) := by decide +kernel
theorem dX11_add_0 : decode cX11_add 0 = .ok (.aload_n 0, 1) := by decide +kernel
theorem dX11_add_1 : decode cX11_add 1 = .ok (.getfield 78, 3) := by decide +kernel
theorem dX11_add_4 : decode cX11_add 4 = .ok (.sipush 1600, 3) := by decide +kernel
theorem dX11_add_7 : decode cX11_add 7 = .ok (.aload_n 0, 1) := by decide +kernel
theorem dX11_add_8 : decode cX11_add 8 = .ok (.getfield 91, 3) := by decide +kernel
theorem dX11_add_11 : decode cX11_add 11 = .ok (.imul, 1) := by decide +kernel
theorem dX11_add_12 : decode cX11_add 12 = .ok (.aload_n 0, 1) := by decide +kernel
theorem dX11_add_13 : decode cX11_add 13 = .ok (.getfield 88, 3) := by decide +kernel
theorem dX11_add_16 : decode cX11_add 16 = .ok (.iadd, 1) := by decide +kernel
theorem dX11_add_17 : decode cX11_add 17 = .ok (.iload_n 1, 1) := by decide +kernel
theorem dX11_add_18 : decode cX11_add 18 = .ok (.iastore, 1) := by decide +kernel
theorem dX11_add_19 : decode cX11_add 19 = .ok (.aload_n 0, 1) := by decide +kernel
theorem dX11_add_20 : decode cX11_add 20 = .ok (.getfield 81, 3) := by decide +kernel
theorem dX11_add_23 : decode cX11_add 23 = .ok (.sipush 1600, 3) := by decide +kernel
theorem dX11_add_26 : decode cX11_add 26 = .ok (.aload_n 0, 1) := by decide +kernel
theorem dX11_add_27 : decode cX11_add 27 = .ok (.getfield 91, 3) := by decide +kernel
theorem dX11_add_30 : decode cX11_add 30 = .ok (.imul, 1) := by decide +kernel
theorem dX11_add_31 : decode cX11_add 31 = .ok (.aload_n 0, 1) := by decide +kernel
theorem dX11_add_32 : decode cX11_add 32 = .ok (.getfield 88, 3) := by decide +kernel
theorem dX11_add_35 : decode cX11_add 35 = .ok (.iadd, 1) := by decide +kernel
theorem dX11_add_36 : decode cX11_add 36 = .ok (.iload_n 2, 1) := by decide +kernel
theorem dX11_add_37 : decode cX11_add 37 = .ok (.iastore, 1) := by decide +kernel
theorem dX11_add_38 : decode cX11_add 38 = .ok (.aload_n 0, 1) := by decide +kernel
theorem dX11_add_39 : decode cX11_add 39 = .ok (.dup, 1) := by decide +kernel
theorem dX11_add_40 : decode cX11_add 40 = .ok (.getfield 88, 3) := by decide +kernel
theorem dX11_add_43 : decode cX11_add 43 = .ok (.iconst 1, 1) := by decide +kernel
theorem dX11_add_44 : decode cX11_add 44 = .ok (.iadd, 1) := by decide +kernel
theorem dX11_add_45 : decode cX11_add 45 = .ok (.putfield 88, 3) := by decide +kernel
theorem dX11_add_48 : decode cX11_add 48 = .ok (.return_, 1) := by decide +kernel
theorem dX11_rank_0 : decode cX11_rank 0 = .ok (.iload_n 0, 1) := by decide +kernel
theorem dX11_rank_1 : decode cX11_rank 1 = .ok (.bipush 42, 2) := by decide +kernel
theorem dX11_rank_3 : decode cX11_rank 3 = .ok (.if_icmp .ne 7, 3) := by decide +kernel
theorem dX11_rank_6 : decode cX11_rank 6 = .ok (.iconst 1, 1) := by decide +kernel
theorem dX11_rank_7 : decode cX11_rank 7 = .ok (.goto 63, 3) := by decide +kernel
theorem dX11_rank_10 : decode cX11_rank 10 = .ok (.iload_n 0, 1) := by decide +kernel
theorem dX11_rank_11 : decode cX11_rank 11 = .ok (.bipush 41, 2) := by decide +kernel
theorem dX11_rank_13 : decode cX11_rank 13 = .ok (.if_icmp .ne 7, 3) := by decide +kernel
theorem dX11_rank_16 : decode cX11_rank 16 = .ok (.iconst 2, 1) := by decide +kernel
theorem dX11_rank_17 : decode cX11_rank 17 = .ok (.goto 53, 3) := by decide +kernel
theorem dX11_rank_20 : decode cX11_rank 20 = .ok (.iload_n 0, 1) := by decide +kernel
theorem dX11_rank_21 : decode cX11_rank 21 = .ok (.bipush 43, 2) := by decide +kernel
theorem dX11_rank_23 : decode cX11_rank 23 = .ok (.if_icmp .ne 7, 3) := by decide +kernel
theorem dX11_rank_26 : decode cX11_rank 26 = .ok (.iconst 3, 1) := by decide +kernel
theorem dX11_rank_27 : decode cX11_rank 27 = .ok (.goto 43, 3) := by decide +kernel
theorem dX11_rank_30 : decode cX11_rank 30 = .ok (.iload_n 0, 1) := by decide +kernel
theorem dX11_rank_31 : decode cX11_rank 31 = .ok (.bipush 38, 2) := by decide +kernel
theorem dX11_rank_33 : decode cX11_rank 33 = .ok (.if_icmp .eq 15, 3) := by decide +kernel
theorem dX11_rank_36 : decode cX11_rank 36 = .ok (.iload_n 0, 1) := by decide +kernel
theorem dX11_rank_37 : decode cX11_rank 37 = .ok (.bipush 39, 2) := by decide +kernel
theorem dX11_rank_39 : decode cX11_rank 39 = .ok (.if_icmp .eq 9, 3) := by decide +kernel
theorem dX11_rank_42 : decode cX11_rank 42 = .ok (.iload_n 0, 1) := by decide +kernel
theorem dX11_rank_43 : decode cX11_rank 43 = .ok (.bipush 40, 2) := by decide +kernel
theorem dX11_rank_45 : decode cX11_rank 45 = .ok (.if_icmp .ne 7, 3) := by decide +kernel
theorem dX11_rank_48 : decode cX11_rank 48 = .ok (.iconst 4, 1) := by decide +kernel
theorem dX11_rank_49 : decode cX11_rank 49 = .ok (.goto 21, 3) := by decide +kernel
theorem dX11_rank_52 : decode cX11_rank 52 = .ok (.iload_n 0, 1) := by decide +kernel
theorem dX11_rank_53 : decode cX11_rank 53 = .ok (.bipush 31, 2) := by decide +kernel
theorem dX11_rank_55 : decode cX11_rank 55 = .ok (.if_icmp .eq 9, 3) := by decide +kernel
theorem dX11_rank_58 : decode cX11_rank 58 = .ok (.iload_n 0, 1) := by decide +kernel
theorem dX11_rank_59 : decode cX11_rank 59 = .ok (.bipush 32, 2) := by decide +kernel
theorem dX11_rank_61 : decode cX11_rank 61 = .ok (.if_icmp .ne 7, 3) := by decide +kernel
theorem dX11_rank_64 : decode cX11_rank 64 = .ok (.iconst 5, 1) := by decide +kernel
theorem dX11_rank_65 : decode cX11_rank 65 = .ok (.goto 5, 3) := by decide +kernel
theorem dX11_rank_68 : decode cX11_rank 68 = .ok (.bipush 6, 2) := by decide +kernel
theorem dX11_rank_70 : decode cX11_rank 70 = .ok (.ireturn, 1) := by decide +kernel
theorem dX11_joins_0 : decode cX11_joins 0 = .ok (.aload_n 0, 1) := by decide +kernel
theorem dX11_joins_1 : decode cX11_joins 1 = .ok (.getfield 123, 3) := by decide +kernel
theorem dX11_joins_4 : decode cX11_joins 4 = .ok (.aload_n 0, 1) := by decide +kernel
theorem dX11_joins_5 : decode cX11_joins 5 = .ok (.getfield 111, 3) := by decide +kernel
theorem dX11_joins_8 : decode cX11_joins 8 = .ok (.aload_n 0, 1) := by decide +kernel
theorem dX11_joins_9 : decode cX11_joins 9 = .ok (.getfield 114, 3) := by decide +kernel
theorem dX11_joins_12 : decode cX11_joins 12 = .ok (.iconst 1, 1) := by decide +kernel
theorem dX11_joins_13 : decode cX11_joins 13 = .ok (.isub, 1) := by decide +kernel
theorem dX11_joins_14 : decode cX11_joins 14 = .ok (.iaload, 1) := by decide +kernel
theorem dX11_joins_15 : decode cX11_joins 15 = .ok (.if_icmp .le 72, 3) := by decide +kernel
theorem dX11_joins_18 : decode cX11_joins 18 = .ok (.aload_n 0, 1) := by decide +kernel
theorem dX11_joins_19 : decode cX11_joins 19 = .ok (.getfield 120, 3) := by decide +kernel
theorem dX11_joins_22 : decode cX11_joins 22 = .ok (.aload_n 0, 1) := by decide +kernel
theorem dX11_joins_23 : decode cX11_joins 23 = .ok (.getfield 123, 3) := by decide +kernel
theorem dX11_joins_26 : decode cX11_joins 26 = .ok (.iconst 1, 1) := by decide +kernel
theorem dX11_joins_27 : decode cX11_joins 27 = .ok (.isub, 1) := by decide +kernel
theorem dX11_joins_28 : decode cX11_joins 28 = .ok (.iaload, 1) := by decide +kernel
theorem dX11_joins_29 : decode cX11_joins 29 = .ok (.invokestatic 291, 3) := by decide +kernel
theorem dX11_joins_32 : decode cX11_joins 32 = .ok (.iload_n 1, 1) := by decide +kernel
theorem dX11_joins_33 : decode cX11_joins 33 = .ok (.if_icmp .lt 54, 3) := by decide +kernel
theorem dX11_joins_36 : decode cX11_joins 36 = .ok (.aload_n 0, 1) := by decide +kernel
theorem dX11_joins_37 : decode cX11_joins 37 = .ok (.dup, 1) := by decide +kernel
theorem dX11_joins_38 : decode cX11_joins 38 = .ok (.getfield 123, 3) := by decide +kernel
theorem dX11_joins_41 : decode cX11_joins 41 = .ok (.iconst 1, 1) := by decide +kernel
theorem dX11_joins_42 : decode cX11_joins 42 = .ok (.isub, 1) := by decide +kernel
theorem dX11_joins_43 : decode cX11_joins 43 = .ok (.putfield 123, 3) := by decide +kernel
theorem dX11_joins_46 : decode cX11_joins 46 = .ok (.aload_n 0, 1) := by decide +kernel
theorem dX11_joins_47 : decode cX11_joins 47 = .ok (.aload_n 0, 1) := by decide +kernel
theorem dX11_joins_48 : decode cX11_joins 48 = .ok (.getfield 120, 3) := by decide +kernel
theorem dX11_joins_51 : decode cX11_joins 51 = .ok (.aload_n 0, 1) := by decide +kernel
theorem dX11_joins_52 : decode cX11_joins 52 = .ok (.getfield 123, 3) := by decide +kernel
theorem dX11_joins_55 : decode cX11_joins 55 = .ok (.iaload, 1) := by decide +kernel
theorem dX11_joins_56 : decode cX11_joins 56 = .ok (.iconst 0, 1) := by decide +kernel
theorem dX11_joins_57 : decode cX11_joins 57 = .ok (.invokevirtual 294, 3) := by decide +kernel
theorem dX11_joins_60 : decode cX11_joins 60 = .ok (.aload_n 0, 1) := by decide +kernel
theorem dX11_joins_61 : decode cX11_joins 61 = .ok (.getfield 120, 3) := by decide +kernel
theorem dX11_joins_64 : decode cX11_joins 64 = .ok (.aload_n 0, 1) := by decide +kernel
theorem dX11_joins_65 : decode cX11_joins 65 = .ok (.getfield 123, 3) := by decide +kernel
theorem dX11_joins_68 : decode cX11_joins 68 = .ok (.iaload, 1) := by decide +kernel
theorem dX11_joins_69 : decode cX11_joins 69 = .ok (.bipush 43, 2) := by decide +kernel
theorem dX11_joins_71 : decode cX11_joins 71 = .ok (.if_icmp .ne (-71), 3) := by decide +kernel
theorem dX11_joins_74 : decode cX11_joins 74 = .ok (.aload_n 0, 1) := by decide +kernel
theorem dX11_joins_75 : decode cX11_joins 75 = .ok (.dup, 1) := by decide +kernel
theorem dX11_joins_76 : decode cX11_joins 76 = .ok (.getfield 117, 3) := by decide +kernel
theorem dX11_joins_79 : decode cX11_joins 79 = .ok (.iconst 1, 1) := by decide +kernel
theorem dX11_joins_80 : decode cX11_joins 80 = .ok (.isub, 1) := by decide +kernel
theorem dX11_joins_81 : decode cX11_joins 81 = .ok (.putfield 117, 3) := by decide +kernel
theorem dX11_joins_84 : decode cX11_joins 84 = .ok (.goto (-84), 3) := by decide +kernel
theorem dX11_joins_87 : decode cX11_joins 87 = .ok (.return_, 1) := by decide +kernel
theorem dX11_holdsBack_0 : decode cX11_holdsBack 0 = .ok (.aload_n 0, 1) := by decide +kernel
theorem dX11_holdsBack_1 : decode cX11_holdsBack 1 = .ok (.getfield 120, 3) := by decide +kernel
theorem dX11_holdsBack_4 : decode cX11_holdsBack 4 = .ok (.aload_n 0, 1) := by decide +kernel
theorem dX11_holdsBack_5 : decode cX11_holdsBack 5 = .ok (.getfield 123, 3) := by decide +kernel
theorem dX11_holdsBack_8 : decode cX11_holdsBack 8 = .ok (.iload_n 1, 1) := by decide +kernel
theorem dX11_holdsBack_9 : decode cX11_holdsBack 9 = .ok (.iastore, 1) := by decide +kernel
theorem dX11_holdsBack_10 : decode cX11_holdsBack 10 = .ok (.aload_n 0, 1) := by decide +kernel
theorem dX11_holdsBack_11 : decode cX11_holdsBack 11 = .ok (.dup, 1) := by decide +kernel
theorem dX11_holdsBack_12 : decode cX11_holdsBack 12 = .ok (.getfield 123, 3) := by decide +kernel
theorem dX11_holdsBack_15 : decode cX11_holdsBack 15 = .ok (.iconst 1, 1) := by decide +kernel
theorem dX11_holdsBack_16 : decode cX11_holdsBack 16 = .ok (.iadd, 1) := by decide +kernel
theorem dX11_holdsBack_17 : decode cX11_holdsBack 17 = .ok (.putfield 123, 3) := by decide +kernel
theorem dX11_holdsBack_20 : decode cX11_holdsBack 20 = .ok (.return_, 1) := by decide +kernel
theorem dX11_pushes_0 : decode cX11_pushes 0 = .ok (.aload_n 0, 1) := by decide +kernel
theorem dX11_pushes_1 : decode cX11_pushes 1 = .ok (.getfield 98, 3) := by decide +kernel
theorem dX11_pushes_4 : decode cX11_pushes 4 = .ok (.aload_n 0, 1) := by decide +kernel
theorem dX11_pushes_5 : decode cX11_pushes 5 = .ok (.getfield 114, 3) := by decide +kernel
theorem dX11_pushes_8 : decode cX11_pushes 8 = .ok (.iload_n 1, 1) := by decide +kernel
theorem dX11_pushes_9 : decode cX11_pushes 9 = .ok (.iastore, 1) := by decide +kernel
theorem dX11_pushes_10 : decode cX11_pushes 10 = .ok (.aload_n 0, 1) := by decide +kernel
theorem dX11_pushes_11 : decode cX11_pushes 11 = .ok (.getfield 101, 3) := by decide +kernel
theorem dX11_pushes_14 : decode cX11_pushes 14 = .ok (.aload_n 0, 1) := by decide +kernel
theorem dX11_pushes_15 : decode cX11_pushes 15 = .ok (.getfield 114, 3) := by decide +kernel
theorem dX11_pushes_18 : decode cX11_pushes 18 = .ok (.iconst 0, 1) := by decide +kernel
theorem dX11_pushes_19 : decode cX11_pushes 19 = .ok (.iastore, 1) := by decide +kernel
theorem dX11_pushes_20 : decode cX11_pushes 20 = .ok (.aload_n 0, 1) := by decide +kernel
theorem dX11_pushes_21 : decode cX11_pushes 21 = .ok (.getfield 104, 3) := by decide +kernel
theorem dX11_pushes_24 : decode cX11_pushes 24 = .ok (.aload_n 0, 1) := by decide +kernel
theorem dX11_pushes_25 : decode cX11_pushes 25 = .ok (.getfield 114, 3) := by decide +kernel
theorem dX11_pushes_28 : decode cX11_pushes 28 = .ok (.iconst 1, 1) := by decide +kernel
theorem dX11_pushes_29 : decode cX11_pushes 29 = .ok (.bastore, 1) := by decide +kernel
theorem dX11_pushes_30 : decode cX11_pushes 30 = .ok (.aload_n 0, 1) := by decide +kernel
theorem dX11_pushes_31 : decode cX11_pushes 31 = .ok (.getfield 111, 3) := by decide +kernel
theorem dX11_pushes_34 : decode cX11_pushes 34 = .ok (.aload_n 0, 1) := by decide +kernel
theorem dX11_pushes_35 : decode cX11_pushes 35 = .ok (.getfield 114, 3) := by decide +kernel
theorem dX11_pushes_38 : decode cX11_pushes 38 = .ok (.aload_n 0, 1) := by decide +kernel
theorem dX11_pushes_39 : decode cX11_pushes 39 = .ok (.getfield 123, 3) := by decide +kernel
theorem dX11_pushes_42 : decode cX11_pushes 42 = .ok (.iastore, 1) := by decide +kernel
theorem dX11_pushes_43 : decode cX11_pushes 43 = .ok (.aload_n 0, 1) := by decide +kernel
theorem dX11_pushes_44 : decode cX11_pushes 44 = .ok (.dup, 1) := by decide +kernel
theorem dX11_pushes_45 : decode cX11_pushes 45 = .ok (.getfield 114, 3) := by decide +kernel
theorem dX11_pushes_48 : decode cX11_pushes 48 = .ok (.iconst 1, 1) := by decide +kernel
theorem dX11_pushes_49 : decode cX11_pushes 49 = .ok (.iadd, 1) := by decide +kernel
theorem dX11_pushes_50 : decode cX11_pushes 50 = .ok (.putfield 114, 3) := by decide +kernel
theorem dX11_pushes_53 : decode cX11_pushes 53 = .ok (.return_, 1) := by decide +kernel
theorem dX11_opens_0 : decode cX11_opens 0 = .ok (.aload_n 0, 1) := by decide +kernel
theorem dX11_opens_1 : decode cX11_opens 1 = .ok (.getfield 117, 3) := by decide +kernel
theorem dX11_opens_4 : decode cX11_opens 4 = .ok (.bipush 7, 2) := by decide +kernel
theorem dX11_opens_6 : decode cX11_opens 6 = .ok (.if_icmp .ne 12, 3) := by decide +kernel
theorem dX11_opens_9 : decode cX11_opens 9 = .ok (.aload_n 0, 1) := by decide +kernel
theorem dX11_opens_10 : decode cX11_opens 10 = .ok (.iconst 5, 1) := by decide +kernel
theorem dX11_opens_11 : decode cX11_opens 11 = .ok (.aload_n 0, 1) := by decide +kernel
theorem dX11_opens_12 : decode cX11_opens 12 = .ok (.getfield 23, 3) := by decide +kernel
theorem dX11_opens_15 : decode cX11_opens 15 = .ok (.invokevirtual 221, 3) := by decide +kernel
theorem dX11_opens_18 : decode cX11_opens 18 = .ok (.aload_n 0, 1) := by decide +kernel
theorem dX11_opens_19 : decode cX11_opens 19 = .ok (.getfield 36, 3) := by decide +kernel
theorem dX11_opens_22 : decode cX11_opens 22 = .ok (.ifCond .le 4, 3) := by decide +kernel
theorem dX11_opens_25 : decode cX11_opens 25 = .ok (.return_, 1) := by decide +kernel
theorem dX11_opens_26 : decode cX11_opens 26 = .ok (.aload_n 0, 1) := by decide +kernel
theorem dX11_opens_27 : decode cX11_opens 27 = .ok (.dup, 1) := by decide +kernel
theorem dX11_opens_28 : decode cX11_opens 28 = .ok (.getfield 117, 3) := by decide +kernel
theorem dX11_opens_31 : decode cX11_opens 31 = .ok (.iconst 1, 1) := by decide +kernel
theorem dX11_opens_32 : decode cX11_opens 32 = .ok (.iadd, 1) := by decide +kernel
theorem dX11_opens_33 : decode cX11_opens 33 = .ok (.putfield 117, 3) := by decide +kernel
theorem dX11_opens_36 : decode cX11_opens 36 = .ok (.aload_n 0, 1) := by decide +kernel
theorem dX11_opens_37 : decode cX11_opens 37 = .ok (.invokevirtual 238, 3) := by decide +kernel
theorem dX11_opens_40 : decode cX11_opens 40 = .ok (.aload_n 0, 1) := by decide +kernel
theorem dX11_opens_41 : decode cX11_opens 41 = .ok (.iload_n 1, 1) := by decide +kernel
theorem dX11_opens_42 : decode cX11_opens 42 = .ok (.invokevirtual 297, 3) := by decide +kernel
theorem dX11_opens_45 : decode cX11_opens 45 = .ok (.return_, 1) := by decide +kernel
theorem dX11_isTest_0 : decode cX11_isTest 0 = .ok (.iload_n 0, 1) := by decide +kernel
theorem dX11_isTest_1 : decode cX11_isTest 1 = .ok (.iconst 1, 1) := by decide +kernel
theorem dX11_isTest_2 : decode cX11_isTest 2 = .ok (.if_icmp .eq 14, 3) := by decide +kernel
theorem dX11_isTest_5 : decode cX11_isTest 5 = .ok (.iload_n 0, 1) := by decide +kernel
theorem dX11_isTest_6 : decode cX11_isTest 6 = .ok (.iconst 5, 1) := by decide +kernel
theorem dX11_isTest_7 : decode cX11_isTest 7 = .ok (.if_icmp .eq 9, 3) := by decide +kernel
theorem dX11_isTest_10 : decode cX11_isTest 10 = .ok (.iload_n 0, 1) := by decide +kernel
theorem dX11_isTest_11 : decode cX11_isTest 11 = .ok (.bipush 6, 2) := by decide +kernel
theorem dX11_isTest_13 : decode cX11_isTest 13 = .ok (.if_icmp .ne 7, 3) := by decide +kernel
theorem dX11_isTest_16 : decode cX11_isTest 16 = .ok (.iconst 1, 1) := by decide +kernel
theorem dX11_isTest_17 : decode cX11_isTest 17 = .ok (.goto 4, 3) := by decide +kernel
theorem dX11_isTest_20 : decode cX11_isTest 20 = .ok (.iconst 0, 1) := by decide +kernel
theorem dX11_isTest_21 : decode cX11_isTest 21 = .ok (.ireturn, 1) := by decide +kernel
theorem dX11_operand_0 : decode cX11_operand 0 = .ok (.aload_n 0, 1) := by decide +kernel
theorem dX11_operand_1 : decode cX11_operand 1 = .ok (.invokevirtual 232, 3) := by decide +kernel
theorem dX11_operand_4 : decode cX11_operand 4 = .ok (.aload_n 0, 1) := by decide +kernel
theorem dX11_operand_5 : decode cX11_operand 5 = .ok (.getfield 36, 3) := by decide +kernel
theorem dX11_operand_8 : decode cX11_operand 8 = .ok (.ifCond .le 5, 3) := by decide +kernel
theorem dX11_operand_11 : decode cX11_operand 11 = .ok (.iconst 1, 1) := by decide +kernel
theorem dX11_operand_12 : decode cX11_operand 12 = .ok (.ireturn, 1) := by decide +kernel
theorem dX11_operand_13 : decode cX11_operand 13 = .ok (.aload_n 0, 1) := by decide +kernel
theorem dX11_operand_14 : decode cX11_operand 14 = .ok (.getfield 114, 3) := by decide +kernel
theorem dX11_operand_17 : decode cX11_operand 17 = .ok (.iconst 1, 1) := by decide +kernel
theorem dX11_operand_18 : decode cX11_operand 18 = .ok (.isub, 1) := by decide +kernel
theorem dX11_operand_19 : decode cX11_operand 19 = .ok (.istore_n 1, 1) := by decide +kernel
theorem dX11_operand_20 : decode cX11_operand 20 = .ok (.aload_n 0, 1) := by decide +kernel
theorem dX11_operand_21 : decode cX11_operand 21 = .ok (.getfield 98, 3) := by decide +kernel
theorem dX11_operand_24 : decode cX11_operand 24 = .ok (.iload_n 1, 1) := by decide +kernel
theorem dX11_operand_25 : decode cX11_operand 25 = .ok (.iaload, 1) := by decide +kernel
theorem dX11_operand_26 : decode cX11_operand 26 = .ok (.invokestatic 300, 3) := by decide +kernel
theorem dX11_operand_29 : decode cX11_operand 29 = .ok (.ifCond .eq 16, 3) := by decide +kernel
theorem dX11_operand_32 : decode cX11_operand 32 = .ok (.aload_n 0, 1) := by decide +kernel
theorem dX11_operand_33 : decode cX11_operand 33 = .ok (.getfield 104, 3) := by decide +kernel
theorem dX11_operand_36 : decode cX11_operand 36 = .ok (.iload_n 1, 1) := by decide +kernel
theorem dX11_operand_37 : decode cX11_operand 37 = .ok (.baload, 1) := by decide +kernel
theorem dX11_operand_38 : decode cX11_operand 38 = .ok (.ifCond .eq 7, 3) := by decide +kernel
theorem dX11_operand_41 : decode cX11_operand 41 = .ok (.iconst 1, 1) := by decide +kernel
theorem dX11_operand_42 : decode cX11_operand 42 = .ok (.goto 4, 3) := by decide +kernel
theorem dX11_operand_45 : decode cX11_operand 45 = .ok (.iconst 0, 1) := by decide +kernel
theorem dX11_operand_46 : decode cX11_operand 46 = .ok (.istore_n 2, 1) := by decide +kernel
theorem dX11_operand_47 : decode cX11_operand 47 = .ok (.iload_n 2, 1) := by decide +kernel
theorem dX11_operand_48 : decode cX11_operand 48 = .ok (.ifCond .eq 62, 3) := by decide +kernel
theorem dX11_operand_51 : decode cX11_operand 51 = .ok (.aload_n 0, 1) := by decide +kernel
theorem dX11_operand_52 : decode cX11_operand 52 = .ok (.ldc2_w 279, 3) := by decide +kernel
theorem dX11_operand_55 : decode cX11_operand 55 = .ok (.invokevirtual 303, 3) := by decide +kernel
theorem dX11_operand_58 : decode cX11_operand 58 = .ok (.ifCond .eq 52, 3) := by decide +kernel
theorem dX11_operand_61 : decode cX11_operand 61 = .ok (.aload_n 0, 1) := by decide +kernel
theorem dX11_operand_62 : decode cX11_operand 62 = .ok (.getfield 117, 3) := by decide +kernel
theorem dX11_operand_65 : decode cX11_operand 65 = .ok (.bipush 7, 2) := by decide +kernel
theorem dX11_operand_67 : decode cX11_operand 67 = .ok (.if_icmp .ne 12, 3) := by decide +kernel
theorem dX11_operand_70 : decode cX11_operand 70 = .ok (.aload_n 0, 1) := by decide +kernel
theorem dX11_operand_71 : decode cX11_operand 71 = .ok (.iconst 5, 1) := by decide +kernel
theorem dX11_operand_72 : decode cX11_operand 72 = .ok (.aload_n 0, 1) := by decide +kernel
theorem dX11_operand_73 : decode cX11_operand 73 = .ok (.getfield 23, 3) := by decide +kernel
theorem dX11_operand_76 : decode cX11_operand 76 = .ok (.invokevirtual 221, 3) := by decide +kernel
theorem dX11_operand_79 : decode cX11_operand 79 = .ok (.aload_n 0, 1) := by decide +kernel
theorem dX11_operand_80 : decode cX11_operand 80 = .ok (.getfield 36, 3) := by decide +kernel
theorem dX11_operand_83 : decode cX11_operand 83 = .ok (.ifCond .le 5, 3) := by decide +kernel
theorem dX11_operand_86 : decode cX11_operand 86 = .ok (.iconst 1, 1) := by decide +kernel
theorem dX11_operand_87 : decode cX11_operand 87 = .ok (.ireturn, 1) := by decide +kernel
theorem dX11_operand_88 : decode cX11_operand 88 = .ok (.aload_n 0, 1) := by decide +kernel
theorem dX11_operand_89 : decode cX11_operand 89 = .ok (.dup, 1) := by decide +kernel
theorem dX11_operand_90 : decode cX11_operand 90 = .ok (.getfield 117, 3) := by decide +kernel
theorem dX11_operand_93 : decode cX11_operand 93 = .ok (.iconst 1, 1) := by decide +kernel
theorem dX11_operand_94 : decode cX11_operand 94 = .ok (.iadd, 1) := by decide +kernel
theorem dX11_operand_95 : decode cX11_operand 95 = .ok (.putfield 117, 3) := by decide +kernel
theorem dX11_operand_98 : decode cX11_operand 98 = .ok (.aload_n 0, 1) := by decide +kernel
theorem dX11_operand_99 : decode cX11_operand 99 = .ok (.bipush 43, 2) := by decide +kernel
theorem dX11_operand_101 : decode cX11_operand 101 = .ok (.invokevirtual 307, 3) := by decide +kernel
theorem dX11_operand_104 : decode cX11_operand 104 = .ok (.aload_n 0, 1) := by decide +kernel
theorem dX11_operand_105 : decode cX11_operand 105 = .ok (.invokevirtual 238, 3) := by decide +kernel
theorem dX11_operand_108 : decode cX11_operand 108 = .ok (.iconst 0, 1) := by decide +kernel
theorem dX11_operand_109 : decode cX11_operand 109 = .ok (.ireturn, 1) := by decide +kernel
theorem dX11_operand_110 : decode cX11_operand 110 = .ok (.aload_n 0, 1) := by decide +kernel
theorem dX11_operand_111 : decode cX11_operand 111 = .ok (.getfield 104, 3) := by decide +kernel
theorem dX11_operand_114 : decode cX11_operand 114 = .ok (.iload_n 1, 1) := by decide +kernel
theorem dX11_operand_115 : decode cX11_operand 115 = .ok (.iconst 0, 1) := by decide +kernel
theorem dX11_operand_116 : decode cX11_operand 116 = .ok (.bastore, 1) := by decide +kernel
theorem dX11_operand_117 : decode cX11_operand 117 = .ok (.iload_n 2, 1) := by decide +kernel
theorem dX11_operand_118 : decode cX11_operand 118 = .ok (.ifCond .eq 19, 3) := by decide +kernel
theorem dX11_operand_121 : decode cX11_operand 121 = .ok (.aload_n 0, 1) := by decide +kernel
theorem dX11_operand_122 : decode cX11_operand 122 = .ok (.bipush 91, 2) := by decide +kernel
theorem dX11_operand_124 : decode cX11_operand 124 = .ok (.invokevirtual 235, 3) := by decide +kernel
theorem dX11_operand_127 : decode cX11_operand 127 = .ok (.ifCond .eq 10, 3) := by decide +kernel
theorem dX11_operand_130 : decode cX11_operand 130 = .ok (.aload_n 0, 1) := by decide +kernel
theorem dX11_operand_131 : decode cX11_operand 131 = .ok (.iconst 5, 1) := by decide +kernel
theorem dX11_operand_132 : decode cX11_operand 132 = .ok (.invokevirtual 310, 3) := by decide +kernel
theorem dX11_operand_135 : decode cX11_operand 135 = .ok (.iconst 0, 1) := by decide +kernel
theorem dX11_operand_136 : decode cX11_operand 136 = .ok (.ireturn, 1) := by decide +kernel
theorem dX11_operand_137 : decode cX11_operand 137 = .ok (.iload_n 2, 1) := by decide +kernel
theorem dX11_operand_138 : decode cX11_operand 138 = .ok (.ifCond .eq 33, 3) := by decide +kernel
theorem dX11_operand_141 : decode cX11_operand 141 = .ok (.aload_n 0, 1) := by decide +kernel
theorem dX11_operand_142 : decode cX11_operand 142 = .ok (.ldc2_w 281, 3) := by decide +kernel
theorem dX11_operand_145 : decode cX11_operand 145 = .ok (.invokevirtual 303, 3) := by decide +kernel
theorem dX11_operand_148 : decode cX11_operand 148 = .ok (.ifCond .eq 23, 3) := by decide +kernel
theorem dX11_operand_151 : decode cX11_operand 151 = .ok (.aload_n 0, 1) := by decide +kernel
theorem dX11_operand_152 : decode cX11_operand 152 = .ok (.bipush 30, 2) := by decide +kernel
theorem dX11_operand_154 : decode cX11_operand 154 = .ok (.iconst 0, 1) := by decide +kernel
theorem dX11_operand_155 : decode cX11_operand 155 = .ok (.invokevirtual 294, 3) := by decide +kernel
theorem dX11_operand_158 : decode cX11_operand 158 = .ok (.aload_n 0, 1) := by decide +kernel
theorem dX11_operand_159 : decode cX11_operand 159 = .ok (.getfield 101, 3) := by decide +kernel
theorem dX11_operand_162 : decode cX11_operand 162 = .ok (.iload_n 1, 1) := by decide +kernel
theorem dX11_operand_163 : decode cX11_operand 163 = .ok (.iconst 2, 1) := by decide +kernel
theorem dX11_operand_164 : decode cX11_operand 164 = .ok (.iastore, 1) := by decide +kernel
theorem dX11_operand_165 : decode cX11_operand 165 = .ok (.aload_n 0, 1) := by decide +kernel
theorem dX11_operand_166 : decode cX11_operand 166 = .ok (.invokevirtual 238, 3) := by decide +kernel
theorem dX11_operand_169 : decode cX11_operand 169 = .ok (.iconst 1, 1) := by decide +kernel
theorem dX11_operand_170 : decode cX11_operand 170 = .ok (.ireturn, 1) := by decide +kernel
theorem dX11_operand_171 : decode cX11_operand 171 = .ok (.aload_n 0, 1) := by decide +kernel
theorem dX11_operand_172 : decode cX11_operand 172 = .ok (.bipush 40, 2) := by decide +kernel
theorem dX11_operand_174 : decode cX11_operand 174 = .ok (.invokevirtual 235, 3) := by decide +kernel
theorem dX11_operand_177 : decode cX11_operand 177 = .ok (.ifCond .eq 10, 3) := by decide +kernel
theorem dX11_operand_180 : decode cX11_operand 180 = .ok (.aload_n 0, 1) := by decide +kernel
theorem dX11_operand_181 : decode cX11_operand 181 = .ok (.iconst 2, 1) := by decide +kernel
theorem dX11_operand_182 : decode cX11_operand 182 = .ok (.invokevirtual 310, 3) := by decide +kernel
theorem dX11_operand_185 : decode cX11_operand 185 = .ok (.iconst 0, 1) := by decide +kernel
theorem dX11_operand_186 : decode cX11_operand 186 = .ok (.ireturn, 1) := by decide +kernel
theorem dX11_operand_187 : decode cX11_operand 187 = .ok (.aload_n 0, 1) := by decide +kernel
theorem dX11_operand_188 : decode cX11_operand 188 = .ok (.ldc2_w 283, 3) := by decide +kernel
theorem dX11_operand_191 : decode cX11_operand 191 = .ok (.invokevirtual 303, 3) := by decide +kernel
theorem dX11_operand_194 : decode cX11_operand 194 = .ok (.ifCond .ne 23, 3) := by decide +kernel
theorem dX11_operand_197 : decode cX11_operand 197 = .ok (.aload_n 0, 1) := by decide +kernel
theorem dX11_operand_198 : decode cX11_operand 198 = .ok (.ldc2_w 285, 3) := by decide +kernel
theorem dX11_operand_201 : decode cX11_operand 201 = .ok (.invokevirtual 303, 3) := by decide +kernel
theorem dX11_operand_204 : decode cX11_operand 204 = .ok (.ifCond .ne 13, 3) := by decide +kernel
theorem dX11_operand_207 : decode cX11_operand 207 = .ok (.aload_n 0, 1) := by decide +kernel
theorem dX11_operand_208 : decode cX11_operand 208 = .ok (.ldc2_w 273, 3) := by decide +kernel
theorem dX11_operand_211 : decode cX11_operand 211 = .ok (.invokevirtual 303, 3) := by decide +kernel
theorem dX11_operand_214 : decode cX11_operand 214 = .ok (.ifCond .eq 99, 3) := by decide +kernel
theorem dX11_operand_217 : decode cX11_operand 217 = .ok (.aload_n 0, 1) := by decide +kernel
theorem dX11_operand_218 : decode cX11_operand 218 = .ok (.ldc2_w 283, 3) := by decide +kernel
theorem dX11_operand_221 : decode cX11_operand 221 = .ok (.invokevirtual 303, 3) := by decide +kernel
theorem dX11_operand_224 : decode cX11_operand 224 = .ok (.ifCond .eq 8, 3) := by decide +kernel
theorem dX11_operand_227 : decode cX11_operand 227 = .ok (.bipush 36, 2) := by decide +kernel
theorem dX11_operand_229 : decode cX11_operand 229 = .ok (.goto 20, 3) := by decide +kernel
theorem dX11_operand_232 : decode cX11_operand 232 = .ok (.aload_n 0, 1) := by decide +kernel
theorem dX11_operand_233 : decode cX11_operand 233 = .ok (.ldc2_w 285, 3) := by decide +kernel
theorem dX11_operand_236 : decode cX11_operand 236 = .ok (.invokevirtual 303, 3) := by decide +kernel
theorem dX11_operand_239 : decode cX11_operand 239 = .ok (.ifCond .eq 8, 3) := by decide +kernel
theorem dX11_operand_242 : decode cX11_operand 242 = .ok (.bipush 37, 2) := by decide +kernel
theorem dX11_operand_244 : decode cX11_operand 244 = .ok (.goto 5, 3) := by decide +kernel
theorem dX11_operand_247 : decode cX11_operand 247 = .ok (.bipush 44, 2) := by decide +kernel
theorem dX11_operand_249 : decode cX11_operand 249 = .ok (.istore_n 3, 1) := by decide +kernel
theorem dX11_operand_250 : decode cX11_operand 250 = .ok (.aload_n 0, 1) := by decide +kernel
theorem dX11_operand_251 : decode cX11_operand 251 = .ok (.invokevirtual 238, 3) := by decide +kernel
theorem dX11_operand_254 : decode cX11_operand 254 = .ok (.aload_n 0, 1) := by decide +kernel
theorem dX11_operand_255 : decode cX11_operand 255 = .ok (.invokevirtual 232, 3) := by decide +kernel
theorem dX11_operand_258 : decode cX11_operand 258 = .ok (.aload_n 0, 1) := by decide +kernel
theorem dX11_operand_259 : decode cX11_operand 259 = .ok (.bipush 40, 2) := by decide +kernel
theorem dX11_operand_261 : decode cX11_operand 261 = .ok (.invokevirtual 235, 3) := by decide +kernel
theorem dX11_operand_264 : decode cX11_operand 264 = .ok (.ifCond .ne 12, 3) := by decide +kernel
theorem dX11_operand_267 : decode cX11_operand 267 = .ok (.aload_n 0, 1) := by decide +kernel
theorem dX11_operand_268 : decode cX11_operand 268 = .ok (.iconst 1, 1) := by decide +kernel
theorem dX11_operand_269 : decode cX11_operand 269 = .ok (.aload_n 0, 1) := by decide +kernel
theorem dX11_operand_270 : decode cX11_operand 270 = .ok (.getfield 23, 3) := by decide +kernel
theorem dX11_operand_273 : decode cX11_operand 273 = .ok (.invokevirtual 221, 3) := by decide +kernel
theorem dX11_operand_276 : decode cX11_operand 276 = .ok (.aload_n 0, 1) := by decide +kernel
theorem dX11_operand_277 : decode cX11_operand 277 = .ok (.iload_n 3, 1) := by decide +kernel
theorem dX11_operand_278 : decode cX11_operand 278 = .ok (.bipush 44, 2) := by decide +kernel
theorem dX11_operand_280 : decode cX11_operand 280 = .ok (.if_icmp .ne 8, 3) := by decide +kernel
theorem dX11_operand_283 : decode cX11_operand 283 = .ok (.bipush 6, 2) := by decide +kernel
theorem dX11_operand_285 : decode cX11_operand 285 = .ok (.goto 4, 3) := by decide +kernel
theorem dX11_operand_288 : decode cX11_operand 288 = .ok (.iconst 3, 1) := by decide +kernel
theorem dX11_operand_289 : decode cX11_operand 289 = .ok (.invokevirtual 310, 3) := by decide +kernel
theorem dX11_operand_292 : decode cX11_operand 292 = .ok (.aload_n 0, 1) := by decide +kernel
theorem dX11_operand_293 : decode cX11_operand 293 = .ok (.getfield 36, 3) := by decide +kernel
theorem dX11_operand_296 : decode cX11_operand 296 = .ok (.ifCond .ne 15, 3) := by decide +kernel
theorem dX11_operand_299 : decode cX11_operand 299 = .ok (.aload_n 0, 1) := by decide +kernel
theorem dX11_operand_300 : decode cX11_operand 300 = .ok (.getfield 108, 3) := by decide +kernel
theorem dX11_operand_303 : decode cX11_operand 303 = .ok (.aload_n 0, 1) := by decide +kernel
theorem dX11_operand_304 : decode cX11_operand 304 = .ok (.getfield 114, 3) := by decide +kernel
theorem dX11_operand_307 : decode cX11_operand 307 = .ok (.iconst 1, 1) := by decide +kernel
theorem dX11_operand_308 : decode cX11_operand 308 = .ok (.isub, 1) := by decide +kernel
theorem dX11_operand_309 : decode cX11_operand 309 = .ok (.iload_n 3, 1) := by decide +kernel
theorem dX11_operand_310 : decode cX11_operand 310 = .ok (.iastore, 1) := by decide +kernel
theorem dX11_operand_311 : decode cX11_operand 311 = .ok (.iconst 0, 1) := by decide +kernel
theorem dX11_operand_312 : decode cX11_operand 312 = .ok (.ireturn, 1) := by decide +kernel
theorem dX11_operand_313 : decode cX11_operand 313 = .ok (.aload_n 0, 1) := by decide +kernel
theorem dX11_operand_314 : decode cX11_operand 314 = .ok (.getfield 20, 3) := by decide +kernel
theorem dX11_operand_317 : decode cX11_operand 317 = .ok (.iconst 2, 1) := by decide +kernel
theorem dX11_operand_318 : decode cX11_operand 318 = .ok (.if_icmp .ne 7, 3) := by decide +kernel
theorem dX11_operand_321 : decode cX11_operand 321 = .ok (.iconst 0, 1) := by decide +kernel
theorem dX11_operand_322 : decode cX11_operand 322 = .ok (.goto 74, 3) := by decide +kernel
theorem dX11_operand_325 : decode cX11_operand 325 = .ok (.aload_n 0, 1) := by decide +kernel
theorem dX11_operand_326 : decode cX11_operand 326 = .ok (.ldc2_w 263, 3) := by decide +kernel
theorem dX11_operand_329 : decode cX11_operand 329 = .ok (.invokevirtual 303, 3) := by decide +kernel
theorem dX11_operand_332 : decode cX11_operand 332 = .ok (.ifCond .eq 7, 3) := by decide +kernel
theorem dX11_operand_335 : decode cX11_operand 335 = .ok (.iconst 1, 1) := by decide +kernel
theorem dX11_operand_336 : decode cX11_operand 336 = .ok (.goto 60, 3) := by decide +kernel
theorem dX11_operand_339 : decode cX11_operand 339 = .ok (.aload_n 0, 1) := by decide +kernel
theorem dX11_operand_340 : decode cX11_operand 340 = .ok (.ldc2_w 265, 3) := by decide +kernel
theorem dX11_operand_343 : decode cX11_operand 343 = .ok (.invokevirtual 303, 3) := by decide +kernel
theorem dX11_operand_346 : decode cX11_operand 346 = .ok (.ifCond .eq 7, 3) := by decide +kernel
theorem dX11_operand_349 : decode cX11_operand 349 = .ok (.iconst 2, 1) := by decide +kernel
theorem dX11_operand_350 : decode cX11_operand 350 = .ok (.goto 46, 3) := by decide +kernel
theorem dX11_operand_353 : decode cX11_operand 353 = .ok (.aload_n 0, 1) := by decide +kernel
theorem dX11_operand_354 : decode cX11_operand 354 = .ok (.ldc2_w 267, 3) := by decide +kernel
theorem dX11_operand_357 : decode cX11_operand 357 = .ok (.invokevirtual 303, 3) := by decide +kernel
theorem dX11_operand_360 : decode cX11_operand 360 = .ok (.ifCond .eq 7, 3) := by decide +kernel
theorem dX11_operand_363 : decode cX11_operand 363 = .ok (.iconst 3, 1) := by decide +kernel
theorem dX11_operand_364 : decode cX11_operand 364 = .ok (.goto 32, 3) := by decide +kernel
theorem dX11_operand_367 : decode cX11_operand 367 = .ok (.aload_n 0, 1) := by decide +kernel
theorem dX11_operand_368 : decode cX11_operand 368 = .ok (.ldc2_w 269, 3) := by decide +kernel
theorem dX11_operand_371 : decode cX11_operand 371 = .ok (.invokevirtual 303, 3) := by decide +kernel
theorem dX11_operand_374 : decode cX11_operand 374 = .ok (.ifCond .eq 7, 3) := by decide +kernel
theorem dX11_operand_377 : decode cX11_operand 377 = .ok (.iconst 4, 1) := by decide +kernel
theorem dX11_operand_378 : decode cX11_operand 378 = .ok (.goto 18, 3) := by decide +kernel
theorem dX11_operand_381 : decode cX11_operand 381 = .ok (.aload_n 0, 1) := by decide +kernel
theorem dX11_operand_382 : decode cX11_operand 382 = .ok (.ldc2_w 271, 3) := by decide +kernel
theorem dX11_operand_385 : decode cX11_operand 385 = .ok (.invokevirtual 303, 3) := by decide +kernel
theorem dX11_operand_388 : decode cX11_operand 388 = .ok (.ifCond .eq 7, 3) := by decide +kernel
theorem dX11_operand_391 : decode cX11_operand 391 = .ok (.iconst 5, 1) := by decide +kernel
theorem dX11_operand_392 : decode cX11_operand 392 = .ok (.goto 4, 3) := by decide +kernel
theorem dX11_operand_395 : decode cX11_operand 395 = .ok (.iconst (-1), 1) := by decide +kernel
theorem dX11_operand_396 : decode cX11_operand 396 = .ok (.istore_n 3, 1) := by decide +kernel
theorem dX11_operand_397 : decode cX11_operand 397 = .ok (.iload_n 3, 1) := by decide +kernel
theorem dX11_operand_398 : decode cX11_operand 398 = .ok (.iconst 3, 1) := by decide +kernel
theorem dX11_operand_399 : decode cX11_operand 399 = .ok (.if_icmp .le 12, 3) := by decide +kernel
theorem dX11_operand_402 : decode cX11_operand 402 = .ok (.aload_n 0, 1) := by decide +kernel
theorem dX11_operand_403 : decode cX11_operand 403 = .ok (.getfield 94, 3) := by decide +kernel
theorem dX11_operand_406 : decode cX11_operand 406 = .ok (.ifCond .eq 5, 3) := by decide +kernel
theorem dX11_operand_409 : decode cX11_operand 409 = .ok (.iconst (-1), 1) := by decide +kernel
theorem dX11_operand_410 : decode cX11_operand 410 = .ok (.istore_n 3, 1) := by decide +kernel
theorem dX11_operand_411 : decode cX11_operand 411 = .ok (.iload_n 3, 1) := by decide +kernel
theorem dX11_operand_412 : decode cX11_operand 412 = .ok (.iconst (-1), 1) := by decide +kernel
theorem dX11_operand_413 : decode cX11_operand 413 = .ok (.if_icmp .ne 12, 3) := by decide +kernel
theorem dX11_operand_416 : decode cX11_operand 416 = .ok (.aload_n 0, 1) := by decide +kernel
theorem dX11_operand_417 : decode cX11_operand 417 = .ok (.iconst 1, 1) := by decide +kernel
theorem dX11_operand_418 : decode cX11_operand 418 = .ok (.aload_n 0, 1) := by decide +kernel
theorem dX11_operand_419 : decode cX11_operand 419 = .ok (.getfield 23, 3) := by decide +kernel
theorem dX11_operand_422 : decode cX11_operand 422 = .ok (.invokevirtual 221, 3) := by decide +kernel
theorem dX11_operand_425 : decode cX11_operand 425 = .ok (.aload_n 0, 1) := by decide +kernel
theorem dX11_operand_426 : decode cX11_operand 426 = .ok (.getfield 36, 3) := by decide +kernel
theorem dX11_operand_429 : decode cX11_operand 429 = .ok (.ifCond .le 5, 3) := by decide +kernel
theorem dX11_operand_432 : decode cX11_operand 432 = .ok (.iconst 1, 1) := by decide +kernel
theorem dX11_operand_433 : decode cX11_operand 433 = .ok (.ireturn, 1) := by decide +kernel
theorem dX11_operand_434 : decode cX11_operand 434 = .ok (.aload_n 0, 1) := by decide +kernel
theorem dX11_operand_435 : decode cX11_operand 435 = .ok (.iload_n 3, 1) := by decide +kernel
theorem dX11_operand_436 : decode cX11_operand 436 = .ok (.aload_n 0, 1) := by decide +kernel
theorem dX11_operand_437 : decode cX11_operand 437 = .ok (.getfield 29, 3) := by decide +kernel
theorem dX11_operand_440 : decode cX11_operand 440 = .ok (.invokevirtual 294, 3) := by decide +kernel
theorem dX11_operand_443 : decode cX11_operand 443 = .ok (.aload_n 0, 1) := by decide +kernel
theorem dX11_operand_444 : decode cX11_operand 444 = .ok (.invokevirtual 238, 3) := by decide +kernel
theorem dX11_operand_447 : decode cX11_operand 447 = .ok (.iconst 1, 1) := by decide +kernel
theorem dX11_operand_448 : decode cX11_operand 448 = .ok (.ireturn, 1) := by decide +kernel
theorem dX11_goesOn_0 : decode cX11_goesOn 0 = .ok (.aload_n 0, 1) := by decide +kernel
theorem dX11_goesOn_1 : decode cX11_goesOn 1 = .ok (.invokevirtual 232, 3) := by decide +kernel
theorem dX11_goesOn_4 : decode cX11_goesOn 4 = .ok (.aload_n 0, 1) := by decide +kernel
theorem dX11_goesOn_5 : decode cX11_goesOn 5 = .ok (.getfield 36, 3) := by decide +kernel
theorem dX11_goesOn_8 : decode cX11_goesOn 8 = .ok (.ifCond .le 5, 3) := by decide +kernel
theorem dX11_goesOn_11 : decode cX11_goesOn 11 = .ok (.iconst 0, 1) := by decide +kernel
theorem dX11_goesOn_12 : decode cX11_goesOn 12 = .ok (.ireturn, 1) := by decide +kernel
theorem dX11_goesOn_13 : decode cX11_goesOn 13 = .ok (.aload_n 0, 1) := by decide +kernel
theorem dX11_goesOn_14 : decode cX11_goesOn 14 = .ok (.getfield 114, 3) := by decide +kernel
theorem dX11_goesOn_17 : decode cX11_goesOn 17 = .ok (.iconst 1, 1) := by decide +kernel
theorem dX11_goesOn_18 : decode cX11_goesOn 18 = .ok (.isub, 1) := by decide +kernel
theorem dX11_goesOn_19 : decode cX11_goesOn 19 = .ok (.istore_n 1, 1) := by decide +kernel
theorem dX11_goesOn_20 : decode cX11_goesOn 20 = .ok (.aload_n 0, 1) := by decide +kernel
theorem dX11_goesOn_21 : decode cX11_goesOn 21 = .ok (.getfield 98, 3) := by decide +kernel
theorem dX11_goesOn_24 : decode cX11_goesOn 24 = .ok (.iload_n 1, 1) := by decide +kernel
theorem dX11_goesOn_25 : decode cX11_goesOn 25 = .ok (.iaload, 1) := by decide +kernel
theorem dX11_goesOn_26 : decode cX11_goesOn 26 = .ok (.istore_n 2, 1) := by decide +kernel
theorem dX11_goesOn_27 : decode cX11_goesOn 27 = .ok (.iload_n 2, 1) := by decide +kernel
theorem dX11_goesOn_28 : decode cX11_goesOn 28 = .ok (.invokestatic 300, 3) := by decide +kernel
theorem dX11_goesOn_31 : decode cX11_goesOn 31 = .ok (.istore_n 3, 1) := by decide +kernel
theorem dX11_goesOn_32 : decode cX11_goesOn 32 = .ok (.aload_n 0, 1) := by decide +kernel
theorem dX11_goesOn_33 : decode cX11_goesOn 33 = .ok (.getfield 101, 3) := by decide +kernel
theorem dX11_goesOn_36 : decode cX11_goesOn 36 = .ok (.iload_n 1, 1) := by decide +kernel
theorem dX11_goesOn_37 : decode cX11_goesOn 37 = .ok (.iaload, 1) := by decide +kernel
theorem dX11_goesOn_38 : decode cX11_goesOn 38 = .ok (.iconst 2, 1) := by decide +kernel
theorem dX11_goesOn_39 : decode cX11_goesOn 39 = .ok (.if_icmp .ge 149, 3) := by decide +kernel
theorem dX11_goesOn_42 : decode cX11_goesOn 42 = .ok (.aload_n 0, 1) := by decide +kernel
theorem dX11_goesOn_43 : decode cX11_goesOn 43 = .ok (.bipush 43, 2) := by decide +kernel
theorem dX11_goesOn_45 : decode cX11_goesOn 45 = .ok (.invokevirtual 235, 3) := by decide +kernel
theorem dX11_goesOn_48 : decode cX11_goesOn 48 = .ok (.ifCond .ne 39, 3) := by decide +kernel
theorem dX11_goesOn_51 : decode cX11_goesOn 51 = .ok (.aload_n 0, 1) := by decide +kernel
theorem dX11_goesOn_52 : decode cX11_goesOn 52 = .ok (.bipush 45, 2) := by decide +kernel
theorem dX11_goesOn_54 : decode cX11_goesOn 54 = .ok (.invokevirtual 235, 3) := by decide +kernel
theorem dX11_goesOn_57 : decode cX11_goesOn 57 = .ok (.ifCond .ne 30, 3) := by decide +kernel
theorem dX11_goesOn_60 : decode cX11_goesOn 60 = .ok (.aload_n 0, 1) := by decide +kernel
theorem dX11_goesOn_61 : decode cX11_goesOn 61 = .ok (.bipush 42, 2) := by decide +kernel
theorem dX11_goesOn_63 : decode cX11_goesOn 63 = .ok (.invokevirtual 235, 3) := by decide +kernel
theorem dX11_goesOn_66 : decode cX11_goesOn 66 = .ok (.ifCond .ne 21, 3) := by decide +kernel
theorem dX11_goesOn_69 : decode cX11_goesOn 69 = .ok (.aload_n 0, 1) := by decide +kernel
theorem dX11_goesOn_70 : decode cX11_goesOn 70 = .ok (.bipush 47, 2) := by decide +kernel
theorem dX11_goesOn_72 : decode cX11_goesOn 72 = .ok (.invokevirtual 235, 3) := by decide +kernel
theorem dX11_goesOn_75 : decode cX11_goesOn 75 = .ok (.ifCond .ne 12, 3) := by decide +kernel
theorem dX11_goesOn_78 : decode cX11_goesOn 78 = .ok (.aload_n 0, 1) := by decide +kernel
theorem dX11_goesOn_79 : decode cX11_goesOn 79 = .ok (.bipush 37, 2) := by decide +kernel
theorem dX11_goesOn_81 : decode cX11_goesOn 81 = .ok (.invokevirtual 235, 3) := by decide +kernel
theorem dX11_goesOn_84 : decode cX11_goesOn 84 = .ok (.ifCond .eq 104, 3) := by decide +kernel
theorem dX11_goesOn_87 : decode cX11_goesOn 87 = .ok (.aload_n 0, 1) := by decide +kernel
theorem dX11_goesOn_88 : decode cX11_goesOn 88 = .ok (.aload_n 0, 1) := by decide +kernel
theorem dX11_goesOn_89 : decode cX11_goesOn 89 = .ok (.bipush 43, 2) := by decide +kernel
theorem dX11_goesOn_91 : decode cX11_goesOn 91 = .ok (.invokevirtual 235, 3) := by decide +kernel
theorem dX11_goesOn_94 : decode cX11_goesOn 94 = .ok (.ifCond .ne 12, 3) := by decide +kernel
theorem dX11_goesOn_97 : decode cX11_goesOn 97 = .ok (.aload_n 0, 1) := by decide +kernel
theorem dX11_goesOn_98 : decode cX11_goesOn 98 = .ok (.bipush 45, 2) := by decide +kernel
theorem dX11_goesOn_100 : decode cX11_goesOn 100 = .ok (.invokevirtual 235, 3) := by decide +kernel
theorem dX11_goesOn_103 : decode cX11_goesOn 103 = .ok (.ifCond .eq 7, 3) := by decide +kernel
theorem dX11_goesOn_106 : decode cX11_goesOn 106 = .ok (.iconst 5, 1) := by decide +kernel
theorem dX11_goesOn_107 : decode cX11_goesOn 107 = .ok (.goto 5, 3) := by decide +kernel
theorem dX11_goesOn_110 : decode cX11_goesOn 110 = .ok (.bipush 6, 2) := by decide +kernel
theorem dX11_goesOn_112 : decode cX11_goesOn 112 = .ok (.invokevirtual 313, 3) := by decide +kernel
theorem dX11_goesOn_115 : decode cX11_goesOn 115 = .ok (.aload_n 0, 1) := by decide +kernel
theorem dX11_goesOn_116 : decode cX11_goesOn 116 = .ok (.aload_n 0, 1) := by decide +kernel
theorem dX11_goesOn_117 : decode cX11_goesOn 117 = .ok (.bipush 43, 2) := by decide +kernel
theorem dX11_goesOn_119 : decode cX11_goesOn 119 = .ok (.invokevirtual 235, 3) := by decide +kernel
theorem dX11_goesOn_122 : decode cX11_goesOn 122 = .ok (.ifCond .eq 8, 3) := by decide +kernel
theorem dX11_goesOn_125 : decode cX11_goesOn 125 = .ok (.bipush 31, 2) := by decide +kernel
theorem dX11_goesOn_127 : decode cX11_goesOn 127 = .ok (.goto 47, 3) := by decide +kernel
theorem dX11_goesOn_130 : decode cX11_goesOn 130 = .ok (.aload_n 0, 1) := by decide +kernel
theorem dX11_goesOn_131 : decode cX11_goesOn 131 = .ok (.bipush 45, 2) := by decide +kernel
theorem dX11_goesOn_133 : decode cX11_goesOn 133 = .ok (.invokevirtual 235, 3) := by decide +kernel
theorem dX11_goesOn_136 : decode cX11_goesOn 136 = .ok (.ifCond .eq 8, 3) := by decide +kernel
theorem dX11_goesOn_139 : decode cX11_goesOn 139 = .ok (.bipush 32, 2) := by decide +kernel
theorem dX11_goesOn_141 : decode cX11_goesOn 141 = .ok (.goto 33, 3) := by decide +kernel
theorem dX11_goesOn_144 : decode cX11_goesOn 144 = .ok (.aload_n 0, 1) := by decide +kernel
theorem dX11_goesOn_145 : decode cX11_goesOn 145 = .ok (.bipush 42, 2) := by decide +kernel
theorem dX11_goesOn_147 : decode cX11_goesOn 147 = .ok (.invokevirtual 235, 3) := by decide +kernel
theorem dX11_goesOn_150 : decode cX11_goesOn 150 = .ok (.ifCond .eq 8, 3) := by decide +kernel
theorem dX11_goesOn_153 : decode cX11_goesOn 153 = .ok (.bipush 33, 2) := by decide +kernel
theorem dX11_goesOn_155 : decode cX11_goesOn 155 = .ok (.goto 19, 3) := by decide +kernel
theorem dX11_goesOn_158 : decode cX11_goesOn 158 = .ok (.aload_n 0, 1) := by decide +kernel
theorem dX11_goesOn_159 : decode cX11_goesOn 159 = .ok (.bipush 47, 2) := by decide +kernel
theorem dX11_goesOn_161 : decode cX11_goesOn 161 = .ok (.invokevirtual 235, 3) := by decide +kernel
theorem dX11_goesOn_164 : decode cX11_goesOn 164 = .ok (.ifCond .eq 8, 3) := by decide +kernel
theorem dX11_goesOn_167 : decode cX11_goesOn 167 = .ok (.bipush 34, 2) := by decide +kernel
theorem dX11_goesOn_169 : decode cX11_goesOn 169 = .ok (.goto 5, 3) := by decide +kernel
theorem dX11_goesOn_172 : decode cX11_goesOn 172 = .ok (.bipush 35, 2) := by decide +kernel
theorem dX11_goesOn_174 : decode cX11_goesOn 174 = .ok (.invokevirtual 307, 3) := by decide +kernel
theorem dX11_goesOn_177 : decode cX11_goesOn 177 = .ok (.aload_n 0, 1) := by decide +kernel
theorem dX11_goesOn_178 : decode cX11_goesOn 178 = .ok (.invokevirtual 238, 3) := by decide +kernel
theorem dX11_goesOn_181 : decode cX11_goesOn 181 = .ok (.aload_n 0, 1) := by decide +kernel
theorem dX11_goesOn_182 : decode cX11_goesOn 182 = .ok (.iconst 0, 1) := by decide +kernel
theorem dX11_goesOn_183 : decode cX11_goesOn 183 = .ok (.putfield 126, 3) := by decide +kernel
theorem dX11_goesOn_186 : decode cX11_goesOn 186 = .ok (.iconst 1, 1) := by decide +kernel
theorem dX11_goesOn_187 : decode cX11_goesOn 187 = .ok (.ireturn, 1) := by decide +kernel
theorem dX11_goesOn_188 : decode cX11_goesOn 188 = .ok (.iload_n 3, 1) := by decide +kernel
theorem dX11_goesOn_189 : decode cX11_goesOn 189 = .ok (.ifCond .eq 96, 3) := by decide +kernel
theorem dX11_goesOn_192 : decode cX11_goesOn 192 = .ok (.aload_n 0, 1) := by decide +kernel
theorem dX11_goesOn_193 : decode cX11_goesOn 193 = .ok (.getfield 101, 3) := by decide +kernel
theorem dX11_goesOn_196 : decode cX11_goesOn 196 = .ok (.iload_n 1, 1) := by decide +kernel
theorem dX11_goesOn_197 : decode cX11_goesOn 197 = .ok (.iaload, 1) := by decide +kernel
theorem dX11_goesOn_198 : decode cX11_goesOn 198 = .ok (.ifCond .ne 87, 3) := by decide +kernel
theorem dX11_goesOn_201 : decode cX11_goesOn 201 = .ok (.aload_n 0, 1) := by decide +kernel
theorem dX11_goesOn_202 : decode cX11_goesOn 202 = .ok (.bipush 60, 2) := by decide +kernel
theorem dX11_goesOn_204 : decode cX11_goesOn 204 = .ok (.invokevirtual 235, 3) := by decide +kernel
theorem dX11_goesOn_207 : decode cX11_goesOn 207 = .ok (.ifCond .ne 21, 3) := by decide +kernel
theorem dX11_goesOn_210 : decode cX11_goesOn 210 = .ok (.aload_n 0, 1) := by decide +kernel
theorem dX11_goesOn_211 : decode cX11_goesOn 211 = .ok (.bipush 62, 2) := by decide +kernel
theorem dX11_goesOn_213 : decode cX11_goesOn 213 = .ok (.invokevirtual 235, 3) := by decide +kernel
theorem dX11_goesOn_216 : decode cX11_goesOn 216 = .ok (.ifCond .ne 12, 3) := by decide +kernel
theorem dX11_goesOn_219 : decode cX11_goesOn 219 = .ok (.aload_n 0, 1) := by decide +kernel
theorem dX11_goesOn_220 : decode cX11_goesOn 220 = .ok (.bipush 61, 2) := by decide +kernel
theorem dX11_goesOn_222 : decode cX11_goesOn 222 = .ok (.invokevirtual 235, 3) := by decide +kernel
theorem dX11_goesOn_225 : decode cX11_goesOn 225 = .ok (.ifCond .eq 60, 3) := by decide +kernel
theorem dX11_goesOn_228 : decode cX11_goesOn 228 = .ok (.aload_n 0, 1) := by decide +kernel
theorem dX11_goesOn_229 : decode cX11_goesOn 229 = .ok (.iconst 5, 1) := by decide +kernel
theorem dX11_goesOn_230 : decode cX11_goesOn 230 = .ok (.invokevirtual 313, 3) := by decide +kernel
theorem dX11_goesOn_233 : decode cX11_goesOn 233 = .ok (.aload_n 0, 1) := by decide +kernel
theorem dX11_goesOn_234 : decode cX11_goesOn 234 = .ok (.aload_n 0, 1) := by decide +kernel
theorem dX11_goesOn_235 : decode cX11_goesOn 235 = .ok (.bipush 60, 2) := by decide +kernel
theorem dX11_goesOn_237 : decode cX11_goesOn 237 = .ok (.invokevirtual 235, 3) := by decide +kernel
theorem dX11_goesOn_240 : decode cX11_goesOn 240 = .ok (.ifCond .eq 8, 3) := by decide +kernel
theorem dX11_goesOn_243 : decode cX11_goesOn 243 = .ok (.bipush 38, 2) := by decide +kernel
theorem dX11_goesOn_245 : decode cX11_goesOn 245 = .ok (.goto 19, 3) := by decide +kernel
theorem dX11_goesOn_248 : decode cX11_goesOn 248 = .ok (.aload_n 0, 1) := by decide +kernel
theorem dX11_goesOn_249 : decode cX11_goesOn 249 = .ok (.bipush 62, 2) := by decide +kernel
theorem dX11_goesOn_251 : decode cX11_goesOn 251 = .ok (.invokevirtual 235, 3) := by decide +kernel
theorem dX11_goesOn_254 : decode cX11_goesOn 254 = .ok (.ifCond .eq 8, 3) := by decide +kernel
theorem dX11_goesOn_257 : decode cX11_goesOn 257 = .ok (.bipush 39, 2) := by decide +kernel
theorem dX11_goesOn_259 : decode cX11_goesOn 259 = .ok (.goto 5, 3) := by decide +kernel
theorem dX11_goesOn_262 : decode cX11_goesOn 262 = .ok (.bipush 40, 2) := by decide +kernel
theorem dX11_goesOn_264 : decode cX11_goesOn 264 = .ok (.invokevirtual 307, 3) := by decide +kernel
theorem dX11_goesOn_267 : decode cX11_goesOn 267 = .ok (.aload_n 0, 1) := by decide +kernel
theorem dX11_goesOn_268 : decode cX11_goesOn 268 = .ok (.getfield 101, 3) := by decide +kernel
theorem dX11_goesOn_271 : decode cX11_goesOn 271 = .ok (.iload_n 1, 1) := by decide +kernel
theorem dX11_goesOn_272 : decode cX11_goesOn 272 = .ok (.iconst 1, 1) := by decide +kernel
theorem dX11_goesOn_273 : decode cX11_goesOn 273 = .ok (.iastore, 1) := by decide +kernel
theorem dX11_goesOn_274 : decode cX11_goesOn 274 = .ok (.aload_n 0, 1) := by decide +kernel
theorem dX11_goesOn_275 : decode cX11_goesOn 275 = .ok (.invokevirtual 238, 3) := by decide +kernel
theorem dX11_goesOn_278 : decode cX11_goesOn 278 = .ok (.aload_n 0, 1) := by decide +kernel
theorem dX11_goesOn_279 : decode cX11_goesOn 279 = .ok (.iconst 0, 1) := by decide +kernel
theorem dX11_goesOn_280 : decode cX11_goesOn 280 = .ok (.putfield 126, 3) := by decide +kernel
theorem dX11_goesOn_283 : decode cX11_goesOn 283 = .ok (.iconst 1, 1) := by decide +kernel
theorem dX11_goesOn_284 : decode cX11_goesOn 284 = .ok (.ireturn, 1) := by decide +kernel
theorem dX11_goesOn_285 : decode cX11_goesOn 285 = .ok (.iload_n 3, 1) := by decide +kernel
theorem dX11_goesOn_286 : decode cX11_goesOn 286 = .ok (.ifCond .eq 114, 3) := by decide +kernel
theorem dX11_goesOn_289 : decode cX11_goesOn 289 = .ok (.aload_n 0, 1) := by decide +kernel
theorem dX11_goesOn_290 : decode cX11_goesOn 290 = .ok (.ldc2_w 277, 3) := by decide +kernel
theorem dX11_goesOn_293 : decode cX11_goesOn 293 = .ok (.invokevirtual 303, 3) := by decide +kernel
theorem dX11_goesOn_296 : decode cX11_goesOn 296 = .ok (.ifCond .ne 13, 3) := by decide +kernel
theorem dX11_goesOn_299 : decode cX11_goesOn 299 = .ok (.aload_n 0, 1) := by decide +kernel
theorem dX11_goesOn_300 : decode cX11_goesOn 300 = .ok (.ldc2_w 275, 3) := by decide +kernel
theorem dX11_goesOn_303 : decode cX11_goesOn 303 = .ok (.invokevirtual 303, 3) := by decide +kernel
theorem dX11_goesOn_306 : decode cX11_goesOn 306 = .ok (.ifCond .eq 94, 3) := by decide +kernel
theorem dX11_goesOn_309 : decode cX11_goesOn 309 = .ok (.aload_n 0, 1) := by decide +kernel
theorem dX11_goesOn_310 : decode cX11_goesOn 310 = .ok (.getfield 101, 3) := by decide +kernel
theorem dX11_goesOn_313 : decode cX11_goesOn 313 = .ok (.iload_n 1, 1) := by decide +kernel
theorem dX11_goesOn_314 : decode cX11_goesOn 314 = .ok (.iaload, 1) := by decide +kernel
theorem dX11_goesOn_315 : decode cX11_goesOn 315 = .ok (.ifCond .ne 12, 3) := by decide +kernel
theorem dX11_goesOn_318 : decode cX11_goesOn 318 = .ok (.aload_n 0, 1) := by decide +kernel
theorem dX11_goesOn_319 : decode cX11_goesOn 319 = .ok (.iconst 1, 1) := by decide +kernel
theorem dX11_goesOn_320 : decode cX11_goesOn 320 = .ok (.aload_n 0, 1) := by decide +kernel
theorem dX11_goesOn_321 : decode cX11_goesOn 321 = .ok (.getfield 23, 3) := by decide +kernel
theorem dX11_goesOn_324 : decode cX11_goesOn 324 = .ok (.invokevirtual 221, 3) := by decide +kernel
theorem dX11_goesOn_327 : decode cX11_goesOn 327 = .ok (.aload_n 0, 1) := by decide +kernel
theorem dX11_goesOn_328 : decode cX11_goesOn 328 = .ok (.getfield 36, 3) := by decide +kernel
theorem dX11_goesOn_331 : decode cX11_goesOn 331 = .ok (.ifCond .le 5, 3) := by decide +kernel
theorem dX11_goesOn_334 : decode cX11_goesOn 334 = .ok (.iconst 0, 1) := by decide +kernel
theorem dX11_goesOn_335 : decode cX11_goesOn 335 = .ok (.ireturn, 1) := by decide +kernel
theorem dX11_goesOn_336 : decode cX11_goesOn 336 = .ok (.aload_n 0, 1) := by decide +kernel
theorem dX11_goesOn_337 : decode cX11_goesOn 337 = .ok (.ldc2_w 277, 3) := by decide +kernel
theorem dX11_goesOn_340 : decode cX11_goesOn 340 = .ok (.invokevirtual 303, 3) := by decide +kernel
theorem dX11_goesOn_343 : decode cX11_goesOn 343 = .ok (.istore 4, 2) := by decide +kernel
theorem dX11_goesOn_345 : decode cX11_goesOn 345 = .ok (.aload_n 0, 1) := by decide +kernel
theorem dX11_goesOn_346 : decode cX11_goesOn 346 = .ok (.iload 4, 2) := by decide +kernel
theorem dX11_goesOn_348 : decode cX11_goesOn 348 = .ok (.ifCond .eq 7, 3) := by decide +kernel
theorem dX11_goesOn_351 : decode cX11_goesOn 351 = .ok (.iconst 2, 1) := by decide +kernel
theorem dX11_goesOn_352 : decode cX11_goesOn 352 = .ok (.goto 4, 3) := by decide +kernel
theorem dX11_goesOn_355 : decode cX11_goesOn 355 = .ok (.iconst 1, 1) := by decide +kernel
theorem dX11_goesOn_356 : decode cX11_goesOn 356 = .ok (.invokevirtual 313, 3) := by decide +kernel
theorem dX11_goesOn_359 : decode cX11_goesOn 359 = .ok (.aload_n 0, 1) := by decide +kernel
theorem dX11_goesOn_360 : decode cX11_goesOn 360 = .ok (.iload 4, 2) := by decide +kernel
theorem dX11_goesOn_362 : decode cX11_goesOn 362 = .ok (.ifCond .eq 8, 3) := by decide +kernel
theorem dX11_goesOn_365 : decode cX11_goesOn 365 = .ok (.bipush 41, 2) := by decide +kernel
theorem dX11_goesOn_367 : decode cX11_goesOn 367 = .ok (.goto 5, 3) := by decide +kernel
theorem dX11_goesOn_370 : decode cX11_goesOn 370 = .ok (.bipush 42, 2) := by decide +kernel
theorem dX11_goesOn_372 : decode cX11_goesOn 372 = .ok (.invokevirtual 307, 3) := by decide +kernel
theorem dX11_goesOn_375 : decode cX11_goesOn 375 = .ok (.aload_n 0, 1) := by decide +kernel
theorem dX11_goesOn_376 : decode cX11_goesOn 376 = .ok (.getfield 101, 3) := by decide +kernel
theorem dX11_goesOn_379 : decode cX11_goesOn 379 = .ok (.iload_n 1, 1) := by decide +kernel
theorem dX11_goesOn_380 : decode cX11_goesOn 380 = .ok (.iconst 0, 1) := by decide +kernel
theorem dX11_goesOn_381 : decode cX11_goesOn 381 = .ok (.iastore, 1) := by decide +kernel
theorem dX11_goesOn_382 : decode cX11_goesOn 382 = .ok (.aload_n 0, 1) := by decide +kernel
theorem dX11_goesOn_383 : decode cX11_goesOn 383 = .ok (.getfield 104, 3) := by decide +kernel
theorem dX11_goesOn_386 : decode cX11_goesOn 386 = .ok (.iload_n 1, 1) := by decide +kernel
theorem dX11_goesOn_387 : decode cX11_goesOn 387 = .ok (.iconst 1, 1) := by decide +kernel
theorem dX11_goesOn_388 : decode cX11_goesOn 388 = .ok (.bastore, 1) := by decide +kernel
theorem dX11_goesOn_389 : decode cX11_goesOn 389 = .ok (.aload_n 0, 1) := by decide +kernel
theorem dX11_goesOn_390 : decode cX11_goesOn 390 = .ok (.invokevirtual 238, 3) := by decide +kernel
theorem dX11_goesOn_393 : decode cX11_goesOn 393 = .ok (.aload_n 0, 1) := by decide +kernel
theorem dX11_goesOn_394 : decode cX11_goesOn 394 = .ok (.iconst 0, 1) := by decide +kernel
theorem dX11_goesOn_395 : decode cX11_goesOn 395 = .ok (.putfield 126, 3) := by decide +kernel
theorem dX11_goesOn_398 : decode cX11_goesOn 398 = .ok (.iconst 1, 1) := by decide +kernel
theorem dX11_goesOn_399 : decode cX11_goesOn 399 = .ok (.ireturn, 1) := by decide +kernel
