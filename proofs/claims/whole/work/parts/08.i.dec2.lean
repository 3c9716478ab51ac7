theorem dX11_union_75 : decode cX11_union 75 = .ok (.aload_n 0, 1) := by decide +kernel
theorem dX11_union_76 : decode cX11_union 76 = .ok (.getfield 91, 3) := by decide +kernel
theorem dX11_union_79 : decode cX11_union 79 = .ok (.imul, 1) := by decide +kernel
theorem dX11_union_80 : decode cX11_union 80 = .ok (.iconst 3, 1) := by decide +kernel
theorem dX11_union_81 : decode cX11_union 81 = .ok (.iadd, 1) := by decide +kernel
theorem dX11_union_82 : decode cX11_union 82 = .ok (.if_icmp .ge 16, 3) := by decide +kernel
theorem dX11_union_85 : decode cX11_union 85 = .ok (.aload_n 0, 1) := by decide +kernel
theorem dX11_union_86 : decode cX11_union 86 = .ok (.getfield 72, 3) := by decide +kernel
theorem dX11_union_89 : decode cX11_union 89 = .ok (.iload_n 1, 1) := by decide +kernel
theorem dX11_union_90 : decode cX11_union 90 = .ok (.iconst (-1), 1) := by decide +kernel
theorem dX11_union_91 : decode cX11_union 91 = .ok (.iastore, 1) := by decide +kernel
theorem dX11_union_92 : decode cX11_union 92 = .ok (.iinc 1 1, 3) := by decide +kernel
theorem dX11_union_95 : decode cX11_union 95 = .ok (.goto (-22), 3) := by decide +kernel
theorem dX11_union_98 : decode cX11_union 98 = .ok (.aload_n 0, 1) := by decide +kernel
theorem dX11_union_99 : decode cX11_union 99 = .ok (.iconst 0, 1) := by decide +kernel
theorem dX11_union_100 : decode cX11_union 100 = .ok (.putfield 88, 3) := by decide +kernel
theorem dX11_union_103 : decode cX11_union 103 = .ok (.iconst 0, 1) := by decide +kernel
theorem dX11_union_104 : decode cX11_union 104 = .ok (.istore_n 1, 1) := by decide +kernel
theorem dX11_union_105 : decode cX11_union 105 = .ok (.aload_n 0, 1) := by decide +kernel
theorem dX11_union_106 : decode cX11_union 106 = .ok (.invokevirtual 238, 3) := by decide +kernel
theorem dX11_union_109 : decode cX11_union 109 = .ok (.aload_n 0, 1) := by decide +kernel
theorem dX11_union_110 : decode cX11_union 110 = .ok (.getfield 36, 3) := by decide +kernel
theorem dX11_union_113 : decode cX11_union 113 = .ok (.ifCond .ne 25, 3) := by decide +kernel
theorem dX11_union_116 : decode cX11_union 116 = .ok (.aload_n 0, 1) := by decide +kernel
theorem dX11_union_117 : decode cX11_union 117 = .ok (.getfield 20, 3) := by decide +kernel
theorem dX11_union_120 : decode cX11_union 120 = .ok (.ifCond .eq 18, 3) := by decide +kernel
theorem dX11_union_123 : decode cX11_union 123 = .ok (.aload_n 0, 1) := by decide +kernel
theorem dX11_union_124 : decode cX11_union 124 = .ok (.invokevirtual 374, 3) := by decide +kernel
theorem dX11_union_127 : decode cX11_union 127 = .ok (.iinc 1 1, 3) := by decide +kernel
theorem dX11_union_130 : decode cX11_union 130 = .ok (.aload_n 0, 1) := by decide +kernel
theorem dX11_union_131 : decode cX11_union 131 = .ok (.iload_n 1, 1) := by decide +kernel
theorem dX11_union_132 : decode cX11_union 132 = .ok (.invokevirtual 377, 3) := by decide +kernel
theorem dX11_union_135 : decode cX11_union 135 = .ok (.goto (-26), 3) := by decide +kernel
theorem dX11_union_138 : decode cX11_union 138 = .ok (.aload_n 0, 1) := by decide +kernel
theorem dX11_union_139 : decode cX11_union 139 = .ok (.aload_n 0, 1) := by decide +kernel
theorem dX11_union_140 : decode cX11_union 140 = .ok (.getfield 36, 3) := by decide +kernel
theorem dX11_union_143 : decode cX11_union 143 = .ok (.putfield 42, 3) := by decide +kernel
theorem dX11_union_146 : decode cX11_union 146 = .ok (.aload_n 0, 1) := by decide +kernel
theorem dX11_union_147 : decode cX11_union 147 = .ok (.aload_n 0, 1) := by decide +kernel
theorem dX11_union_148 : decode cX11_union 148 = .ok (.getfield 39, 3) := by decide +kernel
theorem dX11_union_151 : decode cX11_union 151 = .ok (.putfield 45, 3) := by decide +kernel
theorem dX11_union_154 : decode cX11_union 154 = .ok (.aload_n 0, 1) := by decide +kernel
theorem dX11_union_155 : decode cX11_union 155 = .ok (.getfield 36, 3) := by decide +kernel
theorem dX11_union_158 : decode cX11_union 158 = .ok (.ifCond .le 9, 3) := by decide +kernel
theorem dX11_union_161 : decode cX11_union 161 = .ok (.aload_n 0, 1) := by decide +kernel
theorem dX11_union_162 : decode cX11_union 162 = .ok (.iconst 1, 1) := by decide +kernel
theorem dX11_union_163 : decode cX11_union 163 = .ok (.invokevirtual 214, 3) := by decide +kernel
theorem dX11_union_166 : decode cX11_union 166 = .ok (.ireturn, 1) := by decide +kernel
theorem dX11_union_167 : decode cX11_union 167 = .ok (.aload_n 0, 1) := by decide +kernel
theorem dX11_union_168 : decode cX11_union 168 = .ok (.invokevirtual 380, 3) := by decide +kernel
theorem dX11_union_171 : decode cX11_union 171 = .ok (.aload_n 0, 1) := by decide +kernel
theorem dX11_union_172 : decode cX11_union 172 = .ok (.aload_n 0, 1) := by decide +kernel
theorem dX11_union_173 : decode cX11_union 173 = .ok (.getfield 91, 3) := by decide +kernel
theorem dX11_union_176 : decode cX11_union 176 = .ok (.putfield 51, 3) := by decide +kernel
theorem dX11_union_179 : decode cX11_union 179 = .ok (.aload_n 0, 1) := by decide +kernel
theorem dX11_union_180 : decode cX11_union 180 = .ok (.invokevirtual 383, 3) := by decide +kernel
theorem dX11_union_183 : decode cX11_union 183 = .ok (.iload_n 1, 1) := by decide +kernel
theorem dX11_union_184 : decode cX11_union 184 = .ok (.ireturn, 1) := by decide +kernel
theorem dX11_fault_0 : decode cX11_fault 0 = .ok (.iload_n 1, 1) := by decide +kernel
theorem dX11_fault_1 : decode cX11_fault 1 = .ok (.ifCond .ne 10, 3) := by decide +kernel
theorem dX11_fault_4 : decode cX11_fault 4 = .ok (.aload_n 0, 1) := by decide +kernel
theorem dX11_fault_5 : decode cX11_fault 5 = .ok (.getfield 42, 3) := by decide +kernel
theorem dX11_fault_8 : decode cX11_fault 8 = .ok (.goto 16, 3) := by decide +kernel
theorem dX11_fault_11 : decode cX11_fault 11 = .ok (.iload_n 1, 1) := by decide +kernel
theorem dX11_fault_12 : decode cX11_fault 12 = .ok (.iconst 1, 1) := by decide +kernel
theorem dX11_fault_13 : decode cX11_fault 13 = .ok (.if_icmp .ne 10, 3) := by decide +kernel
theorem dX11_fault_16 : decode cX11_fault 16 = .ok (.aload_n 0, 1) := by decide +kernel
theorem dX11_fault_17 : decode cX11_fault 17 = .ok (.getfield 45, 3) := by decide +kernel
theorem dX11_fault_20 : decode cX11_fault 20 = .ok (.goto 4, 3) := by decide +kernel
theorem dX11_fault_23 : decode cX11_fault 23 = .ok (.iconst (-1), 1) := by decide +kernel
theorem dX11_fault_24 : decode cX11_fault 24 = .ok (.ireturn, 1) := by decide +kernel
theorem dX11_refuses_0 : decode cX11_refuses 0 = .ok (.aload_n 0, 1) := by decide +kernel
theorem dX11_refuses_1 : decode cX11_refuses 1 = .ok (.getfield 129, 3) := by decide +kernel
theorem dX11_refuses_4 : decode cX11_refuses 4 = .ok (.iload_n 1, 1) := by decide +kernel
theorem dX11_refuses_5 : decode cX11_refuses 5 = .ok (.dup2, 1) := by decide +kernel
theorem dX11_refuses_6 : decode cX11_refuses 6 = .ok (.iaload, 1) := by decide +kernel
theorem dX11_refuses_7 : decode cX11_refuses 7 = .ok (.iconst 1, 1) := by decide +kernel
theorem dX11_refuses_8 : decode cX11_refuses 8 = .ok (.iadd, 1) := by decide +kernel
theorem dX11_refuses_9 : decode cX11_refuses 9 = .ok (.iastore, 1) := by decide +kernel
theorem dX11_refuses_10 : decode cX11_refuses 10 = .ok (.iconst (-1), 1) := by decide +kernel
theorem dX11_refuses_11 : decode cX11_refuses 11 = .ok (.ireturn, 1) := by decide +kernel
theorem dX11_status_0 : decode cX11_status 0 = .ok (.iload_n 1, 1) := by decide +kernel
theorem dX11_status_1 : decode cX11_status 1 = .ok (.iconst 0, 1) := by decide +kernel
theorem dX11_status_2 : decode cX11_status 2 = .ok (.iconst 5, 1) := by decide +kernel
theorem dX11_status_3 : decode cX11_status 3 = .ok (.invokestatic 287, 3) := by decide +kernel
theorem dX11_status_6 : decode cX11_status 6 = .ok (.ifCond .eq 12, 3) := by decide +kernel
theorem dX11_status_9 : decode cX11_status 9 = .ok (.aload_n 0, 1) := by decide +kernel
theorem dX11_status_10 : decode cX11_status 10 = .ok (.getfield 129, 3) := by decide +kernel
theorem dX11_status_13 : decode cX11_status 13 = .ok (.iload_n 1, 1) := by decide +kernel
theorem dX11_status_14 : decode cX11_status 14 = .ok (.iaload, 1) := by decide +kernel
theorem dX11_status_15 : decode cX11_status 15 = .ok (.goto 4, 3) := by decide +kernel
theorem dX11_status_18 : decode cX11_status 18 = .ok (.iconst (-1), 1) := by decide +kernel
theorem dX11_status_19 : decode cX11_status 19 = .ok (.ireturn, 1) := by decide +kernel
theorem dX11_copies_0 : decode cX11_copies 0 = .ok (.aload_n 0, 1) := by decide +kernel
theorem dX11_copies_1 : decode cX11_copies 1 = .ok (.getfield 132, 3) := by decide +kernel
theorem dX11_copies_4 : decode cX11_copies 4 = .ok (.iload_n 1, 1) := by decide +kernel
theorem dX11_copies_5 : decode cX11_copies 5 = .ok (.aload_n 0, 1) := by decide +kernel
theorem dX11_copies_6 : decode cX11_copies 6 = .ok (.getfield 132, 3) := by decide +kernel
theorem dX11_copies_9 : decode cX11_copies 9 = .ok (.iload_n 2, 1) := by decide +kernel
theorem dX11_copies_10 : decode cX11_copies 10 = .ok (.iaload, 1) := by decide +kernel
theorem dX11_copies_11 : decode cX11_copies 11 = .ok (.iastore, 1) := by decide +kernel
theorem dX11_copies_12 : decode cX11_copies 12 = .ok (.iconst 0, 1) := by decide +kernel
theorem dX11_copies_13 : decode cX11_copies 13 = .ok (.istore_n 3, 1) := by decide +kernel
theorem dX11_copies_14 : decode cX11_copies 14 = .ok (.iload_n 3, 1) := by decide +kernel
theorem dX11_copies_15 : decode cX11_copies 15 = .ok (.bipush 36, 2) := by decide +kernel
theorem dX11_copies_17 : decode cX11_copies 17 = .ok (.if_icmp .ge 75, 3) := by decide +kernel
theorem dX11_copies_20 : decode cX11_copies 20 = .ok (.aload_n 0, 1) := by decide +kernel
theorem dX11_copies_21 : decode cX11_copies 21 = .ok (.getfield 135, 3) := by decide +kernel
theorem dX11_copies_24 : decode cX11_copies 24 = .ok (.bipush 36, 2) := by decide +kernel
theorem dX11_copies_26 : decode cX11_copies 26 = .ok (.iload_n 1, 1) := by decide +kernel
theorem dX11_copies_27 : decode cX11_copies 27 = .ok (.imul, 1) := by decide +kernel
theorem dX11_copies_28 : decode cX11_copies 28 = .ok (.iload_n 3, 1) := by decide +kernel
theorem dX11_copies_29 : decode cX11_copies 29 = .ok (.iadd, 1) := by decide +kernel
theorem dX11_copies_30 : decode cX11_copies 30 = .ok (.aload_n 0, 1) := by decide +kernel
theorem dX11_copies_31 : decode cX11_copies 31 = .ok (.getfield 135, 3) := by decide +kernel
theorem dX11_copies_34 : decode cX11_copies 34 = .ok (.bipush 36, 2) := by decide +kernel
theorem dX11_copies_36 : decode cX11_copies 36 = .ok (.iload_n 2, 1) := by decide +kernel
theorem dX11_copies_37 : decode cX11_copies 37 = .ok (.imul, 1) := by decide +kernel
theorem dX11_copies_38 : decode cX11_copies 38 = .ok (.iload_n 3, 1) := by decide +kernel
theorem dX11_copies_39 : decode cX11_copies 39 = .ok (.iadd, 1) := by decide +kernel
theorem dX11_copies_40 : decode cX11_copies 40 = .ok (.iaload, 1) := by decide +kernel
theorem dX11_copies_41 : decode cX11_copies 41 = .ok (.iastore, 1) := by decide +kernel
theorem dX11_copies_42 : decode cX11_copies 42 = .ok (.aload_n 0, 1) := by decide +kernel
theorem dX11_copies_43 : decode cX11_copies 43 = .ok (.getfield 138, 3) := by decide +kernel
theorem dX11_copies_46 : decode cX11_copies 46 = .ok (.bipush 36, 2) := by decide +kernel
theorem dX11_copies_48 : decode cX11_copies 48 = .ok (.iload_n 1, 1) := by decide +kernel
theorem dX11_copies_49 : decode cX11_copies 49 = .ok (.imul, 1) := by decide +kernel
theorem dX11_copies_50 : decode cX11_copies 50 = .ok (.iload_n 3, 1) := by decide +kernel
theorem dX11_copies_51 : decode cX11_copies 51 = .ok (.iadd, 1) := by decide +kernel
theorem dX11_copies_52 : decode cX11_copies 52 = .ok (.aload_n 0, 1) := by decide +kernel
theorem dX11_copies_53 : decode cX11_copies 53 = .ok (.getfield 138, 3) := by decide +kernel
theorem dX11_copies_56 : decode cX11_copies 56 = .ok (.bipush 36, 2) := by decide +kernel
theorem dX11_copies_58 : decode cX11_copies 58 = .ok (.iload_n 2, 1) := by decide +kernel
theorem dX11_copies_59 : decode cX11_copies 59 = .ok (.imul, 1) := by decide +kernel
theorem dX11_copies_60 : decode cX11_copies 60 = .ok (.iload_n 3, 1) := by decide +kernel
theorem dX11_copies_61 : decode cX11_copies 61 = .ok (.iadd, 1) := by decide +kernel
theorem dX11_copies_62 : decode cX11_copies 62 = .ok (.iaload, 1) := by decide +kernel
theorem dX11_copies_63 : decode cX11_copies 63 = .ok (.iastore, 1) := by decide +kernel
theorem dX11_copies_64 : decode cX11_copies 64 = .ok (.aload_n 0, 1) := by decide +kernel
theorem dX11_copies_65 : decode cX11_copies 65 = .ok (.getfield 141, 3) := by decide +kernel
theorem dX11_copies_68 : decode cX11_copies 68 = .ok (.bipush 36, 2) := by decide +kernel
theorem dX11_copies_70 : decode cX11_copies 70 = .ok (.iload_n 1, 1) := by decide +kernel
theorem dX11_copies_71 : decode cX11_copies 71 = .ok (.imul, 1) := by decide +kernel
theorem dX11_copies_72 : decode cX11_copies 72 = .ok (.iload_n 3, 1) := by decide +kernel
theorem dX11_copies_73 : decode cX11_copies 73 = .ok (.iadd, 1) := by decide +kernel
theorem dX11_copies_74 : decode cX11_copies 74 = .ok (.aload_n 0, 1) := by decide +kernel
theorem dX11_copies_75 : decode cX11_copies 75 = .ok (.getfield 141, 3) := by decide +kernel
theorem dX11_copies_78 : decode cX11_copies 78 = .ok (.bipush 36, 2) := by decide +kernel
theorem dX11_copies_80 : decode cX11_copies 80 = .ok (.iload_n 2, 1) := by decide +kernel
theorem dX11_copies_81 : decode cX11_copies 81 = .ok (.imul, 1) := by decide +kernel
theorem dX11_copies_82 : decode cX11_copies 82 = .ok (.iload_n 3, 1) := by decide +kernel
theorem dX11_copies_83 : decode cX11_copies 83 = .ok (.iadd, 1) := by decide +kernel
theorem dX11_copies_84 : decode cX11_copies 84 = .ok (.iaload, 1) := by decide +kernel
theorem dX11_copies_85 : decode cX11_copies 85 = .ok (.iastore, 1) := by decide +kernel
theorem dX11_copies_86 : decode cX11_copies 86 = .ok (.iinc 3 1, 3) := by decide +kernel
theorem dX11_copies_89 : decode cX11_copies 89 = .ok (.goto (-75), 3) := by decide +kernel
theorem dX11_copies_92 : decode cX11_copies 92 = .ok (.aload_n 0, 1) := by decide +kernel
theorem dX11_copies_93 : decode cX11_copies 93 = .ok (.getfield 144, 3) := by decide +kernel
theorem dX11_copies_96 : decode cX11_copies 96 = .ok (.iload_n 1, 1) := by decide +kernel
theorem dX11_copies_97 : decode cX11_copies 97 = .ok (.aload_n 0, 1) := by decide +kernel
theorem dX11_copies_98 : decode cX11_copies 98 = .ok (.getfield 144, 3) := by decide +kernel
theorem dX11_copies_101 : decode cX11_copies 101 = .ok (.iload_n 2, 1) := by decide +kernel
theorem dX11_copies_102 : decode cX11_copies 102 = .ok (.iaload, 1) := by decide +kernel
theorem dX11_copies_103 : decode cX11_copies 103 = .ok (.iastore, 1) := by decide +kernel
theorem dX11_copies_104 : decode cX11_copies 104 = .ok (.iconst 0, 1) := by decide +kernel
theorem dX11_copies_105 : decode cX11_copies 105 = .ok (.istore_n 3, 1) := by decide +kernel
theorem dX11_copies_106 : decode cX11_copies 106 = .ok (.iload_n 3, 1) := by decide +kernel
theorem dX11_copies_107 : decode cX11_copies 107 = .ok (.iconst 3, 1) := by decide +kernel
theorem dX11_copies_108 : decode cX11_copies 108 = .ok (.aload_n 0, 1) := by decide +kernel
theorem dX11_copies_109 : decode cX11_copies 109 = .ok (.getfield 144, 3) := by decide +kernel
theorem dX11_copies_112 : decode cX11_copies 112 = .ok (.iload_n 2, 1) := by decide +kernel
theorem dX11_copies_113 : decode cX11_copies 113 = .ok (.iaload, 1) := by decide +kernel
theorem dX11_copies_114 : decode cX11_copies 114 = .ok (.imul, 1) := by decide +kernel
theorem dX11_copies_115 : decode cX11_copies 115 = .ok (.if_icmp .ge 33, 3) := by decide +kernel
theorem dX11_copies_118 : decode cX11_copies 118 = .ok (.aload_n 0, 1) := by decide +kernel
theorem dX11_copies_119 : decode cX11_copies 119 = .ok (.getfield 147, 3) := by decide +kernel
theorem dX11_copies_122 : decode cX11_copies 122 = .ok (.sipush 180, 3) := by decide +kernel
theorem dX11_copies_125 : decode cX11_copies 125 = .ok (.iload_n 1, 1) := by decide +kernel
theorem dX11_copies_126 : decode cX11_copies 126 = .ok (.imul, 1) := by decide +kernel
theorem dX11_copies_127 : decode cX11_copies 127 = .ok (.iload_n 3, 1) := by decide +kernel
theorem dX11_copies_128 : decode cX11_copies 128 = .ok (.iadd, 1) := by decide +kernel
theorem dX11_copies_129 : decode cX11_copies 129 = .ok (.aload_n 0, 1) := by decide +kernel
theorem dX11_copies_130 : decode cX11_copies 130 = .ok (.getfield 147, 3) := by decide +kernel
theorem dX11_copies_133 : decode cX11_copies 133 = .ok (.sipush 180, 3) := by decide +kernel
theorem dX11_copies_136 : decode cX11_copies 136 = .ok (.iload_n 2, 1) := by decide +kernel
theorem dX11_copies_137 : decode cX11_copies 137 = .ok (.imul, 1) := by decide +kernel
theorem dX11_copies_138 : decode cX11_copies 138 = .ok (.iload_n 3, 1) := by decide +kernel
theorem dX11_copies_139 : decode cX11_copies 139 = .ok (.iadd, 1) := by decide +kernel
theorem dX11_copies_140 : decode cX11_copies 140 = .ok (.iaload, 1) := by decide +kernel
theorem dX11_copies_141 : decode cX11_copies 141 = .ok (.iastore, 1) := by decide +kernel
theorem dX11_copies_142 : decode cX11_copies 142 = .ok (.iinc 3 1, 3) := by decide +kernel
theorem dX11_copies_145 : decode cX11_copies 145 = .ok (.goto (-39), 3) := by decide +kernel
theorem dX11_copies_148 : decode cX11_copies 148 = .ok (.aload_n 0, 1) := by decide +kernel
theorem dX11_copies_149 : decode cX11_copies 149 = .ok (.getfield 150, 3) := by decide +kernel
theorem dX11_copies_152 : decode cX11_copies 152 = .ok (.iload_n 1, 1) := by decide +kernel
theorem dX11_copies_153 : decode cX11_copies 153 = .ok (.aload_n 0, 1) := by decide +kernel
theorem dX11_copies_154 : decode cX11_copies 154 = .ok (.getfield 150, 3) := by decide +kernel
theorem dX11_copies_157 : decode cX11_copies 157 = .ok (.iload_n 2, 1) := by decide +kernel
theorem dX11_copies_158 : decode cX11_copies 158 = .ok (.iaload, 1) := by decide +kernel
theorem dX11_copies_159 : decode cX11_copies 159 = .ok (.iastore, 1) := by decide +kernel
theorem dX11_copies_160 : decode cX11_copies 160 = .ok (.iconst 0, 1) := by decide +kernel
theorem dX11_copies_161 : decode cX11_copies 161 = .ok (.istore_n 3, 1) := by decide +kernel
theorem dX11_copies_162 : decode cX11_copies 162 = .ok (.iload_n 3, 1) := by decide +kernel
theorem dX11_copies_163 : decode cX11_copies 163 = .ok (.iconst 4, 1) := by decide +kernel
theorem dX11_copies_164 : decode cX11_copies 164 = .ok (.aload_n 0, 1) := by decide +kernel
theorem dX11_copies_165 : decode cX11_copies 165 = .ok (.getfield 150, 3) := by decide +kernel
theorem dX11_copies_168 : decode cX11_copies 168 = .ok (.iload_n 2, 1) := by decide +kernel
theorem dX11_copies_169 : decode cX11_copies 169 = .ok (.iaload, 1) := by decide +kernel
theorem dX11_copies_170 : decode cX11_copies 170 = .ok (.imul, 1) := by decide +kernel
theorem dX11_copies_171 : decode cX11_copies 171 = .ok (.if_icmp .ge 33, 3) := by decide +kernel
theorem dX11_copies_174 : decode cX11_copies 174 = .ok (.aload_n 0, 1) := by decide +kernel
theorem dX11_copies_175 : decode cX11_copies 175 = .ok (.getfield 153, 3) := by decide +kernel
theorem dX11_copies_178 : decode cX11_copies 178 = .ok (.sipush 200, 3) := by decide +kernel
theorem dX11_copies_181 : decode cX11_copies 181 = .ok (.iload_n 1, 1) := by decide +kernel
theorem dX11_copies_182 : decode cX11_copies 182 = .ok (.imul, 1) := by decide +kernel
theorem dX11_copies_183 : decode cX11_copies 183 = .ok (.iload_n 3, 1) := by decide +kernel
theorem dX11_copies_184 : decode cX11_copies 184 = .ok (.iadd, 1) := by decide +kernel
theorem dX11_copies_185 : decode cX11_copies 185 = .ok (.aload_n 0, 1) := by decide +kernel
theorem dX11_copies_186 : decode cX11_copies 186 = .ok (.getfield 153, 3) := by decide +kernel
theorem dX11_copies_189 : decode cX11_copies 189 = .ok (.sipush 200, 3) := by decide +kernel
theorem dX11_copies_192 : decode cX11_copies 192 = .ok (.iload_n 2, 1) := by decide +kernel
theorem dX11_copies_193 : decode cX11_copies 193 = .ok (.imul, 1) := by decide +kernel
theorem dX11_copies_194 : decode cX11_copies 194 = .ok (.iload_n 3, 1) := by decide +kernel
theorem dX11_copies_195 : decode cX11_copies 195 = .ok (.iadd, 1) := by decide +kernel
theorem dX11_copies_196 : decode cX11_copies 196 = .ok (.iaload, 1) := by decide +kernel
theorem dX11_copies_197 : decode cX11_copies 197 = .ok (.iastore, 1) := by decide +kernel
theorem dX11_copies_198 : decode cX11_copies 198 = .ok (.iinc 3 1, 3) := by decide +kernel
theorem dX11_copies_201 : decode cX11_copies 201 = .ok (.goto (-39), 3) := by decide +kernel
theorem dX11_copies_204 : decode cX11_copies 204 = .ok (.return_, 1) := by decide +kernel
theorem dX11_begin_0 : decode cX11_begin 0 = .ok (.aload_n 0, 1) := by decide +kernel
theorem dX11_begin_1 : decode cX11_begin 1 = .ok (.getfield 132, 3) := by decide +kernel
theorem dX11_begin_4 : decode cX11_begin 4 = .ok (.iconst 0, 1) := by decide +kernel
theorem dX11_begin_5 : decode cX11_begin 5 = .ok (.iconst 0, 1) := by decide +kernel
theorem dX11_begin_6 : decode cX11_begin 6 = .ok (.iastore, 1) := by decide +kernel
theorem dX11_begin_7 : decode cX11_begin 7 = .ok (.iconst 0, 1) := by decide +kernel
theorem dX11_begin_8 : decode cX11_begin 8 = .ok (.istore_n 1, 1) := by decide +kernel
theorem dX11_begin_9 : decode cX11_begin 9 = .ok (.iload_n 1, 1) := by decide +kernel
theorem dX11_begin_10 : decode cX11_begin 10 = .ok (.bipush 36, 2) := by decide +kernel
theorem dX11_begin_12 : decode cX11_begin 12 = .ok (.if_icmp .ge 43, 3) := by decide +kernel
theorem dX11_begin_15 : decode cX11_begin 15 = .ok (.aload_n 0, 1) := by decide +kernel
theorem dX11_begin_16 : decode cX11_begin 16 = .ok (.getfield 135, 3) := by decide +kernel
theorem dX11_begin_19 : decode cX11_begin 19 = .ok (.iload_n 1, 1) := by decide +kernel
theorem dX11_begin_20 : decode cX11_begin 20 = .ok (.aload_n 0, 1) := by decide +kernel
theorem dX11_begin_21 : decode cX11_begin 21 = .ok (.getfield 66, 3) := by decide +kernel
theorem dX11_begin_24 : decode cX11_begin 24 = .ok (.bipush 36, 2) := by decide +kernel
theorem dX11_begin_26 : decode cX11_begin 26 = .ok (.aload_n 0, 1) := by decide +kernel
theorem dX11_begin_27 : decode cX11_begin 27 = .ok (.getfield 51, 3) := by decide +kernel
theorem dX11_begin_30 : decode cX11_begin 30 = .ok (.imul, 1) := by decide +kernel
theorem dX11_begin_31 : decode cX11_begin 31 = .ok (.iload_n 1, 1) := by decide +kernel
theorem dX11_begin_32 : decode cX11_begin 32 = .ok (.iadd, 1) := by decide +kernel
theorem dX11_begin_33 : decode cX11_begin 33 = .ok (.iaload, 1) := by decide +kernel
theorem dX11_begin_34 : decode cX11_begin 34 = .ok (.iastore, 1) := by decide +kernel
theorem dX11_begin_35 : decode cX11_begin 35 = .ok (.aload_n 0, 1) := by decide +kernel
theorem dX11_begin_36 : decode cX11_begin 36 = .ok (.getfield 138, 3) := by decide +kernel
theorem dX11_begin_39 : decode cX11_begin 39 = .ok (.iload_n 1, 1) := by decide +kernel
theorem dX11_begin_40 : decode cX11_begin 40 = .ok (.iconst 0, 1) := by decide +kernel
theorem dX11_begin_41 : decode cX11_begin 41 = .ok (.iastore, 1) := by decide +kernel
theorem dX11_begin_42 : decode cX11_begin 42 = .ok (.aload_n 0, 1) := by decide +kernel
theorem dX11_begin_43 : decode cX11_begin 43 = .ok (.getfield 141, 3) := by decide +kernel
theorem dX11_begin_46 : decode cX11_begin 46 = .ok (.iload_n 1, 1) := by decide +kernel
theorem dX11_begin_47 : decode cX11_begin 47 = .ok (.iconst 0, 1) := by decide +kernel
theorem dX11_begin_48 : decode cX11_begin 48 = .ok (.iastore, 1) := by decide +kernel
theorem dX11_begin_49 : decode cX11_begin 49 = .ok (.iinc 1 1, 3) := by decide +kernel
theorem dX11_begin_52 : decode cX11_begin 52 = .ok (.goto (-43), 3) := by decide +kernel
theorem dX11_begin_55 : decode cX11_begin 55 = .ok (.aload_n 0, 1) := by decide +kernel
theorem dX11_begin_56 : decode cX11_begin 56 = .ok (.getfield 144, 3) := by decide +kernel
theorem dX11_begin_59 : decode cX11_begin 59 = .ok (.iconst 0, 1) := by decide +kernel
theorem dX11_begin_60 : decode cX11_begin 60 = .ok (.iconst 0, 1) := by decide +kernel
theorem dX11_begin_61 : decode cX11_begin 61 = .ok (.iastore, 1) := by decide +kernel
theorem dX11_begin_62 : decode cX11_begin 62 = .ok (.aload_n 0, 1) := by decide +kernel
theorem dX11_begin_63 : decode cX11_begin 63 = .ok (.getfield 150, 3) := by decide +kernel
theorem dX11_begin_66 : decode cX11_begin 66 = .ok (.iconst 0, 1) := by decide +kernel
theorem dX11_begin_67 : decode cX11_begin 67 = .ok (.iconst 0, 1) := by decide +kernel
theorem dX11_begin_68 : decode cX11_begin 68 = .ok (.iastore, 1) := by decide +kernel
theorem dX11_begin_69 : decode cX11_begin 69 = .ok (.aload_n 0, 1) := by decide +kernel
theorem dX11_begin_70 : decode cX11_begin 70 = .ok (.iconst 0, 1) := by decide +kernel
theorem dX11_begin_71 : decode cX11_begin 71 = .ok (.putfield 159, 3) := by decide +kernel
theorem dX11_begin_74 : decode cX11_begin 74 = .ok (.aload_n 0, 1) := by decide +kernel
theorem dX11_begin_75 : decode cX11_begin 75 = .ok (.iconst 0, 1) := by decide +kernel
theorem dX11_begin_76 : decode cX11_begin 76 = .ok (.putfield 195, 3) := by decide +kernel
theorem dX11_begin_79 : decode cX11_begin 79 = .ok (.return_, 1) := by decide +kernel
theorem dX11_slot_0 : decode cX11_slot 0 = .ok (.iconst 2, 1) := by decide +kernel
theorem dX11_slot_1 : decode cX11_slot 1 = .ok (.aload_n 0, 1) := by decide +kernel
theorem dX11_slot_2 : decode cX11_slot 2 = .ok (.getfield 156, 3) := by decide +kernel
theorem dX11_slot_5 : decode cX11_slot 5 = .ok (.iload_n 1, 1) := by decide +kernel
theorem dX11_slot_6 : decode cX11_slot 6 = .ok (.iadd, 1) := by decide +kernel
theorem dX11_slot_7 : decode cX11_slot 7 = .ok (.bipush 20, 2) := by decide +kernel
theorem dX11_slot_9 : decode cX11_slot 9 = .ok (.irem, 1) := by decide +kernel
theorem dX11_slot_10 : decode cX11_slot 10 = .ok (.iadd, 1) := by decide +kernel
theorem dX11_slot_11 : decode cX11_slot 11 = .ok (.ireturn, 1) := by decide +kernel
theorem dX11_keeps_0 : decode cX11_keeps 0 = .ok (.aload_n 0, 1) := by decide +kernel
theorem dX11_keeps_1 : decode cX11_keeps 1 = .ok (.getfield 159, 3) := by decide +kernel
theorem dX11_keeps_4 : decode cX11_keeps 4 = .ok (.bipush 20, 2) := by decide +kernel
theorem dX11_keeps_6 : decode cX11_keeps 6 = .ok (.if_icmp .ne 26, 3) := by decide +kernel
theorem dX11_keeps_9 : decode cX11_keeps 9 = .ok (.aload_n 0, 1) := by decide +kernel
theorem dX11_keeps_10 : decode cX11_keeps 10 = .ok (.aload_n 0, 1) := by decide +kernel
theorem dX11_keeps_11 : decode cX11_keeps 11 = .ok (.getfield 156, 3) := by decide +kernel
theorem dX11_keeps_14 : decode cX11_keeps 14 = .ok (.iconst 1, 1) := by decide +kernel
theorem dX11_keeps_15 : decode cX11_keeps 15 = .ok (.iadd, 1) := by decide +kernel
theorem dX11_keeps_16 : decode cX11_keeps 16 = .ok (.bipush 20, 2) := by decide +kernel
theorem dX11_keeps_18 : decode cX11_keeps 18 = .ok (.irem, 1) := by decide +kernel
theorem dX11_keeps_19 : decode cX11_keeps 19 = .ok (.putfield 156, 3) := by decide +kernel
theorem dX11_keeps_22 : decode cX11_keeps 22 = .ok (.aload_n 0, 1) := by decide +kernel
theorem dX11_keeps_23 : decode cX11_keeps 23 = .ok (.dup, 1) := by decide +kernel
theorem dX11_keeps_24 : decode cX11_keeps 24 = .ok (.getfield 159, 3) := by decide +kernel
theorem dX11_keeps_27 : decode cX11_keeps 27 = .ok (.iconst 1, 1) := by decide +kernel
theorem dX11_keeps_28 : decode cX11_keeps 28 = .ok (.isub, 1) := by decide +kernel
theorem dX11_keeps_29 : decode cX11_keeps 29 = .ok (.putfield 159, 3) := by decide +kernel
theorem dX11_keeps_32 : decode cX11_keeps 32 = .ok (.aload_n 0, 1) := by decide +kernel
theorem dX11_keeps_33 : decode cX11_keeps 33 = .ok (.aload_n 0, 1) := by decide +kernel
theorem dX11_keeps_34 : decode cX11_keeps 34 = .ok (.aload_n 0, 1) := by decide +kernel
theorem dX11_keeps_35 : decode cX11_keeps 35 = .ok (.getfield 159, 3) := by decide +kernel
theorem dX11_keeps_38 : decode cX11_keeps 38 = .ok (.invokevirtual 386, 3) := by decide +kernel
theorem dX11_keeps_41 : decode cX11_keeps 41 = .ok (.iconst 0, 1) := by decide +kernel
theorem dX11_keeps_42 : decode cX11_keeps 42 = .ok (.invokevirtual 389, 3) := by decide +kernel
theorem dX11_keeps_45 : decode cX11_keeps 45 = .ok (.aload_n 0, 1) := by decide +kernel
theorem dX11_keeps_46 : decode cX11_keeps 46 = .ok (.dup, 1) := by decide +kernel
theorem dX11_keeps_47 : decode cX11_keeps 47 = .ok (.getfield 159, 3) := by decide +kernel
theorem dX11_keeps_50 : decode cX11_keeps 50 = .ok (.iconst 1, 1) := by decide +kernel
theorem dX11_keeps_51 : decode cX11_keeps 51 = .ok (.iadd, 1) := by decide +kernel
theorem dX11_keeps_52 : decode cX11_keeps 52 = .ok (.putfield 159, 3) := by decide +kernel
theorem dX11_keeps_55 : decode cX11_keeps 55 = .ok (.return_, 1) := by decide +kernel
theorem dX11_undo_0 : decode cX11_undo 0 = .ok (.aload_n 0, 1) := by decide +kernel
theorem dX11_undo_1 : decode cX11_undo 1 = .ok (.getfield 159, 3) := by decide +kernel
theorem dX11_undo_4 : decode cX11_undo 4 = .ok (.ifCond .ne 17, 3) := by decide +kernel
theorem dX11_undo_7 : decode cX11_undo 7 = .ok (.aload_n 0, 1) := by decide +kernel
theorem dX11_undo_8 : decode cX11_undo 8 = .ok (.iconst 4, 1) := by decide +kernel
theorem dX11_undo_9 : decode cX11_undo 9 = .ok (.invokevirtual 214, 3) := by decide +kernel
theorem dX11_undo_12 : decode cX11_undo 12 = .ok (.ifCond .lt 7, 3) := by decide +kernel
theorem dX11_undo_15 : decode cX11_undo 15 = .ok (.iconst 1, 1) := by decide +kernel
theorem dX11_undo_16 : decode cX11_undo 16 = .ok (.goto 4, 3) := by decide +kernel
theorem dX11_undo_19 : decode cX11_undo 19 = .ok (.iconst 0, 1) := by decide +kernel
theorem dX11_undo_20 : decode cX11_undo 20 = .ok (.ireturn, 1) := by decide +kernel
theorem dX11_undo_21 : decode cX11_undo 21 = .ok (.aload_n 0, 1) := by decide +kernel
theorem dX11_undo_22 : decode cX11_undo 22 = .ok (.dup, 1) := by decide +kernel
theorem dX11_undo_23 : decode cX11_undo 23 = .ok (.getfield 159, 3) := by decide +kernel
theorem dX11_undo_26 : decode cX11_undo 26 = .ok (.iconst 1, 1) := by decide +kernel
theorem dX11_undo_27 : decode cX11_undo 27 = .ok (.isub, 1) := by decide +kernel
theorem dX11_undo_28 : decode cX11_undo 28 = .ok (.putfield 159, 3) := by decide +kernel
theorem dX11_undo_31 : decode cX11_undo 31 = .ok (.aload_n 0, 1) := by decide +kernel
theorem dX11_undo_32 : decode cX11_undo 32 = .ok (.iconst 0, 1) := by decide +kernel
theorem dX11_undo_33 : decode cX11_undo 33 = .ok (.aload_n 0, 1) := by decide +kernel
theorem dX11_undo_34 : decode cX11_undo 34 = .ok (.aload_n 0, 1) := by decide +kernel
theorem dX11_undo_35 : decode cX11_undo 35 = .ok (.getfield 159, 3) := by decide +kernel
theorem dX11_undo_38 : decode cX11_undo 38 = .ok (.invokevirtual 386, 3) := by decide +kernel
theorem dX11_undo_41 : decode cX11_undo 41 = .ok (.invokevirtual 389, 3) := by decide +kernel
theorem dX11_undo_44 : decode cX11_undo 44 = .ok (.iconst 1, 1) := by decide +kernel
theorem dX11_undo_45 : decode cX11_undo 45 = .ok (.ireturn, 1) := by decide +kernel
theorem dX11_held_0 : decode cX11_held 0 = .ok (.lload_n 0, 1) := by decide +kernel
theorem dX11_held_1 : decode cX11_held 1 = .ok (.ldc2_w 392, 3) := by decide +kernel
theorem dX11_held_4 : decode cX11_held 4 = .ok (.lcmp, 1) := by decide +kernel
theorem dX11_held_5 : decode cX11_held 5 = .ok (.ifCond .le 9, 3) := by decide +kernel
theorem dX11_held_8 : decode cX11_held 8 = .ok (.ldc2_w 392, 3) := by decide +kernel
theorem dX11_held_11 : decode cX11_held 11 = .ok (.goto 18, 3) := by decide +kernel
theorem dX11_held_14 : decode cX11_held 14 = .ok (.lload_n 0, 1) := by decide +kernel
theorem dX11_held_15 : decode cX11_held 15 = .ok (.ldc2_w 394, 3) := by decide +kernel
theorem dX11_held_18 : decode cX11_held 18 = .ok (.lcmp, 1) := by decide +kernel
theorem dX11_held_19 : decode cX11_held 19 = .ok (.ifCond .ge 9, 3) := by decide +kernel
theorem dX11_held_22 : decode cX11_held 22 = .ok (.ldc2_w 394, 3) := by decide +kernel
theorem dX11_held_25 : decode cX11_held 25 = .ok (.goto 4, 3) := by decide +kernel
theorem dX11_held_28 : decode cX11_held 28 = .ok (.lload_n 0, 1) := by decide +kernel
theorem dX11_held_29 : decode cX11_held 29 = .ok (.lreturn, 1) := by decide +kernel
theorem dX11_floor_0 : decode cX11_floor 0 = .ok (.lload_n 2, 1) := by decide +kernel
theorem dX11_floor_1 : decode cX11_floor 1 = .ok (.lconst 0, 1) := by decide +kernel
theorem dX11_floor_2 : decode cX11_floor 2 = .ok (.lcmp, 1) := by decide +kernel
theorem dX11_floor_3 : decode cX11_floor 3 = .ok (.ifCond .ne 5, 3) := by decide +kernel
theorem dX11_floor_6 : decode cX11_floor 6 = .ok (.lconst 0, 1) := by decide +kernel
theorem dX11_floor_7 : decode cX11_floor 7 = .ok (.lreturn, 1) := by decide +kernel
theorem dX11_floor_8 : decode cX11_floor 8 = .ok (.lload_n 0, 1) := by decide +kernel
theorem dX11_floor_9 : decode cX11_floor 9 = .ok (.lload_n 2, 1) := by decide +kernel
theorem dX11_floor_10 : decode cX11_floor 10 = .ok (.ldiv, 1) := by decide +kernel
theorem dX11_floor_11 : decode cX11_floor 11 = .ok (.lstore 4, 2) := by decide +kernel
theorem dX11_floor_13 : decode cX11_floor 13 = .ok (.lload_n 0, 1) := by decide +kernel
theorem dX11_floor_14 : decode cX11_floor 14 = .ok (.lload_n 2, 1) := by decide +kernel
theorem dX11_floor_15 : decode cX11_floor 15 = .ok (.lrem, 1) := by decide +kernel
theorem dX11_floor_16 : decode cX11_floor 16 = .ok (.lconst 0, 1) := by decide +kernel
theorem dX11_floor_17 : decode cX11_floor 17 = .ok (.lcmp, 1) := by decide +kernel
theorem dX11_floor_18 : decode cX11_floor 18 = .ok (.ifCond .eq 35, 3) := by decide +kernel
theorem dX11_floor_21 : decode cX11_floor 21 = .ok (.lload_n 0, 1) := by decide +kernel
theorem dX11_floor_22 : decode cX11_floor 22 = .ok (.lconst 0, 1) := by decide +kernel
theorem dX11_floor_23 : decode cX11_floor 23 = .ok (.lcmp, 1) := by decide +kernel
theorem dX11_floor_24 : decode cX11_floor 24 = .ok (.ifCond .ge 7, 3) := by decide +kernel
theorem dX11_floor_27 : decode cX11_floor 27 = .ok (.iconst 1, 1) := by decide +kernel
theorem dX11_floor_28 : decode cX11_floor 28 = .ok (.goto 4, 3) := by decide +kernel
theorem dX11_floor_31 : decode cX11_floor 31 = .ok (.iconst 0, 1) := by decide +kernel
theorem dX11_floor_32 : decode cX11_floor 32 = .ok (.lload_n 2, 1) := by decide +kernel
theorem dX11_floor_33 : decode cX11_floor 33 = .ok (.lconst 0, 1) := by decide +kernel
theorem dX11_floor_34 : decode cX11_floor 34 = .ok (.lcmp, 1) := by decide +kernel
theorem dX11_floor_35 : decode cX11_floor 35 = .ok (.ifCond .ge 7, 3) := by decide +kernel
theorem dX11_floor_38 : decode cX11_floor 38 = .ok (.iconst 1, 1) := by decide +kernel
theorem dX11_floor_39 : decode cX11_floor 39 = .ok (.goto 4, 3) := by decide +kernel
theorem dX11_floor_42 : decode cX11_floor 42 = .ok (.iconst 0, 1) := by decide +kernel
theorem dX11_floor_43 : decode cX11_floor 43 = .ok (.if_icmp .eq 10, 3) := by decide +kernel
theorem dX11_floor_46 : decode cX11_floor 46 = .ok (.lload 4, 2) := by decide +kernel
theorem dX11_floor_48 : decode cX11_floor 48 = .ok (.lconst 1, 1) := by decide +kernel
theorem dX11_floor_49 : decode cX11_floor 49 = .ok (.lsub, 1) := by decide +kernel
theorem dX11_floor_50 : decode cX11_floor 50 = .ok (.goto 5, 3) := by decide +kernel
theorem dX11_floor_53 : decode cX11_floor 53 = .ok (.lload 4, 2) := by decide +kernel
theorem dX11_floor_55 : decode cX11_floor 55 = .ok (.lreturn, 1) := by decide +kernel
theorem dX11_two_0 : decode cX11_two 0 = .ok (.iload_n 0, 1) := by decide +kernel
theorem dX11_two_1 : decode cX11_two 1 = .ok (.tableswitch 176 31 41 #[59, 66, 73, 80, 89, 112, 124, 136, 148, 160, 172], 59) := by decide +kernel
theorem dX11_two_60 : decode cX11_two 60 = .ok (.lload_n 1, 1) := by decide +kernel
theorem dX11_two_61 : decode cX11_two 61 = .ok (.lload_n 3, 1) := by decide +kernel
theorem dX11_two_62 : decode cX11_two 62 = .ok (.ladd, 1) := by decide +kernel
theorem dX11_two_63 : decode cX11_two 63 = .ok (.invokestatic 396, 3) := by decide +kernel
theorem dX11_two_66 : decode cX11_two 66 = .ok (.lreturn, 1) := by decide +kernel
theorem dX11_two_67 : decode cX11_two 67 = .ok (.lload_n 1, 1) := by decide +kernel
theorem dX11_two_68 : decode cX11_two 68 = .ok (.lload_n 3, 1) := by decide +kernel
theorem dX11_two_69 : decode cX11_two 69 = .ok (.lsub, 1) := by decide +kernel
theorem dX11_two_70 : decode cX11_two 70 = .ok (.invokestatic 396, 3) := by decide +kernel
theorem dX11_two_73 : decode cX11_two 73 = .ok (.lreturn, 1) := by decide +kernel
theorem dX11_two_74 : decode cX11_two 74 = .ok (.lload_n 1, 1) := by decide +kernel
theorem dX11_two_75 : decode cX11_two 75 = .ok (.lload_n 3, 1) := by decide +kernel
theorem dX11_two_76 : decode cX11_two 76 = .ok (.lmul, 1) := by decide +kernel
theorem dX11_two_77 : decode cX11_two 77 = .ok (.invokestatic 396, 3) := by decide +kernel
theorem dX11_two_80 : decode cX11_two 80 = .ok (.lreturn, 1) := by decide +kernel
theorem dX11_two_81 : decode cX11_two 81 = .ok (.lload_n 1, 1) := by decide +kernel
theorem dX11_two_82 : decode cX11_two 82 = .ok (.lload_n 3, 1) := by decide +kernel
theorem dX11_two_83 : decode cX11_two 83 = .ok (.invokestatic 400, 3) := by decide +kernel
theorem dX11_two_86 : decode cX11_two 86 = .ok (.invokestatic 396, 3) := by decide +kernel
theorem dX11_two_89 : decode cX11_two 89 = .ok (.lreturn, 1) := by decide +kernel
theorem dX11_two_90 : decode cX11_two 90 = .ok (.lload_n 3, 1) := by decide +kernel
theorem dX11_two_91 : decode cX11_two 91 = .ok (.lconst 0, 1) := by decide +kernel
theorem dX11_two_92 : decode cX11_two 92 = .ok (.lcmp, 1) := by decide +kernel
theorem dX11_two_93 : decode cX11_two 93 = .ok (.ifCond .ne 7, 3) := by decide +kernel
theorem dX11_two_96 : decode cX11_two 96 = .ok (.lconst 0, 1) := by decide +kernel
theorem dX11_two_97 : decode cX11_two 97 = .ok (.goto 15, 3) := by decide +kernel
theorem dX11_two_100 : decode cX11_two 100 = .ok (.lload_n 1, 1) := by decide +kernel
theorem dX11_two_101 : decode cX11_two 101 = .ok (.lload_n 3, 1) := by decide +kernel
theorem dX11_two_102 : decode cX11_two 102 = .ok (.lload_n 1, 1) := by decide +kernel
theorem dX11_two_103 : decode cX11_two 103 = .ok (.lload_n 3, 1) := by decide +kernel
theorem dX11_two_104 : decode cX11_two 104 = .ok (.invokestatic 400, 3) := by decide +kernel
theorem dX11_two_107 : decode cX11_two 107 = .ok (.lmul, 1) := by decide +kernel
theorem dX11_two_108 : decode cX11_two 108 = .ok (.lsub, 1) := by decide +kernel
theorem dX11_two_109 : decode cX11_two 109 = .ok (.invokestatic 396, 3) := by decide +kernel
theorem dX11_two_112 : decode cX11_two 112 = .ok (.lreturn, 1) := by decide +kernel
theorem dX11_two_113 : decode cX11_two 113 = .ok (.lload_n 1, 1) := by decide +kernel
theorem dX11_two_114 : decode cX11_two 114 = .ok (.lload_n 3, 1) := by decide +kernel
theorem dX11_two_115 : decode cX11_two 115 = .ok (.lcmp, 1) := by decide +kernel
theorem dX11_two_116 : decode cX11_two 116 = .ok (.ifCond .ge 7, 3) := by decide +kernel
theorem dX11_two_119 : decode cX11_two 119 = .ok (.lload_n 1, 1) := by decide +kernel
theorem dX11_two_120 : decode cX11_two 120 = .ok (.goto 4, 3) := by decide +kernel
theorem dX11_two_123 : decode cX11_two 123 = .ok (.lload_n 3, 1) := by decide +kernel
theorem dX11_two_124 : decode cX11_two 124 = .ok (.lreturn, 1) := by decide +kernel
theorem dX11_two_125 : decode cX11_two 125 = .ok (.lload_n 1, 1) := by decide +kernel
theorem dX11_two_126 : decode cX11_two 126 = .ok (.lload_n 3, 1) := by decide +kernel
theorem dX11_two_127 : decode cX11_two 127 = .ok (.lcmp, 1) := by decide +kernel
theorem dX11_two_128 : decode cX11_two 128 = .ok (.ifCond .le 7, 3) := by decide +kernel
theorem dX11_two_131 : decode cX11_two 131 = .ok (.lload_n 1, 1) := by decide +kernel
theorem dX11_two_132 : decode cX11_two 132 = .ok (.goto 4, 3) := by decide +kernel
theorem dX11_two_135 : decode cX11_two 135 = .ok (.lload_n 3, 1) := by decide +kernel
theorem dX11_two_136 : decode cX11_two 136 = .ok (.lreturn, 1) := by decide +kernel
theorem dX11_two_137 : decode cX11_two 137 = .ok (.lload_n 1, 1) := by decide +kernel
theorem dX11_two_138 : decode cX11_two 138 = .ok (.lload_n 3, 1) := by decide +kernel
theorem dX11_two_139 : decode cX11_two 139 = .ok (.lcmp, 1) := by decide +kernel
theorem dX11_two_140 : decode cX11_two 140 = .ok (.ifCond .ge 7, 3) := by decide +kernel
theorem dX11_two_143 : decode cX11_two 143 = .ok (.lconst 1, 1) := by decide +kernel
theorem dX11_two_144 : decode cX11_two 144 = .ok (.goto 4, 3) := by decide +kernel
theorem dX11_two_147 : decode cX11_two 147 = .ok (.lconst 0, 1) := by decide +kernel
theorem dX11_two_148 : decode cX11_two 148 = .ok (.lreturn, 1) := by decide +kernel
theorem dX11_two_149 : decode cX11_two 149 = .ok (.lload_n 1, 1) := by decide +kernel
theorem dX11_two_150 : decode cX11_two 150 = .ok (.lload_n 3, 1) := by decide +kernel
theorem dX11_two_151 : decode cX11_two 151 = .ok (.lcmp, 1) := by decide +kernel
theorem dX11_two_152 : decode cX11_two 152 = .ok (.ifCond .le 7, 3) := by decide +kernel
theorem dX11_two_155 : decode cX11_two 155 = .ok (.lconst 1, 1) := by decide +kernel
theorem dX11_two_156 : decode cX11_two 156 = .ok (.goto 4, 3) := by decide +kernel
theorem dX11_two_159 : decode cX11_two 159 = .ok (.lconst 0, 1) := by decide +kernel
theorem dX11_two_160 : decode cX11_two 160 = .ok (.lreturn, 1) := by decide +kernel
theorem dX11_two_161 : decode cX11_two 161 = .ok (.lload_n 1, 1) := by decide +kernel
theorem dX11_two_162 : decode cX11_two 162 = .ok (.lload_n 3, 1) := by decide +kernel
theorem dX11_two_163 : decode cX11_two 163 = .ok (.lcmp, 1) := by decide +kernel
theorem dX11_two_164 : decode cX11_two 164 = .ok (.ifCond .ne 7, 3) := by decide +kernel
theorem dX11_two_167 : decode cX11_two 167 = .ok (.lconst 1, 1) := by decide +kernel
theorem dX11_two_168 : decode cX11_two 168 = .ok (.goto 4, 3) := by decide +kernel
theorem dX11_two_171 : decode cX11_two 171 = .ok (.lconst 0, 1) := by decide +kernel
theorem dX11_two_172 : decode cX11_two 172 = .ok (.lreturn, 1) := by decide +kernel
theorem dX11_two_173 : decode cX11_two 173 = .ok (.lload_n 1, 1) := by decide +kernel
theorem dX11_two_174 : decode cX11_two 174 = .ok (.lload_n 3, 1) := by decide +kernel
theorem dX11_two_175 : decode cX11_two 175 = .ok (.land, 1) := by decide +kernel
theorem dX11_two_176 : decode cX11_two 176 = .ok (.lreturn, 1) := by decide +kernel
theorem dX11_two_177 : decode cX11_two 177 = .ok (.lload_n 1, 1) := by decide +kernel
theorem dX11_two_178 : decode cX11_two 178 = .ok (.lload_n 3, 1) := by decide +kernel
theorem dX11_two_179 : decode cX11_two 179 = .ok (.lor, 1) := by decide +kernel
theorem dX11_two_180 : decode cX11_two 180 = .ok (.lreturn, 1) := by decide +kernel
theorem dX11_reckons_0 : decode cX11_reckons 0 = .ok (.iconst 0, 1) := by decide +kernel
theorem dX11_reckons_1 : decode cX11_reckons 1 = .ok (.istore_n 2, 1) := by decide +kernel
theorem dX11_reckons_2 : decode cX11_reckons 2 = .ok (.sipush 1600, 3) := by decide +kernel
theorem dX11_reckons_5 : decode cX11_reckons 5 = .ok (.aload_n 0, 1) := by decide +kernel
theorem dX11_reckons_6 : decode cX11_reckons 6 = .ok (.getfield 51, 3) := by decide +kernel
theorem dX11_reckons_9 : decode cX11_reckons 9 = .ok (.imul, 1) := by decide +kernel
theorem dX11_reckons_10 : decode cX11_reckons 10 = .ok (.aload_n 0, 1) := by decide +kernel
theorem dX11_reckons_11 : decode cX11_reckons 11 = .ok (.getfield 72, 3) := by decide +kernel
theorem dX11_reckons_14 : decode cX11_reckons 14 = .ok (.iconst 3, 1) := by decide +kernel
theorem dX11_reckons_15 : decode cX11_reckons 15 = .ok (.aload_n 0, 1) := by decide +kernel
theorem dX11_reckons_16 : decode cX11_reckons 16 = .ok (.getfield 51, 3) := by decide +kernel
theorem dX11_reckons_19 : decode cX11_reckons 19 = .ok (.imul, 1) := by decide +kernel
theorem dX11_reckons_20 : decode cX11_reckons 20 = .ok (.iload_n 1, 1) := by decide +kernel
theorem dX11_reckons_21 : decode cX11_reckons 21 = .ok (.iadd, 1) := by decide +kernel
theorem dX11_reckons_22 : decode cX11_reckons 22 = .ok (.iaload, 1) := by decide +kernel
theorem dX11_reckons_23 : decode cX11_reckons 23 = .ok (.iadd, 1) := by decide +kernel
theorem dX11_reckons_24 : decode cX11_reckons 24 = .ok (.istore_n 3, 1) := by decide +kernel
theorem dX11_reckons_25 : decode cX11_reckons 25 = .ok (.iload_n 3, 1) := by decide +kernel
theorem dX11_reckons_26 : decode cX11_reckons 26 = .ok (.sipush 1600, 3) := by decide +kernel
theorem dX11_reckons_29 : decode cX11_reckons 29 = .ok (.aload_n 0, 1) := by decide +kernel
theorem dX11_reckons_30 : decode cX11_reckons 30 = .ok (.getfield 51, 3) := by decide +kernel
theorem dX11_reckons_33 : decode cX11_reckons 33 = .ok (.imul, 1) := by decide +kernel
theorem dX11_reckons_34 : decode cX11_reckons 34 = .ok (.aload_n 0, 1) := by decide +kernel
theorem dX11_reckons_35 : decode cX11_reckons 35 = .ok (.getfield 75, 3) := by decide +kernel
theorem dX11_reckons_38 : decode cX11_reckons 38 = .ok (.iconst 3, 1) := by decide +kernel
theorem dX11_reckons_39 : decode cX11_reckons 39 = .ok (.aload_n 0, 1) := by decide +kernel
theorem dX11_reckons_40 : decode cX11_reckons 40 = .ok (.getfield 51, 3) := by decide +kernel
theorem dX11_reckons_43 : decode cX11_reckons 43 = .ok (.imul, 1) := by decide +kernel
theorem dX11_reckons_44 : decode cX11_reckons 44 = .ok (.iload_n 1, 1) := by decide +kernel
theorem dX11_reckons_45 : decode cX11_reckons 45 = .ok (.iadd, 1) := by decide +kernel
theorem dX11_reckons_46 : decode cX11_reckons 46 = .ok (.iaload, 1) := by decide +kernel
theorem dX11_reckons_47 : decode cX11_reckons 47 = .ok (.iadd, 1) := by decide +kernel
theorem dX11_reckons_48 : decode cX11_reckons 48 = .ok (.if_icmp .ge 179, 3) := by decide +kernel
theorem dX11_reckons_51 : decode cX11_reckons 51 = .ok (.aload_n 0, 1) := by decide +kernel
theorem dX11_reckons_52 : decode cX11_reckons 52 = .ok (.getfield 78, 3) := by decide +kernel
theorem dX11_reckons_55 : decode cX11_reckons 55 = .ok (.iload_n 3, 1) := by decide +kernel
theorem dX11_reckons_56 : decode cX11_reckons 56 = .ok (.iaload, 1) := by decide +kernel
theorem dX11_reckons_57 : decode cX11_reckons 57 = .ok (.istore 4, 2) := by decide +kernel
theorem dX11_reckons_59 : decode cX11_reckons 59 = .ok (.iload 4, 2) := by decide +kernel
theorem dX11_reckons_61 : decode cX11_reckons 61 = .ok (.bipush 30, 2) := by decide +kernel
theorem dX11_reckons_63 : decode cX11_reckons 63 = .ok (.if_icmp .gt 49, 3) := by decide +kernel
theorem dX11_reckons_66 : decode cX11_reckons 66 = .ok (.aload_n 0, 1) := by decide +kernel
theorem dX11_reckons_67 : decode cX11_reckons 67 = .ok (.getfield 165, 3) := by decide +kernel
theorem dX11_reckons_70 : decode cX11_reckons 70 = .ok (.iload_n 2, 1) := by decide +kernel
theorem dX11_reckons_71 : decode cX11_reckons 71 = .ok (.iload 4, 2) := by decide +kernel
theorem dX11_reckons_73 : decode cX11_reckons 73 = .ok (.ifCond .ne 13, 3) := by decide +kernel
theorem dX11_reckons_76 : decode cX11_reckons 76 = .ok (.aload_n 0, 1) := by decide +kernel
theorem dX11_reckons_77 : decode cX11_reckons 77 = .ok (.getfield 81, 3) := by decide +kernel
theorem dX11_reckons_80 : decode cX11_reckons 80 = .ok (.iload_n 3, 1) := by decide +kernel
theorem dX11_reckons_81 : decode cX11_reckons 81 = .ok (.iaload, 1) := by decide +kernel
theorem dX11_reckons_82 : decode cX11_reckons 82 = .ok (.i2l, 1) := by decide +kernel
theorem dX11_reckons_83 : decode cX11_reckons 83 = .ok (.goto 22, 3) := by decide +kernel
theorem dX11_reckons_86 : decode cX11_reckons 86 = .ok (.iload 4, 2) := by decide +kernel
theorem dX11_reckons_88 : decode cX11_reckons 88 = .ok (.bipush 30, 2) := by decide +kernel
theorem dX11_reckons_90 : decode cX11_reckons 90 = .ok (.if_icmp .ne 7, 3) := by decide +kernel
theorem dX11_reckons_93 : decode cX11_reckons 93 = .ok (.lconst 1, 1) := by decide +kernel
theorem dX11_reckons_94 : decode cX11_reckons 94 = .ok (.goto 11, 3) := by decide +kernel
theorem dX11_reckons_97 : decode cX11_reckons 97 = .ok (.aload_n 0, 1) := by decide +kernel
theorem dX11_reckons_98 : decode cX11_reckons 98 = .ok (.getfield 168, 3) := by decide +kernel
theorem dX11_reckons_101 : decode cX11_reckons 101 = .ok (.iload 4, 2) := by decide +kernel
theorem dX11_reckons_103 : decode cX11_reckons 103 = .ok (.iaload, 1) := by decide +kernel
theorem dX11_reckons_104 : decode cX11_reckons 104 = .ok (.i2l, 1) := by decide +kernel
theorem dX11_reckons_105 : decode cX11_reckons 105 = .ok (.lastore, 1) := by decide +kernel
theorem dX11_reckons_106 : decode cX11_reckons 106 = .ok (.iinc 2 1, 3) := by decide +kernel
theorem dX11_reckons_109 : decode cX11_reckons 109 = .ok (.goto 112, 3) := by decide +kernel
theorem dX11_reckons_112 : decode cX11_reckons 112 = .ok (.iload 4, 2) := by decide +kernel
theorem dX11_reckons_114 : decode cX11_reckons 114 = .ok (.bipush 43, 2) := by decide +kernel
theorem dX11_reckons_116 : decode cX11_reckons 116 = .ok (.if_icmp .ne 24, 3) := by decide +kernel
theorem dX11_reckons_119 : decode cX11_reckons 119 = .ok (.aload_n 0, 1) := by decide +kernel
theorem dX11_reckons_120 : decode cX11_reckons 120 = .ok (.getfield 165, 3) := by decide +kernel
theorem dX11_reckons_123 : decode cX11_reckons 123 = .ok (.iload_n 2, 1) := by decide +kernel
theorem dX11_reckons_124 : decode cX11_reckons 124 = .ok (.iconst 1, 1) := by decide +kernel
theorem dX11_reckons_125 : decode cX11_reckons 125 = .ok (.isub, 1) := by decide +kernel
theorem dX11_reckons_126 : decode cX11_reckons 126 = .ok (.lconst 1, 1) := by decide +kernel
theorem dX11_reckons_127 : decode cX11_reckons 127 = .ok (.aload_n 0, 1) := by decide +kernel
theorem dX11_reckons_128 : decode cX11_reckons 128 = .ok (.getfield 165, 3) := by decide +kernel
theorem dX11_reckons_131 : decode cX11_reckons 131 = .ok (.iload_n 2, 1) := by decide +kernel
theorem dX11_reckons_132 : decode cX11_reckons 132 = .ok (.iconst 1, 1) := by decide +kernel
theorem dX11_reckons_133 : decode cX11_reckons 133 = .ok (.isub, 1) := by decide +kernel
theorem dX11_reckons_134 : decode cX11_reckons 134 = .ok (.laload, 1) := by decide +kernel
theorem dX11_reckons_135 : decode cX11_reckons 135 = .ok (.lsub, 1) := by decide +kernel
theorem dX11_reckons_136 : decode cX11_reckons 136 = .ok (.lastore, 1) := by decide +kernel
theorem dX11_reckons_137 : decode cX11_reckons 137 = .ok (.goto 84, 3) := by decide +kernel
theorem dX11_reckons_140 : decode cX11_reckons 140 = .ok (.iload 4, 2) := by decide +kernel
theorem dX11_reckons_142 : decode cX11_reckons 142 = .ok (.bipush 44, 2) := by decide +kernel
theorem dX11_reckons_144 : decode cX11_reckons 144 = .ok (.if_icmp .ne 47, 3) := by decide +kernel
theorem dX11_reckons_147 : decode cX11_reckons 147 = .ok (.iinc 2 (-2), 3) := by decide +kernel
theorem dX11_reckons_150 : decode cX11_reckons 150 = .ok (.aload_n 0, 1) := by decide +kernel
theorem dX11_reckons_151 : decode cX11_reckons 151 = .ok (.getfield 165, 3) := by decide +kernel
theorem dX11_reckons_154 : decode cX11_reckons 154 = .ok (.iload_n 2, 1) := by decide +kernel
theorem dX11_reckons_155 : decode cX11_reckons 155 = .ok (.iconst 1, 1) := by decide +kernel
theorem dX11_reckons_156 : decode cX11_reckons 156 = .ok (.isub, 1) := by decide +kernel
theorem dX11_reckons_157 : decode cX11_reckons 157 = .ok (.aload_n 0, 1) := by decide +kernel
theorem dX11_reckons_158 : decode cX11_reckons 158 = .ok (.getfield 165, 3) := by decide +kernel
theorem dX11_reckons_161 : decode cX11_reckons 161 = .ok (.iload_n 2, 1) := by decide +kernel
theorem dX11_reckons_162 : decode cX11_reckons 162 = .ok (.iconst 1, 1) := by decide +kernel
theorem dX11_reckons_163 : decode cX11_reckons 163 = .ok (.isub, 1) := by decide +kernel
theorem dX11_reckons_164 : decode cX11_reckons 164 = .ok (.laload, 1) := by decide +kernel
theorem dX11_reckons_165 : decode cX11_reckons 165 = .ok (.lconst 1, 1) := by decide +kernel
theorem dX11_reckons_166 : decode cX11_reckons 166 = .ok (.lcmp, 1) := by decide +kernel
theorem dX11_reckons_167 : decode cX11_reckons 167 = .ok (.ifCond .ne 12, 3) := by decide +kernel
theorem dX11_reckons_170 : decode cX11_reckons 170 = .ok (.aload_n 0, 1) := by decide +kernel
theorem dX11_reckons_171 : decode cX11_reckons 171 = .ok (.getfield 165, 3) := by decide +kernel
theorem dX11_reckons_174 : decode cX11_reckons 174 = .ok (.iload_n 2, 1) := by decide +kernel
theorem dX11_reckons_175 : decode cX11_reckons 175 = .ok (.laload, 1) := by decide +kernel
theorem dX11_reckons_176 : decode cX11_reckons 176 = .ok (.goto 11, 3) := by decide +kernel
theorem dX11_reckons_179 : decode cX11_reckons 179 = .ok (.aload_n 0, 1) := by decide +kernel
theorem dX11_reckons_180 : decode cX11_reckons 180 = .ok (.getfield 165, 3) := by decide +kernel
theorem dX11_reckons_183 : decode cX11_reckons 183 = .ok (.iload_n 2, 1) := by decide +kernel
theorem dX11_reckons_184 : decode cX11_reckons 184 = .ok (.iconst 1, 1) := by decide +kernel
theorem dX11_reckons_185 : decode cX11_reckons 185 = .ok (.iadd, 1) := by decide +kernel
theorem dX11_reckons_186 : decode cX11_reckons 186 = .ok (.laload, 1) := by decide +kernel
theorem dX11_reckons_187 : decode cX11_reckons 187 = .ok (.lastore, 1) := by decide +kernel
theorem dX11_reckons_188 : decode cX11_reckons 188 = .ok (.goto 33, 3) := by decide +kernel
theorem dX11_reckons_191 : decode cX11_reckons 191 = .ok (.iinc 2 (-1), 3) := by decide +kernel
theorem dX11_reckons_194 : decode cX11_reckons 194 = .ok (.aload_n 0, 1) := by decide +kernel
theorem dX11_reckons_195 : decode cX11_reckons 195 = .ok (.getfield 165, 3) := by decide +kernel
theorem dX11_reckons_198 : decode cX11_reckons 198 = .ok (.iload_n 2, 1) := by decide +kernel
theorem dX11_reckons_199 : decode cX11_reckons 199 = .ok (.iconst 1, 1) := by decide +kernel
theorem dX11_reckons_200 : decode cX11_reckons 200 = .ok (.isub, 1) := by decide +kernel
theorem dX11_reckons_201 : decode cX11_reckons 201 = .ok (.iload 4, 2) := by decide +kernel
theorem dX11_reckons_203 : decode cX11_reckons 203 = .ok (.aload_n 0, 1) := by decide +kernel
theorem dX11_reckons_204 : decode cX11_reckons 204 = .ok (.getfield 165, 3) := by decide +kernel
theorem dX11_reckons_207 : decode cX11_reckons 207 = .ok (.iload_n 2, 1) := by decide +kernel
theorem dX11_reckons_208 : decode cX11_reckons 208 = .ok (.iconst 1, 1) := by decide +kernel
theorem dX11_reckons_209 : decode cX11_reckons 209 = .ok (.isub, 1) := by decide +kernel
theorem dX11_reckons_210 : decode cX11_reckons 210 = .ok (.laload, 1) := by decide +kernel
theorem dX11_reckons_211 : decode cX11_reckons 211 = .ok (.aload_n 0, 1) := by decide +kernel
theorem dX11_reckons_212 : decode cX11_reckons 212 = .ok (.getfield 165, 3) := by decide +kernel
theorem dX11_reckons_215 : decode cX11_reckons 215 = .ok (.iload_n 2, 1) := by decide +kernel
theorem dX11_reckons_216 : decode cX11_reckons 216 = .ok (.laload, 1) := by decide +kernel
theorem dX11_reckons_217 : decode cX11_reckons 217 = .ok (.invokestatic 404, 3) := by decide +kernel
theorem dX11_reckons_220 : decode cX11_reckons 220 = .ok (.lastore, 1) := by decide +kernel
theorem dX11_reckons_221 : decode cX11_reckons 221 = .ok (.iinc 3 1, 3) := by decide +kernel
theorem dX11_reckons_224 : decode cX11_reckons 224 = .ok (.goto (-199), 3) := by decide +kernel
theorem dX11_reckons_227 : decode cX11_reckons 227 = .ok (.aload_n 0, 1) := by decide +kernel
theorem dX11_reckons_228 : decode cX11_reckons 228 = .ok (.getfield 165, 3) := by decide +kernel
theorem dX11_reckons_231 : decode cX11_reckons 231 = .ok (.iconst 0, 1) := by decide +kernel
theorem dX11_reckons_232 : decode cX11_reckons 232 = .ok (.laload, 1) := by decide +kernel
theorem dX11_reckons_233 : decode cX11_reckons 233 = .ok (.lreturn, 1) := by decide +kernel
theorem dX11_isTold_0 : decode cX11_isTold 0 = .ok (.aload_n 0, 1) := by decide +kernel
theorem dX11_isTold_1 : decode cX11_isTold 1 = .ok (.getfield 72, 3) := by decide +kernel
theorem dX11_isTold_4 : decode cX11_isTold 4 = .ok (.iconst 3, 1) := by decide +kernel
theorem dX11_isTold_5 : decode cX11_isTold 5 = .ok (.aload_n 0, 1) := by decide +kernel
theorem dX11_isTold_6 : decode cX11_isTold 6 = .ok (.getfield 51, 3) := by decide +kernel
theorem dX11_isTold_9 : decode cX11_isTold 9 = .ok (.imul, 1) := by decide +kernel
theorem dX11_isTold_10 : decode cX11_isTold 10 = .ok (.iload_n 1, 1) := by decide +kernel
theorem dX11_isTold_11 : decode cX11_isTold 11 = .ok (.iadd, 1) := by decide +kernel
theorem dX11_isTold_12 : decode cX11_isTold 12 = .ok (.iaload, 1) := by decide +kernel
theorem dX11_isTold_13 : decode cX11_isTold 13 = .ok (.iconst (-1), 1) := by decide +kernel
theorem dX11_isTold_14 : decode cX11_isTold 14 = .ok (.if_icmp .eq 7, 3) := by decide +kernel
theorem dX11_isTold_17 : decode cX11_isTold 17 = .ok (.iconst 1, 1) := by decide +kernel
theorem dX11_isTold_18 : decode cX11_isTold 18 = .ok (.goto 4, 3) := by decide +kernel
theorem dX11_isTold_21 : decode cX11_isTold 21 = .ok (.iconst 0, 1) := by decide +kernel
theorem dX11_isTold_22 : decode cX11_isTold 22 = .ok (.ireturn, 1) := by decide +kernel
theorem dX11_wayBy_0 : decode cX11_wayBy 0 = .ok (.aload_n 0, 1) := by decide +kernel
theorem dX11_wayBy_1 : decode cX11_wayBy 1 = .ok (.getfield 63, 3) := by decide +kernel
theorem dX11_wayBy_4 : decode cX11_wayBy 4 = .ok (.aload_n 0, 1) := by decide +kernel
theorem dX11_wayBy_5 : decode cX11_wayBy 5 = .ok (.aload_n 0, 1) := by decide +kernel
theorem dX11_wayBy_6 : decode cX11_wayBy 6 = .ok (.getfield 51, 3) := by decide +kernel
theorem dX11_wayBy_9 : decode cX11_wayBy 9 = .ok (.iload_n 1, 1) := by decide +kernel
theorem dX11_wayBy_10 : decode cX11_wayBy 10 = .ok (.iload_n 2, 1) := by decide +kernel
theorem dX11_wayBy_11 : decode cX11_wayBy 11 = .ok (.invokevirtual 344, 3) := by decide +kernel
theorem dX11_wayBy_14 : decode cX11_wayBy 14 = .ok (.iaload, 1) := by decide +kernel
theorem dX11_wayBy_15 : decode cX11_wayBy 15 = .ok (.ireturn, 1) := by decide +kernel
theorem dX11_isWay_0 : decode cX11_isWay 0 = .ok (.iload_n 1, 1) := by decide +kernel
theorem dX11_isWay_1 : decode cX11_isWay 1 = .ok (.iload_n 2, 1) := by decide +kernel
theorem dX11_isWay_2 : decode cX11_isWay 2 = .ok (.if_icmp .eq 19, 3) := by decide +kernel
theorem dX11_isWay_5 : decode cX11_isWay 5 = .ok (.aload_n 0, 1) := by decide +kernel
theorem dX11_isWay_6 : decode cX11_isWay 6 = .ok (.iload_n 1, 1) := by decide +kernel
theorem dX11_isWay_7 : decode cX11_isWay 7 = .ok (.iload_n 2, 1) := by decide +kernel
theorem dX11_isWay_8 : decode cX11_isWay 8 = .ok (.invokevirtual 408, 3) := by decide +kernel
theorem dX11_isWay_11 : decode cX11_isWay 11 = .ok (.ldc_w 373, 3) := by decide +kernel
theorem dX11_isWay_14 : decode cX11_isWay 14 = .ok (.if_icmp .ge 7, 3) := by decide +kernel
theorem dX11_isWay_17 : decode cX11_isWay 17 = .ok (.iconst 1, 1) := by decide +kernel
theorem dX11_isWay_18 : decode cX11_isWay 18 = .ok (.goto 4, 3) := by decide +kernel
theorem dX11_isWay_21 : decode cX11_isWay 21 = .ok (.iconst 0, 1) := by decide +kernel
theorem dX11_isWay_22 : decode cX11_isWay 22 = .ok (.ireturn, 1) := by decide +kernel
theorem dX11_tells_0 : decode cX11_tells 0 = .ok (.aload_n 0, 1) := by decide +kernel
theorem dX11_tells_1 : decode cX11_tells 1 = .ok (.iload_n 1, 1) := by decide +kernel
theorem dX11_tells_2 : decode cX11_tells 2 = .ok (.iload_n 2, 1) := by decide +kernel
theorem dX11_tells_3 : decode cX11_tells 3 = .ok (.iload_n 3, 1) := by decide +kernel
theorem dX11_tells_4 : decode cX11_tells 4 = .ok (.invokevirtual 344, 3) := by decide +kernel
theorem dX11_tells_7 : decode cX11_tells 7 = .ok (.istore 4, 2) := by decide +kernel
theorem dX11_tells_9 : decode cX11_tells 9 = .ok (.aload_n 0, 1) := by decide +kernel
theorem dX11_tells_10 : decode cX11_tells 10 = .ok (.getfield 168, 3) := by decide +kernel
theorem dX11_tells_13 : decode cX11_tells 13 = .ok (.iconst 1, 1) := by decide +kernel
theorem dX11_tells_14 : decode cX11_tells 14 = .ok (.aload_n 0, 1) := by decide +kernel
theorem dX11_tells_15 : decode cX11_tells 15 = .ok (.getfield 135, 3) := by decide +kernel
theorem dX11_tells_18 : decode cX11_tells 18 = .ok (.iload 4, 2) := by decide +kernel
theorem dX11_tells_20 : decode cX11_tells 20 = .ok (.iaload, 1) := by decide +kernel
theorem dX11_tells_21 : decode cX11_tells 21 = .ok (.iastore, 1) := by decide +kernel
theorem dX11_tells_22 : decode cX11_tells 22 = .ok (.aload_n 0, 1) := by decide +kernel
theorem dX11_tells_23 : decode cX11_tells 23 = .ok (.getfield 168, 3) := by decide +kernel
theorem dX11_tells_26 : decode cX11_tells 26 = .ok (.iconst 2, 1) := by decide +kernel
theorem dX11_tells_27 : decode cX11_tells 27 = .ok (.aload_n 0, 1) := by decide +kernel
theorem dX11_tells_28 : decode cX11_tells 28 = .ok (.iload_n 2, 1) := by decide +kernel
theorem dX11_tells_29 : decode cX11_tells 29 = .ok (.iload_n 3, 1) := by decide +kernel
theorem dX11_tells_30 : decode cX11_tells 30 = .ok (.invokevirtual 411, 3) := by decide +kernel
theorem dX11_tells_33 : decode cX11_tells 33 = .ok (.ifCond .eq 12, 3) := by decide +kernel
theorem dX11_tells_36 : decode cX11_tells 36 = .ok (.aload_n 0, 1) := by decide +kernel
theorem dX11_tells_37 : decode cX11_tells 37 = .ok (.iload_n 2, 1) := by decide +kernel
theorem dX11_tells_38 : decode cX11_tells 38 = .ok (.iload_n 3, 1) := by decide +kernel
theorem dX11_tells_39 : decode cX11_tells 39 = .ok (.invokevirtual 408, 3) := by decide +kernel
theorem dX11_tells_42 : decode cX11_tells 42 = .ok (.goto 5, 3) := by decide +kernel
theorem dX11_tells_45 : decode cX11_tells 45 = .ok (.bipush 99, 2) := by decide +kernel
theorem dX11_tells_47 : decode cX11_tells 47 = .ok (.iastore, 1) := by decide +kernel
theorem dX11_tells_48 : decode cX11_tells 48 = .ok (.aload_n 0, 1) := by decide +kernel
theorem dX11_tells_49 : decode cX11_tells 49 = .ok (.getfield 168, 3) := by decide +kernel
theorem dX11_tells_52 : decode cX11_tells 52 = .ok (.iconst 3, 1) := by decide +kernel
theorem dX11_tells_53 : decode cX11_tells 53 = .ok (.aload_n 0, 1) := by decide +kernel
theorem dX11_tells_54 : decode cX11_tells 54 = .ok (.getfield 132, 3) := by decide +kernel
theorem dX11_tells_57 : decode cX11_tells 57 = .ok (.iload_n 1, 1) := by decide +kernel
theorem dX11_tells_58 : decode cX11_tells 58 = .ok (.iaload, 1) := by decide +kernel
theorem dX11_tells_59 : decode cX11_tells 59 = .ok (.iastore, 1) := by decide +kernel
theorem dX11_tells_60 : decode cX11_tells 60 = .ok (.aload_n 0, 1) := by decide +kernel
theorem dX11_tells_61 : decode cX11_tells 61 = .ok (.getfield 168, 3) := by decide +kernel
theorem dX11_tells_64 : decode cX11_tells 64 = .ok (.iconst 4, 1) := by decide +kernel
theorem dX11_tells_65 : decode cX11_tells 65 = .ok (.aload_n 0, 1) := by decide +kernel
theorem dX11_tells_66 : decode cX11_tells 66 = .ok (.getfield 138, 3) := by decide +kernel
theorem dX11_tells_69 : decode cX11_tells 69 = .ok (.iload 4, 2) := by decide +kernel
theorem dX11_tells_71 : decode cX11_tells 71 = .ok (.iaload, 1) := by decide +kernel
theorem dX11_tells_72 : decode cX11_tells 72 = .ok (.iastore, 1) := by decide +kernel
theorem dX11_tells_73 : decode cX11_tells 73 = .ok (.aload_n 0, 1) := by decide +kernel
theorem dX11_tells_74 : decode cX11_tells 74 = .ok (.getfield 168, 3) := by decide +kernel
theorem dX11_tells_77 : decode cX11_tells 77 = .ok (.iconst 5, 1) := by decide +kernel
theorem dX11_tells_78 : decode cX11_tells 78 = .ok (.aload_n 0, 1) := by decide +kernel
theorem dX11_tells_79 : decode cX11_tells 79 = .ok (.getfield 141, 3) := by decide +kernel
theorem dX11_tells_82 : decode cX11_tells 82 = .ok (.iload 4, 2) := by decide +kernel
theorem dX11_tells_84 : decode cX11_tells 84 = .ok (.iaload, 1) := by decide +kernel
theorem dX11_tells_85 : decode cX11_tells 85 = .ok (.iastore, 1) := by decide +kernel
theorem dX11_tells_86 : decode cX11_tells 86 = .ok (.return_, 1) := by decide +kernel
theorem dX11_nextOf_0 : decode cX11_nextOf 0 = .ok (.aload_n 0, 1) := by decide +kernel
theorem dX11_nextOf_1 : decode cX11_nextOf 1 = .ok (.getfield 144, 3) := by decide +kernel
theorem dX11_nextOf_4 : decode cX11_nextOf 4 = .ok (.iload_n 1, 1) := by decide +kernel
theorem dX11_nextOf_5 : decode cX11_nextOf 5 = .ok (.iaload, 1) := by decide +kernel
theorem dX11_nextOf_6 : decode cX11_nextOf 6 = .ok (.bipush 60, 2) := by decide +kernel
theorem dX11_nextOf_8 : decode cX11_nextOf 8 = .ok (.if_icmp .ne 5, 3) := by decide +kernel
theorem dX11_nextOf_11 : decode cX11_nextOf 11 = .ok (.iconst (-1), 1) := by decide +kernel
theorem dX11_nextOf_12 : decode cX11_nextOf 12 = .ok (.ireturn, 1) := by decide +kernel
theorem dX11_nextOf_13 : decode cX11_nextOf 13 = .ok (.iconst (-1), 1) := by decide +kernel
theorem dX11_nextOf_14 : decode cX11_nextOf 14 = .ok (.istore_n 3, 1) := by decide +kernel
theorem dX11_nextOf_15 : decode cX11_nextOf 15 = .ok (.lconst 0, 1) := by decide +kernel
theorem dX11_nextOf_16 : decode cX11_nextOf 16 = .ok (.lstore 4, 2) := by decide +kernel
theorem dX11_nextOf_18 : decode cX11_nextOf 18 = .ok (.iconst 0, 1) := by decide +kernel
theorem dX11_nextOf_19 : decode cX11_nextOf 19 = .ok (.istore 6, 2) := by decide +kernel
theorem dX11_nextOf_21 : decode cX11_nextOf 21 = .ok (.iload 6, 2) := by decide +kernel
theorem dX11_nextOf_23 : decode cX11_nextOf 23 = .ok (.aload_n 0, 1) := by decide +kernel
theorem dX11_nextOf_24 : decode cX11_nextOf 24 = .ok (.getfield 54, 3) := by decide +kernel
theorem dX11_nextOf_27 : decode cX11_nextOf 27 = .ok (.aload_n 0, 1) := by decide +kernel
theorem dX11_nextOf_28 : decode cX11_nextOf 28 = .ok (.getfield 51, 3) := by decide +kernel
theorem dX11_nextOf_31 : decode cX11_nextOf 31 = .ok (.iaload, 1) := by decide +kernel
theorem dX11_nextOf_32 : decode cX11_nextOf 32 = .ok (.if_icmp .ge 109, 3) := by decide +kernel
theorem dX11_nextOf_35 : decode cX11_nextOf 35 = .ok (.aload_n 0, 1) := by decide +kernel
theorem dX11_nextOf_36 : decode cX11_nextOf 36 = .ok (.iload_n 2, 1) := by decide +kernel
theorem dX11_nextOf_37 : decode cX11_nextOf 37 = .ok (.iload 6, 2) := by decide +kernel
theorem dX11_nextOf_39 : decode cX11_nextOf 39 = .ok (.invokevirtual 411, 3) := by decide +kernel
theorem dX11_nextOf_42 : decode cX11_nextOf 42 = .ok (.ifCond .eq 93, 3) := by decide +kernel
theorem dX11_nextOf_45 : decode cX11_nextOf 45 = .ok (.aload_n 0, 1) := by decide +kernel
theorem dX11_nextOf_46 : decode cX11_nextOf 46 = .ok (.getfield 135, 3) := by decide +kernel
theorem dX11_nextOf_49 : decode cX11_nextOf 49 = .ok (.aload_n 0, 1) := by decide +kernel
theorem dX11_nextOf_50 : decode cX11_nextOf 50 = .ok (.iload_n 1, 1) := by decide +kernel
theorem dX11_nextOf_51 : decode cX11_nextOf 51 = .ok (.iload_n 2, 1) := by decide +kernel
theorem dX11_nextOf_52 : decode cX11_nextOf 52 = .ok (.iload 6, 2) := by decide +kernel
theorem dX11_nextOf_54 : decode cX11_nextOf 54 = .ok (.invokevirtual 344, 3) := by decide +kernel
theorem dX11_nextOf_57 : decode cX11_nextOf 57 = .ok (.iaload, 1) := by decide +kernel
theorem dX11_nextOf_58 : decode cX11_nextOf 58 = .ok (.ifCond .ne 6, 3) := by decide +kernel
theorem dX11_nextOf_61 : decode cX11_nextOf 61 = .ok (.goto 74, 3) := by decide +kernel
theorem dX11_nextOf_64 : decode cX11_nextOf 64 = .ok (.aload_n 0, 1) := by decide +kernel
theorem dX11_nextOf_65 : decode cX11_nextOf 65 = .ok (.iload_n 1, 1) := by decide +kernel
theorem dX11_nextOf_66 : decode cX11_nextOf 66 = .ok (.iload_n 2, 1) := by decide +kernel
theorem dX11_nextOf_67 : decode cX11_nextOf 67 = .ok (.iload 6, 2) := by decide +kernel
theorem dX11_nextOf_69 : decode cX11_nextOf 69 = .ok (.invokevirtual 414, 3) := by decide +kernel
theorem dX11_nextOf_72 : decode cX11_nextOf 72 = .ok (.aload_n 0, 1) := by decide +kernel
theorem dX11_nextOf_73 : decode cX11_nextOf 73 = .ok (.iconst 0, 1) := by decide +kernel
theorem dX11_nextOf_74 : decode cX11_nextOf 74 = .ok (.invokevirtual 418, 3) := by decide +kernel
theorem dX11_nextOf_77 : decode cX11_nextOf 77 = .ok (.ifCond .eq 16, 3) := by decide +kernel
theorem dX11_nextOf_80 : decode cX11_nextOf 80 = .ok (.aload_n 0, 1) := by decide +kernel
theorem dX11_nextOf_81 : decode cX11_nextOf 81 = .ok (.iconst 0, 1) := by decide +kernel
theorem dX11_nextOf_82 : decode cX11_nextOf 82 = .ok (.invokevirtual 421, 3) := by decide +kernel
theorem dX11_nextOf_85 : decode cX11_nextOf 85 = .ok (.lconst 0, 1) := by decide +kernel
theorem dX11_nextOf_86 : decode cX11_nextOf 86 = .ok (.lcmp, 1) := by decide +kernel
theorem dX11_nextOf_87 : decode cX11_nextOf 87 = .ok (.ifCond .ne 6, 3) := by decide +kernel
theorem dX11_nextOf_90 : decode cX11_nextOf 90 = .ok (.goto 45, 3) := by decide +kernel
theorem dX11_nextOf_93 : decode cX11_nextOf 93 = .ok (.aload_n 0, 1) := by decide +kernel
theorem dX11_nextOf_94 : decode cX11_nextOf 94 = .ok (.iconst 1, 1) := by decide +kernel
theorem dX11_nextOf_95 : decode cX11_nextOf 95 = .ok (.invokevirtual 418, 3) := by decide +kernel
theorem dX11_nextOf_98 : decode cX11_nextOf 98 = .ok (.ifCond .eq 11, 3) := by decide +kernel
theorem dX11_nextOf_101 : decode cX11_nextOf 101 = .ok (.aload_n 0, 1) := by decide +kernel
theorem dX11_nextOf_102 : decode cX11_nextOf 102 = .ok (.iconst 1, 1) := by decide +kernel
theorem dX11_nextOf_103 : decode cX11_nextOf 103 = .ok (.invokevirtual 421, 3) := by decide +kernel
theorem dX11_nextOf_106 : decode cX11_nextOf 106 = .ok (.goto 4, 3) := by decide +kernel
theorem dX11_nextOf_109 : decode cX11_nextOf 109 = .ok (.lconst 0, 1) := by decide +kernel
theorem dX11_nextOf_110 : decode cX11_nextOf 110 = .ok (.lstore 7, 2) := by decide +kernel
theorem dX11_nextOf_112 : decode cX11_nextOf 112 = .ok (.iload_n 3, 1) := by decide +kernel
theorem dX11_nextOf_113 : decode cX11_nextOf 113 = .ok (.iconst (-1), 1) := by decide +kernel
theorem dX11_nextOf_114 : decode cX11_nextOf 114 = .ok (.if_icmp .eq 14, 3) := by decide +kernel
theorem dX11_nextOf_117 : decode cX11_nextOf 117 = .ok (.lload 7, 2) := by decide +kernel
theorem dX11_nextOf_119 : decode cX11_nextOf 119 = .ok (.lload 4, 2) := by decide +kernel
theorem dX11_nextOf_121 : decode cX11_nextOf 121 = .ok (.lcmp, 1) := by decide +kernel
theorem dX11_nextOf_122 : decode cX11_nextOf 122 = .ok (.ifCond .gt 6, 3) := by decide +kernel
theorem dX11_nextOf_125 : decode cX11_nextOf 125 = .ok (.goto 10, 3) := by decide +kernel
theorem dX11_nextOf_128 : decode cX11_nextOf 128 = .ok (.lload 7, 2) := by decide +kernel
theorem dX11_nextOf_130 : decode cX11_nextOf 130 = .ok (.lstore 4, 2) := by decide +kernel
theorem dX11_nextOf_132 : decode cX11_nextOf 132 = .ok (.iload 6, 2) := by decide +kernel
theorem dX11_nextOf_134 : decode cX11_nextOf 134 = .ok (.istore_n 3, 1) := by decide +kernel
theorem dX11_nextOf_135 : decode cX11_nextOf 135 = .ok (.iinc 6 1, 3) := by decide +kernel
theorem dX11_nextOf_138 : decode cX11_nextOf 138 = .ok (.goto (-117), 3) := by decide +kernel
theorem dX11_nextOf_141 : decode cX11_nextOf 141 = .ok (.iload_n 3, 1) := by decide +kernel
theorem dX11_nextOf_142 : decode cX11_nextOf 142 = .ok (.ireturn, 1) := by decide +kernel
theorem dX11_writesDown_0 : decode cX11_writesDown 0 = .ok (.aload_n 0, 1) := by decide +kernel
theorem dX11_writesDown_1 : decode cX11_writesDown 1 = .ok (.getfield 150, 3) := by decide +kernel
theorem dX11_writesDown_4 : decode cX11_writesDown 4 = .ok (.iload_n 1, 1) := by decide +kernel
theorem dX11_writesDown_5 : decode cX11_writesDown 5 = .ok (.iaload, 1) := by decide +kernel
theorem dX11_writesDown_6 : decode cX11_writesDown 6 = .ok (.bipush 50, 2) := by decide +kernel
theorem dX11_writesDown_8 : decode cX11_writesDown 8 = .ok (.if_icmp .ne 58, 3) := by decide +kernel
theorem dX11_writesDown_11 : decode cX11_writesDown 11 = .ok (.sipush 200, 3) := by decide +kernel
theorem dX11_writesDown_14 : decode cX11_writesDown 14 = .ok (.iload_n 1, 1) := by decide +kernel
theorem dX11_writesDown_15 : decode cX11_writesDown 15 = .ok (.imul, 1) := by decide +kernel
theorem dX11_writesDown_16 : decode cX11_writesDown 16 = .ok (.istore 5, 2) := by decide +kernel
theorem dX11_writesDown_18 : decode cX11_writesDown 18 = .ok (.iload 5, 2) := by decide +kernel
theorem dX11_writesDown_20 : decode cX11_writesDown 20 = .ok (.sipush 200, 3) := by decide +kernel
theorem dX11_writesDown_23 : decode cX11_writesDown 23 = .ok (.iload_n 1, 1) := by decide +kernel
theorem dX11_writesDown_24 : decode cX11_writesDown 24 = .ok (.imul, 1) := by decide +kernel
theorem dX11_writesDown_25 : decode cX11_writesDown 25 = .ok (.sipush 200, 3) := by decide +kernel
theorem dX11_writesDown_28 : decode cX11_writesDown 28 = .ok (.iadd, 1) := by decide +kernel
theorem dX11_writesDown_29 : decode cX11_writesDown 29 = .ok (.iconst 4, 1) := by decide +kernel
theorem dX11_writesDown_30 : decode cX11_writesDown 30 = .ok (.isub, 1) := by decide +kernel
theorem dX11_writesDown_31 : decode cX11_writesDown 31 = .ok (.if_icmp .ge 25, 3) := by decide +kernel
theorem dX11_writesDown_34 : decode cX11_writesDown 34 = .ok (.aload_n 0, 1) := by decide +kernel
theorem dX11_writesDown_35 : decode cX11_writesDown 35 = .ok (.getfield 153, 3) := by decide +kernel
theorem dX11_writesDown_38 : decode cX11_writesDown 38 = .ok (.iload 5, 2) := by decide +kernel
theorem dX11_writesDown_40 : decode cX11_writesDown 40 = .ok (.aload_n 0, 1) := by decide +kernel
theorem dX11_writesDown_41 : decode cX11_writesDown 41 = .ok (.getfield 153, 3) := by decide +kernel
theorem dX11_writesDown_44 : decode cX11_writesDown 44 = .ok (.iload 5, 2) := by decide +kernel
theorem dX11_writesDown_46 : decode cX11_writesDown 46 = .ok (.iconst 4, 1) := by decide +kernel
theorem dX11_writesDown_47 : decode cX11_writesDown 47 = .ok (.iadd, 1) := by decide +kernel
theorem dX11_writesDown_48 : decode cX11_writesDown 48 = .ok (.iaload, 1) := by decide +kernel
theorem dX11_writesDown_49 : decode cX11_writesDown 49 = .ok (.iastore, 1) := by decide +kernel
theorem dX11_writesDown_50 : decode cX11_writesDown 50 = .ok (.iinc 5 1, 3) := by decide +kernel
theorem dX11_writesDown_53 : decode cX11_writesDown 53 = .ok (.goto (-35), 3) := by decide +kernel
theorem dX11_writesDown_56 : decode cX11_writesDown 56 = .ok (.aload_n 0, 1) := by decide +kernel
theorem dX11_writesDown_57 : decode cX11_writesDown 57 = .ok (.getfield 150, 3) := by decide +kernel
theorem dX11_writesDown_60 : decode cX11_writesDown 60 = .ok (.iload_n 1, 1) := by decide +kernel
theorem dX11_writesDown_61 : decode cX11_writesDown 61 = .ok (.dup2, 1) := by decide +kernel
theorem dX11_writesDown_62 : decode cX11_writesDown 62 = .ok (.iaload, 1) := by decide +kernel
theorem dX11_writesDown_63 : decode cX11_writesDown 63 = .ok (.iconst 1, 1) := by decide +kernel
theorem dX11_writesDown_64 : decode cX11_writesDown 64 = .ok (.isub, 1) := by decide +kernel
theorem dX11_writesDown_65 : decode cX11_writesDown 65 = .ok (.iastore, 1) := by decide +kernel
theorem dX11_writesDown_66 : decode cX11_writesDown 66 = .ok (.iconst 4, 1) := by decide +kernel
theorem dX11_writesDown_67 : decode cX11_writesDown 67 = .ok (.bipush 50, 2) := by decide +kernel
theorem dX11_writesDown_69 : decode cX11_writesDown 69 = .ok (.iload_n 1, 1) := by decide +kernel
theorem dX11_writesDown_70 : decode cX11_writesDown 70 = .ok (.imul, 1) := by decide +kernel
theorem dX11_writesDown_71 : decode cX11_writesDown 71 = .ok (.aload_n 0, 1) := by decide +kernel
theorem dX11_writesDown_72 : decode cX11_writesDown 72 = .ok (.getfield 150, 3) := by decide +kernel
theorem dX11_writesDown_75 : decode cX11_writesDown 75 = .ok (.iload_n 1, 1) := by decide +kernel
theorem dX11_writesDown_76 : decode cX11_writesDown 76 = .ok (.iaload, 1) := by decide +kernel
theorem dX11_writesDown_77 : decode cX11_writesDown 77 = .ok (.iadd, 1) := by decide +kernel
theorem dX11_writesDown_78 : decode cX11_writesDown 78 = .ok (.imul, 1) := by decide +kernel
theorem dX11_writesDown_79 : decode cX11_writesDown 79 = .ok (.istore 5, 2) := by decide +kernel
theorem dX11_writesDown_81 : decode cX11_writesDown 81 = .ok (.aload_n 0, 1) := by decide +kernel
theorem dX11_writesDown_82 : decode cX11_writesDown 82 = .ok (.getfield 153, 3) := by decide +kernel
theorem dX11_writesDown_85 : decode cX11_writesDown 85 = .ok (.iload 5, 2) := by decide +kernel
theorem dX11_writesDown_87 : decode cX11_writesDown 87 = .ok (.aload_n 0, 1) := by decide +kernel
theorem dX11_writesDown_88 : decode cX11_writesDown 88 = .ok (.getfield 132, 3) := by decide +kernel
theorem dX11_writesDown_91 : decode cX11_writesDown 91 = .ok (.iload_n 1, 1) := by decide +kernel
theorem dX11_writesDown_92 : decode cX11_writesDown 92 = .ok (.iaload, 1) := by decide +kernel
theorem dX11_writesDown_93 : decode cX11_writesDown 93 = .ok (.iastore, 1) := by decide +kernel
theorem dX11_writesDown_94 : decode cX11_writesDown 94 = .ok (.aload_n 0, 1) := by decide +kernel
theorem dX11_writesDown_95 : decode cX11_writesDown 95 = .ok (.getfield 153, 3) := by decide +kernel
theorem dX11_writesDown_98 : decode cX11_writesDown 98 = .ok (.iload 5, 2) := by decide +kernel
theorem dX11_writesDown_100 : decode cX11_writesDown 100 = .ok (.iconst 1, 1) := by decide +kernel
theorem dX11_writesDown_101 : decode cX11_writesDown 101 = .ok (.iadd, 1) := by decide +kernel
theorem dX11_writesDown_102 : decode cX11_writesDown 102 = .ok (.iload_n 2, 1) := by decide +kernel
theorem dX11_writesDown_103 : decode cX11_writesDown 103 = .ok (.iastore, 1) := by decide +kernel
theorem dX11_writesDown_104 : decode cX11_writesDown 104 = .ok (.aload_n 0, 1) := by decide +kernel
