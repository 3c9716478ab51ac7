theorem dX11_writesDown_105 : decode cX11_writesDown 105 = .ok (.getfield 153, 3) := by decide +kernel
theorem dX11_writesDown_108 : decode cX11_writesDown 108 = .ok (.iload 5, 2) := by decide +kernel
theorem dX11_writesDown_110 : decode cX11_writesDown 110 = .ok (.iconst 2, 1) := by decide +kernel
theorem dX11_writesDown_111 : decode cX11_writesDown 111 = .ok (.iadd, 1) := by decide +kernel
theorem dX11_writesDown_112 : decode cX11_writesDown 112 = .ok (.iload_n 3, 1) := by decide +kernel
theorem dX11_writesDown_113 : decode cX11_writesDown 113 = .ok (.iastore, 1) := by decide +kernel
theorem dX11_writesDown_114 : decode cX11_writesDown 114 = .ok (.aload_n 0, 1) := by decide +kernel
theorem dX11_writesDown_115 : decode cX11_writesDown 115 = .ok (.getfield 153, 3) := by decide +kernel
theorem dX11_writesDown_118 : decode cX11_writesDown 118 = .ok (.iload 5, 2) := by decide +kernel
theorem dX11_writesDown_120 : decode cX11_writesDown 120 = .ok (.iconst 3, 1) := by decide +kernel
theorem dX11_writesDown_121 : decode cX11_writesDown 121 = .ok (.iadd, 1) := by decide +kernel
theorem dX11_writesDown_122 : decode cX11_writesDown 122 = .ok (.iload 4, 2) := by decide +kernel
theorem dX11_writesDown_124 : decode cX11_writesDown 124 = .ok (.iastore, 1) := by decide +kernel
theorem dX11_writesDown_125 : decode cX11_writesDown 125 = .ok (.aload_n 0, 1) := by decide +kernel
theorem dX11_writesDown_126 : decode cX11_writesDown 126 = .ok (.getfield 150, 3) := by decide +kernel
theorem dX11_writesDown_129 : decode cX11_writesDown 129 = .ok (.iload_n 1, 1) := by decide +kernel
theorem dX11_writesDown_130 : decode cX11_writesDown 130 = .ok (.dup2, 1) := by decide +kernel
theorem dX11_writesDown_131 : decode cX11_writesDown 131 = .ok (.iaload, 1) := by decide +kernel
theorem dX11_writesDown_132 : decode cX11_writesDown 132 = .ok (.iconst 1, 1) := by decide +kernel
theorem dX11_writesDown_133 : decode cX11_writesDown 133 = .ok (.iadd, 1) := by decide +kernel
theorem dX11_writesDown_134 : decode cX11_writesDown 134 = .ok (.iastore, 1) := by decide +kernel
theorem dX11_writesDown_135 : decode cX11_writesDown 135 = .ok (.return_, 1) := by decide +kernel
theorem dX11_upTo_0 : decode cX11_upTo 0 = .ok (.iload_n 1, 1) := by decide +kernel
theorem dX11_upTo_1 : decode cX11_upTo 1 = .ok (.bipush 99, 2) := by decide +kernel
theorem dX11_upTo_3 : decode cX11_upTo 3 = .ok (.if_icmp .le 8, 3) := by decide +kernel
theorem dX11_upTo_6 : decode cX11_upTo 6 = .ok (.bipush 99, 2) := by decide +kernel
theorem dX11_upTo_8 : decode cX11_upTo 8 = .ok (.goto 4, 3) := by decide +kernel
theorem dX11_upTo_11 : decode cX11_upTo 11 = .ok (.iload_n 1, 1) := by decide +kernel
theorem dX11_upTo_12 : decode cX11_upTo 12 = .ok (.ireturn, 1) := by decide +kernel
theorem dX11_arrives_0 : decode cX11_arrives 0 = .ok (.iload 4, 2) := by decide +kernel
theorem dX11_arrives_2 : decode cX11_arrives 2 = .ok (.ifCond .eq 21, 3) := by decide +kernel
theorem dX11_arrives_5 : decode cX11_arrives 5 = .ok (.aload_n 0, 1) := by decide +kernel
theorem dX11_arrives_6 : decode cX11_arrives 6 = .ok (.bipush 100, 2) := by decide +kernel
theorem dX11_arrives_8 : decode cX11_arrives 8 = .ok (.invokevirtual 425, 3) := by decide +kernel
theorem dX11_arrives_11 : decode cX11_arrives 11 = .ok (.aload_n 0, 1) := by decide +kernel
theorem dX11_arrives_12 : decode cX11_arrives 12 = .ok (.iconst 1, 1) := by decide +kernel
theorem dX11_arrives_13 : decode cX11_arrives 13 = .ok (.invokevirtual 428, 3) := by decide +kernel
theorem dX11_arrives_16 : decode cX11_arrives 16 = .ok (.if_icmp .ge 7, 3) := by decide +kernel
theorem dX11_arrives_19 : decode cX11_arrives 19 = .ok (.iconst 1, 1) := by decide +kernel
theorem dX11_arrives_20 : decode cX11_arrives 20 = .ok (.goto 4, 3) := by decide +kernel
theorem dX11_arrives_23 : decode cX11_arrives 23 = .ok (.iconst 0, 1) := by decide +kernel
theorem dX11_arrives_24 : decode cX11_arrives 24 = .ok (.istore 5, 2) := by decide +kernel
theorem dX11_arrives_26 : decode cX11_arrives 26 = .ok (.aload_n 0, 1) := by decide +kernel
theorem dX11_arrives_27 : decode cX11_arrives 27 = .ok (.iload_n 1, 1) := by decide +kernel
theorem dX11_arrives_28 : decode cX11_arrives 28 = .ok (.iload_n 2, 1) := by decide +kernel
theorem dX11_arrives_29 : decode cX11_arrives 29 = .ok (.iload_n 3, 1) := by decide +kernel
theorem dX11_arrives_30 : decode cX11_arrives 30 = .ok (.iload 5, 2) := by decide +kernel
theorem dX11_arrives_32 : decode cX11_arrives 32 = .ok (.ifCond .eq 7, 3) := by decide +kernel
theorem dX11_arrives_35 : decode cX11_arrives 35 = .ok (.iconst 1, 1) := by decide +kernel
theorem dX11_arrives_36 : decode cX11_arrives 36 = .ok (.goto 4, 3) := by decide +kernel
theorem dX11_arrives_39 : decode cX11_arrives 39 = .ok (.iconst 0, 1) := by decide +kernel
theorem dX11_arrives_40 : decode cX11_arrives 40 = .ok (.invokevirtual 431, 3) := by decide +kernel
theorem dX11_arrives_43 : decode cX11_arrives 43 = .ok (.iload 5, 2) := by decide +kernel
theorem dX11_arrives_45 : decode cX11_arrives 45 = .ok (.ifCond .eq 14, 3) := by decide +kernel
theorem dX11_arrives_48 : decode cX11_arrives 48 = .ok (.aload_n 0, 1) := by decide +kernel
theorem dX11_arrives_49 : decode cX11_arrives 49 = .ok (.dup, 1) := by decide +kernel
theorem dX11_arrives_50 : decode cX11_arrives 50 = .ok (.getfield 174, 3) := by decide +kernel
theorem dX11_arrives_53 : decode cX11_arrives 53 = .ok (.iconst 1, 1) := by decide +kernel
theorem dX11_arrives_54 : decode cX11_arrives 54 = .ok (.iadd, 1) := by decide +kernel
theorem dX11_arrives_55 : decode cX11_arrives 55 = .ok (.putfield 174, 3) := by decide +kernel
theorem dX11_arrives_58 : decode cX11_arrives 58 = .ok (.return_, 1) := by decide +kernel
theorem dX11_arrives_59 : decode cX11_arrives 59 = .ok (.aload_n 0, 1) := by decide +kernel
theorem dX11_arrives_60 : decode cX11_arrives 60 = .ok (.dup, 1) := by decide +kernel
theorem dX11_arrives_61 : decode cX11_arrives 61 = .ok (.getfield 171, 3) := by decide +kernel
theorem dX11_arrives_64 : decode cX11_arrives 64 = .ok (.iconst 1, 1) := by decide +kernel
theorem dX11_arrives_65 : decode cX11_arrives 65 = .ok (.iadd, 1) := by decide +kernel
theorem dX11_arrives_66 : decode cX11_arrives 66 = .ok (.putfield 171, 3) := by decide +kernel
theorem dX11_arrives_69 : decode cX11_arrives 69 = .ok (.aload_n 0, 1) := by decide +kernel
theorem dX11_arrives_70 : decode cX11_arrives 70 = .ok (.dup, 1) := by decide +kernel
theorem dX11_arrives_71 : decode cX11_arrives 71 = .ok (.getfield 177, 3) := by decide +kernel
theorem dX11_arrives_74 : decode cX11_arrives 74 = .ok (.lconst 1, 1) := by decide +kernel
theorem dX11_arrives_75 : decode cX11_arrives 75 = .ok (.bipush 6, 2) := by decide +kernel
theorem dX11_arrives_77 : decode cX11_arrives 77 = .ok (.iload_n 2, 1) := by decide +kernel
theorem dX11_arrives_78 : decode cX11_arrives 78 = .ok (.imul, 1) := by decide +kernel
theorem dX11_arrives_79 : decode cX11_arrives 79 = .ok (.iload_n 3, 1) := by decide +kernel
theorem dX11_arrives_80 : decode cX11_arrives 80 = .ok (.iadd, 1) := by decide +kernel
theorem dX11_arrives_81 : decode cX11_arrives 81 = .ok (.lshl, 1) := by decide +kernel
theorem dX11_arrives_82 : decode cX11_arrives 82 = .ok (.lor, 1) := by decide +kernel
theorem dX11_arrives_83 : decode cX11_arrives 83 = .ok (.putfield 177, 3) := by decide +kernel
theorem dX11_arrives_86 : decode cX11_arrives 86 = .ok (.aload_n 0, 1) := by decide +kernel
theorem dX11_arrives_87 : decode cX11_arrives 87 = .ok (.iload_n 1, 1) := by decide +kernel
theorem dX11_arrives_88 : decode cX11_arrives 88 = .ok (.iload_n 3, 1) := by decide +kernel
theorem dX11_arrives_89 : decode cX11_arrives 89 = .ok (.iload_n 2, 1) := by decide +kernel
theorem dX11_arrives_90 : decode cX11_arrives 90 = .ok (.invokevirtual 344, 3) := by decide +kernel
theorem dX11_arrives_93 : decode cX11_arrives 93 = .ok (.istore 6, 2) := by decide +kernel
theorem dX11_arrives_95 : decode cX11_arrives 95 = .ok (.aload_n 0, 1) := by decide +kernel
theorem dX11_arrives_96 : decode cX11_arrives 96 = .ok (.getfield 135, 3) := by decide +kernel
theorem dX11_arrives_99 : decode cX11_arrives 99 = .ok (.iload 6, 2) := by decide +kernel
theorem dX11_arrives_101 : decode cX11_arrives 101 = .ok (.aload_n 0, 1) := by decide +kernel
theorem dX11_arrives_102 : decode cX11_arrives 102 = .ok (.aload_n 0, 1) := by decide +kernel
theorem dX11_arrives_103 : decode cX11_arrives 103 = .ok (.getfield 135, 3) := by decide +kernel
theorem dX11_arrives_106 : decode cX11_arrives 106 = .ok (.iload 6, 2) := by decide +kernel
theorem dX11_arrives_108 : decode cX11_arrives 108 = .ok (.iaload, 1) := by decide +kernel
theorem dX11_arrives_109 : decode cX11_arrives 109 = .ok (.aload_n 0, 1) := by decide +kernel
theorem dX11_arrives_110 : decode cX11_arrives 110 = .ok (.iconst 0, 1) := by decide +kernel
theorem dX11_arrives_111 : decode cX11_arrives 111 = .ok (.invokevirtual 428, 3) := by decide +kernel
theorem dX11_arrives_114 : decode cX11_arrives 114 = .ok (.iadd, 1) := by decide +kernel
theorem dX11_arrives_115 : decode cX11_arrives 115 = .ok (.invokevirtual 435, 3) := by decide +kernel
theorem dX11_arrives_118 : decode cX11_arrives 118 = .ok (.iastore, 1) := by decide +kernel
theorem dX11_arrives_119 : decode cX11_arrives 119 = .ok (.aload_n 0, 1) := by decide +kernel
theorem dX11_arrives_120 : decode cX11_arrives 120 = .ok (.getfield 141, 3) := by decide +kernel
theorem dX11_arrives_123 : decode cX11_arrives 123 = .ok (.iload 6, 2) := by decide +kernel
theorem dX11_arrives_125 : decode cX11_arrives 125 = .ok (.aload_n 0, 1) := by decide +kernel
theorem dX11_arrives_126 : decode cX11_arrives 126 = .ok (.aload_n 0, 1) := by decide +kernel
theorem dX11_arrives_127 : decode cX11_arrives 127 = .ok (.getfield 141, 3) := by decide +kernel
theorem dX11_arrives_130 : decode cX11_arrives 130 = .ok (.iload 6, 2) := by decide +kernel
theorem dX11_arrives_132 : decode cX11_arrives 132 = .ok (.iaload, 1) := by decide +kernel
theorem dX11_arrives_133 : decode cX11_arrives 133 = .ok (.iconst 1, 1) := by decide +kernel
theorem dX11_arrives_134 : decode cX11_arrives 134 = .ok (.iadd, 1) := by decide +kernel
theorem dX11_arrives_135 : decode cX11_arrives 135 = .ok (.invokevirtual 435, 3) := by decide +kernel
theorem dX11_arrives_138 : decode cX11_arrives 138 = .ok (.iastore, 1) := by decide +kernel
theorem dX11_arrives_139 : decode cX11_arrives 139 = .ok (.return_, 1) := by decide +kernel
theorem dX11_passes_0 : decode cX11_passes 0 = .ok (.aload_n 0, 1) := by decide +kernel
theorem dX11_passes_1 : decode cX11_passes 1 = .ok (.iconst 0, 1) := by decide +kernel
theorem dX11_passes_2 : decode cX11_passes 2 = .ok (.putfield 171, 3) := by decide +kernel
theorem dX11_passes_5 : decode cX11_passes 5 = .ok (.aload_n 0, 1) := by decide +kernel
theorem dX11_passes_6 : decode cX11_passes 6 = .ok (.iconst 0, 1) := by decide +kernel
theorem dX11_passes_7 : decode cX11_passes 7 = .ok (.putfield 174, 3) := by decide +kernel
theorem dX11_passes_10 : decode cX11_passes 10 = .ok (.aload_n 0, 1) := by decide +kernel
theorem dX11_passes_11 : decode cX11_passes 11 = .ok (.lconst 0, 1) := by decide +kernel
theorem dX11_passes_12 : decode cX11_passes 12 = .ok (.putfield 177, 3) := by decide +kernel
theorem dX11_passes_15 : decode cX11_passes 15 = .ok (.iconst 0, 1) := by decide +kernel
theorem dX11_passes_16 : decode cX11_passes 16 = .ok (.istore_n 3, 1) := by decide +kernel
theorem dX11_passes_17 : decode cX11_passes 17 = .ok (.iconst 0, 1) := by decide +kernel
theorem dX11_passes_18 : decode cX11_passes 18 = .ok (.istore 4, 2) := by decide +kernel
theorem dX11_passes_20 : decode cX11_passes 20 = .ok (.iload 4, 2) := by decide +kernel
theorem dX11_passes_22 : decode cX11_passes 22 = .ok (.aload_n 0, 1) := by decide +kernel
theorem dX11_passes_23 : decode cX11_passes 23 = .ok (.getfield 144, 3) := by decide +kernel
theorem dX11_passes_26 : decode cX11_passes 26 = .ok (.iload_n 1, 1) := by decide +kernel
theorem dX11_passes_27 : decode cX11_passes 27 = .ok (.iaload, 1) := by decide +kernel
theorem dX11_passes_28 : decode cX11_passes 28 = .ok (.if_icmp .ge 118, 3) := by decide +kernel
theorem dX11_passes_31 : decode cX11_passes 31 = .ok (.iconst 3, 1) := by decide +kernel
theorem dX11_passes_32 : decode cX11_passes 32 = .ok (.bipush 60, 2) := by decide +kernel
theorem dX11_passes_34 : decode cX11_passes 34 = .ok (.iload_n 1, 1) := by decide +kernel
theorem dX11_passes_35 : decode cX11_passes 35 = .ok (.imul, 1) := by decide +kernel
theorem dX11_passes_36 : decode cX11_passes 36 = .ok (.iload 4, 2) := by decide +kernel
theorem dX11_passes_38 : decode cX11_passes 38 = .ok (.iadd, 1) := by decide +kernel
theorem dX11_passes_39 : decode cX11_passes 39 = .ok (.imul, 1) := by decide +kernel
theorem dX11_passes_40 : decode cX11_passes 40 = .ok (.istore 5, 2) := by decide +kernel
theorem dX11_passes_42 : decode cX11_passes 42 = .ok (.iconst 3, 1) := by decide +kernel
theorem dX11_passes_43 : decode cX11_passes 43 = .ok (.bipush 60, 2) := by decide +kernel
theorem dX11_passes_45 : decode cX11_passes 45 = .ok (.iload_n 1, 1) := by decide +kernel
theorem dX11_passes_46 : decode cX11_passes 46 = .ok (.imul, 1) := by decide +kernel
theorem dX11_passes_47 : decode cX11_passes 47 = .ok (.iload_n 3, 1) := by decide +kernel
theorem dX11_passes_48 : decode cX11_passes 48 = .ok (.iadd, 1) := by decide +kernel
theorem dX11_passes_49 : decode cX11_passes 49 = .ok (.imul, 1) := by decide +kernel
theorem dX11_passes_50 : decode cX11_passes 50 = .ok (.istore 6, 2) := by decide +kernel
theorem dX11_passes_52 : decode cX11_passes 52 = .ok (.aload_n 0, 1) := by decide +kernel
theorem dX11_passes_53 : decode cX11_passes 53 = .ok (.getfield 147, 3) := by decide +kernel
theorem dX11_passes_56 : decode cX11_passes 56 = .ok (.iload 5, 2) := by decide +kernel
theorem dX11_passes_58 : decode cX11_passes 58 = .ok (.iconst 2, 1) := by decide +kernel
theorem dX11_passes_59 : decode cX11_passes 59 = .ok (.iadd, 1) := by decide +kernel
theorem dX11_passes_60 : decode cX11_passes 60 = .ok (.dup2, 1) := by decide +kernel
theorem dX11_passes_61 : decode cX11_passes 61 = .ok (.iaload, 1) := by decide +kernel
theorem dX11_passes_62 : decode cX11_passes 62 = .ok (.iconst 1, 1) := by decide +kernel
theorem dX11_passes_63 : decode cX11_passes 63 = .ok (.isub, 1) := by decide +kernel
theorem dX11_passes_64 : decode cX11_passes 64 = .ok (.iastore, 1) := by decide +kernel
theorem dX11_passes_65 : decode cX11_passes 65 = .ok (.aload_n 0, 1) := by decide +kernel
theorem dX11_passes_66 : decode cX11_passes 66 = .ok (.getfield 147, 3) := by decide +kernel
theorem dX11_passes_69 : decode cX11_passes 69 = .ok (.iload 5, 2) := by decide +kernel
theorem dX11_passes_71 : decode cX11_passes 71 = .ok (.iconst 2, 1) := by decide +kernel
theorem dX11_passes_72 : decode cX11_passes 72 = .ok (.iadd, 1) := by decide +kernel
theorem dX11_passes_73 : decode cX11_passes 73 = .ok (.iaload, 1) := by decide +kernel
theorem dX11_passes_74 : decode cX11_passes 74 = .ok (.ifCond .ne 28, 3) := by decide +kernel
theorem dX11_passes_77 : decode cX11_passes 77 = .ok (.aload_n 0, 1) := by decide +kernel
theorem dX11_passes_78 : decode cX11_passes 78 = .ok (.iload_n 1, 1) := by decide +kernel
theorem dX11_passes_79 : decode cX11_passes 79 = .ok (.aload_n 0, 1) := by decide +kernel
theorem dX11_passes_80 : decode cX11_passes 80 = .ok (.getfield 147, 3) := by decide +kernel
theorem dX11_passes_83 : decode cX11_passes 83 = .ok (.iload 5, 2) := by decide +kernel
theorem dX11_passes_85 : decode cX11_passes 85 = .ok (.iaload, 1) := by decide +kernel
theorem dX11_passes_86 : decode cX11_passes 86 = .ok (.aload_n 0, 1) := by decide +kernel
theorem dX11_passes_87 : decode cX11_passes 87 = .ok (.getfield 147, 3) := by decide +kernel
theorem dX11_passes_90 : decode cX11_passes 90 = .ok (.iload 5, 2) := by decide +kernel
theorem dX11_passes_92 : decode cX11_passes 92 = .ok (.iconst 1, 1) := by decide +kernel
theorem dX11_passes_93 : decode cX11_passes 93 = .ok (.iadd, 1) := by decide +kernel
theorem dX11_passes_94 : decode cX11_passes 94 = .ok (.iaload, 1) := by decide +kernel
theorem dX11_passes_95 : decode cX11_passes 95 = .ok (.iload_n 2, 1) := by decide +kernel
theorem dX11_passes_96 : decode cX11_passes 96 = .ok (.invokevirtual 438, 3) := by decide +kernel
theorem dX11_passes_99 : decode cX11_passes 99 = .ok (.goto 41, 3) := by decide +kernel
theorem dX11_passes_102 : decode cX11_passes 102 = .ok (.iconst 0, 1) := by decide +kernel
theorem dX11_passes_103 : decode cX11_passes 103 = .ok (.istore 7, 2) := by decide +kernel
theorem dX11_passes_105 : decode cX11_passes 105 = .ok (.iload 7, 2) := by decide +kernel
theorem dX11_passes_107 : decode cX11_passes 107 = .ok (.iconst 3, 1) := by decide +kernel
theorem dX11_passes_108 : decode cX11_passes 108 = .ok (.if_icmp .ge 29, 3) := by decide +kernel
theorem dX11_passes_111 : decode cX11_passes 111 = .ok (.aload_n 0, 1) := by decide +kernel
theorem dX11_passes_112 : decode cX11_passes 112 = .ok (.getfield 147, 3) := by decide +kernel
theorem dX11_passes_115 : decode cX11_passes 115 = .ok (.iload 6, 2) := by decide +kernel
theorem dX11_passes_117 : decode cX11_passes 117 = .ok (.iload 7, 2) := by decide +kernel
theorem dX11_passes_119 : decode cX11_passes 119 = .ok (.iadd, 1) := by decide +kernel
theorem dX11_passes_120 : decode cX11_passes 120 = .ok (.aload_n 0, 1) := by decide +kernel
theorem dX11_passes_121 : decode cX11_passes 121 = .ok (.getfield 147, 3) := by decide +kernel
theorem dX11_passes_124 : decode cX11_passes 124 = .ok (.iload 5, 2) := by decide +kernel
theorem dX11_passes_126 : decode cX11_passes 126 = .ok (.iload 7, 2) := by decide +kernel
theorem dX11_passes_128 : decode cX11_passes 128 = .ok (.iadd, 1) := by decide +kernel
theorem dX11_passes_129 : decode cX11_passes 129 = .ok (.iaload, 1) := by decide +kernel
theorem dX11_passes_130 : decode cX11_passes 130 = .ok (.iastore, 1) := by decide +kernel
theorem dX11_passes_131 : decode cX11_passes 131 = .ok (.iinc 7 1, 3) := by decide +kernel
theorem dX11_passes_134 : decode cX11_passes 134 = .ok (.goto (-29), 3) := by decide +kernel
theorem dX11_passes_137 : decode cX11_passes 137 = .ok (.iinc 3 1, 3) := by decide +kernel
theorem dX11_passes_140 : decode cX11_passes 140 = .ok (.iinc 4 1, 3) := by decide +kernel
theorem dX11_passes_143 : decode cX11_passes 143 = .ok (.goto (-123), 3) := by decide +kernel
theorem dX11_passes_146 : decode cX11_passes 146 = .ok (.aload_n 0, 1) := by decide +kernel
theorem dX11_passes_147 : decode cX11_passes 147 = .ok (.getfield 144, 3) := by decide +kernel
theorem dX11_passes_150 : decode cX11_passes 150 = .ok (.iload_n 1, 1) := by decide +kernel
theorem dX11_passes_151 : decode cX11_passes 151 = .ok (.iload_n 3, 1) := by decide +kernel
theorem dX11_passes_152 : decode cX11_passes 152 = .ok (.iastore, 1) := by decide +kernel
theorem dX11_passes_153 : decode cX11_passes 153 = .ok (.iconst 0, 1) := by decide +kernel
theorem dX11_passes_154 : decode cX11_passes 154 = .ok (.istore 4, 2) := by decide +kernel
theorem dX11_passes_156 : decode cX11_passes 156 = .ok (.iload 4, 2) := by decide +kernel
theorem dX11_passes_158 : decode cX11_passes 158 = .ok (.aload_n 0, 1) := by decide +kernel
theorem dX11_passes_159 : decode cX11_passes 159 = .ok (.getfield 54, 3) := by decide +kernel
theorem dX11_passes_162 : decode cX11_passes 162 = .ok (.aload_n 0, 1) := by decide +kernel
theorem dX11_passes_163 : decode cX11_passes 163 = .ok (.getfield 51, 3) := by decide +kernel
theorem dX11_passes_166 : decode cX11_passes 166 = .ok (.iaload, 1) := by decide +kernel
theorem dX11_passes_167 : decode cX11_passes 167 = .ok (.if_icmp .ge 131, 3) := by decide +kernel
theorem dX11_passes_170 : decode cX11_passes 170 = .ok (.aload_n 0, 1) := by decide +kernel
theorem dX11_passes_171 : decode cX11_passes 171 = .ok (.iload_n 1, 1) := by decide +kernel
theorem dX11_passes_172 : decode cX11_passes 172 = .ok (.iload 4, 2) := by decide +kernel
theorem dX11_passes_174 : decode cX11_passes 174 = .ok (.invokevirtual 442, 3) := by decide +kernel
theorem dX11_passes_177 : decode cX11_passes 177 = .ok (.istore 5, 2) := by decide +kernel
theorem dX11_passes_179 : decode cX11_passes 179 = .ok (.iload 5, 2) := by decide +kernel
theorem dX11_passes_181 : decode cX11_passes 181 = .ok (.iconst (-1), 1) := by decide +kernel
theorem dX11_passes_182 : decode cX11_passes 182 = .ok (.if_icmp .ne 6, 3) := by decide +kernel
theorem dX11_passes_185 : decode cX11_passes 185 = .ok (.goto 107, 3) := by decide +kernel
theorem dX11_passes_188 : decode cX11_passes 188 = .ok (.aload_n 0, 1) := by decide +kernel
theorem dX11_passes_189 : decode cX11_passes 189 = .ok (.iload_n 1, 1) := by decide +kernel
theorem dX11_passes_190 : decode cX11_passes 190 = .ok (.iload 4, 2) := by decide +kernel
theorem dX11_passes_192 : decode cX11_passes 192 = .ok (.iload 5, 2) := by decide +kernel
theorem dX11_passes_194 : decode cX11_passes 194 = .ok (.invokevirtual 344, 3) := by decide +kernel
theorem dX11_passes_197 : decode cX11_passes 197 = .ok (.istore 6, 2) := by decide +kernel
theorem dX11_passes_199 : decode cX11_passes 199 = .ok (.aload_n 0, 1) := by decide +kernel
theorem dX11_passes_200 : decode cX11_passes 200 = .ok (.getfield 135, 3) := by decide +kernel
theorem dX11_passes_203 : decode cX11_passes 203 = .ok (.iload 6, 2) := by decide +kernel
theorem dX11_passes_205 : decode cX11_passes 205 = .ok (.dup2, 1) := by decide +kernel
theorem dX11_passes_206 : decode cX11_passes 206 = .ok (.iaload, 1) := by decide +kernel
theorem dX11_passes_207 : decode cX11_passes 207 = .ok (.iconst 1, 1) := by decide +kernel
theorem dX11_passes_208 : decode cX11_passes 208 = .ok (.isub, 1) := by decide +kernel
theorem dX11_passes_209 : decode cX11_passes 209 = .ok (.iastore, 1) := by decide +kernel
theorem dX11_passes_210 : decode cX11_passes 210 = .ok (.aload_n 0, 1) := by decide +kernel
theorem dX11_passes_211 : decode cX11_passes 211 = .ok (.getfield 138, 3) := by decide +kernel
theorem dX11_passes_214 : decode cX11_passes 214 = .ok (.iload 6, 2) := by decide +kernel
theorem dX11_passes_216 : decode cX11_passes 216 = .ok (.aload_n 0, 1) := by decide +kernel
theorem dX11_passes_217 : decode cX11_passes 217 = .ok (.aload_n 0, 1) := by decide +kernel
theorem dX11_passes_218 : decode cX11_passes 218 = .ok (.getfield 138, 3) := by decide +kernel
theorem dX11_passes_221 : decode cX11_passes 221 = .ok (.iload 6, 2) := by decide +kernel
theorem dX11_passes_223 : decode cX11_passes 223 = .ok (.iaload, 1) := by decide +kernel
theorem dX11_passes_224 : decode cX11_passes 224 = .ok (.iconst 1, 1) := by decide +kernel
theorem dX11_passes_225 : decode cX11_passes 225 = .ok (.iadd, 1) := by decide +kernel
theorem dX11_passes_226 : decode cX11_passes 226 = .ok (.invokevirtual 435, 3) := by decide +kernel
theorem dX11_passes_229 : decode cX11_passes 229 = .ok (.iastore, 1) := by decide +kernel
theorem dX11_passes_230 : decode cX11_passes 230 = .ok (.iconst 3, 1) := by decide +kernel
theorem dX11_passes_231 : decode cX11_passes 231 = .ok (.bipush 60, 2) := by decide +kernel
theorem dX11_passes_233 : decode cX11_passes 233 = .ok (.iload_n 1, 1) := by decide +kernel
theorem dX11_passes_234 : decode cX11_passes 234 = .ok (.imul, 1) := by decide +kernel
theorem dX11_passes_235 : decode cX11_passes 235 = .ok (.aload_n 0, 1) := by decide +kernel
theorem dX11_passes_236 : decode cX11_passes 236 = .ok (.getfield 144, 3) := by decide +kernel
theorem dX11_passes_239 : decode cX11_passes 239 = .ok (.iload_n 1, 1) := by decide +kernel
theorem dX11_passes_240 : decode cX11_passes 240 = .ok (.iaload, 1) := by decide +kernel
theorem dX11_passes_241 : decode cX11_passes 241 = .ok (.iadd, 1) := by decide +kernel
theorem dX11_passes_242 : decode cX11_passes 242 = .ok (.imul, 1) := by decide +kernel
theorem dX11_passes_243 : decode cX11_passes 243 = .ok (.istore 7, 2) := by decide +kernel
theorem dX11_passes_245 : decode cX11_passes 245 = .ok (.aload_n 0, 1) := by decide +kernel
theorem dX11_passes_246 : decode cX11_passes 246 = .ok (.getfield 147, 3) := by decide +kernel
theorem dX11_passes_249 : decode cX11_passes 249 = .ok (.iload 7, 2) := by decide +kernel
theorem dX11_passes_251 : decode cX11_passes 251 = .ok (.iload 4, 2) := by decide +kernel
theorem dX11_passes_253 : decode cX11_passes 253 = .ok (.iastore, 1) := by decide +kernel
theorem dX11_passes_254 : decode cX11_passes 254 = .ok (.aload_n 0, 1) := by decide +kernel
theorem dX11_passes_255 : decode cX11_passes 255 = .ok (.getfield 147, 3) := by decide +kernel
theorem dX11_passes_258 : decode cX11_passes 258 = .ok (.iload 7, 2) := by decide +kernel
theorem dX11_passes_260 : decode cX11_passes 260 = .ok (.iconst 1, 1) := by decide +kernel
theorem dX11_passes_261 : decode cX11_passes 261 = .ok (.iadd, 1) := by decide +kernel
theorem dX11_passes_262 : decode cX11_passes 262 = .ok (.iload 5, 2) := by decide +kernel
theorem dX11_passes_264 : decode cX11_passes 264 = .ok (.iastore, 1) := by decide +kernel
theorem dX11_passes_265 : decode cX11_passes 265 = .ok (.aload_n 0, 1) := by decide +kernel
theorem dX11_passes_266 : decode cX11_passes 266 = .ok (.getfield 147, 3) := by decide +kernel
theorem dX11_passes_269 : decode cX11_passes 269 = .ok (.iload 7, 2) := by decide +kernel
theorem dX11_passes_271 : decode cX11_passes 271 = .ok (.iconst 2, 1) := by decide +kernel
theorem dX11_passes_272 : decode cX11_passes 272 = .ok (.iadd, 1) := by decide +kernel
theorem dX11_passes_273 : decode cX11_passes 273 = .ok (.aload_n 0, 1) := by decide +kernel
theorem dX11_passes_274 : decode cX11_passes 274 = .ok (.iload 4, 2) := by decide +kernel
theorem dX11_passes_276 : decode cX11_passes 276 = .ok (.iload 5, 2) := by decide +kernel
theorem dX11_passes_278 : decode cX11_passes 278 = .ok (.invokevirtual 408, 3) := by decide +kernel
theorem dX11_passes_281 : decode cX11_passes 281 = .ok (.iastore, 1) := by decide +kernel
theorem dX11_passes_282 : decode cX11_passes 282 = .ok (.aload_n 0, 1) := by decide +kernel
theorem dX11_passes_283 : decode cX11_passes 283 = .ok (.getfield 144, 3) := by decide +kernel
theorem dX11_passes_286 : decode cX11_passes 286 = .ok (.iload_n 1, 1) := by decide +kernel
theorem dX11_passes_287 : decode cX11_passes 287 = .ok (.dup2, 1) := by decide +kernel
theorem dX11_passes_288 : decode cX11_passes 288 = .ok (.iaload, 1) := by decide +kernel
theorem dX11_passes_289 : decode cX11_passes 289 = .ok (.iconst 1, 1) := by decide +kernel
theorem dX11_passes_290 : decode cX11_passes 290 = .ok (.iadd, 1) := by decide +kernel
theorem dX11_passes_291 : decode cX11_passes 291 = .ok (.iastore, 1) := by decide +kernel
theorem dX11_passes_292 : decode cX11_passes 292 = .ok (.iinc 4 1, 3) := by decide +kernel
theorem dX11_passes_295 : decode cX11_passes 295 = .ok (.goto (-139), 3) := by decide +kernel
theorem dX11_passes_298 : decode cX11_passes 298 = .ok (.aload_n 0, 1) := by decide +kernel
theorem dX11_passes_299 : decode cX11_passes 299 = .ok (.getfield 132, 3) := by decide +kernel
theorem dX11_passes_302 : decode cX11_passes 302 = .ok (.iload_n 1, 1) := by decide +kernel
theorem dX11_passes_303 : decode cX11_passes 303 = .ok (.dup2, 1) := by decide +kernel
theorem dX11_passes_304 : decode cX11_passes 304 = .ok (.iaload, 1) := by decide +kernel
theorem dX11_passes_305 : decode cX11_passes 305 = .ok (.iconst 1, 1) := by decide +kernel
theorem dX11_passes_306 : decode cX11_passes 306 = .ok (.iadd, 1) := by decide +kernel
theorem dX11_passes_307 : decode cX11_passes 307 = .ok (.iastore, 1) := by decide +kernel
theorem dX11_passes_308 : decode cX11_passes 308 = .ok (.return_, 1) := by decide +kernel
theorem dX11_isTown_0 : decode cX11_isTown 0 = .ok (.iload_n 1, 1) := by decide +kernel
theorem dX11_isTown_1 : decode cX11_isTown 1 = .ok (.ifCond .lt 20, 3) := by decide +kernel
theorem dX11_isTown_4 : decode cX11_isTown 4 = .ok (.iload_n 1, 1) := by decide +kernel
theorem dX11_isTown_5 : decode cX11_isTown 5 = .ok (.aload_n 0, 1) := by decide +kernel
theorem dX11_isTown_6 : decode cX11_isTown 6 = .ok (.getfield 54, 3) := by decide +kernel
theorem dX11_isTown_9 : decode cX11_isTown 9 = .ok (.aload_n 0, 1) := by decide +kernel
theorem dX11_isTown_10 : decode cX11_isTown 10 = .ok (.getfield 51, 3) := by decide +kernel
theorem dX11_isTown_13 : decode cX11_isTown 13 = .ok (.iaload, 1) := by decide +kernel
theorem dX11_isTown_14 : decode cX11_isTown 14 = .ok (.if_icmp .ge 7, 3) := by decide +kernel
theorem dX11_isTown_17 : decode cX11_isTown 17 = .ok (.iconst 1, 1) := by decide +kernel
theorem dX11_isTown_18 : decode cX11_isTown 18 = .ok (.goto 4, 3) := by decide +kernel
theorem dX11_isTown_21 : decode cX11_isTown 21 = .ok (.iconst 0, 1) := by decide +kernel
theorem dX11_isTown_22 : decode cX11_isTown 22 = .ok (.ireturn, 1) := by decide +kernel
theorem dX11_isPair_0 : decode cX11_isPair 0 = .ok (.aload_n 0, 1) := by decide +kernel
theorem dX11_isPair_1 : decode cX11_isPair 1 = .ok (.iload_n 1, 1) := by decide +kernel
theorem dX11_isPair_2 : decode cX11_isPair 2 = .ok (.invokevirtual 445, 3) := by decide +kernel
theorem dX11_isPair_5 : decode cX11_isPair 5 = .ok (.ifCond .eq 20, 3) := by decide +kernel
theorem dX11_isPair_8 : decode cX11_isPair 8 = .ok (.aload_n 0, 1) := by decide +kernel
theorem dX11_isPair_9 : decode cX11_isPair 9 = .ok (.iload_n 2, 1) := by decide +kernel
theorem dX11_isPair_10 : decode cX11_isPair 10 = .ok (.invokevirtual 445, 3) := by decide +kernel
theorem dX11_isPair_13 : decode cX11_isPair 13 = .ok (.ifCond .eq 12, 3) := by decide +kernel
theorem dX11_isPair_16 : decode cX11_isPair 16 = .ok (.iload_n 1, 1) := by decide +kernel
theorem dX11_isPair_17 : decode cX11_isPair 17 = .ok (.iload_n 2, 1) := by decide +kernel
theorem dX11_isPair_18 : decode cX11_isPair 18 = .ok (.if_icmp .eq 7, 3) := by decide +kernel
theorem dX11_isPair_21 : decode cX11_isPair 21 = .ok (.iconst 1, 1) := by decide +kernel
theorem dX11_isPair_22 : decode cX11_isPair 22 = .ok (.goto 4, 3) := by decide +kernel
theorem dX11_isPair_25 : decode cX11_isPair 25 = .ok (.iconst 0, 1) := by decide +kernel
theorem dX11_isPair_26 : decode cX11_isPair 26 = .ok (.ireturn, 1) := by decide +kernel
theorem dX11_has_0 : decode cX11_has 0 = .ok (.iconst 0, 1) := by decide +kernel
theorem dX11_has_1 : decode cX11_has 1 = .ok (.istore_n 2, 1) := by decide +kernel
theorem dX11_has_2 : decode cX11_has 2 = .ok (.iload_n 1, 1) := by decide +kernel
theorem dX11_has_3 : decode cX11_has 3 = .ok (.tableswitch 189 0 10 #[57, 67, 77, 84, 109, 116, 141, 166, 173, 178, 183], 57) := by decide +kernel
theorem dX11_has_60 : decode cX11_has 60 = .ok (.aload_n 0, 1) := by decide +kernel
theorem dX11_has_61 : decode cX11_has 61 = .ok (.getfield 54, 3) := by decide +kernel
theorem dX11_has_64 : decode cX11_has 64 = .ok (.aload_n 0, 1) := by decide +kernel
theorem dX11_has_65 : decode cX11_has 65 = .ok (.getfield 51, 3) := by decide +kernel
theorem dX11_has_68 : decode cX11_has 68 = .ok (.iaload, 1) := by decide +kernel
theorem dX11_has_69 : decode cX11_has 69 = .ok (.ireturn, 1) := by decide +kernel
theorem dX11_has_70 : decode cX11_has 70 = .ok (.aload_n 0, 1) := by decide +kernel
theorem dX11_has_71 : decode cX11_has 71 = .ok (.getfield 57, 3) := by decide +kernel
theorem dX11_has_74 : decode cX11_has 74 = .ok (.aload_n 0, 1) := by decide +kernel
theorem dX11_has_75 : decode cX11_has 75 = .ok (.getfield 51, 3) := by decide +kernel
theorem dX11_has_78 : decode cX11_has 78 = .ok (.iaload, 1) := by decide +kernel
theorem dX11_has_79 : decode cX11_has 79 = .ok (.ireturn, 1) := by decide +kernel
theorem dX11_has_80 : decode cX11_has 80 = .ok (.aload_n 0, 1) := by decide +kernel
theorem dX11_has_81 : decode cX11_has 81 = .ok (.getfield 132, 3) := by decide +kernel
theorem dX11_has_84 : decode cX11_has 84 = .ok (.iconst 0, 1) := by decide +kernel
theorem dX11_has_85 : decode cX11_has 85 = .ok (.iaload, 1) := by decide +kernel
theorem dX11_has_86 : decode cX11_has 86 = .ok (.ireturn, 1) := by decide +kernel
theorem dX11_has_87 : decode cX11_has 87 = .ok (.iconst 0, 1) := by decide +kernel
theorem dX11_has_88 : decode cX11_has 88 = .ok (.istore_n 3, 1) := by decide +kernel
theorem dX11_has_89 : decode cX11_has 89 = .ok (.iload_n 3, 1) := by decide +kernel
theorem dX11_has_90 : decode cX11_has 90 = .ok (.bipush 36, 2) := by decide +kernel
theorem dX11_has_92 : decode cX11_has 92 = .ok (.if_icmp .ge 18, 3) := by decide +kernel
theorem dX11_has_95 : decode cX11_has 95 = .ok (.iload_n 2, 1) := by decide +kernel
theorem dX11_has_96 : decode cX11_has 96 = .ok (.aload_n 0, 1) := by decide +kernel
theorem dX11_has_97 : decode cX11_has 97 = .ok (.getfield 135, 3) := by decide +kernel
theorem dX11_has_100 : decode cX11_has 100 = .ok (.iload_n 3, 1) := by decide +kernel
theorem dX11_has_101 : decode cX11_has 101 = .ok (.iaload, 1) := by decide +kernel
theorem dX11_has_102 : decode cX11_has 102 = .ok (.iadd, 1) := by decide +kernel
theorem dX11_has_103 : decode cX11_has 103 = .ok (.istore_n 2, 1) := by decide +kernel
theorem dX11_has_104 : decode cX11_has 104 = .ok (.iinc 3 1, 3) := by decide +kernel
theorem dX11_has_107 : decode cX11_has 107 = .ok (.goto (-18), 3) := by decide +kernel
theorem dX11_has_110 : decode cX11_has 110 = .ok (.iload_n 2, 1) := by decide +kernel
theorem dX11_has_111 : decode cX11_has 111 = .ok (.ireturn, 1) := by decide +kernel
theorem dX11_has_112 : decode cX11_has 112 = .ok (.aload_n 0, 1) := by decide +kernel
theorem dX11_has_113 : decode cX11_has 113 = .ok (.getfield 144, 3) := by decide +kernel
theorem dX11_has_116 : decode cX11_has 116 = .ok (.iconst 0, 1) := by decide +kernel
theorem dX11_has_117 : decode cX11_has 117 = .ok (.iaload, 1) := by decide +kernel
theorem dX11_has_118 : decode cX11_has 118 = .ok (.ireturn, 1) := by decide +kernel
theorem dX11_has_119 : decode cX11_has 119 = .ok (.iconst 0, 1) := by decide +kernel
theorem dX11_has_120 : decode cX11_has 120 = .ok (.istore_n 3, 1) := by decide +kernel
theorem dX11_has_121 : decode cX11_has 121 = .ok (.iload_n 3, 1) := by decide +kernel
theorem dX11_has_122 : decode cX11_has 122 = .ok (.bipush 36, 2) := by decide +kernel
theorem dX11_has_124 : decode cX11_has 124 = .ok (.if_icmp .ge 18, 3) := by decide +kernel
theorem dX11_has_127 : decode cX11_has 127 = .ok (.iload_n 2, 1) := by decide +kernel
theorem dX11_has_128 : decode cX11_has 128 = .ok (.aload_n 0, 1) := by decide +kernel
theorem dX11_has_129 : decode cX11_has 129 = .ok (.getfield 138, 3) := by decide +kernel
theorem dX11_has_132 : decode cX11_has 132 = .ok (.iload_n 3, 1) := by decide +kernel
theorem dX11_has_133 : decode cX11_has 133 = .ok (.iaload, 1) := by decide +kernel
theorem dX11_has_134 : decode cX11_has 134 = .ok (.iadd, 1) := by decide +kernel
theorem dX11_has_135 : decode cX11_has 135 = .ok (.istore_n 2, 1) := by decide +kernel
theorem dX11_has_136 : decode cX11_has 136 = .ok (.iinc 3 1, 3) := by decide +kernel
theorem dX11_has_139 : decode cX11_has 139 = .ok (.goto (-18), 3) := by decide +kernel
theorem dX11_has_142 : decode cX11_has 142 = .ok (.iload_n 2, 1) := by decide +kernel
theorem dX11_has_143 : decode cX11_has 143 = .ok (.ireturn, 1) := by decide +kernel
theorem dX11_has_144 : decode cX11_has 144 = .ok (.iconst 0, 1) := by decide +kernel
theorem dX11_has_145 : decode cX11_has 145 = .ok (.istore_n 3, 1) := by decide +kernel
theorem dX11_has_146 : decode cX11_has 146 = .ok (.iload_n 3, 1) := by decide +kernel
theorem dX11_has_147 : decode cX11_has 147 = .ok (.bipush 36, 2) := by decide +kernel
theorem dX11_has_149 : decode cX11_has 149 = .ok (.if_icmp .ge 18, 3) := by decide +kernel
theorem dX11_has_152 : decode cX11_has 152 = .ok (.iload_n 2, 1) := by decide +kernel
theorem dX11_has_153 : decode cX11_has 153 = .ok (.aload_n 0, 1) := by decide +kernel
theorem dX11_has_154 : decode cX11_has 154 = .ok (.getfield 141, 3) := by decide +kernel
theorem dX11_has_157 : decode cX11_has 157 = .ok (.iload_n 3, 1) := by decide +kernel
theorem dX11_has_158 : decode cX11_has 158 = .ok (.iaload, 1) := by decide +kernel
theorem dX11_has_159 : decode cX11_has 159 = .ok (.iadd, 1) := by decide +kernel
theorem dX11_has_160 : decode cX11_has 160 = .ok (.istore_n 2, 1) := by decide +kernel
theorem dX11_has_161 : decode cX11_has 161 = .ok (.iinc 3 1, 3) := by decide +kernel
theorem dX11_has_164 : decode cX11_has 164 = .ok (.goto (-18), 3) := by decide +kernel
theorem dX11_has_167 : decode cX11_has 167 = .ok (.iload_n 2, 1) := by decide +kernel
theorem dX11_has_168 : decode cX11_has 168 = .ok (.ireturn, 1) := by decide +kernel
theorem dX11_has_169 : decode cX11_has 169 = .ok (.aload_n 0, 1) := by decide +kernel
theorem dX11_has_170 : decode cX11_has 170 = .ok (.getfield 150, 3) := by decide +kernel
theorem dX11_has_173 : decode cX11_has 173 = .ok (.iconst 0, 1) := by decide +kernel
theorem dX11_has_174 : decode cX11_has 174 = .ok (.iaload, 1) := by decide +kernel
theorem dX11_has_175 : decode cX11_has 175 = .ok (.ireturn, 1) := by decide +kernel
theorem dX11_has_176 : decode cX11_has 176 = .ok (.aload_n 0, 1) := by decide +kernel
theorem dX11_has_177 : decode cX11_has 177 = .ok (.getfield 195, 3) := by decide +kernel
theorem dX11_has_180 : decode cX11_has 180 = .ok (.ireturn, 1) := by decide +kernel
theorem dX11_has_181 : decode cX11_has 181 = .ok (.aload_n 0, 1) := by decide +kernel
theorem dX11_has_182 : decode cX11_has 182 = .ok (.getfield 159, 3) := by decide +kernel
theorem dX11_has_185 : decode cX11_has 185 = .ok (.ireturn, 1) := by decide +kernel
theorem dX11_has_186 : decode cX11_has 186 = .ok (.aload_n 0, 1) := by decide +kernel
theorem dX11_has_187 : decode cX11_has 187 = .ok (.getfield 162, 3) := by decide +kernel
theorem dX11_has_190 : decode cX11_has 190 = .ok (.l2i, 1) := by decide +kernel
theorem dX11_has_191 : decode cX11_has 191 = .ok (.ireturn, 1) := by decide +kernel
theorem dX11_has_192 : decode cX11_has 192 = .ok (.iconst (-1), 1) := by decide +kernel
theorem dX11_has_193 : decode cX11_has 193 = .ok (.ireturn, 1) := by decide +kernel
theorem dX11_letter_0 : decode cX11_letter 0 = .ok (.aload_n 0, 1) := by decide +kernel
theorem dX11_letter_1 : decode cX11_letter 1 = .ok (.iload_n 1, 1) := by decide +kernel
theorem dX11_letter_2 : decode cX11_letter 2 = .ok (.invokevirtual 445, 3) := by decide +kernel
theorem dX11_letter_5 : decode cX11_letter 5 = .ok (.ifCond .eq 12, 3) := by decide +kernel
theorem dX11_letter_8 : decode cX11_letter 8 = .ok (.iload_n 2, 1) := by decide +kernel
theorem dX11_letter_9 : decode cX11_letter 9 = .ok (.iconst 0, 1) := by decide +kernel
theorem dX11_letter_10 : decode cX11_letter 10 = .ok (.iconst 5, 1) := by decide +kernel
theorem dX11_letter_11 : decode cX11_letter 11 = .ok (.invokestatic 287, 3) := by decide +kernel
theorem dX11_letter_14 : decode cX11_letter 14 = .ok (.ifCond .ne 5, 3) := by decide +kernel
theorem dX11_letter_17 : decode cX11_letter 17 = .ok (.iconst (-1), 1) := by decide +kernel
theorem dX11_letter_18 : decode cX11_letter 18 = .ok (.ireturn, 1) := by decide +kernel
theorem dX11_letter_19 : decode cX11_letter 19 = .ok (.aload_n 0, 1) := by decide +kernel
theorem dX11_letter_20 : decode cX11_letter 20 = .ok (.getfield 84, 3) := by decide +kernel
theorem dX11_letter_23 : decode cX11_letter 23 = .ok (.bipush 6, 2) := by decide +kernel
theorem dX11_letter_25 : decode cX11_letter 25 = .ok (.aload_n 0, 1) := by decide +kernel
theorem dX11_letter_26 : decode cX11_letter 26 = .ok (.getfield 51, 3) := by decide +kernel
theorem dX11_letter_29 : decode cX11_letter 29 = .ok (.imul, 1) := by decide +kernel
theorem dX11_letter_30 : decode cX11_letter 30 = .ok (.iload_n 1, 1) := by decide +kernel
theorem dX11_letter_31 : decode cX11_letter 31 = .ok (.iadd, 1) := by decide +kernel
theorem dX11_letter_32 : decode cX11_letter 32 = .ok (.laload, 1) := by decide +kernel
theorem dX11_letter_33 : decode cX11_letter 33 = .ok (.lstore_n 3, 1) := by decide +kernel
theorem dX11_letter_34 : decode cX11_letter 34 = .ok (.iconst 0, 1) := by decide +kernel
theorem dX11_letter_35 : decode cX11_letter 35 = .ok (.istore 5, 2) := by decide +kernel
theorem dX11_letter_37 : decode cX11_letter 37 = .ok (.lload_n 3, 1) := by decide +kernel
theorem dX11_letter_38 : decode cX11_letter 38 = .ok (.lstore 6, 2) := by decide +kernel
theorem dX11_letter_40 : decode cX11_letter 40 = .ok (.lload 6, 2) := by decide +kernel
theorem dX11_letter_42 : decode cX11_letter 42 = .ok (.lconst 0, 1) := by decide +kernel
theorem dX11_letter_43 : decode cX11_letter 43 = .ok (.lcmp, 1) := by decide +kernel
theorem dX11_letter_44 : decode cX11_letter 44 = .ok (.ifCond .le 16, 3) := by decide +kernel
theorem dX11_letter_47 : decode cX11_letter 47 = .ok (.iinc 5 1, 3) := by decide +kernel
theorem dX11_letter_50 : decode cX11_letter 50 = .ok (.lload 6, 2) := by decide +kernel
theorem dX11_letter_52 : decode cX11_letter 52 = .ok (.bipush 8, 2) := by decide +kernel
theorem dX11_letter_54 : decode cX11_letter 54 = .ok (.lshr, 1) := by decide +kernel
theorem dX11_letter_55 : decode cX11_letter 55 = .ok (.lstore 6, 2) := by decide +kernel
theorem dX11_letter_57 : decode cX11_letter 57 = .ok (.goto (-17), 3) := by decide +kernel
theorem dX11_letter_60 : decode cX11_letter 60 = .ok (.iload_n 2, 1) := by decide +kernel
theorem dX11_letter_61 : decode cX11_letter 61 = .ok (.iload 5, 2) := by decide +kernel
theorem dX11_letter_63 : decode cX11_letter 63 = .ok (.if_icmp .lt 7, 3) := by decide +kernel
theorem dX11_letter_66 : decode cX11_letter 66 = .ok (.iconst 0, 1) := by decide +kernel
theorem dX11_letter_67 : decode cX11_letter 67 = .ok (.goto 24, 3) := by decide +kernel
theorem dX11_letter_70 : decode cX11_letter 70 = .ok (.lload_n 3, 1) := by decide +kernel
theorem dX11_letter_71 : decode cX11_letter 71 = .ok (.bipush 8, 2) := by decide +kernel
theorem dX11_letter_73 : decode cX11_letter 73 = .ok (.iload 5, 2) := by decide +kernel
theorem dX11_letter_75 : decode cX11_letter 75 = .ok (.iconst 1, 1) := by decide +kernel
theorem dX11_letter_76 : decode cX11_letter 76 = .ok (.isub, 1) := by decide +kernel
theorem dX11_letter_77 : decode cX11_letter 77 = .ok (.iload_n 2, 1) := by decide +kernel
theorem dX11_letter_78 : decode cX11_letter 78 = .ok (.isub, 1) := by decide +kernel
theorem dX11_letter_79 : decode cX11_letter 79 = .ok (.imul, 1) := by decide +kernel
theorem dX11_letter_80 : decode cX11_letter 80 = .ok (.lshr, 1) := by decide +kernel
theorem dX11_letter_81 : decode cX11_letter 81 = .ok (.ldc2_w 448, 3) := by decide +kernel
theorem dX11_letter_84 : decode cX11_letter 84 = .ok (.land, 1) := by decide +kernel
theorem dX11_letter_85 : decode cX11_letter 85 = .ok (.l2i, 1) := by decide +kernel
theorem dX11_letter_86 : decode cX11_letter 86 = .ok (.bipush 97, 2) := by decide +kernel
theorem dX11_letter_88 : decode cX11_letter 88 = .ok (.isub, 1) := by decide +kernel
theorem dX11_letter_89 : decode cX11_letter 89 = .ok (.iconst 1, 1) := by decide +kernel
theorem dX11_letter_90 : decode cX11_letter 90 = .ok (.iadd, 1) := by decide +kernel
theorem dX11_letter_91 : decode cX11_letter 91 = .ok (.ireturn, 1) := by decide +kernel
theorem dX11_pair_0 : decode cX11_pair 0 = .ok (.aload_n 0, 1) := by decide +kernel
theorem dX11_pair_1 : decode cX11_pair 1 = .ok (.iload_n 1, 1) := by decide +kernel
theorem dX11_pair_2 : decode cX11_pair 2 = .ok (.iload_n 2, 1) := by decide +kernel
theorem dX11_pair_3 : decode cX11_pair 3 = .ok (.invokevirtual 450, 3) := by decide +kernel
theorem dX11_pair_6 : decode cX11_pair 6 = .ok (.ifCond .ne 5, 3) := by decide +kernel
theorem dX11_pair_9 : decode cX11_pair 9 = .ok (.iconst (-1), 1) := by decide +kernel
theorem dX11_pair_10 : decode cX11_pair 10 = .ok (.ireturn, 1) := by decide +kernel
theorem dX11_pair_11 : decode cX11_pair 11 = .ok (.aload_n 0, 1) := by decide +kernel
theorem dX11_pair_12 : decode cX11_pair 12 = .ok (.iconst 0, 1) := by decide +kernel
theorem dX11_pair_13 : decode cX11_pair 13 = .ok (.iload_n 1, 1) := by decide +kernel
theorem dX11_pair_14 : decode cX11_pair 14 = .ok (.iload_n 2, 1) := by decide +kernel
theorem dX11_pair_15 : decode cX11_pair 15 = .ok (.invokevirtual 344, 3) := by decide +kernel
theorem dX11_pair_18 : decode cX11_pair 18 = .ok (.istore 4, 2) := by decide +kernel
theorem dX11_pair_20 : decode cX11_pair 20 = .ok (.iload_n 3, 1) := by decide +kernel
theorem dX11_pair_21 : decode cX11_pair 21 = .ok (.ifCond .ne 13, 3) := by decide +kernel
theorem dX11_pair_24 : decode cX11_pair 24 = .ok (.aload_n 0, 1) := by decide +kernel
theorem dX11_pair_25 : decode cX11_pair 25 = .ok (.getfield 135, 3) := by decide +kernel
theorem dX11_pair_28 : decode cX11_pair 28 = .ok (.iload 4, 2) := by decide +kernel
theorem dX11_pair_30 : decode cX11_pair 30 = .ok (.iaload, 1) := by decide +kernel
theorem dX11_pair_31 : decode cX11_pair 31 = .ok (.goto 57, 3) := by decide +kernel
theorem dX11_pair_34 : decode cX11_pair 34 = .ok (.iload_n 3, 1) := by decide +kernel
theorem dX11_pair_35 : decode cX11_pair 35 = .ok (.iconst 1, 1) := by decide +kernel
theorem dX11_pair_36 : decode cX11_pair 36 = .ok (.if_icmp .ne 13, 3) := by decide +kernel
theorem dX11_pair_39 : decode cX11_pair 39 = .ok (.aload_n 0, 1) := by decide +kernel
theorem dX11_pair_40 : decode cX11_pair 40 = .ok (.getfield 138, 3) := by decide +kernel
theorem dX11_pair_43 : decode cX11_pair 43 = .ok (.iload 4, 2) := by decide +kernel
theorem dX11_pair_45 : decode cX11_pair 45 = .ok (.iaload, 1) := by decide +kernel
theorem dX11_pair_46 : decode cX11_pair 46 = .ok (.goto 42, 3) := by decide +kernel
theorem dX11_pair_49 : decode cX11_pair 49 = .ok (.iload_n 3, 1) := by decide +kernel
theorem dX11_pair_50 : decode cX11_pair 50 = .ok (.iconst 2, 1) := by decide +kernel
theorem dX11_pair_51 : decode cX11_pair 51 = .ok (.if_icmp .ne 13, 3) := by decide +kernel
theorem dX11_pair_54 : decode cX11_pair 54 = .ok (.aload_n 0, 1) := by decide +kernel
theorem dX11_pair_55 : decode cX11_pair 55 = .ok (.getfield 141, 3) := by decide +kernel
theorem dX11_pair_58 : decode cX11_pair 58 = .ok (.iload 4, 2) := by decide +kernel
theorem dX11_pair_60 : decode cX11_pair 60 = .ok (.iaload, 1) := by decide +kernel
theorem dX11_pair_61 : decode cX11_pair 61 = .ok (.goto 27, 3) := by decide +kernel
theorem dX11_pair_64 : decode cX11_pair 64 = .ok (.iload_n 3, 1) := by decide +kernel
theorem dX11_pair_65 : decode cX11_pair 65 = .ok (.iconst 3, 1) := by decide +kernel
theorem dX11_pair_66 : decode cX11_pair 66 = .ok (.if_icmp .ne 21, 3) := by decide +kernel
theorem dX11_pair_69 : decode cX11_pair 69 = .ok (.aload_n 0, 1) := by decide +kernel
theorem dX11_pair_70 : decode cX11_pair 70 = .ok (.iload_n 1, 1) := by decide +kernel
theorem dX11_pair_71 : decode cX11_pair 71 = .ok (.iload_n 2, 1) := by decide +kernel
theorem dX11_pair_72 : decode cX11_pair 72 = .ok (.invokevirtual 411, 3) := by decide +kernel
theorem dX11_pair_75 : decode cX11_pair 75 = .ok (.ifCond .eq 12, 3) := by decide +kernel
theorem dX11_pair_78 : decode cX11_pair 78 = .ok (.aload_n 0, 1) := by decide +kernel
theorem dX11_pair_79 : decode cX11_pair 79 = .ok (.iload_n 1, 1) := by decide +kernel
theorem dX11_pair_80 : decode cX11_pair 80 = .ok (.iload_n 2, 1) := by decide +kernel
theorem dX11_pair_81 : decode cX11_pair 81 = .ok (.invokevirtual 408, 3) := by decide +kernel
theorem dX11_pair_84 : decode cX11_pair 84 = .ok (.goto 4, 3) := by decide +kernel
theorem dX11_pair_87 : decode cX11_pair 87 = .ok (.iconst (-1), 1) := by decide +kernel
theorem dX11_pair_88 : decode cX11_pair 88 = .ok (.ireturn, 1) := by decide +kernel
theorem dX11_mail_0 : decode cX11_mail 0 = .ok (.iload_n 1, 1) := by decide +kernel
theorem dX11_mail_1 : decode cX11_mail 1 = .ok (.iconst 0, 1) := by decide +kernel
theorem dX11_mail_2 : decode cX11_mail 2 = .ok (.aload_n 0, 1) := by decide +kernel
theorem dX11_mail_3 : decode cX11_mail 3 = .ok (.getfield 144, 3) := by decide +kernel
theorem dX11_mail_6 : decode cX11_mail 6 = .ok (.iconst 0, 1) := by decide +kernel
theorem dX11_mail_7 : decode cX11_mail 7 = .ok (.iaload, 1) := by decide +kernel
theorem dX11_mail_8 : decode cX11_mail 8 = .ok (.iconst 1, 1) := by decide +kernel
theorem dX11_mail_9 : decode cX11_mail 9 = .ok (.isub, 1) := by decide +kernel
theorem dX11_mail_10 : decode cX11_mail 10 = .ok (.invokestatic 287, 3) := by decide +kernel
theorem dX11_mail_13 : decode cX11_mail 13 = .ok (.ifCond .eq 25, 3) := by decide +kernel
theorem dX11_mail_16 : decode cX11_mail 16 = .ok (.iload_n 2, 1) := by decide +kernel
theorem dX11_mail_17 : decode cX11_mail 17 = .ok (.iconst 0, 1) := by decide +kernel
theorem dX11_mail_18 : decode cX11_mail 18 = .ok (.iconst 2, 1) := by decide +kernel
theorem dX11_mail_19 : decode cX11_mail 19 = .ok (.invokestatic 287, 3) := by decide +kernel
theorem dX11_mail_22 : decode cX11_mail 22 = .ok (.ifCond .eq 16, 3) := by decide +kernel
theorem dX11_mail_25 : decode cX11_mail 25 = .ok (.aload_n 0, 1) := by decide +kernel
theorem dX11_mail_26 : decode cX11_mail 26 = .ok (.getfield 147, 3) := by decide +kernel
theorem dX11_mail_29 : decode cX11_mail 29 = .ok (.iconst 3, 1) := by decide +kernel
theorem dX11_mail_30 : decode cX11_mail 30 = .ok (.iload_n 1, 1) := by decide +kernel
theorem dX11_mail_31 : decode cX11_mail 31 = .ok (.imul, 1) := by decide +kernel
theorem dX11_mail_32 : decode cX11_mail 32 = .ok (.iload_n 2, 1) := by decide +kernel
theorem dX11_mail_33 : decode cX11_mail 33 = .ok (.iadd, 1) := by decide +kernel
theorem dX11_mail_34 : decode cX11_mail 34 = .ok (.iaload, 1) := by decide +kernel
theorem dX11_mail_35 : decode cX11_mail 35 = .ok (.goto 4, 3) := by decide +kernel
theorem dX11_mail_38 : decode cX11_mail 38 = .ok (.iconst (-1), 1) := by decide +kernel
theorem dX11_mail_39 : decode cX11_mail 39 = .ok (.ireturn, 1) := by decide +kernel
theorem dX11_writes_0 : decode cX11_writes 0 = .ok (.aload_n 0, 1) := by decide +kernel
theorem dX11_writes_1 : decode cX11_writes 1 = .ok (.iload_n 1, 1) := by decide +kernel
theorem dX11_writes_2 : decode cX11_writes 2 = .ok (.invokevirtual 445, 3) := by decide +kernel
theorem dX11_writes_5 : decode cX11_writes 5 = .ok (.ifCond .eq 12, 3) := by decide +kernel
theorem dX11_writes_8 : decode cX11_writes 8 = .ok (.aload_n 0, 1) := by decide +kernel
theorem dX11_writes_9 : decode cX11_writes 9 = .ok (.iconst 0, 1) := by decide +kernel
theorem dX11_writes_10 : decode cX11_writes 10 = .ok (.iload_n 1, 1) := by decide +kernel
theorem dX11_writes_11 : decode cX11_writes 11 = .ok (.invokevirtual 442, 3) := by decide +kernel
theorem dX11_writes_14 : decode cX11_writes 14 = .ok (.goto 4, 3) := by decide +kernel
theorem dX11_writes_17 : decode cX11_writes 17 = .ok (.iconst (-1), 1) := by decide +kernel
theorem dX11_writes_18 : decode cX11_writes 18 = .ok (.ireturn, 1) := by decide +kernel
theorem dX11_isAhead_0 : decode cX11_isAhead 0 = .ok (.iload_n 1, 1) := by decide +kernel
theorem dX11_isAhead_1 : decode cX11_isAhead 1 = .ok (.iload_n 2, 1) := by decide +kernel
theorem dX11_isAhead_2 : decode cX11_isAhead 2 = .ok (.iload_n 3, 1) := by decide +kernel
theorem dX11_isAhead_3 : decode cX11_isAhead 3 = .ok (.invokestatic 287, 3) := by decide +kernel
theorem dX11_isAhead_6 : decode cX11_isAhead 6 = .ok (.ifCond .eq 21, 3) := by decide +kernel
theorem dX11_isAhead_9 : decode cX11_isAhead 9 = .ok (.aload_n 0, 1) := by decide +kernel
theorem dX11_isAhead_10 : decode cX11_isAhead 10 = .ok (.getfield 132, 3) := by decide +kernel
theorem dX11_isAhead_13 : decode cX11_isAhead 13 = .ok (.iconst 0, 1) := by decide +kernel
theorem dX11_isAhead_14 : decode cX11_isAhead 14 = .ok (.iaload, 1) := by decide +kernel
theorem dX11_isAhead_15 : decode cX11_isAhead 15 = .ok (.sipush 999, 3) := by decide +kernel
theorem dX11_isAhead_18 : decode cX11_isAhead 18 = .ok (.iload_n 1, 1) := by decide +kernel
theorem dX11_isAhead_19 : decode cX11_isAhead 19 = .ok (.isub, 1) := by decide +kernel
theorem dX11_isAhead_20 : decode cX11_isAhead 20 = .ok (.if_icmp .gt 7, 3) := by decide +kernel
theorem dX11_isAhead_23 : decode cX11_isAhead 23 = .ok (.iconst 1, 1) := by decide +kernel
theorem dX11_isAhead_24 : decode cX11_isAhead 24 = .ok (.goto 4, 3) := by decide +kernel
theorem dX11_isAhead_27 : decode cX11_isAhead 27 = .ok (.iconst 0, 1) := by decide +kernel
theorem dX11_isAhead_28 : decode cX11_isAhead 28 = .ok (.ireturn, 1) := by decide +kernel
theorem dX11_later_0 : decode cX11_later 0 = .ok (.aload_n 0, 1) := by decide +kernel
theorem dX11_later_1 : decode cX11_later 1 = .ok (.iload_n 1, 1) := by decide +kernel
theorem dX11_later_2 : decode cX11_later 2 = .ok (.iload_n 2, 1) := by decide +kernel
theorem dX11_later_3 : decode cX11_later 3 = .ok (.invokevirtual 450, 3) := by decide +kernel
theorem dX11_later_6 : decode cX11_later 6 = .ok (.ifCond .eq 24, 3) := by decide +kernel
theorem dX11_later_9 : decode cX11_later 9 = .ok (.aload_n 0, 1) := by decide +kernel
theorem dX11_later_10 : decode cX11_later 10 = .ok (.iload_n 3, 1) := by decide +kernel
theorem dX11_later_11 : decode cX11_later 11 = .ok (.iconst 0, 1) := by decide +kernel
theorem dX11_later_12 : decode cX11_later 12 = .ok (.bipush 60, 2) := by decide +kernel
theorem dX11_later_14 : decode cX11_later 14 = .ok (.invokevirtual 453, 3) := by decide +kernel
theorem dX11_later_17 : decode cX11_later 17 = .ok (.ifCond .eq 13, 3) := by decide +kernel
theorem dX11_later_20 : decode cX11_later 20 = .ok (.iload 4, 2) := by decide +kernel
theorem dX11_later_22 : decode cX11_later 22 = .ok (.iconst 0, 1) := by decide +kernel
theorem dX11_later_23 : decode cX11_later 23 = .ok (.iconst 2, 1) := by decide +kernel
theorem dX11_later_24 : decode cX11_later 24 = .ok (.invokestatic 287, 3) := by decide +kernel
theorem dX11_later_27 : decode cX11_later 27 = .ok (.ifCond .ne 5, 3) := by decide +kernel
theorem dX11_later_30 : decode cX11_later 30 = .ok (.iconst (-1), 1) := by decide +kernel
theorem dX11_later_31 : decode cX11_later 31 = .ok (.ireturn, 1) := by decide +kernel
theorem dX11_later_32 : decode cX11_later 32 = .ok (.aload_n 0, 1) := by decide +kernel
theorem dX11_later_33 : decode cX11_later 33 = .ok (.iconst 1, 1) := by decide +kernel
theorem dX11_later_34 : decode cX11_later 34 = .ok (.iconst 0, 1) := by decide +kernel
theorem dX11_later_35 : decode cX11_later 35 = .ok (.invokevirtual 389, 3) := by decide +kernel
theorem dX11_later_38 : decode cX11_later 38 = .ok (.iconst 0, 1) := by decide +kernel
theorem dX11_later_39 : decode cX11_later 39 = .ok (.istore 5, 2) := by decide +kernel
theorem dX11_later_41 : decode cX11_later 41 = .ok (.iload 5, 2) := by decide +kernel
theorem dX11_later_43 : decode cX11_later 43 = .ok (.iload_n 3, 1) := by decide +kernel
theorem dX11_later_44 : decode cX11_later 44 = .ok (.if_icmp .ge 15, 3) := by decide +kernel
theorem dX11_later_47 : decode cX11_later 47 = .ok (.aload_n 0, 1) := by decide +kernel
theorem dX11_later_48 : decode cX11_later 48 = .ok (.iconst 1, 1) := by decide +kernel
theorem dX11_later_49 : decode cX11_later 49 = .ok (.iconst 0, 1) := by decide +kernel
theorem dX11_later_50 : decode cX11_later 50 = .ok (.invokevirtual 456, 3) := by decide +kernel
theorem dX11_later_53 : decode cX11_later 53 = .ok (.iinc 5 1, 3) := by decide +kernel
theorem dX11_later_56 : decode cX11_later 56 = .ok (.goto (-15), 3) := by decide +kernel
theorem dX11_later_59 : decode cX11_later 59 = .ok (.aload_n 0, 1) := by decide +kernel
theorem dX11_later_60 : decode cX11_later 60 = .ok (.iconst 1, 1) := by decide +kernel
theorem dX11_later_61 : decode cX11_later 61 = .ok (.iload_n 1, 1) := by decide +kernel
theorem dX11_later_62 : decode cX11_later 62 = .ok (.iload_n 2, 1) := by decide +kernel
theorem dX11_later_63 : decode cX11_later 63 = .ok (.invokevirtual 344, 3) := by decide +kernel
theorem dX11_later_66 : decode cX11_later 66 = .ok (.istore 5, 2) := by decide +kernel
theorem dX11_later_68 : decode cX11_later 68 = .ok (.iload 4, 2) := by decide +kernel
theorem dX11_later_70 : decode cX11_later 70 = .ok (.ifCond .ne 13, 3) := by decide +kernel
theorem dX11_later_73 : decode cX11_later 73 = .ok (.aload_n 0, 1) := by decide +kernel
theorem dX11_later_74 : decode cX11_later 74 = .ok (.getfield 135, 3) := by decide +kernel
theorem dX11_later_77 : decode cX11_later 77 = .ok (.iload 5, 2) := by decide +kernel
theorem dX11_later_79 : decode cX11_later 79 = .ok (.iaload, 1) := by decide +kernel
theorem dX11_later_80 : decode cX11_later 80 = .ok (.goto 26, 3) := by decide +kernel
theorem dX11_later_83 : decode cX11_later 83 = .ok (.iload 4, 2) := by decide +kernel
theorem dX11_later_85 : decode cX11_later 85 = .ok (.iconst 1, 1) := by decide +kernel
theorem dX11_later_86 : decode cX11_later 86 = .ok (.if_icmp .ne 13, 3) := by decide +kernel
theorem dX11_later_89 : decode cX11_later 89 = .ok (.aload_n 0, 1) := by decide +kernel
theorem dX11_later_90 : decode cX11_later 90 = .ok (.getfield 138, 3) := by decide +kernel
theorem dX11_later_93 : decode cX11_later 93 = .ok (.iload 5, 2) := by decide +kernel
theorem dX11_later_95 : decode cX11_later 95 = .ok (.iaload, 1) := by decide +kernel
theorem dX11_later_96 : decode cX11_later 96 = .ok (.goto 10, 3) := by decide +kernel
theorem dX11_later_99 : decode cX11_later 99 = .ok (.aload_n 0, 1) := by decide +kernel
theorem dX11_later_100 : decode cX11_later 100 = .ok (.getfield 141, 3) := by decide +kernel
theorem dX11_later_103 : decode cX11_later 103 = .ok (.iload 5, 2) := by decide +kernel
theorem dX11_later_105 : decode cX11_later 105 = .ok (.iaload, 1) := by decide +kernel
theorem dX11_later_106 : decode cX11_later 106 = .ok (.ireturn, 1) := by decide +kernel
theorem dX11_comes_0 : decode cX11_comes 0 = .ok (.aload_n 0, 1) := by decide +kernel
theorem dX11_comes_1 : decode cX11_comes 1 = .ok (.iload_n 1, 1) := by decide +kernel
theorem dX11_comes_2 : decode cX11_comes 2 = .ok (.iload_n 2, 1) := by decide +kernel
theorem dX11_comes_3 : decode cX11_comes 3 = .ok (.invokevirtual 450, 3) := by decide +kernel
theorem dX11_comes_6 : decode cX11_comes 6 = .ok (.ifCond .ne 5, 3) := by decide +kernel
theorem dX11_comes_9 : decode cX11_comes 9 = .ok (.iconst (-1), 1) := by decide +kernel
theorem dX11_comes_10 : decode cX11_comes 10 = .ok (.ireturn, 1) := by decide +kernel
theorem dX11_comes_11 : decode cX11_comes 11 = .ok (.aload_n 0, 1) := by decide +kernel
theorem dX11_comes_12 : decode cX11_comes 12 = .ok (.iconst 1, 1) := by decide +kernel
theorem dX11_comes_13 : decode cX11_comes 13 = .ok (.iconst 0, 1) := by decide +kernel
theorem dX11_comes_14 : decode cX11_comes 14 = .ok (.invokevirtual 389, 3) := by decide +kernel
theorem dX11_comes_17 : decode cX11_comes 17 = .ok (.iconst 1, 1) := by decide +kernel
theorem dX11_comes_18 : decode cX11_comes 18 = .ok (.istore_n 3, 1) := by decide +kernel
theorem dX11_comes_19 : decode cX11_comes 19 = .ok (.aload_n 0, 1) := by decide +kernel
theorem dX11_comes_20 : decode cX11_comes 20 = .ok (.iload_n 3, 1) := by decide +kernel
theorem dX11_comes_21 : decode cX11_comes 21 = .ok (.iconst 1, 1) := by decide +kernel
theorem dX11_comes_22 : decode cX11_comes 22 = .ok (.bipush 60, 2) := by decide +kernel
theorem dX11_comes_24 : decode cX11_comes 24 = .ok (.invokevirtual 453, 3) := by decide +kernel
theorem dX11_comes_27 : decode cX11_comes 27 = .ok (.ifCond .eq 35, 3) := by decide +kernel
theorem dX11_comes_30 : decode cX11_comes 30 = .ok (.aload_n 0, 1) := by decide +kernel
theorem dX11_comes_31 : decode cX11_comes 31 = .ok (.iconst 1, 1) := by decide +kernel
theorem dX11_comes_32 : decode cX11_comes 32 = .ok (.iconst 0, 1) := by decide +kernel
theorem dX11_comes_33 : decode cX11_comes 33 = .ok (.invokevirtual 456, 3) := by decide +kernel
theorem dX11_comes_36 : decode cX11_comes 36 = .ok (.aload_n 0, 1) := by decide +kernel
theorem dX11_comes_37 : decode cX11_comes 37 = .ok (.getfield 177, 3) := by decide +kernel
theorem dX11_comes_40 : decode cX11_comes 40 = .ok (.bipush 6, 2) := by decide +kernel
theorem dX11_comes_42 : decode cX11_comes 42 = .ok (.iload_n 1, 1) := by decide +kernel
theorem dX11_comes_43 : decode cX11_comes 43 = .ok (.imul, 1) := by decide +kernel
theorem dX11_comes_44 : decode cX11_comes 44 = .ok (.iload_n 2, 1) := by decide +kernel
theorem dX11_comes_45 : decode cX11_comes 45 = .ok (.iadd, 1) := by decide +kernel
theorem dX11_comes_46 : decode cX11_comes 46 = .ok (.lshr, 1) := by decide +kernel
theorem dX11_comes_47 : decode cX11_comes 47 = .ok (.lconst 1, 1) := by decide +kernel
theorem dX11_comes_48 : decode cX11_comes 48 = .ok (.land, 1) := by decide +kernel
theorem dX11_comes_49 : decode cX11_comes 49 = .ok (.lconst 1, 1) := by decide +kernel
theorem dX11_comes_50 : decode cX11_comes 50 = .ok (.lcmp, 1) := by decide +kernel
theorem dX11_comes_51 : decode cX11_comes 51 = .ok (.ifCond .ne 5, 3) := by decide +kernel
theorem dX11_comes_54 : decode cX11_comes 54 = .ok (.iload_n 3, 1) := by decide +kernel
theorem dX11_comes_55 : decode cX11_comes 55 = .ok (.ireturn, 1) := by decide +kernel
theorem dX11_comes_56 : decode cX11_comes 56 = .ok (.iinc 3 1, 3) := by decide +kernel
theorem dX11_comes_59 : decode cX11_comes 59 = .ok (.goto (-40), 3) := by decide +kernel
theorem dX11_comes_62 : decode cX11_comes 62 = .ok (.iconst (-1), 1) := by decide +kernel
theorem dX11_comes_63 : decode cX11_comes 63 = .ok (.ireturn, 1) := by decide +kernel
theorem dX11_isSilent_0 : decode cX11_isSilent 0 = .ok (.iconst 0, 1) := by decide +kernel
theorem dX11_isSilent_1 : decode cX11_isSilent 1 = .ok (.istore_n 2, 1) := by decide +kernel
theorem dX11_isSilent_2 : decode cX11_isSilent 2 = .ok (.iload_n 2, 1) := by decide +kernel
theorem dX11_isSilent_3 : decode cX11_isSilent 3 = .ok (.aload_n 0, 1) := by decide +kernel
theorem dX11_isSilent_4 : decode cX11_isSilent 4 = .ok (.getfield 54, 3) := by decide +kernel
theorem dX11_isSilent_7 : decode cX11_isSilent 7 = .ok (.aload_n 0, 1) := by decide +kernel
theorem dX11_isSilent_8 : decode cX11_isSilent 8 = .ok (.getfield 51, 3) := by decide +kernel
theorem dX11_isSilent_11 : decode cX11_isSilent 11 = .ok (.iaload, 1) := by decide +kernel
theorem dX11_isSilent_12 : decode cX11_isSilent 12 = .ok (.if_icmp .ge 21, 3) := by decide +kernel
theorem dX11_isSilent_15 : decode cX11_isSilent 15 = .ok (.aload_n 0, 1) := by decide +kernel
theorem dX11_isSilent_16 : decode cX11_isSilent 16 = .ok (.iload_n 1, 1) := by decide +kernel
theorem dX11_isSilent_17 : decode cX11_isSilent 17 = .ok (.iload_n 2, 1) := by decide +kernel
theorem dX11_isSilent_18 : decode cX11_isSilent 18 = .ok (.invokevirtual 442, 3) := by decide +kernel
theorem dX11_isSilent_21 : decode cX11_isSilent 21 = .ok (.iconst (-1), 1) := by decide +kernel
theorem dX11_isSilent_22 : decode cX11_isSilent 22 = .ok (.if_icmp .eq 5, 3) := by decide +kernel
theorem dX11_isSilent_25 : decode cX11_isSilent 25 = .ok (.iconst 0, 1) := by decide +kernel
theorem dX11_isSilent_26 : decode cX11_isSilent 26 = .ok (.ireturn, 1) := by decide +kernel
theorem dX11_isSilent_27 : decode cX11_isSilent 27 = .ok (.iinc 2 1, 3) := by decide +kernel
theorem dX11_isSilent_30 : decode cX11_isSilent 30 = .ok (.goto (-28), 3) := by decide +kernel
theorem dX11_isSilent_33 : decode cX11_isSilent 33 = .ok (.aload_n 0, 1) := by decide +kernel
theorem dX11_isSilent_34 : decode cX11_isSilent 34 = .ok (.getfield 144, 3) := by decide +kernel
theorem dX11_isSilent_37 : decode cX11_isSilent 37 = .ok (.iload_n 1, 1) := by decide +kernel
theorem dX11_isSilent_38 : decode cX11_isSilent 38 = .ok (.iaload, 1) := by decide +kernel
theorem dX11_isSilent_39 : decode cX11_isSilent 39 = .ok (.ifCond .ne 7, 3) := by decide +kernel
theorem dX11_isSilent_42 : decode cX11_isSilent 42 = .ok (.iconst 1, 1) := by decide +kernel
theorem dX11_isSilent_43 : decode cX11_isSilent 43 = .ok (.goto 4, 3) := by decide +kernel
theorem dX11_isSilent_46 : decode cX11_isSilent 46 = .ok (.iconst 0, 1) := by decide +kernel
theorem dX11_isSilent_47 : decode cX11_isSilent 47 = .ok (.ireturn, 1) := by decide +kernel
theorem dX11_silent_0 : decode cX11_silent 0 = .ok (.aload_n 0, 1) := by decide +kernel
theorem dX11_silent_1 : decode cX11_silent 1 = .ok (.iconst 1, 1) := by decide +kernel
theorem dX11_silent_2 : decode cX11_silent 2 = .ok (.iconst 0, 1) := by decide +kernel
theorem dX11_silent_3 : decode cX11_silent 3 = .ok (.invokevirtual 389, 3) := by decide +kernel
theorem dX11_silent_6 : decode cX11_silent 6 = .ok (.iconst 0, 1) := by decide +kernel
theorem dX11_silent_7 : decode cX11_silent 7 = .ok (.istore_n 1, 1) := by decide +kernel
theorem dX11_silent_8 : decode cX11_silent 8 = .ok (.aload_n 0, 1) := by decide +kernel
theorem dX11_silent_9 : decode cX11_silent 9 = .ok (.iload_n 1, 1) := by decide +kernel
theorem dX11_silent_10 : decode cX11_silent 10 = .ok (.iconst 0, 1) := by decide +kernel
theorem dX11_silent_11 : decode cX11_silent 11 = .ok (.bipush 60, 2) := by decide +kernel
theorem dX11_silent_13 : decode cX11_silent 13 = .ok (.invokevirtual 453, 3) := by decide +kernel
theorem dX11_silent_16 : decode cX11_silent 16 = .ok (.ifCond .eq 25, 3) := by decide +kernel
theorem dX11_silent_19 : decode cX11_silent 19 = .ok (.aload_n 0, 1) := by decide +kernel
theorem dX11_silent_20 : decode cX11_silent 20 = .ok (.iconst 1, 1) := by decide +kernel
theorem dX11_silent_21 : decode cX11_silent 21 = .ok (.invokevirtual 460, 3) := by decide +kernel
theorem dX11_silent_24 : decode cX11_silent 24 = .ok (.ifCond .eq 5, 3) := by decide +kernel
theorem dX11_silent_27 : decode cX11_silent 27 = .ok (.iload_n 1, 1) := by decide +kernel
theorem dX11_silent_28 : decode cX11_silent 28 = .ok (.ireturn, 1) := by decide +kernel
theorem dX11_silent_29 : decode cX11_silent 29 = .ok (.aload_n 0, 1) := by decide +kernel
theorem dX11_silent_30 : decode cX11_silent 30 = .ok (.iconst 1, 1) := by decide +kernel
theorem dX11_silent_31 : decode cX11_silent 31 = .ok (.iconst 0, 1) := by decide +kernel
theorem dX11_silent_32 : decode cX11_silent 32 = .ok (.invokevirtual 456, 3) := by decide +kernel
theorem dX11_silent_35 : decode cX11_silent 35 = .ok (.iinc 1 1, 3) := by decide +kernel
theorem dX11_silent_38 : decode cX11_silent 38 = .ok (.goto (-30), 3) := by decide +kernel
theorem dX11_silent_41 : decode cX11_silent 41 = .ok (.iconst (-1), 1) := by decide +kernel
theorem dX11_silent_42 : decode cX11_silent 42 = .ok (.ireturn, 1) := by decide +kernel
theorem dX11_isAsHeld_0 : decode cX11_isAsHeld 0 = .ok (.iconst 0, 1) := by decide +kernel
theorem dX11_isAsHeld_1 : decode cX11_isAsHeld 1 = .ok (.istore_n 1, 1) := by decide +kernel
theorem dX11_isAsHeld_2 : decode cX11_isAsHeld 2 = .ok (.iload_n 1, 1) := by decide +kernel
theorem dX11_isAsHeld_3 : decode cX11_isAsHeld 3 = .ok (.bipush 6, 2) := by decide +kernel
theorem dX11_isAsHeld_5 : decode cX11_isAsHeld 5 = .ok (.if_icmp .ge 72, 3) := by decide +kernel
theorem dX11_isAsHeld_8 : decode cX11_isAsHeld 8 = .ok (.iconst 0, 1) := by decide +kernel
theorem dX11_isAsHeld_9 : decode cX11_isAsHeld 9 = .ok (.istore_n 2, 1) := by decide +kernel
theorem dX11_isAsHeld_10 : decode cX11_isAsHeld 10 = .ok (.iload_n 2, 1) := by decide +kernel
theorem dX11_isAsHeld_11 : decode cX11_isAsHeld 11 = .ok (.bipush 6, 2) := by decide +kernel
theorem dX11_isAsHeld_13 : decode cX11_isAsHeld 13 = .ok (.if_icmp .ge 58, 3) := by decide +kernel
theorem dX11_isAsHeld_16 : decode cX11_isAsHeld 16 = .ok (.aload_n 0, 1) := by decide +kernel
theorem dX11_isAsHeld_17 : decode cX11_isAsHeld 17 = .ok (.getfield 180, 3) := by decide +kernel
theorem dX11_isAsHeld_20 : decode cX11_isAsHeld 20 = .ok (.bipush 6, 2) := by decide +kernel
theorem dX11_isAsHeld_22 : decode cX11_isAsHeld 22 = .ok (.iload_n 1, 1) := by decide +kernel
theorem dX11_isAsHeld_23 : decode cX11_isAsHeld 23 = .ok (.imul, 1) := by decide +kernel
theorem dX11_isAsHeld_24 : decode cX11_isAsHeld 24 = .ok (.iload_n 2, 1) := by decide +kernel
theorem dX11_isAsHeld_25 : decode cX11_isAsHeld 25 = .ok (.iadd, 1) := by decide +kernel
theorem dX11_isAsHeld_26 : decode cX11_isAsHeld 26 = .ok (.aload_n 0, 1) := by decide +kernel
theorem dX11_isAsHeld_27 : decode cX11_isAsHeld 27 = .ok (.iload_n 1, 1) := by decide +kernel
theorem dX11_isAsHeld_28 : decode cX11_isAsHeld 28 = .ok (.iload_n 2, 1) := by decide +kernel
theorem dX11_isAsHeld_29 : decode cX11_isAsHeld 29 = .ok (.invokevirtual 450, 3) := by decide +kernel
theorem dX11_isAsHeld_32 : decode cX11_isAsHeld 32 = .ok (.ifCond .eq 31, 3) := by decide +kernel
theorem dX11_isAsHeld_35 : decode cX11_isAsHeld 35 = .ok (.aload_n 0, 1) := by decide +kernel
theorem dX11_isAsHeld_36 : decode cX11_isAsHeld 36 = .ok (.iload_n 1, 1) := by decide +kernel
theorem dX11_isAsHeld_37 : decode cX11_isAsHeld 37 = .ok (.iload_n 2, 1) := by decide +kernel
theorem dX11_isAsHeld_38 : decode cX11_isAsHeld 38 = .ok (.invokevirtual 411, 3) := by decide +kernel
theorem dX11_isAsHeld_41 : decode cX11_isAsHeld 41 = .ok (.ifCond .eq 22, 3) := by decide +kernel
theorem dX11_isAsHeld_44 : decode cX11_isAsHeld 44 = .ok (.aload_n 0, 1) := by decide +kernel
theorem dX11_isAsHeld_45 : decode cX11_isAsHeld 45 = .ok (.getfield 135, 3) := by decide +kernel
theorem dX11_isAsHeld_48 : decode cX11_isAsHeld 48 = .ok (.aload_n 0, 1) := by decide +kernel
theorem dX11_isAsHeld_49 : decode cX11_isAsHeld 49 = .ok (.iconst 0, 1) := by decide +kernel
theorem dX11_isAsHeld_50 : decode cX11_isAsHeld 50 = .ok (.iload_n 1, 1) := by decide +kernel
theorem dX11_isAsHeld_51 : decode cX11_isAsHeld 51 = .ok (.iload_n 2, 1) := by decide +kernel
theorem dX11_isAsHeld_52 : decode cX11_isAsHeld 52 = .ok (.invokevirtual 344, 3) := by decide +kernel
theorem dX11_isAsHeld_55 : decode cX11_isAsHeld 55 = .ok (.iaload, 1) := by decide +kernel
theorem dX11_isAsHeld_56 : decode cX11_isAsHeld 56 = .ok (.ifCond .le 7, 3) := by decide +kernel
theorem dX11_isAsHeld_59 : decode cX11_isAsHeld 59 = .ok (.iconst 1, 1) := by decide +kernel
theorem dX11_isAsHeld_60 : decode cX11_isAsHeld 60 = .ok (.goto 4, 3) := by decide +kernel
theorem dX11_isAsHeld_63 : decode cX11_isAsHeld 63 = .ok (.iconst 0, 1) := by decide +kernel
theorem dX11_isAsHeld_64 : decode cX11_isAsHeld 64 = .ok (.bastore, 1) := by decide +kernel
theorem dX11_isAsHeld_65 : decode cX11_isAsHeld 65 = .ok (.iinc 2 1, 3) := by decide +kernel
theorem dX11_isAsHeld_68 : decode cX11_isAsHeld 68 = .ok (.goto (-58), 3) := by decide +kernel
theorem dX11_isAsHeld_71 : decode cX11_isAsHeld 71 = .ok (.iinc 1 1, 3) := by decide +kernel
theorem dX11_isAsHeld_74 : decode cX11_isAsHeld 74 = .ok (.goto (-72), 3) := by decide +kernel
theorem dX11_isAsHeld_77 : decode cX11_isAsHeld 77 = .ok (.return_, 1) := by decide +kernel
theorem dX11_wordFrom_0 : decode cX11_wordFrom 0 = .ok (.iconst 1, 1) := by decide +kernel
theorem dX11_wordFrom_1 : decode cX11_wordFrom 1 = .ok (.iload_n 1, 1) := by decide +kernel
theorem dX11_wordFrom_2 : decode cX11_wordFrom 2 = .ok (.ishl, 1) := by decide +kernel
theorem dX11_wordFrom_3 : decode cX11_wordFrom 3 = .ok (.istore_n 2, 1) := by decide +kernel
theorem dX11_wordFrom_4 : decode cX11_wordFrom 4 = .ok (.iconst 0, 1) := by decide +kernel
theorem dX11_wordFrom_5 : decode cX11_wordFrom 5 = .ok (.istore_n 3, 1) := by decide +kernel
theorem dX11_wordFrom_6 : decode cX11_wordFrom 6 = .ok (.iload_n 3, 1) := by decide +kernel
theorem dX11_wordFrom_7 : decode cX11_wordFrom 7 = .ok (.bipush 6, 2) := by decide +kernel
theorem dX11_wordFrom_9 : decode cX11_wordFrom 9 = .ok (.if_icmp .ge 73, 3) := by decide +kernel
theorem dX11_wordFrom_12 : decode cX11_wordFrom 12 = .ok (.iconst 0, 1) := by decide +kernel
theorem dX11_wordFrom_13 : decode cX11_wordFrom 13 = .ok (.istore 4, 2) := by decide +kernel
theorem dX11_wordFrom_15 : decode cX11_wordFrom 15 = .ok (.iload 4, 2) := by decide +kernel
theorem dX11_wordFrom_17 : decode cX11_wordFrom 17 = .ok (.bipush 6, 2) := by decide +kernel
theorem dX11_wordFrom_19 : decode cX11_wordFrom 19 = .ok (.if_icmp .ge 57, 3) := by decide +kernel
theorem dX11_wordFrom_22 : decode cX11_wordFrom 22 = .ok (.iconst 0, 1) := by decide +kernel
theorem dX11_wordFrom_23 : decode cX11_wordFrom 23 = .ok (.istore 5, 2) := by decide +kernel
theorem dX11_wordFrom_25 : decode cX11_wordFrom 25 = .ok (.iload 5, 2) := by decide +kernel
theorem dX11_wordFrom_27 : decode cX11_wordFrom 27 = .ok (.bipush 6, 2) := by decide +kernel
theorem dX11_wordFrom_29 : decode cX11_wordFrom 29 = .ok (.if_icmp .ge 41, 3) := by decide +kernel
theorem dX11_wordFrom_32 : decode cX11_wordFrom 32 = .ok (.iload_n 2, 1) := by decide +kernel
theorem dX11_wordFrom_33 : decode cX11_wordFrom 33 = .ok (.iload 4, 2) := by decide +kernel
theorem dX11_wordFrom_35 : decode cX11_wordFrom 35 = .ok (.invokestatic 329, 3) := by decide +kernel
theorem dX11_wordFrom_38 : decode cX11_wordFrom 38 = .ok (.ifCond .eq 26, 3) := by decide +kernel
theorem dX11_wordFrom_41 : decode cX11_wordFrom 41 = .ok (.aload_n 0, 1) := by decide +kernel
theorem dX11_wordFrom_42 : decode cX11_wordFrom 42 = .ok (.getfield 180, 3) := by decide +kernel
theorem dX11_wordFrom_45 : decode cX11_wordFrom 45 = .ok (.bipush 6, 2) := by decide +kernel
theorem dX11_wordFrom_47 : decode cX11_wordFrom 47 = .ok (.iload 4, 2) := by decide +kernel
theorem dX11_wordFrom_49 : decode cX11_wordFrom 49 = .ok (.imul, 1) := by decide +kernel
theorem dX11_wordFrom_50 : decode cX11_wordFrom 50 = .ok (.iload 5, 2) := by decide +kernel
theorem dX11_wordFrom_52 : decode cX11_wordFrom 52 = .ok (.iadd, 1) := by decide +kernel
theorem dX11_wordFrom_53 : decode cX11_wordFrom 53 = .ok (.baload, 1) := by decide +kernel
theorem dX11_wordFrom_54 : decode cX11_wordFrom 54 = .ok (.ifCond .eq 10, 3) := by decide +kernel
theorem dX11_wordFrom_57 : decode cX11_wordFrom 57 = .ok (.iload_n 2, 1) := by decide +kernel
theorem dX11_wordFrom_58 : decode cX11_wordFrom 58 = .ok (.iconst 1, 1) := by decide +kernel
theorem dX11_wordFrom_59 : decode cX11_wordFrom 59 = .ok (.iload 5, 2) := by decide +kernel
theorem dX11_wordFrom_61 : decode cX11_wordFrom 61 = .ok (.ishl, 1) := by decide +kernel
theorem dX11_wordFrom_62 : decode cX11_wordFrom 62 = .ok (.ior, 1) := by decide +kernel
theorem dX11_wordFrom_63 : decode cX11_wordFrom 63 = .ok (.istore_n 2, 1) := by decide +kernel
theorem dX11_wordFrom_64 : decode cX11_wordFrom 64 = .ok (.iinc 5 1, 3) := by decide +kernel
theorem dX11_wordFrom_67 : decode cX11_wordFrom 67 = .ok (.goto (-42), 3) := by decide +kernel
theorem dX11_wordFrom_70 : decode cX11_wordFrom 70 = .ok (.iinc 4 1, 3) := by decide +kernel
theorem dX11_wordFrom_73 : decode cX11_wordFrom 73 = .ok (.goto (-58), 3) := by decide +kernel
theorem dX11_wordFrom_76 : decode cX11_wordFrom 76 = .ok (.iinc 3 1, 3) := by decide +kernel
theorem dX11_wordFrom_79 : decode cX11_wordFrom 79 = .ok (.goto (-73), 3) := by decide +kernel
theorem dX11_wordFrom_82 : decode cX11_wordFrom 82 = .ok (.iload_n 2, 1) := by decide +kernel
theorem dX11_wordFrom_83 : decode cX11_wordFrom 83 = .ok (.ireturn, 1) := by decide +kernel
theorem dX11_word_0 : decode cX11_word 0 = .ok (.aload_n 0, 1) := by decide +kernel
theorem dX11_word_1 : decode cX11_word 1 = .ok (.iload_n 1, 1) := by decide +kernel
theorem dX11_word_2 : decode cX11_word 2 = .ok (.invokevirtual 445, 3) := by decide +kernel
theorem dX11_word_5 : decode cX11_word 5 = .ok (.ifCond .ne 5, 3) := by decide +kernel
theorem dX11_word_8 : decode cX11_word 8 = .ok (.iconst (-1), 1) := by decide +kernel
theorem dX11_word_9 : decode cX11_word 9 = .ok (.ireturn, 1) := by decide +kernel
theorem dX11_word_10 : decode cX11_word 10 = .ok (.aload_n 0, 1) := by decide +kernel
theorem dX11_word_11 : decode cX11_word 11 = .ok (.invokevirtual 463, 3) := by decide +kernel
theorem dX11_word_14 : decode cX11_word 14 = .ok (.aload_n 0, 1) := by decide +kernel
theorem dX11_word_15 : decode cX11_word 15 = .ok (.iload_n 1, 1) := by decide +kernel
theorem dX11_word_16 : decode cX11_word 16 = .ok (.invokevirtual 466, 3) := by decide +kernel
theorem dX11_word_19 : decode cX11_word 19 = .ok (.ireturn, 1) := by decide +kernel
theorem dX11_isWide_0 : decode cX11_isWide 0 = .ok (.iconst 0, 1) := by decide +kernel
theorem dX11_isWide_1 : decode cX11_isWide 1 = .ok (.istore_n 1, 1) := by decide +kernel
theorem dX11_isWide_2 : decode cX11_isWide 2 = .ok (.iload_n 1, 1) := by decide +kernel
theorem dX11_isWide_3 : decode cX11_isWide 3 = .ok (.aload_n 0, 1) := by decide +kernel
theorem dX11_isWide_4 : decode cX11_isWide 4 = .ok (.getfield 54, 3) := by decide +kernel
theorem dX11_isWide_7 : decode cX11_isWide 7 = .ok (.aload_n 0, 1) := by decide +kernel
theorem dX11_isWide_8 : decode cX11_isWide 8 = .ok (.getfield 51, 3) := by decide +kernel
theorem dX11_isWide_11 : decode cX11_isWide 11 = .ok (.iaload, 1) := by decide +kernel
theorem dX11_isWide_12 : decode cX11_isWide 12 = .ok (.if_icmp .ge 32, 3) := by decide +kernel
theorem dX11_isWide_15 : decode cX11_isWide 15 = .ok (.aload_n 0, 1) := by decide +kernel
theorem dX11_isWide_16 : decode cX11_isWide 16 = .ok (.iload_n 1, 1) := by decide +kernel
theorem dX11_isWide_17 : decode cX11_isWide 17 = .ok (.invokevirtual 466, 3) := by decide +kernel
theorem dX11_isWide_20 : decode cX11_isWide 20 = .ok (.iconst 1, 1) := by decide +kernel
theorem dX11_isWide_21 : decode cX11_isWide 21 = .ok (.aload_n 0, 1) := by decide +kernel
theorem dX11_isWide_22 : decode cX11_isWide 22 = .ok (.getfield 54, 3) := by decide +kernel
theorem dX11_isWide_25 : decode cX11_isWide 25 = .ok (.aload_n 0, 1) := by decide +kernel
theorem dX11_isWide_26 : decode cX11_isWide 26 = .ok (.getfield 51, 3) := by decide +kernel
theorem dX11_isWide_29 : decode cX11_isWide 29 = .ok (.iaload, 1) := by decide +kernel
theorem dX11_isWide_30 : decode cX11_isWide 30 = .ok (.ishl, 1) := by decide +kernel
