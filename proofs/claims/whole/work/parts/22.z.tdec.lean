theorem dX5_init_0 : decode cX5_init 0 = .ok (.aload_n 0, 1) := by decide +kernel
theorem dX5_init_1 : decode cX5_init 1 = .ok (.invokespecial 3, 3) := by decide +kernel
theorem dX5_init_4 : decode cX5_init 4 = .ok (.aload_n 0, 1) := by decide +kernel
theorem dX5_init_5 : decode cX5_init 5 = .ok (.iconst (-1), 1) := by decide +kernel
theorem dX5_init_6 : decode cX5_init 6 = .ok (.putfield 9, 3) := by decide +kernel
theorem dX5_init_9 : decode cX5_init 9 = .ok (.aload_n 0, 1) := by decide +kernel
theorem dX5_init_10 : decode cX5_init 10 = .ok (.iconst 0, 1) := by decide +kernel
theorem dX5_init_11 : decode cX5_init 11 = .ok (.putfield 17, 3) := by decide +kernel
theorem dX5_init_14 : decode cX5_init 14 = .ok (.aload_n 0, 1) := by decide +kernel
theorem dX5_init_15 : decode cX5_init 15 = .ok (.iconst 0, 1) := by decide +kernel
theorem dX5_init_16 : decode cX5_init 16 = .ok (.putfield 20, 3) := by decide +kernel
theorem dX5_init_19 : decode cX5_init 19 = .ok (.aload_n 0, 1) := by decide +kernel
theorem dX5_init_20 : decode cX5_init 20 = .ok (.iconst 0, 1) := by decide +kernel
theorem dX5_init_21 : decode cX5_init 21 = .ok (.putfield 23, 3) := by decide +kernel
theorem dX5_init_24 : decode cX5_init 24 = .ok (.aload_n 0, 1) := by decide +kernel
theorem dX5_init_25 : decode cX5_init 25 = .ok (.new 26, 3) := by decide +kernel
theorem dX5_init_28 : decode cX5_init 28 = .ok (.dup, 1) := by decide +kernel
theorem dX5_init_29 : decode cX5_init 29 = .ok (.invokespecial 28, 3) := by decide +kernel
theorem dX5_init_32 : decode cX5_init 32 = .ok (.putfield 29, 3) := by decide +kernel
theorem dX5_init_35 : decode cX5_init 35 = .ok (.aload_n 0, 1) := by decide +kernel
theorem dX5_init_36 : decode cX5_init 36 = .ok (.iconst 0, 1) := by decide +kernel
theorem dX5_init_37 : decode cX5_init 37 = .ok (.putfield 33, 3) := by decide +kernel
theorem dX5_init_40 : decode cX5_init 40 = .ok (.aload_n 0, 1) := by decide +kernel
theorem dX5_init_41 : decode cX5_init 41 = .ok (.iconst 0, 1) := by decide +kernel
theorem dX5_init_42 : decode cX5_init 42 = .ok (.putfield 36, 3) := by decide +kernel
theorem dX5_init_45 : decode cX5_init 45 = .ok (.aload_n 0, 1) := by decide +kernel
theorem dX5_init_46 : decode cX5_init 46 = .ok (.iconst 0, 1) := by decide +kernel
theorem dX5_init_47 : decode cX5_init 47 = .ok (.putfield 39, 3) := by decide +kernel
theorem dX5_init_50 : decode cX5_init 50 = .ok (.aload_n 0, 1) := by decide +kernel
theorem dX5_init_51 : decode cX5_init 51 = .ok (.iconst 0, 1) := by decide +kernel
theorem dX5_init_52 : decode cX5_init 52 = .ok (.putfield 43, 3) := by decide +kernel
theorem dX5_init_55 : decode cX5_init 55 = .ok (.aload_n 0, 1) := by decide +kernel
theorem dX5_init_56 : decode cX5_init 56 = .ok (.iconst (-1), 1) := by decide +kernel
theorem dX5_init_57 : decode cX5_init 57 = .ok (.putfield 46, 3) := by decide +kernel
theorem dX5_init_60 : decode cX5_init 60 = .ok (.aload_n 0, 1) := by decide +kernel
theorem dX5_init_61 : decode cX5_init 61 = .ok (.new 15, 3) := by decide +kernel
theorem dX5_init_64 : decode cX5_init 64 = .ok (.dup, 1) := by decide +kernel
theorem dX5_init_65 : decode cX5_init 65 = .ok (.iload_n 2, 1) := by decide +kernel
theorem dX5_init_66 : decode cX5_init 66 = .ok (.invokespecial 49, 3) := by decide +kernel
theorem dX5_init_69 : decode cX5_init 69 = .ok (.putfield 52, 3) := by decide +kernel
theorem dX5_init_72 : decode cX5_init 72 = .ok (.aload_n 0, 1) := by decide +kernel
theorem dX5_init_73 : decode cX5_init 73 = .ok (.getfield 52, 3) := by decide +kernel
theorem dX5_init_76 : decode cX5_init 76 = .ok (.aload_n 1, 1) := by decide +kernel
theorem dX5_init_77 : decode cX5_init 77 = .ok (.iload_n 2, 1) := by decide +kernel
theorem dX5_init_78 : decode cX5_init 78 = .ok (.invokevirtual 56, 3) := by decide +kernel
theorem dX5_init_81 : decode cX5_init 81 = .ok (.aload_n 0, 1) := by decide +kernel
theorem dX5_init_82 : decode cX5_init 82 = .ok (.iconst 0, 1) := by decide +kernel
theorem dX5_init_83 : decode cX5_init 83 = .ok (.iload_n 2, 1) := by decide +kernel
theorem dX5_init_84 : decode cX5_init 84 = .ok (.invokestatic 60, 3) := by decide +kernel
theorem dX5_init_87 : decode cX5_init 87 = .ok (.newarray .int, 2) := by decide +kernel
theorem dX5_init_89 : decode cX5_init 89 = .ok (.putfield 66, 3) := by decide +kernel
theorem dX5_init_92 : decode cX5_init 92 = .ok (.aload_n 0, 1) := by decide +kernel
theorem dX5_init_93 : decode cX5_init 93 = .ok (.invokevirtual 70, 3) := by decide +kernel
theorem dX5_init_96 : decode cX5_init 96 = .ok (.return_, 1) := by decide +kernel
theorem dX8_split_0 : decode cX8_split 0 = .ok (.iconst 0, 1) := by decide +kernel
theorem dX8_split_1 : decode cX8_split 1 = .ok (.istore_n 3, 1) := by decide +kernel
theorem dX8_split_2 : decode cX8_split 2 = .ok (.iconst 0, 1) := by decide +kernel
theorem dX8_split_3 : decode cX8_split 3 = .ok (.istore 4, 2) := by decide +kernel
theorem dX8_split_5 : decode cX8_split 5 = .ok (.iload 4, 2) := by decide +kernel
theorem dX8_split_7 : decode cX8_split 7 = .ok (.iload_n 2, 1) := by decide +kernel
theorem dX8_split_8 : decode cX8_split 8 = .ok (.if_icmp .ge 137, 3) := by decide +kernel
theorem dX8_split_11 : decode cX8_split 11 = .ok (.iload 4, 2) := by decide +kernel
theorem dX8_split_13 : decode cX8_split 13 = .ok (.aload_n 1, 1) := by decide +kernel
theorem dX8_split_14 : decode cX8_split 14 = .ok (.arraylength, 1) := by decide +kernel
theorem dX8_split_15 : decode cX8_split 15 = .ok (.if_icmp .ge 130, 3) := by decide +kernel
theorem dX8_split_18 : decode cX8_split 18 = .ok (.aload_n 1, 1) := by decide +kernel
theorem dX8_split_19 : decode cX8_split 19 = .ok (.iload 4, 2) := by decide +kernel
theorem dX8_split_21 : decode cX8_split 21 = .ok (.baload, 1) := by decide +kernel
theorem dX8_split_22 : decode cX8_split 22 = .ok (.sipush 255, 3) := by decide +kernel
theorem dX8_split_25 : decode cX8_split 25 = .ok (.iand, 1) := by decide +kernel
theorem dX8_split_26 : decode cX8_split 26 = .ok (.istore 5, 2) := by decide +kernel
theorem dX8_split_28 : decode cX8_split 28 = .ok (.iload 5, 2) := by decide +kernel
theorem dX8_split_30 : decode cX8_split 30 = .ok (.invokestatic 29, 3) := by decide +kernel
theorem dX8_split_33 : decode cX8_split 33 = .ok (.istore 6, 2) := by decide +kernel
theorem dX8_split_35 : decode cX8_split 35 = .ok (.iload 6, 2) := by decide +kernel
theorem dX8_split_37 : decode cX8_split 37 = .ok (.iconst 3, 1) := by decide +kernel
theorem dX8_split_38 : decode cX8_split 38 = .ok (.if_icmp .eq 9, 3) := by decide +kernel
theorem dX8_split_41 : decode cX8_split 41 = .ok (.iload 6, 2) := by decide +kernel
theorem dX8_split_43 : decode cX8_split 43 = .ok (.iconst 2, 1) := by decide +kernel
theorem dX8_split_44 : decode cX8_split 44 = .ok (.if_icmp .ne 7, 3) := by decide +kernel
theorem dX8_split_47 : decode cX8_split 47 = .ok (.iconst 1, 1) := by decide +kernel
theorem dX8_split_48 : decode cX8_split 48 = .ok (.goto 4, 3) := by decide +kernel
theorem dX8_split_51 : decode cX8_split 51 = .ok (.iconst 0, 1) := by decide +kernel
theorem dX8_split_52 : decode cX8_split 52 = .ok (.istore 7, 2) := by decide +kernel
theorem dX8_split_54 : decode cX8_split 54 = .ok (.iload 7, 2) := by decide +kernel
theorem dX8_split_56 : decode cX8_split 56 = .ok (.ifCond .eq 22, 3) := by decide +kernel
theorem dX8_split_59 : decode cX8_split 59 = .ok (.iload 6, 2) := by decide +kernel
theorem dX8_split_61 : decode cX8_split 61 = .ok (.iload_n 3, 1) := by decide +kernel
theorem dX8_split_62 : decode cX8_split 62 = .ok (.if_icmp .ne 16, 3) := by decide +kernel
theorem dX8_split_65 : decode cX8_split 65 = .ok (.aload_n 0, 1) := by decide +kernel
theorem dX8_split_66 : decode cX8_split 66 = .ok (.iload 6, 2) := by decide +kernel
theorem dX8_split_68 : decode cX8_split 68 = .ok (.iload 5, 2) := by decide +kernel
theorem dX8_split_70 : decode cX8_split 70 = .ok (.iload 4, 2) := by decide +kernel
theorem dX8_split_72 : decode cX8_split 72 = .ok (.invokevirtual 33, 3) := by decide +kernel
theorem dX8_split_75 : decode cX8_split 75 = .ok (.goto 61, 3) := by decide +kernel
theorem dX8_split_78 : decode cX8_split 78 = .ok (.iload 7, 2) := by decide +kernel
theorem dX8_split_80 : decode cX8_split 80 = .ok (.ifCond .eq 41, 3) := by decide +kernel
theorem dX8_split_83 : decode cX8_split 83 = .ok (.aload_n 0, 1) := by decide +kernel
theorem dX8_split_84 : decode cX8_split 84 = .ok (.iload 6, 2) := by decide +kernel
theorem dX8_split_86 : decode cX8_split 86 = .ok (.iconst 0, 1) := by decide +kernel
theorem dX8_split_87 : decode cX8_split 87 = .ok (.iload 4, 2) := by decide +kernel
theorem dX8_split_89 : decode cX8_split 89 = .ok (.invokevirtual 37, 3) := by decide +kernel
theorem dX8_split_92 : decode cX8_split 92 = .ok (.aload_n 0, 1) := by decide +kernel
theorem dX8_split_93 : decode cX8_split 93 = .ok (.iload 6, 2) := by decide +kernel
theorem dX8_split_95 : decode cX8_split 95 = .ok (.iload 5, 2) := by decide +kernel
theorem dX8_split_97 : decode cX8_split 97 = .ok (.iload 4, 2) := by decide +kernel
theorem dX8_split_99 : decode cX8_split 99 = .ok (.invokevirtual 33, 3) := by decide +kernel
theorem dX8_split_102 : decode cX8_split 102 = .ok (.iload_n 3, 1) := by decide +kernel
theorem dX8_split_103 : decode cX8_split 103 = .ok (.iconst 3, 1) := by decide +kernel
theorem dX8_split_104 : decode cX8_split 104 = .ok (.if_icmp .eq 8, 3) := by decide +kernel
theorem dX8_split_107 : decode cX8_split 107 = .ok (.iload_n 3, 1) := by decide +kernel
theorem dX8_split_108 : decode cX8_split 108 = .ok (.iconst 2, 1) := by decide +kernel
theorem dX8_split_109 : decode cX8_split 109 = .ok (.if_icmp .ne 27, 3) := by decide +kernel
theorem dX8_split_112 : decode cX8_split 112 = .ok (.aload_n 0, 1) := by decide +kernel
theorem dX8_split_113 : decode cX8_split 113 = .ok (.iload 4, 2) := by decide +kernel
theorem dX8_split_115 : decode cX8_split 115 = .ok (.invokevirtual 40, 3) := by decide +kernel
theorem dX8_split_118 : decode cX8_split 118 = .ok (.goto 18, 3) := by decide +kernel
theorem dX8_split_121 : decode cX8_split 121 = .ok (.iload 6, 2) := by decide +kernel
theorem dX8_split_123 : decode cX8_split 123 = .ok (.iconst 1, 1) := by decide +kernel
theorem dX8_split_124 : decode cX8_split 124 = .ok (.if_icmp .ne 12, 3) := by decide +kernel
theorem dX8_split_127 : decode cX8_split 127 = .ok (.aload_n 0, 1) := by decide +kernel
theorem dX8_split_128 : decode cX8_split 128 = .ok (.iconst 1, 1) := by decide +kernel
theorem dX8_split_129 : decode cX8_split 129 = .ok (.iload 5, 2) := by decide +kernel
theorem dX8_split_131 : decode cX8_split 131 = .ok (.iload 4, 2) := by decide +kernel
theorem dX8_split_133 : decode cX8_split 133 = .ok (.invokevirtual 37, 3) := by decide +kernel
theorem dX8_split_136 : decode cX8_split 136 = .ok (.iload 6, 2) := by decide +kernel
theorem dX8_split_138 : decode cX8_split 138 = .ok (.istore_n 3, 1) := by decide +kernel
theorem dX8_split_139 : decode cX8_split 139 = .ok (.iinc 4 1, 3) := by decide +kernel
theorem dX8_split_142 : decode cX8_split 142 = .ok (.goto (-137), 3) := by decide +kernel
theorem dX8_split_145 : decode cX8_split 145 = .ok (.aload_n 0, 1) := by decide +kernel
theorem dX8_split_146 : decode cX8_split 146 = .ok (.iconst 0, 1) := by decide +kernel
theorem dX8_split_147 : decode cX8_split 147 = .ok (.iconst 0, 1) := by decide +kernel
theorem dX8_split_148 : decode cX8_split 148 = .ok (.iload_n 2, 1) := by decide +kernel
theorem dX8_split_149 : decode cX8_split 149 = .ok (.invokevirtual 37, 3) := by decide +kernel
theorem dX8_split_152 : decode cX8_split 152 = .ok (.aload_n 0, 1) := by decide +kernel
theorem dX8_split_153 : decode cX8_split 153 = .ok (.invokevirtual 44, 3) := by decide +kernel
theorem dX8_split_156 : decode cX8_split 156 = .ok (.return_, 1) := by decide +kernel
theorem dX8_markOwnWords_0 : decode cX8_markOwnWords 0 = .ok (.iconst 0, 1) := by decide +kernel
theorem dX8_markOwnWords_1 : decode cX8_markOwnWords 1 = .ok (.istore_n 1, 1) := by decide +kernel
theorem dX8_markOwnWords_2 : decode cX8_markOwnWords 2 = .ok (.iconst 0, 1) := by decide +kernel
theorem dX8_markOwnWords_3 : decode cX8_markOwnWords 3 = .ok (.istore_n 2, 1) := by decide +kernel
theorem dX8_markOwnWords_4 : decode cX8_markOwnWords 4 = .ok (.iconst 0, 1) := by decide +kernel
theorem dX8_markOwnWords_5 : decode cX8_markOwnWords 5 = .ok (.istore_n 3, 1) := by decide +kernel
theorem dX8_markOwnWords_6 : decode cX8_markOwnWords 6 = .ok (.iconst 0, 1) := by decide +kernel
theorem dX8_markOwnWords_7 : decode cX8_markOwnWords 7 = .ok (.istore 4, 2) := by decide +kernel
theorem dX8_markOwnWords_9 : decode cX8_markOwnWords 9 = .ok (.iload 4, 2) := by decide +kernel
theorem dX8_markOwnWords_11 : decode cX8_markOwnWords 11 = .ok (.ldc 47, 2) := by decide +kernel
theorem dX8_markOwnWords_13 : decode cX8_markOwnWords 13 = .ok (.invokevirtual 49, 3) := by decide +kernel
theorem dX8_markOwnWords_16 : decode cX8_markOwnWords 16 = .ok (.if_icmp .ge 58, 3) := by decide +kernel
theorem dX8_markOwnWords_19 : decode cX8_markOwnWords 19 = .ok (.ldc 47, 2) := by decide +kernel
theorem dX8_markOwnWords_21 : decode cX8_markOwnWords 21 = .ok (.iload 4, 2) := by decide +kernel
theorem dX8_markOwnWords_23 : decode cX8_markOwnWords 23 = .ok (.invokevirtual 55, 3) := by decide +kernel
theorem dX8_markOwnWords_26 : decode cX8_markOwnWords 26 = .ok (.istore 5, 2) := by decide +kernel
theorem dX8_markOwnWords_28 : decode cX8_markOwnWords 28 = .ok (.iload 5, 2) := by decide +kernel
theorem dX8_markOwnWords_30 : decode cX8_markOwnWords 30 = .ok (.bipush 32, 2) := by decide +kernel
theorem dX8_markOwnWords_32 : decode cX8_markOwnWords 32 = .ok (.if_icmp .ne 19, 3) := by decide +kernel
theorem dX8_markOwnWords_35 : decode cX8_markOwnWords 35 = .ok (.aload_n 0, 1) := by decide +kernel
theorem dX8_markOwnWords_36 : decode cX8_markOwnWords 36 = .ok (.iload_n 1, 1) := by decide +kernel
theorem dX8_markOwnWords_37 : decode cX8_markOwnWords 37 = .ok (.iload_n 3, 1) := by decide +kernel
theorem dX8_markOwnWords_38 : decode cX8_markOwnWords 38 = .ok (.invokevirtual 59, 3) := by decide +kernel
theorem dX8_markOwnWords_41 : decode cX8_markOwnWords 41 = .ok (.iconst 0, 1) := by decide +kernel
theorem dX8_markOwnWords_42 : decode cX8_markOwnWords 42 = .ok (.istore_n 1, 1) := by decide +kernel
theorem dX8_markOwnWords_43 : decode cX8_markOwnWords 43 = .ok (.iconst 0, 1) := by decide +kernel
theorem dX8_markOwnWords_44 : decode cX8_markOwnWords 44 = .ok (.istore_n 2, 1) := by decide +kernel
theorem dX8_markOwnWords_45 : decode cX8_markOwnWords 45 = .ok (.iinc 3 1, 3) := by decide +kernel
theorem dX8_markOwnWords_48 : decode cX8_markOwnWords 48 = .ok (.goto 20, 3) := by decide +kernel
theorem dX8_markOwnWords_51 : decode cX8_markOwnWords 51 = .ok (.iload_n 1, 1) := by decide +kernel
theorem dX8_markOwnWords_52 : decode cX8_markOwnWords 52 = .ok (.iload 5, 2) := by decide +kernel
theorem dX8_markOwnWords_54 : decode cX8_markOwnWords 54 = .ok (.bipush 97, 2) := by decide +kernel
theorem dX8_markOwnWords_56 : decode cX8_markOwnWords 56 = .ok (.isub, 1) := by decide +kernel
theorem dX8_markOwnWords_57 : decode cX8_markOwnWords 57 = .ok (.iconst 1, 1) := by decide +kernel
theorem dX8_markOwnWords_58 : decode cX8_markOwnWords 58 = .ok (.iadd, 1) := by decide +kernel
theorem dX8_markOwnWords_59 : decode cX8_markOwnWords 59 = .ok (.iload_n 2, 1) := by decide +kernel
theorem dX8_markOwnWords_60 : decode cX8_markOwnWords 60 = .ok (.iconst 5, 1) := by decide +kernel
theorem dX8_markOwnWords_61 : decode cX8_markOwnWords 61 = .ok (.imul, 1) := by decide +kernel
theorem dX8_markOwnWords_62 : decode cX8_markOwnWords 62 = .ok (.ishl, 1) := by decide +kernel
theorem dX8_markOwnWords_63 : decode cX8_markOwnWords 63 = .ok (.ior, 1) := by decide +kernel
theorem dX8_markOwnWords_64 : decode cX8_markOwnWords 64 = .ok (.istore_n 1, 1) := by decide +kernel
theorem dX8_markOwnWords_65 : decode cX8_markOwnWords 65 = .ok (.iinc 2 1, 3) := by decide +kernel
theorem dX8_markOwnWords_68 : decode cX8_markOwnWords 68 = .ok (.iinc 4 1, 3) := by decide +kernel
theorem dX8_markOwnWords_71 : decode cX8_markOwnWords 71 = .ok (.goto (-62), 3) := by decide +kernel
theorem dX8_markOwnWords_74 : decode cX8_markOwnWords 74 = .ok (.return_, 1) := by decide +kernel
theorem dX10_union_0 : decode cX10_union 0 = .ok (.new 88, 3) := by decide +kernel
theorem dX10_union_3 : decode cX10_union 3 = .ok (.dup, 1) := by decide +kernel
theorem dX10_union_4 : decode cX10_union 4 = .ok (.aload_n 0, 1) := by decide +kernel
theorem dX10_union_5 : decode cX10_union 5 = .ok (.getfield 9, 3) := by decide +kernel
theorem dX10_union_8 : decode cX10_union 8 = .ok (.aload_n 0, 1) := by decide +kernel
theorem dX10_union_9 : decode cX10_union 9 = .ok (.getfield 13, 3) := by decide +kernel
theorem dX10_union_12 : decode cX10_union 12 = .ok (.invokespecial 90, 3) := by decide +kernel
theorem dX10_union_15 : decode cX10_union 15 = .ok (.astore_n 1, 1) := by decide +kernel
theorem dX10_union_16 : decode cX10_union 16 = .ok (.aload_n 0, 1) := by decide +kernel
theorem dX10_union_17 : decode cX10_union 17 = .ok (.iconst 0, 1) := by decide +kernel
theorem dX10_union_18 : decode cX10_union 18 = .ok (.putfield 13, 3) := by decide +kernel
theorem dX10_union_21 : decode cX10_union 21 = .ok (.aload_n 1, 1) := by decide +kernel
theorem dX10_union_22 : decode cX10_union 22 = .ok (.invokevirtual 93, 3) := by decide +kernel
theorem dX10_union_25 : decode cX10_union 25 = .ok (.aload_n 0, 1) := by decide +kernel
theorem dX10_union_26 : decode cX10_union 26 = .ok (.aload_n 1, 1) := by decide +kernel
theorem dX10_union_27 : decode cX10_union 27 = .ok (.getfield 96, 3) := by decide +kernel
theorem dX10_union_30 : decode cX10_union 30 = .ok (.putfield 24, 3) := by decide +kernel
theorem dX10_union_33 : decode cX10_union 33 = .ok (.aload_n 0, 1) := by decide +kernel
theorem dX10_union_34 : decode cX10_union 34 = .ok (.aload_n 1, 1) := by decide +kernel
theorem dX10_union_35 : decode cX10_union 35 = .ok (.getfield 99, 3) := by decide +kernel
theorem dX10_union_38 : decode cX10_union 38 = .ok (.putfield 27, 3) := by decide +kernel
theorem dX10_union_41 : decode cX10_union 41 = .ok (.aload_n 0, 1) := by decide +kernel
theorem dX10_union_42 : decode cX10_union 42 = .ok (.getfield 24, 3) := by decide +kernel
theorem dX10_union_45 : decode cX10_union 45 = .ok (.ifCond .eq 9, 3) := by decide +kernel
theorem dX10_union_48 : decode cX10_union 48 = .ok (.aload_n 0, 1) := by decide +kernel
theorem dX10_union_49 : decode cX10_union 49 = .ok (.iconst 1, 1) := by decide +kernel
theorem dX10_union_50 : decode cX10_union 50 = .ok (.invokevirtual 80, 3) := by decide +kernel
theorem dX10_union_53 : decode cX10_union 53 = .ok (.ireturn, 1) := by decide +kernel
theorem dX10_union_54 : decode cX10_union 54 = .ok (.aload_n 0, 1) := by decide +kernel
theorem dX10_union_55 : decode cX10_union 55 = .ok (.aload_n 1, 1) := by decide +kernel
theorem dX10_union_56 : decode cX10_union 56 = .ok (.getfield 102, 3) := by decide +kernel
theorem dX10_union_59 : decode cX10_union 59 = .ok (.putfield 20, 3) := by decide +kernel
theorem dX10_union_62 : decode cX10_union 62 = .ok (.aload_n 0, 1) := by decide +kernel
theorem dX10_union_63 : decode cX10_union 63 = .ok (.getfield 20, 3) := by decide +kernel
theorem dX10_union_66 : decode cX10_union 66 = .ok (.invokevirtual 105, 3) := by decide +kernel
theorem dX10_union_69 : decode cX10_union 69 = .ok (.aload_n 0, 1) := by decide +kernel
theorem dX10_union_70 : decode cX10_union 70 = .ok (.getfield 33, 3) := by decide +kernel
theorem dX10_union_73 : decode cX10_union 73 = .ok (.aload_n 0, 1) := by decide +kernel
theorem dX10_union_74 : decode cX10_union 74 = .ok (.getfield 20, 3) := by decide +kernel
theorem dX10_union_77 : decode cX10_union 77 = .ok (.getfield 108, 3) := by decide +kernel
theorem dX10_union_80 : decode cX10_union 80 = .ok (.invokevirtual 111, 3) := by decide +kernel
theorem dX10_union_83 : decode cX10_union 83 = .ok (.aload_n 0, 1) := by decide +kernel
theorem dX10_union_84 : decode cX10_union 84 = .ok (.iconst 0, 1) := by decide +kernel
theorem dX10_union_85 : decode cX10_union 85 = .ok (.putfield 58, 3) := by decide +kernel
theorem dX10_union_88 : decode cX10_union 88 = .ok (.aload_n 0, 1) := by decide +kernel
theorem dX10_union_89 : decode cX10_union 89 = .ok (.iconst 0, 1) := by decide +kernel
theorem dX10_union_90 : decode cX10_union 90 = .ok (.putfield 68, 3) := by decide +kernel
theorem dX10_union_93 : decode cX10_union 93 = .ok (.aload_n 0, 1) := by decide +kernel
theorem dX10_union_94 : decode cX10_union 94 = .ok (.getfield 20, 3) := by decide +kernel
theorem dX10_union_97 : decode cX10_union 97 = .ok (.getfield 115, 3) := by decide +kernel
theorem dX10_union_100 : decode cX10_union 100 = .ok (.ireturn, 1) := by decide +kernel
