theorem dX0_weigh_0 : decode cX0_weigh 0 = .ok (.iconst 0, 1) := by decide +kernel
theorem dX0_weigh_1 : decode cX0_weigh 1 = .ok (.istore 4, 2) := by decide +kernel
theorem dX0_weigh_3 : decode cX0_weigh 3 = .ok (.iload 4, 2) := by decide +kernel
theorem dX0_weigh_5 : decode cX0_weigh 5 = .ok (.bipush 36, 2) := by decide +kernel
theorem dX0_weigh_7 : decode cX0_weigh 7 = .ok (.if_icmp .ge 127, 3) := by decide +kernel
theorem dX0_weigh_10 : decode cX0_weigh 10 = .ok (.aload_n 1, 1) := by decide +kernel
theorem dX0_weigh_11 : decode cX0_weigh 11 = .ok (.iload 4, 2) := by decide +kernel
theorem dX0_weigh_13 : decode cX0_weigh 13 = .ok (.bipush 6, 2) := by decide +kernel
theorem dX0_weigh_15 : decode cX0_weigh 15 = .ok (.idiv, 1) := by decide +kernel
theorem dX0_weigh_16 : decode cX0_weigh 16 = .ok (.iload 4, 2) := by decide +kernel
theorem dX0_weigh_18 : decode cX0_weigh 18 = .ok (.bipush 6, 2) := by decide +kernel
theorem dX0_weigh_20 : decode cX0_weigh 20 = .ok (.irem, 1) := by decide +kernel
theorem dX0_weigh_21 : decode cX0_weigh 21 = .ok (.invokevirtual 33, 3) := by decide +kernel
theorem dX0_weigh_24 : decode cX0_weigh 24 = .ok (.ifCond .eq 104, 3) := by decide +kernel
theorem dX0_weigh_27 : decode cX0_weigh 27 = .ok (.aload_n 2, 1) := by decide +kernel
theorem dX0_weigh_28 : decode cX0_weigh 28 = .ok (.getfield 39, 3) := by decide +kernel
theorem dX0_weigh_31 : decode cX0_weigh 31 = .ok (.iload 4, 2) := by decide +kernel
theorem dX0_weigh_33 : decode cX0_weigh 33 = .ok (.iaload, 1) := by decide +kernel
theorem dX0_weigh_34 : decode cX0_weigh 34 = .ok (.istore 5, 2) := by decide +kernel
theorem dX0_weigh_36 : decode cX0_weigh 36 = .ok (.aload_n 1, 1) := by decide +kernel
theorem dX0_weigh_37 : decode cX0_weigh 37 = .ok (.aload_n 2, 1) := by decide +kernel
theorem dX0_weigh_38 : decode cX0_weigh 38 = .ok (.aload_n 3, 1) := by decide +kernel
theorem dX0_weigh_39 : decode cX0_weigh 39 = .ok (.iload 4, 2) := by decide +kernel
theorem dX0_weigh_41 : decode cX0_weigh 41 = .ok (.iload 5, 2) := by decide +kernel
theorem dX0_weigh_43 : decode cX0_weigh 43 = .ok (.invokestatic 44, 3) := by decide +kernel
theorem dX0_weigh_46 : decode cX0_weigh 46 = .ok (.lstore 6, 2) := by decide +kernel
theorem dX0_weigh_48 : decode cX0_weigh 48 = .ok (.aload_n 0, 1) := by decide +kernel
theorem dX0_weigh_49 : decode cX0_weigh 49 = .ok (.getfield 18, 3) := by decide +kernel
theorem dX0_weigh_52 : decode cX0_weigh 52 = .ok (.iload 4, 2) := by decide +kernel
theorem dX0_weigh_54 : decode cX0_weigh 54 = .ok (.iload 5, 2) := by decide +kernel
theorem dX0_weigh_56 : decode cX0_weigh 56 = .ok (.ifCond .le 7, 3) := by decide +kernel
theorem dX0_weigh_59 : decode cX0_weigh 59 = .ok (.iconst 1, 1) := by decide +kernel
theorem dX0_weigh_60 : decode cX0_weigh 60 = .ok (.goto 4, 3) := by decide +kernel
theorem dX0_weigh_63 : decode cX0_weigh 63 = .ok (.iconst 0, 1) := by decide +kernel
theorem dX0_weigh_64 : decode cX0_weigh 64 = .ok (.bastore, 1) := by decide +kernel
theorem dX0_weigh_65 : decode cX0_weigh 65 = .ok (.aload_n 0, 1) := by decide +kernel
theorem dX0_weigh_66 : decode cX0_weigh 66 = .ok (.getfield 22, 3) := by decide +kernel
theorem dX0_weigh_69 : decode cX0_weigh 69 = .ok (.iload 4, 2) := by decide +kernel
theorem dX0_weigh_71 : decode cX0_weigh 71 = .ok (.iload 5, 2) := by decide +kernel
theorem dX0_weigh_73 : decode cX0_weigh 73 = .ok (.bipush 99, 2) := by decide +kernel
theorem dX0_weigh_75 : decode cX0_weigh 75 = .ok (.if_icmp .ge 7, 3) := by decide +kernel
theorem dX0_weigh_78 : decode cX0_weigh 78 = .ok (.iconst 1, 1) := by decide +kernel
theorem dX0_weigh_79 : decode cX0_weigh 79 = .ok (.goto 4, 3) := by decide +kernel
theorem dX0_weigh_82 : decode cX0_weigh 82 = .ok (.iconst 0, 1) := by decide +kernel
theorem dX0_weigh_83 : decode cX0_weigh 83 = .ok (.bastore, 1) := by decide +kernel
theorem dX0_weigh_84 : decode cX0_weigh 84 = .ok (.aload_n 0, 1) := by decide +kernel
theorem dX0_weigh_85 : decode cX0_weigh 85 = .ok (.getfield 9, 3) := by decide +kernel
theorem dX0_weigh_88 : decode cX0_weigh 88 = .ok (.iload 4, 2) := by decide +kernel
theorem dX0_weigh_90 : decode cX0_weigh 90 = .ok (.aload_n 1, 1) := by decide +kernel
theorem dX0_weigh_91 : decode cX0_weigh 91 = .ok (.aload_n 2, 1) := by decide +kernel
theorem dX0_weigh_92 : decode cX0_weigh 92 = .ok (.aload_n 3, 1) := by decide +kernel
theorem dX0_weigh_93 : decode cX0_weigh 93 = .ok (.iload 4, 2) := by decide +kernel
theorem dX0_weigh_95 : decode cX0_weigh 95 = .ok (.iload 5, 2) := by decide +kernel
theorem dX0_weigh_97 : decode cX0_weigh 97 = .ok (.iconst 1, 1) := by decide +kernel
theorem dX0_weigh_98 : decode cX0_weigh 98 = .ok (.isub, 1) := by decide +kernel
theorem dX0_weigh_99 : decode cX0_weigh 99 = .ok (.invokestatic 44, 3) := by decide +kernel
theorem dX0_weigh_102 : decode cX0_weigh 102 = .ok (.lload 6, 2) := by decide +kernel
theorem dX0_weigh_104 : decode cX0_weigh 104 = .ok (.lsub, 1) := by decide +kernel
theorem dX0_weigh_105 : decode cX0_weigh 105 = .ok (.lastore, 1) := by decide +kernel
theorem dX0_weigh_106 : decode cX0_weigh 106 = .ok (.aload_n 0, 1) := by decide +kernel
theorem dX0_weigh_107 : decode cX0_weigh 107 = .ok (.getfield 15, 3) := by decide +kernel
theorem dX0_weigh_110 : decode cX0_weigh 110 = .ok (.iload 4, 2) := by decide +kernel
theorem dX0_weigh_112 : decode cX0_weigh 112 = .ok (.aload_n 1, 1) := by decide +kernel
theorem dX0_weigh_113 : decode cX0_weigh 113 = .ok (.aload_n 2, 1) := by decide +kernel
theorem dX0_weigh_114 : decode cX0_weigh 114 = .ok (.aload_n 3, 1) := by decide +kernel
theorem dX0_weigh_115 : decode cX0_weigh 115 = .ok (.iload 4, 2) := by decide +kernel
theorem dX0_weigh_117 : decode cX0_weigh 117 = .ok (.iload 5, 2) := by decide +kernel
theorem dX0_weigh_119 : decode cX0_weigh 119 = .ok (.iconst 1, 1) := by decide +kernel
theorem dX0_weigh_120 : decode cX0_weigh 120 = .ok (.iadd, 1) := by decide +kernel
theorem dX0_weigh_121 : decode cX0_weigh 121 = .ok (.invokestatic 44, 3) := by decide +kernel
theorem dX0_weigh_124 : decode cX0_weigh 124 = .ok (.lload 6, 2) := by decide +kernel
theorem dX0_weigh_126 : decode cX0_weigh 126 = .ok (.lsub, 1) := by decide +kernel
theorem dX0_weigh_127 : decode cX0_weigh 127 = .ok (.lastore, 1) := by decide +kernel
theorem dX0_weigh_128 : decode cX0_weigh 128 = .ok (.iinc 4 1, 3) := by decide +kernel
theorem dX0_weigh_131 : decode cX0_weigh 131 = .ok (.goto (-128), 3) := by decide +kernel
theorem dX0_weigh_134 : decode cX0_weigh 134 = .ok (.return_, 1) := by decide +kernel
theorem dX0_worthOf_0 : decode cX0_worthOf 0 = .ok (.aload_n 2, 1) := by decide +kernel
theorem dX0_worthOf_1 : decode cX0_worthOf 1 = .ok (.aload_n 0, 1) := by decide +kernel
theorem dX0_worthOf_2 : decode cX0_worthOf 2 = .ok (.aload_n 0, 1) := by decide +kernel
theorem dX0_worthOf_3 : decode cX0_worthOf 3 = .ok (.getfield 48, 3) := by decide +kernel
theorem dX0_worthOf_6 : decode cX0_worthOf 6 = .ok (.iconst 1, 1) := by decide +kernel
theorem dX0_worthOf_7 : decode cX0_worthOf 7 = .ok (.aload_n 1, 1) := by decide +kernel
theorem dX0_worthOf_8 : decode cX0_worthOf 8 = .ok (.iload_n 3, 1) := by decide +kernel
theorem dX0_worthOf_9 : decode cX0_worthOf 9 = .ok (.iload 4, 2) := by decide +kernel
theorem dX0_worthOf_11 : decode cX0_worthOf 11 = .ok (.invokevirtual 51, 3) := by decide +kernel
theorem dX0_worthOf_14 : decode cX0_worthOf 14 = .ok (.i2l, 1) := by decide +kernel
theorem dX0_worthOf_15 : decode cX0_worthOf 15 = .ok (.iload 4, 2) := by decide +kernel
theorem dX0_worthOf_17 : decode cX0_worthOf 17 = .ok (.i2l, 1) := by decide +kernel
theorem dX0_worthOf_18 : decode cX0_worthOf 18 = .ok (.lmul, 1) := by decide +kernel
theorem dX0_worthOf_19 : decode cX0_worthOf 19 = .ok (.lreturn, 1) := by decide +kernel
theorem dX0_seekBest_0 : decode cX0_seekBest 0 = .ok (.iconst 0, 1) := by decide +kernel
theorem dX0_seekBest_1 : decode cX0_seekBest 1 = .ok (.istore_n 2, 1) := by decide +kernel
theorem dX0_seekBest_2 : decode cX0_seekBest 2 = .ok (.iload_n 2, 1) := by decide +kernel
theorem dX0_seekBest_3 : decode cX0_seekBest 3 = .ok (.iload_n 1, 1) := by decide +kernel
theorem dX0_seekBest_4 : decode cX0_seekBest 4 = .ok (.if_icmp .ge 31, 3) := by decide +kernel
theorem dX0_seekBest_7 : decode cX0_seekBest 7 = .ok (.iload_n 2, 1) := by decide +kernel
theorem dX0_seekBest_8 : decode cX0_seekBest 8 = .ok (.iconst 1, 1) := by decide +kernel
theorem dX0_seekBest_9 : decode cX0_seekBest 9 = .ok (.iadd, 1) := by decide +kernel
theorem dX0_seekBest_10 : decode cX0_seekBest 10 = .ok (.istore_n 3, 1) := by decide +kernel
theorem dX0_seekBest_11 : decode cX0_seekBest 11 = .ok (.iload_n 3, 1) := by decide +kernel
theorem dX0_seekBest_12 : decode cX0_seekBest 12 = .ok (.iload_n 1, 1) := by decide +kernel
theorem dX0_seekBest_13 : decode cX0_seekBest 13 = .ok (.if_icmp .ge 16, 3) := by decide +kernel
theorem dX0_seekBest_16 : decode cX0_seekBest 16 = .ok (.aload_n 0, 1) := by decide +kernel
theorem dX0_seekBest_17 : decode cX0_seekBest 17 = .ok (.iload_n 2, 1) := by decide +kernel
theorem dX0_seekBest_18 : decode cX0_seekBest 18 = .ok (.iload_n 3, 1) := by decide +kernel
theorem dX0_seekBest_19 : decode cX0_seekBest 19 = .ok (.iload_n 1, 1) := by decide +kernel
theorem dX0_seekBest_20 : decode cX0_seekBest 20 = .ok (.invokevirtual 57, 3) := by decide +kernel
theorem dX0_seekBest_23 : decode cX0_seekBest 23 = .ok (.iinc 3 1, 3) := by decide +kernel
theorem dX0_seekBest_26 : decode cX0_seekBest 26 = .ok (.goto (-15), 3) := by decide +kernel
theorem dX0_seekBest_29 : decode cX0_seekBest 29 = .ok (.iinc 2 1, 3) := by decide +kernel
theorem dX0_seekBest_32 : decode cX0_seekBest 32 = .ok (.goto (-30), 3) := by decide +kernel
theorem dX0_seekBest_35 : decode cX0_seekBest 35 = .ok (.return_, 1) := by decide +kernel
theorem dX0_seekBetween_0 : decode cX0_seekBetween 0 = .ok (.iconst 0, 1) := by decide +kernel
theorem dX0_seekBetween_1 : decode cX0_seekBetween 1 = .ok (.istore 4, 2) := by decide +kernel
theorem dX0_seekBetween_3 : decode cX0_seekBetween 3 = .ok (.iload 4, 2) := by decide +kernel
theorem dX0_seekBetween_5 : decode cX0_seekBetween 5 = .ok (.iload_n 3, 1) := by decide +kernel
theorem dX0_seekBetween_6 : decode cX0_seekBetween 6 = .ok (.if_icmp .ge 77, 3) := by decide +kernel
theorem dX0_seekBetween_9 : decode cX0_seekBetween 9 = .ok (.iconst 0, 1) := by decide +kernel
theorem dX0_seekBetween_10 : decode cX0_seekBetween 10 = .ok (.istore 5, 2) := by decide +kernel
theorem dX0_seekBetween_12 : decode cX0_seekBetween 12 = .ok (.iload 5, 2) := by decide +kernel
theorem dX0_seekBetween_14 : decode cX0_seekBetween 14 = .ok (.iload_n 3, 1) := by decide +kernel
theorem dX0_seekBetween_15 : decode cX0_seekBetween 15 = .ok (.if_icmp .ge 62, 3) := by decide +kernel
theorem dX0_seekBetween_18 : decode cX0_seekBetween 18 = .ok (.iload 4, 2) := by decide +kernel
theorem dX0_seekBetween_20 : decode cX0_seekBetween 20 = .ok (.iload_n 1, 1) := by decide +kernel
theorem dX0_seekBetween_21 : decode cX0_seekBetween 21 = .ok (.if_icmp .eq 25, 3) := by decide +kernel
theorem dX0_seekBetween_24 : decode cX0_seekBetween 24 = .ok (.iload 4, 2) := by decide +kernel
theorem dX0_seekBetween_26 : decode cX0_seekBetween 26 = .ok (.iload_n 2, 1) := by decide +kernel
theorem dX0_seekBetween_27 : decode cX0_seekBetween 27 = .ok (.if_icmp .eq 19, 3) := by decide +kernel
theorem dX0_seekBetween_30 : decode cX0_seekBetween 30 = .ok (.iload 5, 2) := by decide +kernel
theorem dX0_seekBetween_32 : decode cX0_seekBetween 32 = .ok (.iload_n 1, 1) := by decide +kernel
theorem dX0_seekBetween_33 : decode cX0_seekBetween 33 = .ok (.if_icmp .eq 13, 3) := by decide +kernel
theorem dX0_seekBetween_36 : decode cX0_seekBetween 36 = .ok (.iload 5, 2) := by decide +kernel
theorem dX0_seekBetween_38 : decode cX0_seekBetween 38 = .ok (.iload_n 2, 1) := by decide +kernel
theorem dX0_seekBetween_39 : decode cX0_seekBetween 39 = .ok (.if_icmp .eq 7, 3) := by decide +kernel
theorem dX0_seekBetween_42 : decode cX0_seekBetween 42 = .ok (.iconst 1, 1) := by decide +kernel
theorem dX0_seekBetween_43 : decode cX0_seekBetween 43 = .ok (.goto 4, 3) := by decide +kernel
theorem dX0_seekBetween_46 : decode cX0_seekBetween 46 = .ok (.iconst 0, 1) := by decide +kernel
theorem dX0_seekBetween_47 : decode cX0_seekBetween 47 = .ok (.istore 6, 2) := by decide +kernel
theorem dX0_seekBetween_49 : decode cX0_seekBetween 49 = .ok (.iload 6, 2) := by decide +kernel
theorem dX0_seekBetween_51 : decode cX0_seekBetween 51 = .ok (.ifCond .eq 20, 3) := by decide +kernel
theorem dX0_seekBetween_54 : decode cX0_seekBetween 54 = .ok (.iload 4, 2) := by decide +kernel
theorem dX0_seekBetween_56 : decode cX0_seekBetween 56 = .ok (.iload 5, 2) := by decide +kernel
theorem dX0_seekBetween_58 : decode cX0_seekBetween 58 = .ok (.if_icmp .eq 13, 3) := by decide +kernel
theorem dX0_seekBetween_61 : decode cX0_seekBetween 61 = .ok (.aload_n 0, 1) := by decide +kernel
theorem dX0_seekBetween_62 : decode cX0_seekBetween 62 = .ok (.iload_n 1, 1) := by decide +kernel
theorem dX0_seekBetween_63 : decode cX0_seekBetween 63 = .ok (.iload_n 2, 1) := by decide +kernel
theorem dX0_seekBetween_64 : decode cX0_seekBetween 64 = .ok (.iload 4, 2) := by decide +kernel
theorem dX0_seekBetween_66 : decode cX0_seekBetween 66 = .ok (.iload 5, 2) := by decide +kernel
theorem dX0_seekBetween_68 : decode cX0_seekBetween 68 = .ok (.invokevirtual 61, 3) := by decide +kernel
theorem dX0_seekBetween_71 : decode cX0_seekBetween 71 = .ok (.iinc 5 1, 3) := by decide +kernel
theorem dX0_seekBetween_74 : decode cX0_seekBetween 74 = .ok (.goto (-62), 3) := by decide +kernel
theorem dX0_seekBetween_77 : decode cX0_seekBetween 77 = .ok (.iinc 4 1, 3) := by decide +kernel
theorem dX0_seekBetween_80 : decode cX0_seekBetween 80 = .ok (.goto (-77), 3) := by decide +kernel
theorem dX0_seekBetween_83 : decode cX0_seekBetween 83 = .ok (.return_, 1) := by decide +kernel
theorem dX0_compare_0 : decode cX0_compare 0 = .ok (.iload_n 1, 1) := by decide +kernel
theorem dX0_compare_1 : decode cX0_compare 1 = .ok (.bipush 6, 2) := by decide +kernel
theorem dX0_compare_3 : decode cX0_compare 3 = .ok (.imul, 1) := by decide +kernel
theorem dX0_compare_4 : decode cX0_compare 4 = .ok (.iload_n 3, 1) := by decide +kernel
theorem dX0_compare_5 : decode cX0_compare 5 = .ok (.iadd, 1) := by decide +kernel
theorem dX0_compare_6 : decode cX0_compare 6 = .ok (.istore 5, 2) := by decide +kernel
theorem dX0_compare_8 : decode cX0_compare 8 = .ok (.iload_n 2, 1) := by decide +kernel
theorem dX0_compare_9 : decode cX0_compare 9 = .ok (.bipush 6, 2) := by decide +kernel
theorem dX0_compare_11 : decode cX0_compare 11 = .ok (.imul, 1) := by decide +kernel
theorem dX0_compare_12 : decode cX0_compare 12 = .ok (.iload_n 3, 1) := by decide +kernel
theorem dX0_compare_13 : decode cX0_compare 13 = .ok (.iadd, 1) := by decide +kernel
theorem dX0_compare_14 : decode cX0_compare 14 = .ok (.istore 6, 2) := by decide +kernel
theorem dX0_compare_16 : decode cX0_compare 16 = .ok (.iload_n 2, 1) := by decide +kernel
theorem dX0_compare_17 : decode cX0_compare 17 = .ok (.bipush 6, 2) := by decide +kernel
theorem dX0_compare_19 : decode cX0_compare 19 = .ok (.imul, 1) := by decide +kernel
theorem dX0_compare_20 : decode cX0_compare 20 = .ok (.iload 4, 2) := by decide +kernel
theorem dX0_compare_22 : decode cX0_compare 22 = .ok (.iadd, 1) := by decide +kernel
theorem dX0_compare_23 : decode cX0_compare 23 = .ok (.istore 7, 2) := by decide +kernel
theorem dX0_compare_25 : decode cX0_compare 25 = .ok (.iload_n 1, 1) := by decide +kernel
theorem dX0_compare_26 : decode cX0_compare 26 = .ok (.bipush 6, 2) := by decide +kernel
theorem dX0_compare_28 : decode cX0_compare 28 = .ok (.imul, 1) := by decide +kernel
theorem dX0_compare_29 : decode cX0_compare 29 = .ok (.iload 4, 2) := by decide +kernel
theorem dX0_compare_31 : decode cX0_compare 31 = .ok (.iadd, 1) := by decide +kernel
theorem dX0_compare_32 : decode cX0_compare 32 = .ok (.istore 8, 2) := by decide +kernel
theorem dX0_compare_34 : decode cX0_compare 34 = .ok (.aload_n 0, 1) := by decide +kernel
theorem dX0_compare_35 : decode cX0_compare 35 = .ok (.getfield 18, 3) := by decide +kernel
theorem dX0_compare_38 : decode cX0_compare 38 = .ok (.iload 5, 2) := by decide +kernel
theorem dX0_compare_40 : decode cX0_compare 40 = .ok (.baload, 1) := by decide +kernel
theorem dX0_compare_41 : decode cX0_compare 41 = .ok (.ifCond .eq 33, 3) := by decide +kernel
theorem dX0_compare_44 : decode cX0_compare 44 = .ok (.aload_n 0, 1) := by decide +kernel
theorem dX0_compare_45 : decode cX0_compare 45 = .ok (.getfield 22, 3) := by decide +kernel
theorem dX0_compare_48 : decode cX0_compare 48 = .ok (.iload 6, 2) := by decide +kernel
theorem dX0_compare_50 : decode cX0_compare 50 = .ok (.baload, 1) := by decide +kernel
theorem dX0_compare_51 : decode cX0_compare 51 = .ok (.ifCond .eq 23, 3) := by decide +kernel
theorem dX0_compare_54 : decode cX0_compare 54 = .ok (.aload_n 0, 1) := by decide +kernel
theorem dX0_compare_55 : decode cX0_compare 55 = .ok (.getfield 18, 3) := by decide +kernel
theorem dX0_compare_58 : decode cX0_compare 58 = .ok (.iload 7, 2) := by decide +kernel
theorem dX0_compare_60 : decode cX0_compare 60 = .ok (.baload, 1) := by decide +kernel
theorem dX0_compare_61 : decode cX0_compare 61 = .ok (.ifCond .eq 13, 3) := by decide +kernel
theorem dX0_compare_64 : decode cX0_compare 64 = .ok (.aload_n 0, 1) := by decide +kernel
theorem dX0_compare_65 : decode cX0_compare 65 = .ok (.getfield 22, 3) := by decide +kernel
theorem dX0_compare_68 : decode cX0_compare 68 = .ok (.iload 8, 2) := by decide +kernel
theorem dX0_compare_70 : decode cX0_compare 70 = .ok (.baload, 1) := by decide +kernel
theorem dX0_compare_71 : decode cX0_compare 71 = .ok (.ifCond .ne 4, 3) := by decide +kernel
theorem dX0_compare_74 : decode cX0_compare 74 = .ok (.return_, 1) := by decide +kernel
theorem dX0_compare_75 : decode cX0_compare 75 = .ok (.aload_n 0, 1) := by decide +kernel
theorem dX0_compare_76 : decode cX0_compare 76 = .ok (.getfield 9, 3) := by decide +kernel
theorem dX0_compare_79 : decode cX0_compare 79 = .ok (.iload 5, 2) := by decide +kernel
theorem dX0_compare_81 : decode cX0_compare 81 = .ok (.laload, 1) := by decide +kernel
theorem dX0_compare_82 : decode cX0_compare 82 = .ok (.aload_n 0, 1) := by decide +kernel
theorem dX0_compare_83 : decode cX0_compare 83 = .ok (.getfield 15, 3) := by decide +kernel
theorem dX0_compare_86 : decode cX0_compare 86 = .ok (.iload 6, 2) := by decide +kernel
theorem dX0_compare_88 : decode cX0_compare 88 = .ok (.laload, 1) := by decide +kernel
theorem dX0_compare_89 : decode cX0_compare 89 = .ok (.ladd, 1) := by decide +kernel
theorem dX0_compare_90 : decode cX0_compare 90 = .ok (.aload_n 0, 1) := by decide +kernel
theorem dX0_compare_91 : decode cX0_compare 91 = .ok (.getfield 9, 3) := by decide +kernel
theorem dX0_compare_94 : decode cX0_compare 94 = .ok (.iload 7, 2) := by decide +kernel
theorem dX0_compare_96 : decode cX0_compare 96 = .ok (.laload, 1) := by decide +kernel
theorem dX0_compare_97 : decode cX0_compare 97 = .ok (.ladd, 1) := by decide +kernel
theorem dX0_compare_98 : decode cX0_compare 98 = .ok (.aload_n 0, 1) := by decide +kernel
theorem dX0_compare_99 : decode cX0_compare 99 = .ok (.getfield 15, 3) := by decide +kernel
theorem dX0_compare_102 : decode cX0_compare 102 = .ok (.iload 8, 2) := by decide +kernel
theorem dX0_compare_104 : decode cX0_compare 104 = .ok (.laload, 1) := by decide +kernel
theorem dX0_compare_105 : decode cX0_compare 105 = .ok (.ladd, 1) := by decide +kernel
theorem dX0_compare_106 : decode cX0_compare 106 = .ok (.lstore 9, 2) := by decide +kernel
theorem dX0_compare_108 : decode cX0_compare 108 = .ok (.lload 9, 2) := by decide +kernel
theorem dX0_compare_110 : decode cX0_compare 110 = .ok (.aload_n 0, 1) := by decide +kernel
theorem dX0_compare_111 : decode cX0_compare 111 = .ok (.getfield 29, 3) := by decide +kernel
theorem dX0_compare_114 : decode cX0_compare 114 = .ok (.lcmp, 1) := by decide +kernel
theorem dX0_compare_115 : decode cX0_compare 115 = .ok (.ifCond .le 47, 3) := by decide +kernel
theorem dX0_compare_118 : decode cX0_compare 118 = .ok (.aload_n 0, 1) := by decide +kernel
theorem dX0_compare_119 : decode cX0_compare 119 = .ok (.lload 9, 2) := by decide +kernel
theorem dX0_compare_121 : decode cX0_compare 121 = .ok (.putfield 29, 3) := by decide +kernel
theorem dX0_compare_124 : decode cX0_compare 124 = .ok (.aload_n 0, 1) := by decide +kernel
theorem dX0_compare_125 : decode cX0_compare 125 = .ok (.getfield 25, 3) := by decide +kernel
theorem dX0_compare_128 : decode cX0_compare 128 = .ok (.iconst 0, 1) := by decide +kernel
theorem dX0_compare_129 : decode cX0_compare 129 = .ok (.iload_n 1, 1) := by decide +kernel
theorem dX0_compare_130 : decode cX0_compare 130 = .ok (.iastore, 1) := by decide +kernel
theorem dX0_compare_131 : decode cX0_compare 131 = .ok (.aload_n 0, 1) := by decide +kernel
theorem dX0_compare_132 : decode cX0_compare 132 = .ok (.getfield 25, 3) := by decide +kernel
theorem dX0_compare_135 : decode cX0_compare 135 = .ok (.iconst 1, 1) := by decide +kernel
theorem dX0_compare_136 : decode cX0_compare 136 = .ok (.iload_n 2, 1) := by decide +kernel
theorem dX0_compare_137 : decode cX0_compare 137 = .ok (.iastore, 1) := by decide +kernel
theorem dX0_compare_138 : decode cX0_compare 138 = .ok (.aload_n 0, 1) := by decide +kernel
theorem dX0_compare_139 : decode cX0_compare 139 = .ok (.getfield 25, 3) := by decide +kernel
theorem dX0_compare_142 : decode cX0_compare 142 = .ok (.iconst 2, 1) := by decide +kernel
theorem dX0_compare_143 : decode cX0_compare 143 = .ok (.iload_n 3, 1) := by decide +kernel
theorem dX0_compare_144 : decode cX0_compare 144 = .ok (.iastore, 1) := by decide +kernel
theorem dX0_compare_145 : decode cX0_compare 145 = .ok (.aload_n 0, 1) := by decide +kernel
theorem dX0_compare_146 : decode cX0_compare 146 = .ok (.getfield 25, 3) := by decide +kernel
theorem dX0_compare_149 : decode cX0_compare 149 = .ok (.iconst 3, 1) := by decide +kernel
theorem dX0_compare_150 : decode cX0_compare 150 = .ok (.iload 4, 2) := by decide +kernel
theorem dX0_compare_152 : decode cX0_compare 152 = .ok (.iastore, 1) := by decide +kernel
theorem dX0_compare_153 : decode cX0_compare 153 = .ok (.aload_n 0, 1) := by decide +kernel
theorem dX0_compare_154 : decode cX0_compare 154 = .ok (.getfield 25, 3) := by decide +kernel
theorem dX0_compare_157 : decode cX0_compare 157 = .ok (.iconst 4, 1) := by decide +kernel
theorem dX0_compare_158 : decode cX0_compare 158 = .ok (.lload 9, 2) := by decide +kernel
theorem dX0_compare_160 : decode cX0_compare 160 = .ok (.l2i, 1) := by decide +kernel
theorem dX0_compare_161 : decode cX0_compare 161 = .ok (.iastore, 1) := by decide +kernel
theorem dX0_compare_162 : decode cX0_compare 162 = .ok (.return_, 1) := by decide +kernel
theorem dX1_drawOf_0 : decode cX1_drawOf 0 = .ok (.aload_n 0, 1) := by decide +kernel
theorem dX1_drawOf_1 : decode cX1_drawOf 1 = .ok (.ldc 13, 2) := by decide +kernel
theorem dX1_drawOf_3 : decode cX1_drawOf 3 = .ok (.aload_n 0, 1) := by decide +kernel
theorem dX1_drawOf_4 : decode cX1_drawOf 4 = .ok (.getfield 7, 3) := by decide +kernel
theorem dX1_drawOf_7 : decode cX1_drawOf 7 = .ok (.imul, 1) := by decide +kernel
theorem dX1_drawOf_8 : decode cX1_drawOf 8 = .ok (.sipush 12345, 3) := by decide +kernel
theorem dX1_drawOf_11 : decode cX1_drawOf 11 = .ok (.iadd, 1) := by decide +kernel
theorem dX1_drawOf_12 : decode cX1_drawOf 12 = .ok (.ldc 14, 2) := by decide +kernel
theorem dX1_drawOf_14 : decode cX1_drawOf 14 = .ok (.iand, 1) := by decide +kernel
theorem dX1_drawOf_15 : decode cX1_drawOf 15 = .ok (.putfield 7, 3) := by decide +kernel
theorem dX1_drawOf_18 : decode cX1_drawOf 18 = .ok (.iload_n 1, 1) := by decide +kernel
theorem dX1_drawOf_19 : decode cX1_drawOf 19 = .ok (.ifCond .le 15, 3) := by decide +kernel
theorem dX1_drawOf_22 : decode cX1_drawOf 22 = .ok (.aload_n 0, 1) := by decide +kernel
theorem dX1_drawOf_23 : decode cX1_drawOf 23 = .ok (.getfield 7, 3) := by decide +kernel
theorem dX1_drawOf_26 : decode cX1_drawOf 26 = .ok (.bipush 64, 2) := by decide +kernel
theorem dX1_drawOf_28 : decode cX1_drawOf 28 = .ok (.idiv, 1) := by decide +kernel
theorem dX1_drawOf_29 : decode cX1_drawOf 29 = .ok (.iload_n 1, 1) := by decide +kernel
theorem dX1_drawOf_30 : decode cX1_drawOf 30 = .ok (.irem, 1) := by decide +kernel
theorem dX1_drawOf_31 : decode cX1_drawOf 31 = .ok (.goto 4, 3) := by decide +kernel
theorem dX1_drawOf_34 : decode cX1_drawOf 34 = .ok (.iconst 0, 1) := by decide +kernel
theorem dX1_drawOf_35 : decode cX1_drawOf 35 = .ok (.ireturn, 1) := by decide +kernel
theorem dX2_seekWide_0 : decode cX2_seekWide 0 = .ok (.aload_n 0, 1) := by decide +kernel
theorem dX2_seekWide_1 : decode cX2_seekWide 1 = .ok (.iconst 1, 1) := by decide +kernel
theorem dX2_seekWide_2 : decode cX2_seekWide 2 = .ok (.putfield 25, 3) := by decide +kernel
theorem dX2_seekWide_5 : decode cX2_seekWide 5 = .ok (.aload_n 0, 1) := by decide +kernel
theorem dX2_seekWide_6 : decode cX2_seekWide 6 = .ok (.aload_n 1, 1) := by decide +kernel
theorem dX2_seekWide_7 : decode cX2_seekWide 7 = .ok (.getfield 38, 3) := by decide +kernel
theorem dX2_seekWide_10 : decode cX2_seekWide 10 = .ok (.putfield 29, 3) := by decide +kernel
theorem dX2_seekWide_13 : decode cX2_seekWide 13 = .ok (.iconst 0, 1) := by decide +kernel
theorem dX2_seekWide_14 : decode cX2_seekWide 14 = .ok (.istore 4, 2) := by decide +kernel
theorem dX2_seekWide_16 : decode cX2_seekWide 16 = .ok (.iload 4, 2) := by decide +kernel
theorem dX2_seekWide_18 : decode cX2_seekWide 18 = .ok (.bipush 36, 2) := by decide +kernel
theorem dX2_seekWide_20 : decode cX2_seekWide 20 = .ok (.if_icmp .ge 36, 3) := by decide +kernel
theorem dX2_seekWide_23 : decode cX2_seekWide 23 = .ok (.aload_n 1, 1) := by decide +kernel
theorem dX2_seekWide_24 : decode cX2_seekWide 24 = .ok (.getfield 41, 3) := by decide +kernel
theorem dX2_seekWide_27 : decode cX2_seekWide 27 = .ok (.iload 4, 2) := by decide +kernel
theorem dX2_seekWide_29 : decode cX2_seekWide 29 = .ok (.iaload, 1) := by decide +kernel
theorem dX2_seekWide_30 : decode cX2_seekWide 30 = .ok (.ifCond .le 20, 3) := by decide +kernel
theorem dX2_seekWide_33 : decode cX2_seekWide 33 = .ok (.lload_n 2, 1) := by decide +kernel
theorem dX2_seekWide_34 : decode cX2_seekWide 34 = .ok (.iload 4, 2) := by decide +kernel
theorem dX2_seekWide_36 : decode cX2_seekWide 36 = .ok (.lushr, 1) := by decide +kernel
theorem dX2_seekWide_37 : decode cX2_seekWide 37 = .ok (.lconst 1, 1) := by decide +kernel
theorem dX2_seekWide_38 : decode cX2_seekWide 38 = .ok (.land, 1) := by decide +kernel
theorem dX2_seekWide_39 : decode cX2_seekWide 39 = .ok (.lconst 0, 1) := by decide +kernel
theorem dX2_seekWide_40 : decode cX2_seekWide 40 = .ok (.lcmp, 1) := by decide +kernel
theorem dX2_seekWide_41 : decode cX2_seekWide 41 = .ok (.ifCond .ne 9, 3) := by decide +kernel
theorem dX2_seekWide_44 : decode cX2_seekWide 44 = .ok (.aload_n 0, 1) := by decide +kernel
theorem dX2_seekWide_45 : decode cX2_seekWide 45 = .ok (.iload 4, 2) := by decide +kernel
theorem dX2_seekWide_47 : decode cX2_seekWide 47 = .ok (.invokevirtual 44, 3) := by decide +kernel
theorem dX2_seekWide_50 : decode cX2_seekWide 50 = .ok (.iinc 4 1, 3) := by decide +kernel
theorem dX2_seekWide_53 : decode cX2_seekWide 53 = .ok (.goto (-37), 3) := by decide +kernel
theorem dX2_seekWide_56 : decode cX2_seekWide 56 = .ok (.aload_n 0, 1) := by decide +kernel
theorem dX2_seekWide_57 : decode cX2_seekWide 57 = .ok (.lload_n 2, 1) := by decide +kernel
theorem dX2_seekWide_58 : decode cX2_seekWide 58 = .ok (.invokevirtual 48, 3) := by decide +kernel
theorem dX2_seekWide_61 : decode cX2_seekWide 61 = .ok (.return_, 1) := by decide +kernel
theorem dX2_seekCut_0 : decode cX2_seekCut 0 = .ok (.aload_n 0, 1) := by decide +kernel
theorem dX2_seekCut_1 : decode cX2_seekCut 1 = .ok (.iload_n 1, 1) := by decide +kernel
theorem dX2_seekCut_2 : decode cX2_seekCut 2 = .ok (.putfield 32, 3) := by decide +kernel
theorem dX2_seekCut_5 : decode cX2_seekCut 5 = .ok (.aload_n 0, 1) := by decide +kernel
theorem dX2_seekCut_6 : decode cX2_seekCut 6 = .ok (.iload_n 2, 1) := by decide +kernel
theorem dX2_seekCut_7 : decode cX2_seekCut 7 = .ok (.putfield 35, 3) := by decide +kernel
theorem dX2_seekCut_10 : decode cX2_seekCut 10 = .ok (.iconst 0, 1) := by decide +kernel
theorem dX2_seekCut_11 : decode cX2_seekCut 11 = .ok (.istore 5, 2) := by decide +kernel
theorem dX2_seekCut_13 : decode cX2_seekCut 13 = .ok (.iload 5, 2) := by decide +kernel
theorem dX2_seekCut_15 : decode cX2_seekCut 15 = .ok (.bipush 36, 2) := by decide +kernel
theorem dX2_seekCut_17 : decode cX2_seekCut 17 = .ok (.if_icmp .ge 26, 3) := by decide +kernel
theorem dX2_seekCut_20 : decode cX2_seekCut 20 = .ok (.lload_n 3, 1) := by decide +kernel
theorem dX2_seekCut_21 : decode cX2_seekCut 21 = .ok (.iload 5, 2) := by decide +kernel
theorem dX2_seekCut_23 : decode cX2_seekCut 23 = .ok (.lushr, 1) := by decide +kernel
theorem dX2_seekCut_24 : decode cX2_seekCut 24 = .ok (.lconst 1, 1) := by decide +kernel
theorem dX2_seekCut_25 : decode cX2_seekCut 25 = .ok (.land, 1) := by decide +kernel
theorem dX2_seekCut_26 : decode cX2_seekCut 26 = .ok (.lconst 0, 1) := by decide +kernel
theorem dX2_seekCut_27 : decode cX2_seekCut 27 = .ok (.lcmp, 1) := by decide +kernel
theorem dX2_seekCut_28 : decode cX2_seekCut 28 = .ok (.ifCond .eq 9, 3) := by decide +kernel
theorem dX2_seekCut_31 : decode cX2_seekCut 31 = .ok (.aload_n 0, 1) := by decide +kernel
theorem dX2_seekCut_32 : decode cX2_seekCut 32 = .ok (.iload 5, 2) := by decide +kernel
theorem dX2_seekCut_34 : decode cX2_seekCut 34 = .ok (.invokevirtual 44, 3) := by decide +kernel
theorem dX2_seekCut_37 : decode cX2_seekCut 37 = .ok (.iinc 5 1, 3) := by decide +kernel
theorem dX2_seekCut_40 : decode cX2_seekCut 40 = .ok (.goto (-27), 3) := by decide +kernel
theorem dX2_seekCut_43 : decode cX2_seekCut 43 = .ok (.aload_n 0, 1) := by decide +kernel
theorem dX2_seekCut_44 : decode cX2_seekCut 44 = .ok (.lload_n 3, 1) := by decide +kernel
theorem dX2_seekCut_45 : decode cX2_seekCut 45 = .ok (.invokevirtual 48, 3) := by decide +kernel
theorem dX2_seekCut_48 : decode cX2_seekCut 48 = .ok (.return_, 1) := by decide +kernel
theorem dX2_offer_0 : decode cX2_offer 0 = .ok (.aload_n 0, 1) := by decide +kernel
theorem dX2_offer_1 : decode cX2_offer 1 = .ok (.getfield 15, 3) := by decide +kernel
theorem dX2_offer_4 : decode cX2_offer 4 = .ok (.bipush 36, 2) := by decide +kernel
theorem dX2_offer_6 : decode cX2_offer 6 = .ok (.if_icmp .ge 23, 3) := by decide +kernel
theorem dX2_offer_9 : decode cX2_offer 9 = .ok (.aload_n 0, 1) := by decide +kernel
theorem dX2_offer_10 : decode cX2_offer 10 = .ok (.getfield 9, 3) := by decide +kernel
theorem dX2_offer_13 : decode cX2_offer 13 = .ok (.aload_n 0, 1) := by decide +kernel
theorem dX2_offer_14 : decode cX2_offer 14 = .ok (.getfield 15, 3) := by decide +kernel
theorem dX2_offer_17 : decode cX2_offer 17 = .ok (.iload_n 1, 1) := by decide +kernel
theorem dX2_offer_18 : decode cX2_offer 18 = .ok (.iastore, 1) := by decide +kernel
theorem dX2_offer_19 : decode cX2_offer 19 = .ok (.aload_n 0, 1) := by decide +kernel
theorem dX2_offer_20 : decode cX2_offer 20 = .ok (.dup, 1) := by decide +kernel
theorem dX2_offer_21 : decode cX2_offer 21 = .ok (.getfield 15, 3) := by decide +kernel
theorem dX2_offer_24 : decode cX2_offer 24 = .ok (.iconst 1, 1) := by decide +kernel
theorem dX2_offer_25 : decode cX2_offer 25 = .ok (.iadd, 1) := by decide +kernel
theorem dX2_offer_26 : decode cX2_offer 26 = .ok (.putfield 15, 3) := by decide +kernel
theorem dX2_offer_29 : decode cX2_offer 29 = .ok (.return_, 1) := by decide +kernel
theorem dX2_seek_0 : decode cX2_seek 0 = .ok (.iconst 0, 1) := by decide +kernel
theorem dX2_seek_1 : decode cX2_seek 1 = .ok (.istore_n 3, 1) := by decide +kernel
theorem dX2_seek_2 : decode cX2_seek 2 = .ok (.iload_n 3, 1) := by decide +kernel
theorem dX2_seek_3 : decode cX2_seek 3 = .ok (.iconst 3, 1) := by decide +kernel
theorem dX2_seek_4 : decode cX2_seek 4 = .ok (.if_icmp .gt 26, 3) := by decide +kernel
theorem dX2_seek_7 : decode cX2_seek 7 = .ok (.aload_n 0, 1) := by decide +kernel
theorem dX2_seek_8 : decode cX2_seek 8 = .ok (.lload_n 1, 1) := by decide +kernel
theorem dX2_seek_9 : decode cX2_seek 9 = .ok (.iload_n 3, 1) := by decide +kernel
theorem dX2_seek_10 : decode cX2_seek 10 = .ok (.iconst 0, 1) := by decide +kernel
theorem dX2_seek_11 : decode cX2_seek 11 = .ok (.iconst 0, 1) := by decide +kernel
theorem dX2_seek_12 : decode cX2_seek 12 = .ok (.invokevirtual 52, 3) := by decide +kernel
theorem dX2_seek_15 : decode cX2_seek 15 = .ok (.ifCond .eq 9, 3) := by decide +kernel
theorem dX2_seek_18 : decode cX2_seek 18 = .ok (.aload_n 0, 1) := by decide +kernel
theorem dX2_seek_19 : decode cX2_seek 19 = .ok (.iload_n 3, 1) := by decide +kernel
theorem dX2_seek_20 : decode cX2_seek 20 = .ok (.putfield 22, 3) := by decide +kernel
theorem dX2_seek_23 : decode cX2_seek 23 = .ok (.return_, 1) := by decide +kernel
theorem dX2_seek_24 : decode cX2_seek 24 = .ok (.iinc 3 1, 3) := by decide +kernel
theorem dX2_seek_27 : decode cX2_seek 27 = .ok (.goto (-25), 3) := by decide +kernel
theorem dX2_seek_30 : decode cX2_seek 30 = .ok (.return_, 1) := by decide +kernel
theorem dX2_choose_0 : decode cX2_choose 0 = .ok (.iload 4, 2) := by decide +kernel
theorem dX2_choose_2 : decode cX2_choose 2 = .ok (.iload_n 3, 1) := by decide +kernel
theorem dX2_choose_3 : decode cX2_choose 3 = .ok (.if_icmp .ge 9, 3) := by decide +kernel
theorem dX2_choose_6 : decode cX2_choose 6 = .ok (.iload 4, 2) := by decide +kernel
theorem dX2_choose_8 : decode cX2_choose 8 = .ok (.iconst 3, 1) := by decide +kernel
theorem dX2_choose_9 : decode cX2_choose 9 = .ok (.if_icmp .lt 9, 3) := by decide +kernel
theorem dX2_choose_12 : decode cX2_choose 12 = .ok (.aload_n 0, 1) := by decide +kernel
theorem dX2_choose_13 : decode cX2_choose 13 = .ok (.lload_n 1, 1) := by decide +kernel
theorem dX2_choose_14 : decode cX2_choose 14 = .ok (.invokevirtual 56, 3) := by decide +kernel
theorem dX2_choose_17 : decode cX2_choose 17 = .ok (.ireturn, 1) := by decide +kernel
theorem dX2_choose_18 : decode cX2_choose 18 = .ok (.iload 5, 2) := by decide +kernel
theorem dX2_choose_20 : decode cX2_choose 20 = .ok (.istore 6, 2) := by decide +kernel
theorem dX2_choose_22 : decode cX2_choose 22 = .ok (.iload 6, 2) := by decide +kernel
theorem dX2_choose_24 : decode cX2_choose 24 = .ok (.aload_n 0, 1) := by decide +kernel
theorem dX2_choose_25 : decode cX2_choose 25 = .ok (.getfield 15, 3) := by decide +kernel
theorem dX2_choose_28 : decode cX2_choose 28 = .ok (.if_icmp .ge 52, 3) := by decide +kernel
theorem dX2_choose_31 : decode cX2_choose 31 = .ok (.aload_n 0, 1) := by decide +kernel
theorem dX2_choose_32 : decode cX2_choose 32 = .ok (.getfield 19, 3) := by decide +kernel
theorem dX2_choose_35 : decode cX2_choose 35 = .ok (.iload 4, 2) := by decide +kernel
theorem dX2_choose_37 : decode cX2_choose 37 = .ok (.aload_n 0, 1) := by decide +kernel
theorem dX2_choose_38 : decode cX2_choose 38 = .ok (.getfield 9, 3) := by decide +kernel
theorem dX2_choose_41 : decode cX2_choose 41 = .ok (.iload 6, 2) := by decide +kernel
theorem dX2_choose_43 : decode cX2_choose 43 = .ok (.iaload, 1) := by decide +kernel
theorem dX2_choose_44 : decode cX2_choose 44 = .ok (.iastore, 1) := by decide +kernel
theorem dX2_choose_45 : decode cX2_choose 45 = .ok (.aload_n 0, 1) := by decide +kernel
theorem dX2_choose_46 : decode cX2_choose 46 = .ok (.lload_n 1, 1) := by decide +kernel
theorem dX2_choose_47 : decode cX2_choose 47 = .ok (.lconst 1, 1) := by decide +kernel
theorem dX2_choose_48 : decode cX2_choose 48 = .ok (.aload_n 0, 1) := by decide +kernel
theorem dX2_choose_49 : decode cX2_choose 49 = .ok (.getfield 9, 3) := by decide +kernel
theorem dX2_choose_52 : decode cX2_choose 52 = .ok (.iload 6, 2) := by decide +kernel
theorem dX2_choose_54 : decode cX2_choose 54 = .ok (.iaload, 1) := by decide +kernel
theorem dX2_choose_55 : decode cX2_choose 55 = .ok (.lshl, 1) := by decide +kernel
theorem dX2_choose_56 : decode cX2_choose 56 = .ok (.lxor, 1) := by decide +kernel
theorem dX2_choose_57 : decode cX2_choose 57 = .ok (.iload_n 3, 1) := by decide +kernel
theorem dX2_choose_58 : decode cX2_choose 58 = .ok (.iload 4, 2) := by decide +kernel
theorem dX2_choose_60 : decode cX2_choose 60 = .ok (.iconst 1, 1) := by decide +kernel
theorem dX2_choose_61 : decode cX2_choose 61 = .ok (.iadd, 1) := by decide +kernel
theorem dX2_choose_62 : decode cX2_choose 62 = .ok (.iload 6, 2) := by decide +kernel
theorem dX2_choose_64 : decode cX2_choose 64 = .ok (.iconst 1, 1) := by decide +kernel
theorem dX2_choose_65 : decode cX2_choose 65 = .ok (.iadd, 1) := by decide +kernel
theorem dX2_choose_66 : decode cX2_choose 66 = .ok (.invokevirtual 52, 3) := by decide +kernel
theorem dX2_choose_69 : decode cX2_choose 69 = .ok (.ifCond .eq 5, 3) := by decide +kernel
theorem dX2_choose_72 : decode cX2_choose 72 = .ok (.iconst 1, 1) := by decide +kernel
theorem dX2_choose_73 : decode cX2_choose 73 = .ok (.ireturn, 1) := by decide +kernel
theorem dX2_choose_74 : decode cX2_choose 74 = .ok (.iinc 6 1, 3) := by decide +kernel
theorem dX2_choose_77 : decode cX2_choose 77 = .ok (.goto (-55), 3) := by decide +kernel
theorem dX2_choose_80 : decode cX2_choose 80 = .ok (.iconst 0, 1) := by decide +kernel
theorem dX2_choose_81 : decode cX2_choose 81 = .ok (.ireturn, 1) := by decide +kernel
theorem dX2_isMet_0 : decode cX2_isMet 0 = .ok (.aload_n 0, 1) := by decide +kernel
theorem dX2_isMet_1 : decode cX2_isMet 1 = .ok (.getfield 25, 3) := by decide +kernel
theorem dX2_isMet_4 : decode cX2_isMet 4 = .ok (.ifCond .eq 14, 3) := by decide +kernel
theorem dX2_isMet_7 : decode cX2_isMet 7 = .ok (.lload_n 1, 1) := by decide +kernel
theorem dX2_isMet_8 : decode cX2_isMet 8 = .ok (.aload_n 0, 1) := by decide +kernel
theorem dX2_isMet_9 : decode cX2_isMet 9 = .ok (.getfield 29, 3) := by decide +kernel
theorem dX2_isMet_12 : decode cX2_isMet 12 = .ok (.invokestatic 60, 3) := by decide +kernel
theorem dX2_isMet_15 : decode cX2_isMet 15 = .ok (.goto 26, 3) := by decide +kernel
theorem dX2_isMet_18 : decode cX2_isMet 18 = .ok (.lload_n 1, 1) := by decide +kernel
theorem dX2_isMet_19 : decode cX2_isMet 19 = .ok (.aload_n 0, 1) := by decide +kernel
theorem dX2_isMet_20 : decode cX2_isMet 20 = .ok (.getfield 32, 3) := by decide +kernel
theorem dX2_isMet_23 : decode cX2_isMet 23 = .ok (.invokestatic 66, 3) := by decide +kernel
theorem dX2_isMet_26 : decode cX2_isMet 26 = .ok (.aload_n 0, 1) := by decide +kernel
theorem dX2_isMet_27 : decode cX2_isMet 27 = .ok (.getfield 35, 3) := by decide +kernel
theorem dX2_isMet_30 : decode cX2_isMet 30 = .ok (.ishr, 1) := by decide +kernel
theorem dX2_isMet_31 : decode cX2_isMet 31 = .ok (.iconst 1, 1) := by decide +kernel
theorem dX2_isMet_32 : decode cX2_isMet 32 = .ok (.iand, 1) := by decide +kernel
theorem dX2_isMet_33 : decode cX2_isMet 33 = .ok (.ifCond .ne 7, 3) := by decide +kernel
theorem dX2_isMet_36 : decode cX2_isMet 36 = .ok (.iconst 1, 1) := by decide +kernel
theorem dX2_isMet_37 : decode cX2_isMet 37 = .ok (.goto 4, 3) := by decide +kernel
theorem dX2_isMet_40 : decode cX2_isMet 40 = .ok (.iconst 0, 1) := by decide +kernel
theorem dX2_isMet_41 : decode cX2_isMet 41 = .ok (.ireturn, 1) := by decide +kernel
theorem dX2_tell_0 : decode cX2_tell 0 = .ok (.iload_n 1, 1) := by decide +kernel
theorem dX2_tell_1 : decode cX2_tell 1 = .ok (.iconst (-1), 1) := by decide +kernel
theorem dX2_tell_2 : decode cX2_tell 2 = .ok (.if_icmp .ne 8, 3) := by decide +kernel
theorem dX2_tell_5 : decode cX2_tell 5 = .ok (.aload_n 0, 1) := by decide +kernel
theorem dX2_tell_6 : decode cX2_tell 6 = .ok (.getfield 22, 3) := by decide +kernel
theorem dX2_tell_9 : decode cX2_tell 9 = .ok (.ireturn, 1) := by decide +kernel
theorem dX2_tell_10 : decode cX2_tell 10 = .ok (.iload_n 1, 1) := by decide +kernel
theorem dX2_tell_11 : decode cX2_tell 11 = .ok (.ifCond .lt 25, 3) := by decide +kernel
theorem dX2_tell_14 : decode cX2_tell 14 = .ok (.iload_n 1, 1) := by decide +kernel
theorem dX2_tell_15 : decode cX2_tell 15 = .ok (.aload_n 0, 1) := by decide +kernel
theorem dX2_tell_16 : decode cX2_tell 16 = .ok (.getfield 22, 3) := by decide +kernel
theorem dX2_tell_19 : decode cX2_tell 19 = .ok (.if_icmp .ge 17, 3) := by decide +kernel
theorem dX2_tell_22 : decode cX2_tell 22 = .ok (.iload_n 1, 1) := by decide +kernel
theorem dX2_tell_23 : decode cX2_tell 23 = .ok (.iconst 3, 1) := by decide +kernel
theorem dX2_tell_24 : decode cX2_tell 24 = .ok (.if_icmp .ge 12, 3) := by decide +kernel
theorem dX2_tell_27 : decode cX2_tell 27 = .ok (.aload_n 0, 1) := by decide +kernel
theorem dX2_tell_28 : decode cX2_tell 28 = .ok (.getfield 19, 3) := by decide +kernel
theorem dX2_tell_31 : decode cX2_tell 31 = .ok (.iload_n 1, 1) := by decide +kernel
theorem dX2_tell_32 : decode cX2_tell 32 = .ok (.iaload, 1) := by decide +kernel
theorem dX2_tell_33 : decode cX2_tell 33 = .ok (.goto 4, 3) := by decide +kernel
theorem dX2_tell_36 : decode cX2_tell 36 = .ok (.iconst (-1), 1) := by decide +kernel
theorem dX2_tell_37 : decode cX2_tell 37 = .ok (.ireturn, 1) := by decide +kernel
theorem dX3_checkOn_0 : decode cX3_checkOn 0 = .ok (.iconst 5, 1) := by decide +kernel
theorem dX3_checkOn_1 : decode cX3_checkOn 1 = .ok (.iload_n 0, 1) := by decide +kernel
theorem dX3_checkOn_2 : decode cX3_checkOn 2 = .ok (.imul, 1) := by decide +kernel
theorem dX3_checkOn_3 : decode cX3_checkOn 3 = .ok (.iload_n 1, 1) := by decide +kernel
theorem dX3_checkOn_4 : decode cX3_checkOn 4 = .ok (.iadd, 1) := by decide +kernel
theorem dX3_checkOn_5 : decode cX3_checkOn 5 = .ok (.sipush 251, 3) := by decide +kernel
theorem dX3_checkOn_8 : decode cX3_checkOn 8 = .ok (.irem, 1) := by decide +kernel
theorem dX3_checkOn_9 : decode cX3_checkOn 9 = .ok (.ireturn, 1) := by decide +kernel
theorem dX3_read_0 : decode cX3_read 0 = .ok (.aload_n 2, 1) := by decide +kernel
theorem dX3_read_1 : decode cX3_read 1 = .ok (.getfield 11, 3) := by decide +kernel
theorem dX3_read_4 : decode cX3_read 4 = .ok (.aload_n 2, 1) := by decide +kernel
theorem dX3_read_5 : decode cX3_read 5 = .ok (.getfield 11, 3) := by decide +kernel
theorem dX3_read_8 : decode cX3_read 8 = .ok (.iconst 1, 1) := by decide +kernel
theorem dX3_read_9 : decode cX3_read 9 = .ok (.isub, 1) := by decide +kernel
theorem dX3_read_10 : decode cX3_read 10 = .ok (.imul, 1) := by decide +kernel
theorem dX3_read_11 : decode cX3_read 11 = .ok (.iconst 3, 1) := by decide +kernel
theorem dX3_read_12 : decode cX3_read 12 = .ok (.imul, 1) := by decide +kernel
theorem dX3_read_13 : decode cX3_read 13 = .ok (.istore 4, 2) := by decide +kernel
theorem dX3_read_15 : decode cX3_read 15 = .ok (.iconst 2, 1) := by decide +kernel
theorem dX3_read_16 : decode cX3_read 16 = .ok (.iload 4, 2) := by decide +kernel
theorem dX3_read_18 : decode cX3_read 18 = .ok (.iadd, 1) := by decide +kernel
theorem dX3_read_19 : decode cX3_read 19 = .ok (.istore 5, 2) := by decide +kernel
theorem dX3_read_21 : decode cX3_read 21 = .ok (.iload_n 1, 1) := by decide +kernel
theorem dX3_read_22 : decode cX3_read 22 = .ok (.aload_n 0, 1) := by decide +kernel
theorem dX3_read_23 : decode cX3_read 23 = .ok (.arraylength, 1) := by decide +kernel
theorem dX3_read_24 : decode cX3_read 24 = .ok (.if_icmp .gt 11, 3) := by decide +kernel
theorem dX3_read_27 : decode cX3_read 27 = .ok (.iload_n 1, 1) := by decide +kernel
theorem dX3_read_28 : decode cX3_read 28 = .ok (.iload 5, 2) := by decide +kernel
theorem dX3_read_30 : decode cX3_read 30 = .ok (.iconst 2, 1) := by decide +kernel
theorem dX3_read_31 : decode cX3_read 31 = .ok (.iadd, 1) := by decide +kernel
theorem dX3_read_32 : decode cX3_read 32 = .ok (.if_icmp .ge 5, 3) := by decide +kernel
theorem dX3_read_35 : decode cX3_read 35 = .ok (.iconst 0, 1) := by decide +kernel
theorem dX3_read_36 : decode cX3_read 36 = .ok (.ireturn, 1) := by decide +kernel
theorem dX3_read_37 : decode cX3_read 37 = .ok (.aload_n 3, 1) := by decide +kernel
theorem dX3_read_38 : decode cX3_read 38 = .ok (.aload_n 2, 1) := by decide +kernel
theorem dX3_read_39 : decode cX3_read 39 = .ok (.getfield 17, 3) := by decide +kernel
theorem dX3_read_42 : decode cX3_read 42 = .ok (.invokevirtual 21, 3) := by decide +kernel
theorem dX3_read_45 : decode cX3_read 45 = .ok (.aload_n 3, 1) := by decide +kernel
theorem dX3_read_46 : decode cX3_read 46 = .ok (.aload_n 0, 1) := by decide +kernel
theorem dX3_read_47 : decode cX3_read 47 = .ok (.iconst 0, 1) := by decide +kernel
theorem dX3_read_48 : decode cX3_read 48 = .ok (.baload, 1) := by decide +kernel
theorem dX3_read_49 : decode cX3_read 49 = .ok (.sipush 255, 3) := by decide +kernel
theorem dX3_read_52 : decode cX3_read 52 = .ok (.iand, 1) := by decide +kernel
theorem dX3_read_53 : decode cX3_read 53 = .ok (.bipush 8, 2) := by decide +kernel
theorem dX3_read_55 : decode cX3_read 55 = .ok (.ishl, 1) := by decide +kernel
theorem dX3_read_56 : decode cX3_read 56 = .ok (.aload_n 0, 1) := by decide +kernel
theorem dX3_read_57 : decode cX3_read 57 = .ok (.iconst 1, 1) := by decide +kernel
theorem dX3_read_58 : decode cX3_read 58 = .ok (.baload, 1) := by decide +kernel
theorem dX3_read_59 : decode cX3_read 59 = .ok (.sipush 255, 3) := by decide +kernel
theorem dX3_read_62 : decode cX3_read 62 = .ok (.iand, 1) := by decide +kernel
theorem dX3_read_63 : decode cX3_read 63 = .ok (.ior, 1) := by decide +kernel
theorem dX3_read_64 : decode cX3_read 64 = .ok (.putfield 27, 3) := by decide +kernel
theorem dX3_read_67 : decode cX3_read 67 = .ok (.aload_n 3, 1) := by decide +kernel
theorem dX3_read_68 : decode cX3_read 68 = .ok (.aload_n 0, 1) := by decide +kernel
theorem dX3_read_69 : decode cX3_read 69 = .ok (.iload 5, 2) := by decide +kernel
theorem dX3_read_71 : decode cX3_read 71 = .ok (.baload, 1) := by decide +kernel
theorem dX3_read_72 : decode cX3_read 72 = .ok (.sipush 255, 3) := by decide +kernel
theorem dX3_read_75 : decode cX3_read 75 = .ok (.iand, 1) := by decide +kernel
theorem dX3_read_76 : decode cX3_read 76 = .ok (.putfield 30, 3) := by decide +kernel
theorem dX3_read_79 : decode cX3_read 79 = .ok (.iload_n 1, 1) := by decide +kernel
theorem dX3_read_80 : decode cX3_read 80 = .ok (.iload 5, 2) := by decide +kernel
theorem dX3_read_82 : decode cX3_read 82 = .ok (.iconst 2, 1) := by decide +kernel
theorem dX3_read_83 : decode cX3_read 83 = .ok (.iadd, 1) := by decide +kernel
theorem dX3_read_84 : decode cX3_read 84 = .ok (.aload_n 3, 1) := by decide +kernel
theorem dX3_read_85 : decode cX3_read 85 = .ok (.getfield 30, 3) := by decide +kernel
theorem dX3_read_88 : decode cX3_read 88 = .ok (.iconst 3, 1) := by decide +kernel
theorem dX3_read_89 : decode cX3_read 89 = .ok (.imul, 1) := by decide +kernel
theorem dX3_read_90 : decode cX3_read 90 = .ok (.iadd, 1) := by decide +kernel
theorem dX3_read_91 : decode cX3_read 91 = .ok (.if_icmp .ne 7, 3) := by decide +kernel
theorem dX3_read_94 : decode cX3_read 94 = .ok (.iconst 1, 1) := by decide +kernel
theorem dX3_read_95 : decode cX3_read 95 = .ok (.goto 4, 3) := by decide +kernel
theorem dX3_read_98 : decode cX3_read 98 = .ok (.iconst 0, 1) := by decide +kernel
theorem dX3_read_99 : decode cX3_read 99 = .ok (.istore 6, 2) := by decide +kernel
theorem dX3_read_101 : decode cX3_read 101 = .ok (.aload_n 3, 1) := by decide +kernel
theorem dX3_read_102 : decode cX3_read 102 = .ok (.getfield 27, 3) := by decide +kernel
theorem dX3_read_105 : decode cX3_read 105 = .ok (.sipush 999, 3) := by decide +kernel
theorem dX3_read_108 : decode cX3_read 108 = .ok (.if_icmp .gt 51, 3) := by decide +kernel
theorem dX3_read_111 : decode cX3_read 111 = .ok (.aload_n 3, 1) := by decide +kernel
theorem dX3_read_112 : decode cX3_read 112 = .ok (.getfield 30, 3) := by decide +kernel
theorem dX3_read_115 : decode cX3_read 115 = .ok (.bipush 60, 2) := by decide +kernel
theorem dX3_read_117 : decode cX3_read 117 = .ok (.if_icmp .gt 42, 3) := by decide +kernel
theorem dX3_read_120 : decode cX3_read 120 = .ok (.iload 6, 2) := by decide +kernel
theorem dX3_read_122 : decode cX3_read 122 = .ok (.ifCond .eq 37, 3) := by decide +kernel
theorem dX3_read_125 : decode cX3_read 125 = .ok (.aload_n 0, 1) := by decide +kernel
theorem dX3_read_126 : decode cX3_read 126 = .ok (.iload_n 1, 1) := by decide +kernel
theorem dX3_read_127 : decode cX3_read 127 = .ok (.invokestatic 33, 3) := by decide +kernel
theorem dX3_read_130 : decode cX3_read 130 = .ok (.ifCond .eq 29, 3) := by decide +kernel
theorem dX3_read_133 : decode cX3_read 133 = .ok (.aload_n 0, 1) := by decide +kernel
theorem dX3_read_134 : decode cX3_read 134 = .ok (.aload_n 2, 1) := by decide +kernel
theorem dX3_read_135 : decode cX3_read 135 = .ok (.aload_n 3, 1) := by decide +kernel
theorem dX3_read_136 : decode cX3_read 136 = .ok (.invokestatic 37, 3) := by decide +kernel
theorem dX3_read_139 : decode cX3_read 139 = .ok (.ifCond .eq 20, 3) := by decide +kernel
theorem dX3_read_142 : decode cX3_read 142 = .ok (.aload_n 0, 1) := by decide +kernel
theorem dX3_read_143 : decode cX3_read 143 = .ok (.iload 5, 2) := by decide +kernel
theorem dX3_read_145 : decode cX3_read 145 = .ok (.iconst 1, 1) := by decide +kernel
theorem dX3_read_146 : decode cX3_read 146 = .ok (.iadd, 1) := by decide +kernel
theorem dX3_read_147 : decode cX3_read 147 = .ok (.aload_n 2, 1) := by decide +kernel
theorem dX3_read_148 : decode cX3_read 148 = .ok (.aload_n 3, 1) := by decide +kernel
theorem dX3_read_149 : decode cX3_read 149 = .ok (.invokestatic 41, 3) := by decide +kernel
theorem dX3_read_152 : decode cX3_read 152 = .ok (.ifCond .eq 7, 3) := by decide +kernel
theorem dX3_read_155 : decode cX3_read 155 = .ok (.iconst 1, 1) := by decide +kernel
theorem dX3_read_156 : decode cX3_read 156 = .ok (.goto 4, 3) := by decide +kernel
theorem dX3_read_159 : decode cX3_read 159 = .ok (.iconst 0, 1) := by decide +kernel
theorem dX3_read_160 : decode cX3_read 160 = .ok (.ireturn, 1) := by decide +kernel
theorem dX3_checkFits_0 : decode cX3_checkFits 0 = .ok (.sipush 191, 3) := by decide +kernel
theorem dX3_checkFits_3 : decode cX3_checkFits 3 = .ok (.istore_n 2, 1) := by decide +kernel
theorem dX3_checkFits_4 : decode cX3_checkFits 4 = .ok (.iconst 0, 1) := by decide +kernel
theorem dX3_checkFits_5 : decode cX3_checkFits 5 = .ok (.istore_n 3, 1) := by decide +kernel
theorem dX3_checkFits_6 : decode cX3_checkFits 6 = .ok (.iload_n 3, 1) := by decide +kernel
theorem dX3_checkFits_7 : decode cX3_checkFits 7 = .ok (.iload_n 1, 1) := by decide +kernel
theorem dX3_checkFits_8 : decode cX3_checkFits 8 = .ok (.iconst 1, 1) := by decide +kernel
theorem dX3_checkFits_9 : decode cX3_checkFits 9 = .ok (.isub, 1) := by decide +kernel
theorem dX3_checkFits_10 : decode cX3_checkFits 10 = .ok (.if_icmp .ge 27, 3) := by decide +kernel
theorem dX3_checkFits_13 : decode cX3_checkFits 13 = .ok (.iload_n 3, 1) := by decide +kernel
theorem dX3_checkFits_14 : decode cX3_checkFits 14 = .ok (.aload_n 0, 1) := by decide +kernel
theorem dX3_checkFits_15 : decode cX3_checkFits 15 = .ok (.arraylength, 1) := by decide +kernel
theorem dX3_checkFits_16 : decode cX3_checkFits 16 = .ok (.if_icmp .ge 21, 3) := by decide +kernel
theorem dX3_checkFits_19 : decode cX3_checkFits 19 = .ok (.iload_n 2, 1) := by decide +kernel
theorem dX3_checkFits_20 : decode cX3_checkFits 20 = .ok (.aload_n 0, 1) := by decide +kernel
theorem dX3_checkFits_21 : decode cX3_checkFits 21 = .ok (.iload_n 3, 1) := by decide +kernel
theorem dX3_checkFits_22 : decode cX3_checkFits 22 = .ok (.baload, 1) := by decide +kernel
theorem dX3_checkFits_23 : decode cX3_checkFits 23 = .ok (.sipush 255, 3) := by decide +kernel
theorem dX3_checkFits_26 : decode cX3_checkFits 26 = .ok (.iand, 1) := by decide +kernel
theorem dX3_checkFits_27 : decode cX3_checkFits 27 = .ok (.invokestatic 45, 3) := by decide +kernel
theorem dX3_checkFits_30 : decode cX3_checkFits 30 = .ok (.istore_n 2, 1) := by decide +kernel
theorem dX3_checkFits_31 : decode cX3_checkFits 31 = .ok (.iinc 3 1, 3) := by decide +kernel
theorem dX3_checkFits_34 : decode cX3_checkFits 34 = .ok (.goto (-28), 3) := by decide +kernel
theorem dX3_checkFits_37 : decode cX3_checkFits 37 = .ok (.iload_n 1, 1) := by decide +kernel
theorem dX3_checkFits_38 : decode cX3_checkFits 38 = .ok (.ifCond .le 26, 3) := by decide +kernel
theorem dX3_checkFits_41 : decode cX3_checkFits 41 = .ok (.iload_n 1, 1) := by decide +kernel
theorem dX3_checkFits_42 : decode cX3_checkFits 42 = .ok (.aload_n 0, 1) := by decide +kernel
theorem dX3_checkFits_43 : decode cX3_checkFits 43 = .ok (.arraylength, 1) := by decide +kernel
theorem dX3_checkFits_44 : decode cX3_checkFits 44 = .ok (.if_icmp .gt 20, 3) := by decide +kernel
theorem dX3_checkFits_47 : decode cX3_checkFits 47 = .ok (.iload_n 2, 1) := by decide +kernel
theorem dX3_checkFits_48 : decode cX3_checkFits 48 = .ok (.aload_n 0, 1) := by decide +kernel
theorem dX3_checkFits_49 : decode cX3_checkFits 49 = .ok (.iload_n 1, 1) := by decide +kernel
theorem dX3_checkFits_50 : decode cX3_checkFits 50 = .ok (.iconst 1, 1) := by decide +kernel
theorem dX3_checkFits_51 : decode cX3_checkFits 51 = .ok (.isub, 1) := by decide +kernel
theorem dX3_checkFits_52 : decode cX3_checkFits 52 = .ok (.baload, 1) := by decide +kernel
theorem dX3_checkFits_53 : decode cX3_checkFits 53 = .ok (.sipush 255, 3) := by decide +kernel
theorem dX3_checkFits_56 : decode cX3_checkFits 56 = .ok (.iand, 1) := by decide +kernel
theorem dX3_checkFits_57 : decode cX3_checkFits 57 = .ok (.if_icmp .ne 7, 3) := by decide +kernel
theorem dX3_checkFits_60 : decode cX3_checkFits 60 = .ok (.iconst 1, 1) := by decide +kernel
theorem dX3_checkFits_61 : decode cX3_checkFits 61 = .ok (.goto 4, 3) := by decide +kernel
theorem dX3_checkFits_64 : decode cX3_checkFits 64 = .ok (.iconst 0, 1) := by decide +kernel
theorem dX3_checkFits_65 : decode cX3_checkFits 65 = .ok (.ireturn, 1) := by decide +kernel
theorem dX3_readCounts_0 : decode cX3_readCounts 0 = .ok (.iconst 2, 1) := by decide +kernel
theorem dX3_readCounts_1 : decode cX3_readCounts 1 = .ok (.istore_n 3, 1) := by decide +kernel
theorem dX3_readCounts_2 : decode cX3_readCounts 2 = .ok (.iconst 0, 1) := by decide +kernel
theorem dX3_readCounts_3 : decode cX3_readCounts 3 = .ok (.istore 4, 2) := by decide +kernel
theorem dX3_readCounts_5 : decode cX3_readCounts 5 = .ok (.iload 4, 2) := by decide +kernel
theorem dX3_readCounts_7 : decode cX3_readCounts 7 = .ok (.bipush 36, 2) := by decide +kernel
theorem dX3_readCounts_9 : decode cX3_readCounts 9 = .ok (.if_icmp .ge 121, 3) := by decide +kernel
theorem dX3_readCounts_12 : decode cX3_readCounts 12 = .ok (.aload_n 1, 1) := by decide +kernel
theorem dX3_readCounts_13 : decode cX3_readCounts 13 = .ok (.iload 4, 2) := by decide +kernel
theorem dX3_readCounts_15 : decode cX3_readCounts 15 = .ok (.bipush 6, 2) := by decide +kernel
theorem dX3_readCounts_17 : decode cX3_readCounts 17 = .ok (.idiv, 1) := by decide +kernel
theorem dX3_readCounts_18 : decode cX3_readCounts 18 = .ok (.iload 4, 2) := by decide +kernel
theorem dX3_readCounts_20 : decode cX3_readCounts 20 = .ok (.bipush 6, 2) := by decide +kernel
theorem dX3_readCounts_22 : decode cX3_readCounts 22 = .ok (.irem, 1) := by decide +kernel
theorem dX3_readCounts_23 : decode cX3_readCounts 23 = .ok (.invokevirtual 49, 3) := by decide +kernel
theorem dX3_readCounts_26 : decode cX3_readCounts 26 = .ok (.ifCond .eq 98, 3) := by decide +kernel
theorem dX3_readCounts_29 : decode cX3_readCounts 29 = .ok (.iload_n 3, 1) := by decide +kernel
theorem dX3_readCounts_30 : decode cX3_readCounts 30 = .ok (.iconst 2, 1) := by decide +kernel
theorem dX3_readCounts_31 : decode cX3_readCounts 31 = .ok (.iadd, 1) := by decide +kernel
theorem dX3_readCounts_32 : decode cX3_readCounts 32 = .ok (.aload_n 0, 1) := by decide +kernel
theorem dX3_readCounts_33 : decode cX3_readCounts 33 = .ok (.arraylength, 1) := by decide +kernel
theorem dX3_readCounts_34 : decode cX3_readCounts 34 = .ok (.if_icmp .ge 90, 3) := by decide +kernel
theorem dX3_readCounts_37 : decode cX3_readCounts 37 = .ok (.aload_n 2, 1) := by decide +kernel
theorem dX3_readCounts_38 : decode cX3_readCounts 38 = .ok (.getfield 53, 3) := by decide +kernel
theorem dX3_readCounts_41 : decode cX3_readCounts 41 = .ok (.iload 4, 2) := by decide +kernel
theorem dX3_readCounts_43 : decode cX3_readCounts 43 = .ok (.aload_n 0, 1) := by decide +kernel
theorem dX3_readCounts_44 : decode cX3_readCounts 44 = .ok (.iload_n 3, 1) := by decide +kernel
theorem dX3_readCounts_45 : decode cX3_readCounts 45 = .ok (.baload, 1) := by decide +kernel
theorem dX3_readCounts_46 : decode cX3_readCounts 46 = .ok (.sipush 255, 3) := by decide +kernel
theorem dX3_readCounts_49 : decode cX3_readCounts 49 = .ok (.iand, 1) := by decide +kernel
theorem dX3_readCounts_50 : decode cX3_readCounts 50 = .ok (.iastore, 1) := by decide +kernel
theorem dX3_readCounts_51 : decode cX3_readCounts 51 = .ok (.aload_n 2, 1) := by decide +kernel
theorem dX3_readCounts_52 : decode cX3_readCounts 52 = .ok (.getfield 56, 3) := by decide +kernel
theorem dX3_readCounts_55 : decode cX3_readCounts 55 = .ok (.iload 4, 2) := by decide +kernel
theorem dX3_readCounts_57 : decode cX3_readCounts 57 = .ok (.aload_n 0, 1) := by decide +kernel
theorem dX3_readCounts_58 : decode cX3_readCounts 58 = .ok (.iload_n 3, 1) := by decide +kernel
theorem dX3_readCounts_59 : decode cX3_readCounts 59 = .ok (.iconst 1, 1) := by decide +kernel
theorem dX3_readCounts_60 : decode cX3_readCounts 60 = .ok (.iadd, 1) := by decide +kernel
theorem dX3_readCounts_61 : decode cX3_readCounts 61 = .ok (.baload, 1) := by decide +kernel
theorem dX3_readCounts_62 : decode cX3_readCounts 62 = .ok (.sipush 255, 3) := by decide +kernel
theorem dX3_readCounts_65 : decode cX3_readCounts 65 = .ok (.iand, 1) := by decide +kernel
theorem dX3_readCounts_66 : decode cX3_readCounts 66 = .ok (.iastore, 1) := by decide +kernel
theorem dX3_readCounts_67 : decode cX3_readCounts 67 = .ok (.aload_n 2, 1) := by decide +kernel
theorem dX3_readCounts_68 : decode cX3_readCounts 68 = .ok (.getfield 59, 3) := by decide +kernel
theorem dX3_readCounts_71 : decode cX3_readCounts 71 = .ok (.iload 4, 2) := by decide +kernel
theorem dX3_readCounts_73 : decode cX3_readCounts 73 = .ok (.aload_n 0, 1) := by decide +kernel
theorem dX3_readCounts_74 : decode cX3_readCounts 74 = .ok (.iload_n 3, 1) := by decide +kernel
theorem dX3_readCounts_75 : decode cX3_readCounts 75 = .ok (.iconst 2, 1) := by decide +kernel
theorem dX3_readCounts_76 : decode cX3_readCounts 76 = .ok (.iadd, 1) := by decide +kernel
theorem dX3_readCounts_77 : decode cX3_readCounts 77 = .ok (.baload, 1) := by decide +kernel
theorem dX3_readCounts_78 : decode cX3_readCounts 78 = .ok (.sipush 255, 3) := by decide +kernel
theorem dX3_readCounts_81 : decode cX3_readCounts 81 = .ok (.iand, 1) := by decide +kernel
theorem dX3_readCounts_82 : decode cX3_readCounts 82 = .ok (.iastore, 1) := by decide +kernel
theorem dX3_readCounts_83 : decode cX3_readCounts 83 = .ok (.iinc 3 3, 3) := by decide +kernel
theorem dX3_readCounts_86 : decode cX3_readCounts 86 = .ok (.aload_n 2, 1) := by decide +kernel
theorem dX3_readCounts_87 : decode cX3_readCounts 87 = .ok (.getfield 53, 3) := by decide +kernel
theorem dX3_readCounts_90 : decode cX3_readCounts 90 = .ok (.iload 4, 2) := by decide +kernel
theorem dX3_readCounts_92 : decode cX3_readCounts 92 = .ok (.iaload, 1) := by decide +kernel
theorem dX3_readCounts_93 : decode cX3_readCounts 93 = .ok (.aload_n 2, 1) := by decide +kernel
theorem dX3_readCounts_94 : decode cX3_readCounts 94 = .ok (.getfield 56, 3) := by decide +kernel
theorem dX3_readCounts_97 : decode cX3_readCounts 97 = .ok (.iload 4, 2) := by decide +kernel
theorem dX3_readCounts_99 : decode cX3_readCounts 99 = .ok (.iaload, 1) := by decide +kernel
theorem dX3_readCounts_100 : decode cX3_readCounts 100 = .ok (.aload_n 2, 1) := by decide +kernel
theorem dX3_readCounts_101 : decode cX3_readCounts 101 = .ok (.getfield 59, 3) := by decide +kernel
theorem dX3_readCounts_104 : decode cX3_readCounts 104 = .ok (.iload 4, 2) := by decide +kernel
theorem dX3_readCounts_106 : decode cX3_readCounts 106 = .ok (.iaload, 1) := by decide +kernel
theorem dX3_readCounts_107 : decode cX3_readCounts 107 = .ok (.invokestatic 62, 3) := by decide +kernel
theorem dX3_readCounts_110 : decode cX3_readCounts 110 = .ok (.invokestatic 62, 3) := by decide +kernel
theorem dX3_readCounts_113 : decode cX3_readCounts 113 = .ok (.istore 5, 2) := by decide +kernel
theorem dX3_readCounts_115 : decode cX3_readCounts 115 = .ok (.iload 5, 2) := by decide +kernel
theorem dX3_readCounts_117 : decode cX3_readCounts 117 = .ok (.bipush 99, 2) := by decide +kernel
theorem dX3_readCounts_119 : decode cX3_readCounts 119 = .ok (.if_icmp .le 5, 3) := by decide +kernel
theorem dX3_readCounts_122 : decode cX3_readCounts 122 = .ok (.iconst 0, 1) := by decide +kernel
theorem dX3_readCounts_123 : decode cX3_readCounts 123 = .ok (.ireturn, 1) := by decide +kernel
theorem dX3_readCounts_124 : decode cX3_readCounts 124 = .ok (.iinc 4 1, 3) := by decide +kernel
theorem dX3_readCounts_127 : decode cX3_readCounts 127 = .ok (.goto (-122), 3) := by decide +kernel
theorem dX3_readCounts_130 : decode cX3_readCounts 130 = .ok (.iconst 1, 1) := by decide +kernel
theorem dX3_readCounts_131 : decode cX3_readCounts 131 = .ok (.ireturn, 1) := by decide +kernel
theorem dX3_readLetters_0 : decode cX3_readLetters 0 = .ok (.iload_n 1, 1) := by decide +kernel
theorem dX3_readLetters_1 : decode cX3_readLetters 1 = .ok (.istore 4, 2) := by decide +kernel
theorem dX3_readLetters_3 : decode cX3_readLetters 3 = .ok (.iconst 0, 1) := by decide +kernel
theorem dX3_readLetters_4 : decode cX3_readLetters 4 = .ok (.istore 5, 2) := by decide +kernel
theorem dX3_readLetters_6 : decode cX3_readLetters 6 = .ok (.iload 5, 2) := by decide +kernel
theorem dX3_readLetters_8 : decode cX3_readLetters 8 = .ok (.aload_n 3, 1) := by decide +kernel
theorem dX3_readLetters_9 : decode cX3_readLetters 9 = .ok (.getfield 30, 3) := by decide +kernel
theorem dX3_readLetters_12 : decode cX3_readLetters 12 = .ok (.if_icmp .ge 123, 3) := by decide +kernel
theorem dX3_readLetters_15 : decode cX3_readLetters 15 = .ok (.iload 5, 2) := by decide +kernel
theorem dX3_readLetters_17 : decode cX3_readLetters 17 = .ok (.bipush 60, 2) := by decide +kernel
theorem dX3_readLetters_19 : decode cX3_readLetters 19 = .ok (.if_icmp .ge 116, 3) := by decide +kernel
theorem dX3_readLetters_22 : decode cX3_readLetters 22 = .ok (.iload 4, 2) := by decide +kernel
theorem dX3_readLetters_24 : decode cX3_readLetters 24 = .ok (.iconst 2, 1) := by decide +kernel
theorem dX3_readLetters_25 : decode cX3_readLetters 25 = .ok (.iadd, 1) := by decide +kernel
theorem dX3_readLetters_26 : decode cX3_readLetters 26 = .ok (.aload_n 0, 1) := by decide +kernel
theorem dX3_readLetters_27 : decode cX3_readLetters 27 = .ok (.arraylength, 1) := by decide +kernel
theorem dX3_readLetters_28 : decode cX3_readLetters 28 = .ok (.if_icmp .ge 107, 3) := by decide +kernel
theorem dX3_readLetters_31 : decode cX3_readLetters 31 = .ok (.aload_n 0, 1) := by decide +kernel
theorem dX3_readLetters_32 : decode cX3_readLetters 32 = .ok (.iload 4, 2) := by decide +kernel
theorem dX3_readLetters_34 : decode cX3_readLetters 34 = .ok (.baload, 1) := by decide +kernel
theorem dX3_readLetters_35 : decode cX3_readLetters 35 = .ok (.sipush 255, 3) := by decide +kernel
theorem dX3_readLetters_38 : decode cX3_readLetters 38 = .ok (.iand, 1) := by decide +kernel
theorem dX3_readLetters_39 : decode cX3_readLetters 39 = .ok (.istore 6, 2) := by decide +kernel
theorem dX3_readLetters_41 : decode cX3_readLetters 41 = .ok (.aload_n 0, 1) := by decide +kernel
theorem dX3_readLetters_42 : decode cX3_readLetters 42 = .ok (.iload 4, 2) := by decide +kernel
theorem dX3_readLetters_44 : decode cX3_readLetters 44 = .ok (.iconst 1, 1) := by decide +kernel
theorem dX3_readLetters_45 : decode cX3_readLetters 45 = .ok (.iadd, 1) := by decide +kernel
theorem dX3_readLetters_46 : decode cX3_readLetters 46 = .ok (.baload, 1) := by decide +kernel
theorem dX3_readLetters_47 : decode cX3_readLetters 47 = .ok (.sipush 255, 3) := by decide +kernel
theorem dX3_readLetters_50 : decode cX3_readLetters 50 = .ok (.iand, 1) := by decide +kernel
theorem dX3_readLetters_51 : decode cX3_readLetters 51 = .ok (.istore 7, 2) := by decide +kernel
theorem dX3_readLetters_53 : decode cX3_readLetters 53 = .ok (.aload_n 0, 1) := by decide +kernel
theorem dX3_readLetters_54 : decode cX3_readLetters 54 = .ok (.iload 4, 2) := by decide +kernel
theorem dX3_readLetters_56 : decode cX3_readLetters 56 = .ok (.iconst 2, 1) := by decide +kernel
theorem dX3_readLetters_57 : decode cX3_readLetters 57 = .ok (.iadd, 1) := by decide +kernel
theorem dX3_readLetters_58 : decode cX3_readLetters 58 = .ok (.baload, 1) := by decide +kernel
theorem dX3_readLetters_59 : decode cX3_readLetters 59 = .ok (.sipush 255, 3) := by decide +kernel
theorem dX3_readLetters_62 : decode cX3_readLetters 62 = .ok (.iand, 1) := by decide +kernel
theorem dX3_readLetters_63 : decode cX3_readLetters 63 = .ok (.istore 8, 2) := by decide +kernel
theorem dX3_readLetters_65 : decode cX3_readLetters 65 = .ok (.aload_n 2, 1) := by decide +kernel
theorem dX3_readLetters_66 : decode cX3_readLetters 66 = .ok (.iload 6, 2) := by decide +kernel
theorem dX3_readLetters_68 : decode cX3_readLetters 68 = .ok (.iload 7, 2) := by decide +kernel
theorem dX3_readLetters_70 : decode cX3_readLetters 70 = .ok (.invokevirtual 49, 3) := by decide +kernel
theorem dX3_readLetters_73 : decode cX3_readLetters 73 = .ok (.ifCond .ne 5, 3) := by decide +kernel
theorem dX3_readLetters_76 : decode cX3_readLetters 76 = .ok (.iconst 0, 1) := by decide +kernel
theorem dX3_readLetters_77 : decode cX3_readLetters 77 = .ok (.ireturn, 1) := by decide +kernel
theorem dX3_readLetters_78 : decode cX3_readLetters 78 = .ok (.iload 6, 2) := by decide +kernel
theorem dX3_readLetters_80 : decode cX3_readLetters 80 = .ok (.bipush 6, 2) := by decide +kernel
theorem dX3_readLetters_82 : decode cX3_readLetters 82 = .ok (.imul, 1) := by decide +kernel
theorem dX3_readLetters_83 : decode cX3_readLetters 83 = .ok (.iload 7, 2) := by decide +kernel
theorem dX3_readLetters_85 : decode cX3_readLetters 85 = .ok (.iadd, 1) := by decide +kernel
theorem dX3_readLetters_86 : decode cX3_readLetters 86 = .ok (.istore 9, 2) := by decide +kernel
theorem dX3_readLetters_88 : decode cX3_readLetters 88 = .ok (.iload 8, 2) := by decide +kernel
theorem dX3_readLetters_90 : decode cX3_readLetters 90 = .ok (.iconst 1, 1) := by decide +kernel
theorem dX3_readLetters_91 : decode cX3_readLetters 91 = .ok (.if_icmp .lt 15, 3) := by decide +kernel
theorem dX3_readLetters_94 : decode cX3_readLetters 94 = .ok (.iload 8, 2) := by decide +kernel
theorem dX3_readLetters_96 : decode cX3_readLetters 96 = .ok (.aload_n 2, 1) := by decide +kernel
theorem dX3_readLetters_97 : decode cX3_readLetters 97 = .ok (.getfield 67, 3) := by decide +kernel
theorem dX3_readLetters_100 : decode cX3_readLetters 100 = .ok (.iload 9, 2) := by decide +kernel
theorem dX3_readLetters_102 : decode cX3_readLetters 102 = .ok (.iaload, 1) := by decide +kernel
theorem dX3_readLetters_103 : decode cX3_readLetters 103 = .ok (.if_icmp .le 5, 3) := by decide +kernel
theorem dX3_readLetters_106 : decode cX3_readLetters 106 = .ok (.iconst 0, 1) := by decide +kernel
theorem dX3_readLetters_107 : decode cX3_readLetters 107 = .ok (.ireturn, 1) := by decide +kernel
theorem dX3_readLetters_108 : decode cX3_readLetters 108 = .ok (.aload_n 3, 1) := by decide +kernel
theorem dX3_readLetters_109 : decode cX3_readLetters 109 = .ok (.getfield 70, 3) := by decide +kernel
theorem dX3_readLetters_112 : decode cX3_readLetters 112 = .ok (.iload 5, 2) := by decide +kernel
theorem dX3_readLetters_114 : decode cX3_readLetters 114 = .ok (.iload 9, 2) := by decide +kernel
theorem dX3_readLetters_116 : decode cX3_readLetters 116 = .ok (.iastore, 1) := by decide +kernel
theorem dX3_readLetters_117 : decode cX3_readLetters 117 = .ok (.aload_n 3, 1) := by decide +kernel
theorem dX3_readLetters_118 : decode cX3_readLetters 118 = .ok (.getfield 73, 3) := by decide +kernel
theorem dX3_readLetters_121 : decode cX3_readLetters 121 = .ok (.iload 5, 2) := by decide +kernel
theorem dX3_readLetters_123 : decode cX3_readLetters 123 = .ok (.iload 8, 2) := by decide +kernel
theorem dX3_readLetters_125 : decode cX3_readLetters 125 = .ok (.iastore, 1) := by decide +kernel
theorem dX3_readLetters_126 : decode cX3_readLetters 126 = .ok (.iinc 4 3, 3) := by decide +kernel
theorem dX3_readLetters_129 : decode cX3_readLetters 129 = .ok (.iinc 5 1, 3) := by decide +kernel
theorem dX3_readLetters_132 : decode cX3_readLetters 132 = .ok (.goto (-126), 3) := by decide +kernel
theorem dX3_readLetters_135 : decode cX3_readLetters 135 = .ok (.iconst 1, 1) := by decide +kernel
theorem dX3_readLetters_136 : decode cX3_readLetters 136 = .ok (.ireturn, 1) := by decide +kernel
theorem dX4_passDay_0 : decode cX4_passDay 0 = .ok (.aload_n 0, 1) := by decide +kernel
theorem dX4_passDay_1 : decode cX4_passDay 1 = .ok (.aload_n 1, 1) := by decide +kernel
theorem dX4_passDay_2 : decode cX4_passDay 2 = .ok (.aload_n 2, 1) := by decide +kernel
theorem dX4_passDay_3 : decode cX4_passDay 3 = .ok (.aload_n 3, 1) := by decide +kernel
theorem dX4_passDay_4 : decode cX4_passDay 4 = .ok (.invokevirtual 15, 3) := by decide +kernel
theorem dX4_passDay_7 : decode cX4_passDay 7 = .ok (.iconst 0, 1) := by decide +kernel
theorem dX4_passDay_8 : decode cX4_passDay 8 = .ok (.istore 4, 2) := by decide +kernel
theorem dX4_passDay_10 : decode cX4_passDay 10 = .ok (.iload 4, 2) := by decide +kernel
theorem dX4_passDay_12 : decode cX4_passDay 12 = .ok (.aload_n 1, 1) := by decide +kernel
theorem dX4_passDay_13 : decode cX4_passDay 13 = .ok (.getfield 19, 3) := by decide +kernel
theorem dX4_passDay_16 : decode cX4_passDay 16 = .ok (.if_icmp .ge 48, 3) := by decide +kernel
theorem dX4_passDay_19 : decode cX4_passDay 19 = .ok (.aload_n 0, 1) := by decide +kernel
theorem dX4_passDay_20 : decode cX4_passDay 20 = .ok (.aload_n 1, 1) := by decide +kernel
theorem dX4_passDay_21 : decode cX4_passDay 21 = .ok (.aload_n 2, 1) := by decide +kernel
theorem dX4_passDay_22 : decode cX4_passDay 22 = .ok (.iload 4, 2) := by decide +kernel
theorem dX4_passDay_24 : decode cX4_passDay 24 = .ok (.invokevirtual 25, 3) := by decide +kernel
theorem dX4_passDay_27 : decode cX4_passDay 27 = .ok (.istore 5, 2) := by decide +kernel
theorem dX4_passDay_29 : decode cX4_passDay 29 = .ok (.iload 5, 2) := by decide +kernel
theorem dX4_passDay_31 : decode cX4_passDay 31 = .ok (.iconst (-1), 1) := by decide +kernel
theorem dX4_passDay_32 : decode cX4_passDay 32 = .ok (.if_icmp .eq 26, 3) := by decide +kernel
theorem dX4_passDay_35 : decode cX4_passDay 35 = .ok (.iload 4, 2) := by decide +kernel
theorem dX4_passDay_37 : decode cX4_passDay 37 = .ok (.bipush 6, 2) := by decide +kernel
theorem dX4_passDay_39 : decode cX4_passDay 39 = .ok (.imul, 1) := by decide +kernel
theorem dX4_passDay_40 : decode cX4_passDay 40 = .ok (.iload 5, 2) := by decide +kernel
theorem dX4_passDay_42 : decode cX4_passDay 42 = .ok (.iadd, 1) := by decide +kernel
theorem dX4_passDay_43 : decode cX4_passDay 43 = .ok (.istore 6, 2) := by decide +kernel
theorem dX4_passDay_45 : decode cX4_passDay 45 = .ok (.aload_n 2, 1) := by decide +kernel
theorem dX4_passDay_46 : decode cX4_passDay 46 = .ok (.iload 6, 2) := by decide +kernel
theorem dX4_passDay_48 : decode cX4_passDay 48 = .ok (.aload_n 1, 1) := by decide +kernel
theorem dX4_passDay_49 : decode cX4_passDay 49 = .ok (.getfield 29, 3) := by decide +kernel
theorem dX4_passDay_52 : decode cX4_passDay 52 = .ok (.iload 6, 2) := by decide +kernel
theorem dX4_passDay_54 : decode cX4_passDay 54 = .ok (.iaload, 1) := by decide +kernel
theorem dX4_passDay_55 : decode cX4_passDay 55 = .ok (.invokevirtual 32, 3) := by decide +kernel
theorem dX4_passDay_58 : decode cX4_passDay 58 = .ok (.iinc 4 1, 3) := by decide +kernel
theorem dX4_passDay_61 : decode cX4_passDay 61 = .ok (.goto (-51), 3) := by decide +kernel
theorem dX4_passDay_64 : decode cX4_passDay 64 = .ok (.aload_n 2, 1) := by decide +kernel
theorem dX4_passDay_65 : decode cX4_passDay 65 = .ok (.sipush 999, 3) := by decide +kernel
theorem dX4_passDay_68 : decode cX4_passDay 68 = .ok (.aload_n 2, 1) := by decide +kernel
theorem dX4_passDay_69 : decode cX4_passDay 69 = .ok (.getfield 38, 3) := by decide +kernel
theorem dX4_passDay_72 : decode cX4_passDay 72 = .ok (.iconst 1, 1) := by decide +kernel
theorem dX4_passDay_73 : decode cX4_passDay 73 = .ok (.iadd, 1) := by decide +kernel
theorem dX4_passDay_74 : decode cX4_passDay 74 = .ok (.invokestatic 41, 3) := by decide +kernel
theorem dX4_passDay_77 : decode cX4_passDay 77 = .ok (.putfield 38, 3) := by decide +kernel
theorem dX4_passDay_80 : decode cX4_passDay 80 = .ok (.return_, 1) := by decide +kernel
theorem dX4_bring_0 : decode cX4_bring 0 = .ok (.aload_n 2, 1) := by decide +kernel
theorem dX4_bring_1 : decode cX4_bring 1 = .ok (.lconst 0, 1) := by decide +kernel
theorem dX4_bring_2 : decode cX4_bring 2 = .ok (.putfield 47, 3) := by decide +kernel
theorem dX4_bring_5 : decode cX4_bring 5 = .ok (.aload_n 2, 1) := by decide +kernel
theorem dX4_bring_6 : decode cX4_bring 6 = .ok (.iconst 0, 1) := by decide +kernel
theorem dX4_bring_7 : decode cX4_bring 7 = .ok (.putfield 51, 3) := by decide +kernel
theorem dX4_bring_10 : decode cX4_bring 10 = .ok (.aload_n 2, 1) := by decide +kernel
theorem dX4_bring_11 : decode cX4_bring 11 = .ok (.iconst 0, 1) := by decide +kernel
theorem dX4_bring_12 : decode cX4_bring 12 = .ok (.putfield 54, 3) := by decide +kernel
theorem dX4_bring_15 : decode cX4_bring 15 = .ok (.iconst 0, 1) := by decide +kernel
theorem dX4_bring_16 : decode cX4_bring 16 = .ok (.istore 4, 2) := by decide +kernel
theorem dX4_bring_18 : decode cX4_bring 18 = .ok (.iconst 0, 1) := by decide +kernel
theorem dX4_bring_19 : decode cX4_bring 19 = .ok (.istore 5, 2) := by decide +kernel
theorem dX4_bring_21 : decode cX4_bring 21 = .ok (.iload 5, 2) := by decide +kernel
theorem dX4_bring_23 : decode cX4_bring 23 = .ok (.aload_n 2, 1) := by decide +kernel
theorem dX4_bring_24 : decode cX4_bring 24 = .ok (.getfield 57, 3) := by decide +kernel
theorem dX4_bring_27 : decode cX4_bring 27 = .ok (.if_icmp .ge 101, 3) := by decide +kernel
theorem dX4_bring_30 : decode cX4_bring 30 = .ok (.iload 5, 2) := by decide +kernel
theorem dX4_bring_32 : decode cX4_bring 32 = .ok (.bipush 60, 2) := by decide +kernel
theorem dX4_bring_34 : decode cX4_bring 34 = .ok (.if_icmp .ge 94, 3) := by decide +kernel
theorem dX4_bring_37 : decode cX4_bring 37 = .ok (.aload_n 2, 1) := by decide +kernel
theorem dX4_bring_38 : decode cX4_bring 38 = .ok (.getfield 60, 3) := by decide +kernel
theorem dX4_bring_41 : decode cX4_bring 41 = .ok (.iload 5, 2) := by decide +kernel
theorem dX4_bring_43 : decode cX4_bring 43 = .ok (.iaload, 1) := by decide +kernel
theorem dX4_bring_44 : decode cX4_bring 44 = .ok (.istore 6, 2) := by decide +kernel
theorem dX4_bring_46 : decode cX4_bring 46 = .ok (.aload_n 2, 1) := by decide +kernel
theorem dX4_bring_47 : decode cX4_bring 47 = .ok (.getfield 63, 3) := by decide +kernel
theorem dX4_bring_50 : decode cX4_bring 50 = .ok (.iload 5, 2) := by decide +kernel
theorem dX4_bring_52 : decode cX4_bring 52 = .ok (.iaload, 1) := by decide +kernel
theorem dX4_bring_53 : decode cX4_bring 53 = .ok (.iconst 1, 1) := by decide +kernel
theorem dX4_bring_54 : decode cX4_bring 54 = .ok (.isub, 1) := by decide +kernel
theorem dX4_bring_55 : decode cX4_bring 55 = .ok (.istore 7, 2) := by decide +kernel
theorem dX4_bring_57 : decode cX4_bring 57 = .ok (.iload 7, 2) := by decide +kernel
theorem dX4_bring_59 : decode cX4_bring 59 = .ok (.ifCond .le 27, 3) := by decide +kernel
theorem dX4_bring_62 : decode cX4_bring 62 = .ok (.aload_n 2, 1) := by decide +kernel
theorem dX4_bring_63 : decode cX4_bring 63 = .ok (.getfield 60, 3) := by decide +kernel
theorem dX4_bring_66 : decode cX4_bring 66 = .ok (.iload 4, 2) := by decide +kernel
theorem dX4_bring_68 : decode cX4_bring 68 = .ok (.iload 6, 2) := by decide +kernel
theorem dX4_bring_70 : decode cX4_bring 70 = .ok (.iastore, 1) := by decide +kernel
theorem dX4_bring_71 : decode cX4_bring 71 = .ok (.aload_n 2, 1) := by decide +kernel
theorem dX4_bring_72 : decode cX4_bring 72 = .ok (.getfield 63, 3) := by decide +kernel
theorem dX4_bring_75 : decode cX4_bring 75 = .ok (.iload 4, 2) := by decide +kernel
theorem dX4_bring_77 : decode cX4_bring 77 = .ok (.iload 7, 2) := by decide +kernel
theorem dX4_bring_79 : decode cX4_bring 79 = .ok (.iastore, 1) := by decide +kernel
theorem dX4_bring_80 : decode cX4_bring 80 = .ok (.iinc 4 1, 3) := by decide +kernel
theorem dX4_bring_83 : decode cX4_bring 83 = .ok (.goto 39, 3) := by decide +kernel
theorem dX4_bring_86 : decode cX4_bring 86 = .ok (.aload_n 3, 1) := by decide +kernel
theorem dX4_bring_87 : decode cX4_bring 87 = .ok (.ifnull 20, 3) := by decide +kernel
theorem dX4_bring_90 : decode cX4_bring 90 = .ok (.aload_n 3, 1) := by decide +kernel
theorem dX4_bring_91 : decode cX4_bring 91 = .ok (.bipush 100, 2) := by decide +kernel
theorem dX4_bring_93 : decode cX4_bring 93 = .ok (.invokevirtual 66, 3) := by decide +kernel
theorem dX4_bring_96 : decode cX4_bring 96 = .ok (.aload_n 1, 1) := by decide +kernel
theorem dX4_bring_97 : decode cX4_bring 97 = .ok (.getfield 72, 3) := by decide +kernel
theorem dX4_bring_100 : decode cX4_bring 100 = .ok (.if_icmp .ge 7, 3) := by decide +kernel
theorem dX4_bring_103 : decode cX4_bring 103 = .ok (.iconst 1, 1) := by decide +kernel
theorem dX4_bring_104 : decode cX4_bring 104 = .ok (.goto 4, 3) := by decide +kernel
theorem dX4_bring_107 : decode cX4_bring 107 = .ok (.iconst 0, 1) := by decide +kernel
theorem dX4_bring_108 : decode cX4_bring 108 = .ok (.istore 8, 2) := by decide +kernel
theorem dX4_bring_110 : decode cX4_bring 110 = .ok (.aload_n 2, 1) := by decide +kernel
theorem dX4_bring_111 : decode cX4_bring 111 = .ok (.iload 6, 2) := by decide +kernel
theorem dX4_bring_113 : decode cX4_bring 113 = .ok (.aload_n 1, 1) := by decide +kernel
theorem dX4_bring_114 : decode cX4_bring 114 = .ok (.getfield 75, 3) := by decide +kernel
theorem dX4_bring_117 : decode cX4_bring 117 = .ok (.iload 8, 2) := by decide +kernel
theorem dX4_bring_119 : decode cX4_bring 119 = .ok (.invokevirtual 78, 3) := by decide +kernel
theorem dX4_bring_122 : decode cX4_bring 122 = .ok (.iinc 5 1, 3) := by decide +kernel
theorem dX4_bring_125 : decode cX4_bring 125 = .ok (.goto (-104), 3) := by decide +kernel
theorem dX4_bring_128 : decode cX4_bring 128 = .ok (.aload_n 2, 1) := by decide +kernel
theorem dX4_bring_129 : decode cX4_bring 129 = .ok (.iload 4, 2) := by decide +kernel
theorem dX4_bring_131 : decode cX4_bring 131 = .ok (.putfield 57, 3) := by decide +kernel
theorem dX4_bring_134 : decode cX4_bring 134 = .ok (.return_, 1) := by decide +kernel
theorem dX4_isSilent_0 : decode cX4_isSilent 0 = .ok (.aload_n 2, 1) := by decide +kernel
theorem dX4_isSilent_1 : decode cX4_isSilent 1 = .ok (.getfield 57, 3) := by decide +kernel
theorem dX4_isSilent_4 : decode cX4_isSilent 4 = .ok (.ifCond .le 5, 3) := by decide +kernel
theorem dX4_isSilent_7 : decode cX4_isSilent 7 = .ok (.iconst 0, 1) := by decide +kernel
theorem dX4_isSilent_8 : decode cX4_isSilent 8 = .ok (.ireturn, 1) := by decide +kernel
theorem dX4_isSilent_9 : decode cX4_isSilent 9 = .ok (.iconst 0, 1) := by decide +kernel
theorem dX4_isSilent_10 : decode cX4_isSilent 10 = .ok (.istore_n 3, 1) := by decide +kernel
theorem dX4_isSilent_11 : decode cX4_isSilent 11 = .ok (.iload_n 3, 1) := by decide +kernel
theorem dX4_isSilent_12 : decode cX4_isSilent 12 = .ok (.aload_n 1, 1) := by decide +kernel
theorem dX4_isSilent_13 : decode cX4_isSilent 13 = .ok (.getfield 19, 3) := by decide +kernel
theorem dX4_isSilent_16 : decode cX4_isSilent 16 = .ok (.if_icmp .ge 22, 3) := by decide +kernel
theorem dX4_isSilent_19 : decode cX4_isSilent 19 = .ok (.aload_n 0, 1) := by decide +kernel
theorem dX4_isSilent_20 : decode cX4_isSilent 20 = .ok (.aload_n 1, 1) := by decide +kernel
theorem dX4_isSilent_21 : decode cX4_isSilent 21 = .ok (.aload_n 2, 1) := by decide +kernel
theorem dX4_isSilent_22 : decode cX4_isSilent 22 = .ok (.iload_n 3, 1) := by decide +kernel
theorem dX4_isSilent_23 : decode cX4_isSilent 23 = .ok (.invokevirtual 25, 3) := by decide +kernel
theorem dX4_isSilent_26 : decode cX4_isSilent 26 = .ok (.iconst (-1), 1) := by decide +kernel
theorem dX4_isSilent_27 : decode cX4_isSilent 27 = .ok (.if_icmp .eq 5, 3) := by decide +kernel
theorem dX4_isSilent_30 : decode cX4_isSilent 30 = .ok (.iconst 0, 1) := by decide +kernel
