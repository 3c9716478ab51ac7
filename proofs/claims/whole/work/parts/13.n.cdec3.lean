theorem dX10_comes_19 : decode cX10_comes 19 = .ok (.lconst 1, 1) := by decide +kernel
theorem dX10_comes_20 : decode cX10_comes 20 = .ok (.iload_n 1, 1) := by decide +kernel
theorem dX10_comes_21 : decode cX10_comes 21 = .ok (.bipush 6, 2) := by decide +kernel
theorem dX10_comes_23 : decode cX10_comes 23 = .ok (.imul, 1) := by decide +kernel
theorem dX10_comes_24 : decode cX10_comes 24 = .ok (.iload_n 2, 1) := by decide +kernel
theorem dX10_comes_25 : decode cX10_comes 25 = .ok (.iadd, 1) := by decide +kernel
theorem dX10_comes_26 : decode cX10_comes 26 = .ok (.lshl, 1) := by decide +kernel
theorem dX10_comes_27 : decode cX10_comes 27 = .ok (.lstore 4, 2) := by decide +kernel
theorem dX10_comes_29 : decode cX10_comes 29 = .ok (.aload_n 0, 1) := by decide +kernel
theorem dX10_comes_30 : decode cX10_comes 30 = .ok (.getfield 37, 3) := by decide +kernel
theorem dX10_comes_33 : decode cX10_comes 33 = .ok (.aload_n 0, 1) := by decide +kernel
theorem dX10_comes_34 : decode cX10_comes 34 = .ok (.getfield 33, 3) := by decide +kernel
theorem dX10_comes_37 : decode cX10_comes 37 = .ok (.invokevirtual 186, 3) := by decide +kernel
theorem dX10_comes_40 : decode cX10_comes 40 = .ok (.iconst 1, 1) := by decide +kernel
theorem dX10_comes_41 : decode cX10_comes 41 = .ok (.istore 6, 2) := by decide +kernel
theorem dX10_comes_43 : decode cX10_comes 43 = .ok (.iload 6, 2) := by decide +kernel
theorem dX10_comes_45 : decode cX10_comes 45 = .ok (.iload_n 3, 1) := by decide +kernel
theorem dX10_comes_46 : decode cX10_comes 46 = .ok (.if_icmp .gt 43, 3) := by decide +kernel
theorem dX10_comes_49 : decode cX10_comes 49 = .ok (.aload_n 0, 1) := by decide +kernel
theorem dX10_comes_50 : decode cX10_comes 50 = .ok (.getfield 43, 3) := by decide +kernel
theorem dX10_comes_53 : decode cX10_comes 53 = .ok (.aload_n 0, 1) := by decide +kernel
theorem dX10_comes_54 : decode cX10_comes 54 = .ok (.getfield 20, 3) := by decide +kernel
theorem dX10_comes_57 : decode cX10_comes 57 = .ok (.aload_n 0, 1) := by decide +kernel
theorem dX10_comes_58 : decode cX10_comes 58 = .ok (.getfield 37, 3) := by decide +kernel
theorem dX10_comes_61 : decode cX10_comes 61 = .ok (.aconst_null, 1) := by decide +kernel
theorem dX10_comes_62 : decode cX10_comes 62 = .ok (.invokevirtual 190, 3) := by decide +kernel
theorem dX10_comes_65 : decode cX10_comes 65 = .ok (.aload_n 0, 1) := by decide +kernel
theorem dX10_comes_66 : decode cX10_comes 66 = .ok (.getfield 37, 3) := by decide +kernel
theorem dX10_comes_69 : decode cX10_comes 69 = .ok (.getfield 194, 3) := by decide +kernel
theorem dX10_comes_72 : decode cX10_comes 72 = .ok (.lload 4, 2) := by decide +kernel
theorem dX10_comes_74 : decode cX10_comes 74 = .ok (.land, 1) := by decide +kernel
theorem dX10_comes_75 : decode cX10_comes 75 = .ok (.lconst 0, 1) := by decide +kernel
theorem dX10_comes_76 : decode cX10_comes 76 = .ok (.lcmp, 1) := by decide +kernel
theorem dX10_comes_77 : decode cX10_comes 77 = .ok (.ifCond .eq 6, 3) := by decide +kernel
theorem dX10_comes_80 : decode cX10_comes 80 = .ok (.iload 6, 2) := by decide +kernel
theorem dX10_comes_82 : decode cX10_comes 82 = .ok (.ireturn, 1) := by decide +kernel
theorem dX10_comes_83 : decode cX10_comes 83 = .ok (.iinc 6 1, 3) := by decide +kernel
theorem dX10_comes_86 : decode cX10_comes 86 = .ok (.goto (-43), 3) := by decide +kernel
theorem dX10_comes_89 : decode cX10_comes 89 = .ok (.iconst (-1), 1) := by decide +kernel
theorem dX10_comes_90 : decode cX10_comes 90 = .ok (.ireturn, 1) := by decide +kernel
theorem dX10_silent_0 : decode cX10_silent 0 = .ok (.aload_n 0, 1) := by decide +kernel
theorem dX10_silent_1 : decode cX10_silent 1 = .ok (.invokevirtual 182, 3) := by decide +kernel
theorem dX10_silent_4 : decode cX10_silent 4 = .ok (.istore_n 1, 1) := by decide +kernel
theorem dX10_silent_5 : decode cX10_silent 5 = .ok (.aload_n 0, 1) := by decide +kernel
theorem dX10_silent_6 : decode cX10_silent 6 = .ok (.getfield 37, 3) := by decide +kernel
theorem dX10_silent_9 : decode cX10_silent 9 = .ok (.aload_n 0, 1) := by decide +kernel
theorem dX10_silent_10 : decode cX10_silent 10 = .ok (.getfield 33, 3) := by decide +kernel
theorem dX10_silent_13 : decode cX10_silent 13 = .ok (.invokevirtual 186, 3) := by decide +kernel
theorem dX10_silent_16 : decode cX10_silent 16 = .ok (.iconst 0, 1) := by decide +kernel
theorem dX10_silent_17 : decode cX10_silent 17 = .ok (.istore_n 2, 1) := by decide +kernel
theorem dX10_silent_18 : decode cX10_silent 18 = .ok (.iload_n 2, 1) := by decide +kernel
theorem dX10_silent_19 : decode cX10_silent 19 = .ok (.iload_n 1, 1) := by decide +kernel
theorem dX10_silent_20 : decode cX10_silent 20 = .ok (.if_icmp .gt 45, 3) := by decide +kernel
theorem dX10_silent_23 : decode cX10_silent 23 = .ok (.aload_n 0, 1) := by decide +kernel
theorem dX10_silent_24 : decode cX10_silent 24 = .ok (.getfield 43, 3) := by decide +kernel
theorem dX10_silent_27 : decode cX10_silent 27 = .ok (.aload_n 0, 1) := by decide +kernel
theorem dX10_silent_28 : decode cX10_silent 28 = .ok (.getfield 20, 3) := by decide +kernel
theorem dX10_silent_31 : decode cX10_silent 31 = .ok (.aload_n 0, 1) := by decide +kernel
theorem dX10_silent_32 : decode cX10_silent 32 = .ok (.getfield 37, 3) := by decide +kernel
theorem dX10_silent_35 : decode cX10_silent 35 = .ok (.invokevirtual 198, 3) := by decide +kernel
theorem dX10_silent_38 : decode cX10_silent 38 = .ok (.ifCond .eq 5, 3) := by decide +kernel
theorem dX10_silent_41 : decode cX10_silent 41 = .ok (.iload_n 2, 1) := by decide +kernel
theorem dX10_silent_42 : decode cX10_silent 42 = .ok (.ireturn, 1) := by decide +kernel
theorem dX10_silent_43 : decode cX10_silent 43 = .ok (.aload_n 0, 1) := by decide +kernel
theorem dX10_silent_44 : decode cX10_silent 44 = .ok (.getfield 43, 3) := by decide +kernel
theorem dX10_silent_47 : decode cX10_silent 47 = .ok (.aload_n 0, 1) := by decide +kernel
theorem dX10_silent_48 : decode cX10_silent 48 = .ok (.getfield 20, 3) := by decide +kernel
theorem dX10_silent_51 : decode cX10_silent 51 = .ok (.aload_n 0, 1) := by decide +kernel
theorem dX10_silent_52 : decode cX10_silent 52 = .ok (.getfield 37, 3) := by decide +kernel
theorem dX10_silent_55 : decode cX10_silent 55 = .ok (.aconst_null, 1) := by decide +kernel
theorem dX10_silent_56 : decode cX10_silent 56 = .ok (.invokevirtual 190, 3) := by decide +kernel
theorem dX10_silent_59 : decode cX10_silent 59 = .ok (.iinc 2 1, 3) := by decide +kernel
theorem dX10_silent_62 : decode cX10_silent 62 = .ok (.goto (-44), 3) := by decide +kernel
theorem dX10_silent_65 : decode cX10_silent 65 = .ok (.iconst (-1), 1) := by decide +kernel
theorem dX10_silent_66 : decode cX10_silent 66 = .ok (.ireturn, 1) := by decide +kernel
theorem dX10_daysAhead_0 : decode cX10_daysAhead 0 = .ok (.bipush 60, 2) := by decide +kernel
theorem dX10_daysAhead_2 : decode cX10_daysAhead 2 = .ok (.sipush 999, 3) := by decide +kernel
theorem dX10_daysAhead_5 : decode cX10_daysAhead 5 = .ok (.aload_n 0, 1) := by decide +kernel
theorem dX10_daysAhead_6 : decode cX10_daysAhead 6 = .ok (.getfield 33, 3) := by decide +kernel
theorem dX10_daysAhead_9 : decode cX10_daysAhead 9 = .ok (.getfield 124, 3) := by decide +kernel
theorem dX10_daysAhead_12 : decode cX10_daysAhead 12 = .ok (.isub, 1) := by decide +kernel
theorem dX10_daysAhead_13 : decode cX10_daysAhead 13 = .ok (.invokestatic 202, 3) := by decide +kernel
theorem dX10_daysAhead_16 : decode cX10_daysAhead 16 = .ok (.ireturn, 1) := by decide +kernel
theorem dX10_word_0 : decode cX10_word 0 = .ok (.aload_n 0, 1) := by decide +kernel
theorem dX10_word_1 : decode cX10_word 1 = .ok (.getfield 20, 3) := by decide +kernel
theorem dX10_word_4 : decode cX10_word 4 = .ok (.iload_n 1, 1) := by decide +kernel
theorem dX10_word_5 : decode cX10_word 5 = .ok (.invokevirtual 149, 3) := by decide +kernel
theorem dX10_word_8 : decode cX10_word 8 = .ok (.ifCond .eq 21, 3) := by decide +kernel
theorem dX10_word_11 : decode cX10_word 11 = .ok (.aload_n 0, 1) := by decide +kernel
theorem dX10_word_12 : decode cX10_word 12 = .ok (.getfield 20, 3) := by decide +kernel
theorem dX10_word_15 : decode cX10_word 15 = .ok (.aload_n 0, 1) := by decide +kernel
theorem dX10_word_16 : decode cX10_word 16 = .ok (.getfield 33, 3) := by decide +kernel
theorem dX10_word_19 : decode cX10_word 19 = .ok (.invokestatic 207, 3) := by decide +kernel
theorem dX10_word_22 : decode cX10_word 22 = .ok (.iload_n 1, 1) := by decide +kernel
theorem dX10_word_23 : decode cX10_word 23 = .ok (.invokestatic 213, 3) := by decide +kernel
theorem dX10_word_26 : decode cX10_word 26 = .ok (.goto 4, 3) := by decide +kernel
theorem dX10_word_29 : decode cX10_word 29 = .ok (.iconst (-1), 1) := by decide +kernel
theorem dX10_word_30 : decode cX10_word 30 = .ok (.ireturn, 1) := by decide +kernel
theorem dX10_bag_0 : decode cX10_bag 0 = .ok (.aload_n 0, 1) := by decide +kernel
theorem dX10_bag_1 : decode cX10_bag 1 = .ok (.getfield 13, 3) := by decide +kernel
theorem dX10_bag_4 : decode cX10_bag 4 = .ok (.istore_n 1, 1) := by decide +kernel
theorem dX10_bag_5 : decode cX10_bag 5 = .ok (.aload_n 0, 1) := by decide +kernel
theorem dX10_bag_6 : decode cX10_bag 6 = .ok (.iconst 0, 1) := by decide +kernel
theorem dX10_bag_7 : decode cX10_bag 7 = .ok (.putfield 13, 3) := by decide +kernel
theorem dX10_bag_10 : decode cX10_bag 10 = .ok (.aload_n 0, 1) := by decide +kernel
theorem dX10_bag_11 : decode cX10_bag 11 = .ok (.iload_n 1, 1) := by decide +kernel
theorem dX10_bag_12 : decode cX10_bag 12 = .ok (.invokevirtual 248, 3) := by decide +kernel
theorem dX10_bag_15 : decode cX10_bag 15 = .ok (.ifCond .ne 9, 3) := by decide +kernel
theorem dX10_bag_18 : decode cX10_bag 18 = .ok (.aload_n 0, 1) := by decide +kernel
theorem dX10_bag_19 : decode cX10_bag 19 = .ok (.iconst 5, 1) := by decide +kernel
theorem dX10_bag_20 : decode cX10_bag 20 = .ok (.invokevirtual 80, 3) := by decide +kernel
theorem dX10_bag_23 : decode cX10_bag 23 = .ok (.ireturn, 1) := by decide +kernel
theorem dX10_bag_24 : decode cX10_bag 24 = .ok (.aload_n 0, 1) := by decide +kernel
theorem dX10_bag_25 : decode cX10_bag 25 = .ok (.iload_n 1, 1) := by decide +kernel
theorem dX10_bag_26 : decode cX10_bag 26 = .ok (.iconst 2, 1) := by decide +kernel
theorem dX10_bag_27 : decode cX10_bag 27 = .ok (.idiv, 1) := by decide +kernel
theorem dX10_bag_28 : decode cX10_bag 28 = .ok (.putfield 68, 3) := by decide +kernel
theorem dX10_bag_31 : decode cX10_bag 31 = .ok (.iconst 0, 1) := by decide +kernel
theorem dX10_bag_32 : decode cX10_bag 32 = .ok (.istore_n 2, 1) := by decide +kernel
theorem dX10_bag_33 : decode cX10_bag 33 = .ok (.iload_n 2, 1) := by decide +kernel
theorem dX10_bag_34 : decode cX10_bag 34 = .ok (.aload_n 0, 1) := by decide +kernel
theorem dX10_bag_35 : decode cX10_bag 35 = .ok (.getfield 68, 3) := by decide +kernel
theorem dX10_bag_38 : decode cX10_bag 38 = .ok (.if_icmp .ge 53, 3) := by decide +kernel
theorem dX10_bag_41 : decode cX10_bag 41 = .ok (.iload_n 2, 1) := by decide +kernel
theorem dX10_bag_42 : decode cX10_bag 42 = .ok (.bipush 16, 2) := by decide +kernel
theorem dX10_bag_44 : decode cX10_bag 44 = .ok (.if_icmp .ge 47, 3) := by decide +kernel
theorem dX10_bag_47 : decode cX10_bag 47 = .ok (.aload_n 0, 1) := by decide +kernel
theorem dX10_bag_48 : decode cX10_bag 48 = .ok (.getfield 61, 3) := by decide +kernel
theorem dX10_bag_51 : decode cX10_bag 51 = .ok (.iload_n 2, 1) := by decide +kernel
theorem dX10_bag_52 : decode cX10_bag 52 = .ok (.aload_n 0, 1) := by decide +kernel
theorem dX10_bag_53 : decode cX10_bag 53 = .ok (.getfield 9, 3) := by decide +kernel
theorem dX10_bag_56 : decode cX10_bag 56 = .ok (.iconst 2, 1) := by decide +kernel
theorem dX10_bag_57 : decode cX10_bag 57 = .ok (.iload_n 2, 1) := by decide +kernel
theorem dX10_bag_58 : decode cX10_bag 58 = .ok (.imul, 1) := by decide +kernel
theorem dX10_bag_59 : decode cX10_bag 59 = .ok (.baload, 1) := by decide +kernel
theorem dX10_bag_60 : decode cX10_bag 60 = .ok (.sipush 255, 3) := by decide +kernel
theorem dX10_bag_63 : decode cX10_bag 63 = .ok (.iand, 1) := by decide +kernel
theorem dX10_bag_64 : decode cX10_bag 64 = .ok (.iastore, 1) := by decide +kernel
theorem dX10_bag_65 : decode cX10_bag 65 = .ok (.aload_n 0, 1) := by decide +kernel
theorem dX10_bag_66 : decode cX10_bag 66 = .ok (.getfield 65, 3) := by decide +kernel
theorem dX10_bag_69 : decode cX10_bag 69 = .ok (.iload_n 2, 1) := by decide +kernel
theorem dX10_bag_70 : decode cX10_bag 70 = .ok (.aload_n 0, 1) := by decide +kernel
theorem dX10_bag_71 : decode cX10_bag 71 = .ok (.getfield 9, 3) := by decide +kernel
theorem dX10_bag_74 : decode cX10_bag 74 = .ok (.iconst 2, 1) := by decide +kernel
theorem dX10_bag_75 : decode cX10_bag 75 = .ok (.iload_n 2, 1) := by decide +kernel
theorem dX10_bag_76 : decode cX10_bag 76 = .ok (.imul, 1) := by decide +kernel
theorem dX10_bag_77 : decode cX10_bag 77 = .ok (.iconst 1, 1) := by decide +kernel
theorem dX10_bag_78 : decode cX10_bag 78 = .ok (.iadd, 1) := by decide +kernel
theorem dX10_bag_79 : decode cX10_bag 79 = .ok (.baload, 1) := by decide +kernel
theorem dX10_bag_80 : decode cX10_bag 80 = .ok (.sipush 255, 3) := by decide +kernel
theorem dX10_bag_83 : decode cX10_bag 83 = .ok (.iand, 1) := by decide +kernel
theorem dX10_bag_84 : decode cX10_bag 84 = .ok (.iastore, 1) := by decide +kernel
theorem dX10_bag_85 : decode cX10_bag 85 = .ok (.iinc 2 1, 3) := by decide +kernel
theorem dX10_bag_88 : decode cX10_bag 88 = .ok (.goto (-55), 3) := by decide +kernel
theorem dX10_bag_91 : decode cX10_bag 91 = .ok (.aload_n 0, 1) := by decide +kernel
theorem dX10_bag_92 : decode cX10_bag 92 = .ok (.getfield 68, 3) := by decide +kernel
theorem dX10_bag_95 : decode cX10_bag 95 = .ok (.ireturn, 1) := by decide +kernel
theorem dX10_isBag_0 : decode cX10_isBag 0 = .ok (.iload_n 1, 1) := by decide +kernel
theorem dX10_isBag_1 : decode cX10_isBag 1 = .ok (.iconst 2, 1) := by decide +kernel
theorem dX10_isBag_2 : decode cX10_isBag 2 = .ok (.if_icmp .lt 15, 3) := by decide +kernel
theorem dX10_isBag_5 : decode cX10_isBag 5 = .ok (.iload_n 1, 1) := by decide +kernel
theorem dX10_isBag_6 : decode cX10_isBag 6 = .ok (.bipush 32, 2) := by decide +kernel
theorem dX10_isBag_8 : decode cX10_isBag 8 = .ok (.if_icmp .gt 9, 3) := by decide +kernel
theorem dX10_isBag_11 : decode cX10_isBag 11 = .ok (.iload_n 1, 1) := by decide +kernel
theorem dX10_isBag_12 : decode cX10_isBag 12 = .ok (.iconst 2, 1) := by decide +kernel
theorem dX10_isBag_13 : decode cX10_isBag 13 = .ok (.irem, 1) := by decide +kernel
theorem dX10_isBag_14 : decode cX10_isBag 14 = .ok (.ifCond .eq 5, 3) := by decide +kernel
theorem dX10_isBag_17 : decode cX10_isBag 17 = .ok (.iconst 0, 1) := by decide +kernel
theorem dX10_isBag_18 : decode cX10_isBag 18 = .ok (.ireturn, 1) := by decide +kernel
theorem dX10_isBag_19 : decode cX10_isBag 19 = .ok (.iconst 0, 1) := by decide +kernel
theorem dX10_isBag_20 : decode cX10_isBag 20 = .ok (.istore_n 2, 1) := by decide +kernel
theorem dX10_isBag_21 : decode cX10_isBag 21 = .ok (.iload_n 2, 1) := by decide +kernel
theorem dX10_isBag_22 : decode cX10_isBag 22 = .ok (.iload_n 1, 1) := by decide +kernel
theorem dX10_isBag_23 : decode cX10_isBag 23 = .ok (.if_icmp .ge 31, 3) := by decide +kernel
theorem dX10_isBag_26 : decode cX10_isBag 26 = .ok (.aload_n 0, 1) := by decide +kernel
theorem dX10_isBag_27 : decode cX10_isBag 27 = .ok (.getfield 20, 3) := by decide +kernel
theorem dX10_isBag_30 : decode cX10_isBag 30 = .ok (.aload_n 0, 1) := by decide +kernel
theorem dX10_isBag_31 : decode cX10_isBag 31 = .ok (.getfield 9, 3) := by decide +kernel
theorem dX10_isBag_34 : decode cX10_isBag 34 = .ok (.iload_n 2, 1) := by decide +kernel
theorem dX10_isBag_35 : decode cX10_isBag 35 = .ok (.baload, 1) := by decide +kernel
theorem dX10_isBag_36 : decode cX10_isBag 36 = .ok (.sipush 255, 3) := by decide +kernel
theorem dX10_isBag_39 : decode cX10_isBag 39 = .ok (.iand, 1) := by decide +kernel
theorem dX10_isBag_40 : decode cX10_isBag 40 = .ok (.invokevirtual 149, 3) := by decide +kernel
theorem dX10_isBag_43 : decode cX10_isBag 43 = .ok (.ifCond .ne 5, 3) := by decide +kernel
theorem dX10_isBag_46 : decode cX10_isBag 46 = .ok (.iconst 0, 1) := by decide +kernel
theorem dX10_isBag_47 : decode cX10_isBag 47 = .ok (.ireturn, 1) := by decide +kernel
theorem dX10_isBag_48 : decode cX10_isBag 48 = .ok (.iinc 2 2, 3) := by decide +kernel
theorem dX10_isBag_51 : decode cX10_isBag 51 = .ok (.goto (-30), 3) := by decide +kernel
theorem dX10_isBag_54 : decode cX10_isBag 54 = .ok (.iconst 1, 1) := by decide +kernel
theorem dX10_isBag_55 : decode cX10_isBag 55 = .ok (.ireturn, 1) := by decide +kernel
theorem dX10_whose_0 : decode cX10_whose 0 = .ok (.iconst 0, 1) := by decide +kernel
theorem dX10_whose_1 : decode cX10_whose 1 = .ok (.istore_n 2, 1) := by decide +kernel
theorem dX10_whose_2 : decode cX10_whose 2 = .ok (.iconst 0, 1) := by decide +kernel
theorem dX10_whose_3 : decode cX10_whose 3 = .ok (.istore_n 3, 1) := by decide +kernel
theorem dX10_whose_4 : decode cX10_whose 4 = .ok (.iload_n 3, 1) := by decide +kernel
theorem dX10_whose_5 : decode cX10_whose 5 = .ok (.aload_n 0, 1) := by decide +kernel
theorem dX10_whose_6 : decode cX10_whose 6 = .ok (.getfield 20, 3) := by decide +kernel
theorem dX10_whose_9 : decode cX10_whose 9 = .ok (.getfield 118, 3) := by decide +kernel
theorem dX10_whose_12 : decode cX10_whose 12 = .ok (.if_icmp .ge 23, 3) := by decide +kernel
theorem dX10_whose_15 : decode cX10_whose 15 = .ok (.aload_n 0, 1) := by decide +kernel
theorem dX10_whose_16 : decode cX10_whose 16 = .ok (.iload_n 3, 1) := by decide +kernel
theorem dX10_whose_17 : decode cX10_whose 17 = .ok (.invokevirtual 251, 3) := by decide +kernel
theorem dX10_whose_20 : decode cX10_whose 20 = .ok (.ifCond .eq 9, 3) := by decide +kernel
theorem dX10_whose_23 : decode cX10_whose 23 = .ok (.iload_n 2, 1) := by decide +kernel
theorem dX10_whose_24 : decode cX10_whose 24 = .ok (.iconst 1, 1) := by decide +kernel
theorem dX10_whose_25 : decode cX10_whose 25 = .ok (.iload_n 3, 1) := by decide +kernel
theorem dX10_whose_26 : decode cX10_whose 26 = .ok (.ishl, 1) := by decide +kernel
theorem dX10_whose_27 : decode cX10_whose 27 = .ok (.ior, 1) := by decide +kernel
theorem dX10_whose_28 : decode cX10_whose 28 = .ok (.istore_n 2, 1) := by decide +kernel
theorem dX10_whose_29 : decode cX10_whose 29 = .ok (.iinc 3 1, 3) := by decide +kernel
theorem dX10_whose_32 : decode cX10_whose 32 = .ok (.goto (-28), 3) := by decide +kernel
theorem dX10_whose_35 : decode cX10_whose 35 = .ok (.iload_n 1, 1) := by decide +kernel
theorem dX10_whose_36 : decode cX10_whose 36 = .ok (.ifCond .ne 5, 3) := by decide +kernel
theorem dX10_whose_39 : decode cX10_whose 39 = .ok (.iload_n 2, 1) := by decide +kernel
theorem dX10_whose_40 : decode cX10_whose 40 = .ok (.ireturn, 1) := by decide +kernel
theorem dX10_whose_41 : decode cX10_whose 41 = .ok (.iload_n 1, 1) := by decide +kernel
theorem dX10_whose_42 : decode cX10_whose 42 = .ok (.iconst 1, 1) := by decide +kernel
theorem dX10_whose_43 : decode cX10_whose 43 = .ok (.if_icmp .eq 8, 3) := by decide +kernel
theorem dX10_whose_46 : decode cX10_whose 46 = .ok (.iload_n 1, 1) := by decide +kernel
theorem dX10_whose_47 : decode cX10_whose 47 = .ok (.iconst 2, 1) := by decide +kernel
theorem dX10_whose_48 : decode cX10_whose 48 = .ok (.if_icmp .ne 7, 3) := by decide +kernel
theorem dX10_whose_51 : decode cX10_whose 51 = .ok (.iload_n 2, 1) := by decide +kernel
theorem dX10_whose_52 : decode cX10_whose 52 = .ok (.ifCond .ne 5, 3) := by decide +kernel
theorem dX10_whose_55 : decode cX10_whose 55 = .ok (.iconst (-1), 1) := by decide +kernel
theorem dX10_whose_56 : decode cX10_whose 56 = .ok (.ireturn, 1) := by decide +kernel
theorem dX10_whose_57 : decode cX10_whose 57 = .ok (.iconst (-1), 1) := by decide +kernel
theorem dX10_whose_58 : decode cX10_whose 58 = .ok (.istore_n 3, 1) := by decide +kernel
theorem dX10_whose_59 : decode cX10_whose 59 = .ok (.iconst (-1), 1) := by decide +kernel
theorem dX10_whose_60 : decode cX10_whose 60 = .ok (.istore 4, 2) := by decide +kernel
theorem dX10_whose_62 : decode cX10_whose 62 = .ok (.iconst 0, 1) := by decide +kernel
theorem dX10_whose_63 : decode cX10_whose 63 = .ok (.istore 5, 2) := by decide +kernel
theorem dX10_whose_65 : decode cX10_whose 65 = .ok (.iload 5, 2) := by decide +kernel
theorem dX10_whose_67 : decode cX10_whose 67 = .ok (.aload_n 0, 1) := by decide +kernel
theorem dX10_whose_68 : decode cX10_whose 68 = .ok (.getfield 20, 3) := by decide +kernel
theorem dX10_whose_71 : decode cX10_whose 71 = .ok (.getfield 118, 3) := by decide +kernel
theorem dX10_whose_74 : decode cX10_whose 74 = .ok (.if_icmp .ge 37, 3) := by decide +kernel
theorem dX10_whose_77 : decode cX10_whose 77 = .ok (.aload_n 0, 1) := by decide +kernel
theorem dX10_whose_78 : decode cX10_whose 78 = .ok (.iload_n 2, 1) := by decide +kernel
theorem dX10_whose_79 : decode cX10_whose 79 = .ok (.iload 5, 2) := by decide +kernel
theorem dX10_whose_81 : decode cX10_whose 81 = .ok (.invokevirtual 254, 3) := by decide +kernel
theorem dX10_whose_84 : decode cX10_whose 84 = .ok (.istore 6, 2) := by decide +kernel
theorem dX10_whose_86 : decode cX10_whose 86 = .ok (.iload_n 3, 1) := by decide +kernel
theorem dX10_whose_87 : decode cX10_whose 87 = .ok (.iconst (-1), 1) := by decide +kernel
theorem dX10_whose_88 : decode cX10_whose 88 = .ok (.if_icmp .eq 10, 3) := by decide +kernel
theorem dX10_whose_91 : decode cX10_whose 91 = .ok (.iload 6, 2) := by decide +kernel
theorem dX10_whose_93 : decode cX10_whose 93 = .ok (.iload 4, 2) := by decide +kernel
theorem dX10_whose_95 : decode cX10_whose 95 = .ok (.if_icmp .ge 10, 3) := by decide +kernel
theorem dX10_whose_98 : decode cX10_whose 98 = .ok (.iload 5, 2) := by decide +kernel
theorem dX10_whose_100 : decode cX10_whose 100 = .ok (.istore_n 3, 1) := by decide +kernel
theorem dX10_whose_101 : decode cX10_whose 101 = .ok (.iload 6, 2) := by decide +kernel
theorem dX10_whose_103 : decode cX10_whose 103 = .ok (.istore 4, 2) := by decide +kernel
theorem dX10_whose_105 : decode cX10_whose 105 = .ok (.iinc 5 1, 3) := by decide +kernel
theorem dX10_whose_108 : decode cX10_whose 108 = .ok (.goto (-43), 3) := by decide +kernel
theorem dX10_whose_111 : decode cX10_whose 111 = .ok (.iload_n 1, 1) := by decide +kernel
theorem dX10_whose_112 : decode cX10_whose 112 = .ok (.iconst 1, 1) := by decide +kernel
theorem dX10_whose_113 : decode cX10_whose 113 = .ok (.if_icmp .ne 7, 3) := by decide +kernel
theorem dX10_whose_116 : decode cX10_whose 116 = .ok (.iload_n 3, 1) := by decide +kernel
theorem dX10_whose_117 : decode cX10_whose 117 = .ok (.goto 5, 3) := by decide +kernel
theorem dX10_whose_120 : decode cX10_whose 120 = .ok (.iload 4, 2) := by decide +kernel
theorem dX10_whose_122 : decode cX10_whose 122 = .ok (.ireturn, 1) := by decide +kernel
theorem dX10_fitsBag_0 : decode cX10_fitsBag 0 = .ok (.iconst 0, 1) := by decide +kernel
theorem dX10_fitsBag_1 : decode cX10_fitsBag 1 = .ok (.istore_n 2, 1) := by decide +kernel
theorem dX10_fitsBag_2 : decode cX10_fitsBag 2 = .ok (.iload_n 2, 1) := by decide +kernel
theorem dX10_fitsBag_3 : decode cX10_fitsBag 3 = .ok (.aload_n 0, 1) := by decide +kernel
theorem dX10_fitsBag_4 : decode cX10_fitsBag 4 = .ok (.getfield 68, 3) := by decide +kernel
theorem dX10_fitsBag_7 : decode cX10_fitsBag 7 = .ok (.if_icmp .ge 40, 3) := by decide +kernel
theorem dX10_fitsBag_10 : decode cX10_fitsBag 10 = .ok (.iload_n 2, 1) := by decide +kernel
theorem dX10_fitsBag_11 : decode cX10_fitsBag 11 = .ok (.bipush 16, 2) := by decide +kernel
theorem dX10_fitsBag_13 : decode cX10_fitsBag 13 = .ok (.if_icmp .ge 34, 3) := by decide +kernel
theorem dX10_fitsBag_16 : decode cX10_fitsBag 16 = .ok (.aload_n 0, 1) := by decide +kernel
theorem dX10_fitsBag_17 : decode cX10_fitsBag 17 = .ok (.getfield 33, 3) := by decide +kernel
theorem dX10_fitsBag_20 : decode cX10_fitsBag 20 = .ok (.iload_n 1, 1) := by decide +kernel
theorem dX10_fitsBag_21 : decode cX10_fitsBag 21 = .ok (.aload_n 0, 1) := by decide +kernel
theorem dX10_fitsBag_22 : decode cX10_fitsBag 22 = .ok (.getfield 61, 3) := by decide +kernel
theorem dX10_fitsBag_25 : decode cX10_fitsBag 25 = .ok (.iload_n 2, 1) := by decide +kernel
theorem dX10_fitsBag_26 : decode cX10_fitsBag 26 = .ok (.iaload, 1) := by decide +kernel
theorem dX10_fitsBag_27 : decode cX10_fitsBag 27 = .ok (.invokevirtual 257, 3) := by decide +kernel
theorem dX10_fitsBag_30 : decode cX10_fitsBag 30 = .ok (.aload_n 0, 1) := by decide +kernel
theorem dX10_fitsBag_31 : decode cX10_fitsBag 31 = .ok (.getfield 65, 3) := by decide +kernel
theorem dX10_fitsBag_34 : decode cX10_fitsBag 34 = .ok (.iload_n 2, 1) := by decide +kernel
theorem dX10_fitsBag_35 : decode cX10_fitsBag 35 = .ok (.iaload, 1) := by decide +kernel
theorem dX10_fitsBag_36 : decode cX10_fitsBag 36 = .ok (.if_icmp .eq 5, 3) := by decide +kernel
theorem dX10_fitsBag_39 : decode cX10_fitsBag 39 = .ok (.iconst 0, 1) := by decide +kernel
theorem dX10_fitsBag_40 : decode cX10_fitsBag 40 = .ok (.ireturn, 1) := by decide +kernel
theorem dX10_fitsBag_41 : decode cX10_fitsBag 41 = .ok (.iinc 2 1, 3) := by decide +kernel
theorem dX10_fitsBag_44 : decode cX10_fitsBag 44 = .ok (.goto (-42), 3) := by decide +kernel
theorem dX10_fitsBag_47 : decode cX10_fitsBag 47 = .ok (.iconst 1, 1) := by decide +kernel
theorem dX10_fitsBag_48 : decode cX10_fitsBag 48 = .ok (.ireturn, 1) := by decide +kernel
theorem dX10_mostLeft_0 : decode cX10_mostLeft 0 = .ok (.iconst 0, 1) := by decide +kernel
theorem dX10_mostLeft_1 : decode cX10_mostLeft 1 = .ok (.istore_n 3, 1) := by decide +kernel
theorem dX10_mostLeft_2 : decode cX10_mostLeft 2 = .ok (.iconst 0, 1) := by decide +kernel
theorem dX10_mostLeft_3 : decode cX10_mostLeft 3 = .ok (.istore 4, 2) := by decide +kernel
theorem dX10_mostLeft_5 : decode cX10_mostLeft 5 = .ok (.iload 4, 2) := by decide +kernel
theorem dX10_mostLeft_7 : decode cX10_mostLeft 7 = .ok (.bipush 6, 2) := by decide +kernel
theorem dX10_mostLeft_9 : decode cX10_mostLeft 9 = .ok (.if_icmp .ge 79, 3) := by decide +kernel
theorem dX10_mostLeft_12 : decode cX10_mostLeft 12 = .ok (.iconst 0, 1) := by decide +kernel
theorem dX10_mostLeft_13 : decode cX10_mostLeft 13 = .ok (.istore 5, 2) := by decide +kernel
theorem dX10_mostLeft_15 : decode cX10_mostLeft 15 = .ok (.iconst 0, 1) := by decide +kernel
theorem dX10_mostLeft_16 : decode cX10_mostLeft 16 = .ok (.istore 6, 2) := by decide +kernel
theorem dX10_mostLeft_18 : decode cX10_mostLeft 18 = .ok (.iload 6, 2) := by decide +kernel
theorem dX10_mostLeft_20 : decode cX10_mostLeft 20 = .ok (.bipush 6, 2) := by decide +kernel
theorem dX10_mostLeft_22 : decode cX10_mostLeft 22 = .ok (.if_icmp .ge 44, 3) := by decide +kernel
theorem dX10_mostLeft_25 : decode cX10_mostLeft 25 = .ok (.iload_n 1, 1) := by decide +kernel
theorem dX10_mostLeft_26 : decode cX10_mostLeft 26 = .ok (.iload 6, 2) := by decide +kernel
theorem dX10_mostLeft_28 : decode cX10_mostLeft 28 = .ok (.ishr, 1) := by decide +kernel
theorem dX10_mostLeft_29 : decode cX10_mostLeft 29 = .ok (.iconst 1, 1) := by decide +kernel
theorem dX10_mostLeft_30 : decode cX10_mostLeft 30 = .ok (.iand, 1) := by decide +kernel
theorem dX10_mostLeft_31 : decode cX10_mostLeft 31 = .ok (.ifCond .eq 29, 3) := by decide +kernel
theorem dX10_mostLeft_34 : decode cX10_mostLeft 34 = .ok (.aload_n 0, 1) := by decide +kernel
theorem dX10_mostLeft_35 : decode cX10_mostLeft 35 = .ok (.getfield 33, 3) := by decide +kernel
theorem dX10_mostLeft_38 : decode cX10_mostLeft 38 = .ok (.iload 6, 2) := by decide +kernel
theorem dX10_mostLeft_40 : decode cX10_mostLeft 40 = .ok (.iload_n 2, 1) := by decide +kernel
theorem dX10_mostLeft_41 : decode cX10_mostLeft 41 = .ok (.invokevirtual 257, 3) := by decide +kernel
theorem dX10_mostLeft_44 : decode cX10_mostLeft 44 = .ok (.aload_n 0, 1) := by decide +kernel
theorem dX10_mostLeft_45 : decode cX10_mostLeft 45 = .ok (.getfield 33, 3) := by decide +kernel
theorem dX10_mostLeft_48 : decode cX10_mostLeft 48 = .ok (.iload 4, 2) := by decide +kernel
theorem dX10_mostLeft_50 : decode cX10_mostLeft 50 = .ok (.iload_n 2, 1) := by decide +kernel
theorem dX10_mostLeft_51 : decode cX10_mostLeft 51 = .ok (.invokevirtual 257, 3) := by decide +kernel
theorem dX10_mostLeft_54 : decode cX10_mostLeft 54 = .ok (.if_icmp .ne 6, 3) := by decide +kernel
theorem dX10_mostLeft_57 : decode cX10_mostLeft 57 = .ok (.iinc 5 1, 3) := by decide +kernel
theorem dX10_mostLeft_60 : decode cX10_mostLeft 60 = .ok (.iinc 6 1, 3) := by decide +kernel
theorem dX10_mostLeft_63 : decode cX10_mostLeft 63 = .ok (.goto (-45), 3) := by decide +kernel
theorem dX10_mostLeft_66 : decode cX10_mostLeft 66 = .ok (.iload_n 1, 1) := by decide +kernel
theorem dX10_mostLeft_67 : decode cX10_mostLeft 67 = .ok (.iload 4, 2) := by decide +kernel
theorem dX10_mostLeft_69 : decode cX10_mostLeft 69 = .ok (.ishr, 1) := by decide +kernel
theorem dX10_mostLeft_70 : decode cX10_mostLeft 70 = .ok (.iconst 1, 1) := by decide +kernel
theorem dX10_mostLeft_71 : decode cX10_mostLeft 71 = .ok (.iand, 1) := by decide +kernel
theorem dX10_mostLeft_72 : decode cX10_mostLeft 72 = .ok (.ifCond .eq 10, 3) := by decide +kernel
theorem dX10_mostLeft_75 : decode cX10_mostLeft 75 = .ok (.iload_n 3, 1) := by decide +kernel
theorem dX10_mostLeft_76 : decode cX10_mostLeft 76 = .ok (.iload 5, 2) := by decide +kernel
theorem dX10_mostLeft_78 : decode cX10_mostLeft 78 = .ok (.invokestatic 260, 3) := by decide +kernel
theorem dX10_mostLeft_81 : decode cX10_mostLeft 81 = .ok (.istore_n 3, 1) := by decide +kernel
theorem dX10_mostLeft_82 : decode cX10_mostLeft 82 = .ok (.iinc 4 1, 3) := by decide +kernel
theorem dX10_mostLeft_85 : decode cX10_mostLeft 85 = .ok (.goto (-80), 3) := by decide +kernel
theorem dX10_mostLeft_88 : decode cX10_mostLeft 88 = .ok (.iload_n 3, 1) := by decide +kernel
theorem dX10_mostLeft_89 : decode cX10_mostLeft 89 = .ok (.ireturn, 1) := by decide +kernel
theorem dX10_canPass_0 : decode cX10_canPass 0 = .ok (.iload_n 1, 1) := by decide +kernel
theorem dX10_canPass_1 : decode cX10_canPass 1 = .ok (.iconst 1, 1) := by decide +kernel
theorem dX10_canPass_2 : decode cX10_canPass 2 = .ok (.if_icmp .lt 28, 3) := by decide +kernel
theorem dX10_canPass_5 : decode cX10_canPass 5 = .ok (.iload_n 1, 1) := by decide +kernel
theorem dX10_canPass_6 : decode cX10_canPass 6 = .ok (.bipush 100, 2) := by decide +kernel
theorem dX10_canPass_8 : decode cX10_canPass 8 = .ok (.if_icmp .gt 22, 3) := by decide +kernel
theorem dX10_canPass_11 : decode cX10_canPass 11 = .ok (.iload_n 1, 1) := by decide +kernel
theorem dX10_canPass_12 : decode cX10_canPass 12 = .ok (.sipush 999, 3) := by decide +kernel
theorem dX10_canPass_15 : decode cX10_canPass 15 = .ok (.aload_n 0, 1) := by decide +kernel
theorem dX10_canPass_16 : decode cX10_canPass 16 = .ok (.getfield 33, 3) := by decide +kernel
theorem dX10_canPass_19 : decode cX10_canPass 19 = .ok (.getfield 124, 3) := by decide +kernel
theorem dX10_canPass_22 : decode cX10_canPass 22 = .ok (.isub, 1) := by decide +kernel
theorem dX10_canPass_23 : decode cX10_canPass 23 = .ok (.if_icmp .gt 7, 3) := by decide +kernel
theorem dX10_canPass_26 : decode cX10_canPass 26 = .ok (.iconst 1, 1) := by decide +kernel
theorem dX10_canPass_27 : decode cX10_canPass 27 = .ok (.goto 4, 3) := by decide +kernel
theorem dX10_canPass_30 : decode cX10_canPass 30 = .ok (.iconst 0, 1) := by decide +kernel
theorem dX10_canPass_31 : decode cX10_canPass 31 = .ok (.ireturn, 1) := by decide +kernel
theorem dX10_canGive_0 : decode cX10_canGive 0 = .ok (.aload_n 0, 1) := by decide +kernel
theorem dX10_canGive_1 : decode cX10_canGive 1 = .ok (.getfield 33, 3) := by decide +kernel
theorem dX10_canGive_4 : decode cX10_canGive 4 = .ok (.iload_n 1, 1) := by decide +kernel
theorem dX10_canGive_5 : decode cX10_canGive 5 = .ok (.iload_n 2, 1) := by decide +kernel
theorem dX10_canGive_6 : decode cX10_canGive 6 = .ok (.invokevirtual 257, 3) := by decide +kernel
theorem dX10_canGive_9 : decode cX10_canGive 9 = .ok (.ifCond .le 26, 3) := by decide +kernel
theorem dX10_canGive_12 : decode cX10_canGive 12 = .ok (.iload_n 3, 1) := by decide +kernel
theorem dX10_canGive_13 : decode cX10_canGive 13 = .ok (.iload_n 2, 1) := by decide +kernel
theorem dX10_canGive_14 : decode cX10_canGive 14 = .ok (.if_icmp .eq 17, 3) := by decide +kernel
theorem dX10_canGive_17 : decode cX10_canGive 17 = .ok (.aload_n 0, 1) := by decide +kernel
theorem dX10_canGive_18 : decode cX10_canGive 18 = .ok (.getfield 33, 3) := by decide +kernel
theorem dX10_canGive_21 : decode cX10_canGive 21 = .ok (.iload_n 3, 1) := by decide +kernel
theorem dX10_canGive_22 : decode cX10_canGive 22 = .ok (.iload_n 2, 1) := by decide +kernel
theorem dX10_canGive_23 : decode cX10_canGive 23 = .ok (.invokevirtual 257, 3) := by decide +kernel
theorem dX10_canGive_26 : decode cX10_canGive 26 = .ok (.bipush 99, 2) := by decide +kernel
theorem dX10_canGive_28 : decode cX10_canGive 28 = .ok (.if_icmp .ge 7, 3) := by decide +kernel
theorem dX10_canGive_31 : decode cX10_canGive 31 = .ok (.iconst 1, 1) := by decide +kernel
theorem dX10_canGive_32 : decode cX10_canGive 32 = .ok (.goto 4, 3) := by decide +kernel
theorem dX10_canGive_35 : decode cX10_canGive 35 = .ok (.iconst 0, 1) := by decide +kernel
theorem dX10_canGive_36 : decode cX10_canGive 36 = .ok (.ireturn, 1) := by decide +kernel
theorem dX10_seed_0 : decode cX10_seed 0 = .ok (.iload_n 1, 1) := by decide +kernel
theorem dX10_seed_1 : decode cX10_seed 1 = .ok (.ifCond .ge 11, 3) := by decide +kernel
theorem dX10_seed_4 : decode cX10_seed 4 = .ok (.aload_n 0, 1) := by decide +kernel
theorem dX10_seed_5 : decode cX10_seed 5 = .ok (.iconst 5, 1) := by decide +kernel
theorem dX10_seed_6 : decode cX10_seed 6 = .ok (.invokevirtual 80, 3) := by decide +kernel
theorem dX10_seed_9 : decode cX10_seed 9 = .ok (.pop, 1) := by decide +kernel
theorem dX10_seed_10 : decode cX10_seed 10 = .ok (.iconst 0, 1) := by decide +kernel
theorem dX10_seed_11 : decode cX10_seed 11 = .ok (.ireturn, 1) := by decide +kernel
theorem dX10_seed_12 : decode cX10_seed 12 = .ok (.aload_n 0, 1) := by decide +kernel
theorem dX10_seed_13 : decode cX10_seed 13 = .ok (.getfield 50, 3) := by decide +kernel
theorem dX10_seed_16 : decode cX10_seed 16 = .ok (.iload_n 1, 1) := by decide +kernel
theorem dX10_seed_17 : decode cX10_seed 17 = .ok (.putfield 146, 3) := by decide +kernel
theorem dX10_seed_20 : decode cX10_seed 20 = .ok (.iconst 1, 1) := by decide +kernel
theorem dX10_seed_21 : decode cX10_seed 21 = .ok (.ireturn, 1) := by decide +kernel
theorem dX10_kept_0 : decode cX10_kept 0 = .ok (.iload_n 1, 1) := by decide +kernel
theorem dX10_kept_1 : decode cX10_kept 1 = .ok (.ifCond .lt 26, 3) := by decide +kernel
theorem dX10_kept_4 : decode cX10_kept 4 = .ok (.iload_n 1, 1) := by decide +kernel
theorem dX10_kept_5 : decode cX10_kept 5 = .ok (.aload_n 0, 1) := by decide +kernel
theorem dX10_kept_6 : decode cX10_kept 6 = .ok (.getfield 33, 3) := by decide +kernel
theorem dX10_kept_9 : decode cX10_kept 9 = .ok (.getfield 143, 3) := by decide +kernel
theorem dX10_kept_12 : decode cX10_kept 12 = .ok (.if_icmp .ge 15, 3) := by decide +kernel
theorem dX10_kept_15 : decode cX10_kept 15 = .ok (.aload_n 0, 1) := by decide +kernel
theorem dX10_kept_16 : decode cX10_kept 16 = .ok (.getfield 33, 3) := by decide +kernel
theorem dX10_kept_19 : decode cX10_kept 19 = .ok (.iload_n 1, 1) := by decide +kernel
theorem dX10_kept_20 : decode cX10_kept 20 = .ok (.iload_n 2, 1) := by decide +kernel
theorem dX10_kept_21 : decode cX10_kept 21 = .ok (.invokevirtual 279, 3) := by decide +kernel
theorem dX10_kept_24 : decode cX10_kept 24 = .ok (.goto 4, 3) := by decide +kernel
theorem dX10_kept_27 : decode cX10_kept 27 = .ok (.iconst (-1), 1) := by decide +kernel
theorem dX10_kept_28 : decode cX10_kept 28 = .ok (.ireturn, 1) := by decide +kernel
theorem dX10_image_0 : decode cX10_image 0 = .ok (.aload_n 0, 1) := by decide +kernel
theorem dX10_image_1 : decode cX10_image 1 = .ok (.iconst 0, 1) := by decide +kernel
theorem dX10_image_2 : decode cX10_image 2 = .ok (.putfield 74, 3) := by decide +kernel
theorem dX10_image_5 : decode cX10_image 5 = .ok (.aload_n 0, 1) := by decide +kernel
theorem dX10_image_6 : decode cX10_image 6 = .ok (.aload_n 0, 1) := by decide +kernel
theorem dX10_image_7 : decode cX10_image 7 = .ok (.getfield 33, 3) := by decide +kernel
theorem dX10_image_10 : decode cX10_image 10 = .ok (.getfield 124, 3) := by decide +kernel
theorem dX10_image_13 : decode cX10_image 13 = .ok (.bipush 8, 2) := by decide +kernel
theorem dX10_image_15 : decode cX10_image 15 = .ok (.ishr, 1) := by decide +kernel
theorem dX10_image_16 : decode cX10_image 16 = .ok (.invokevirtual 282, 3) := by decide +kernel
theorem dX10_image_19 : decode cX10_image 19 = .ok (.aload_n 0, 1) := by decide +kernel
theorem dX10_image_20 : decode cX10_image 20 = .ok (.aload_n 0, 1) := by decide +kernel
theorem dX10_image_21 : decode cX10_image 21 = .ok (.getfield 33, 3) := by decide +kernel
theorem dX10_image_24 : decode cX10_image 24 = .ok (.getfield 124, 3) := by decide +kernel
theorem dX10_image_27 : decode cX10_image 27 = .ok (.sipush 255, 3) := by decide +kernel
theorem dX10_image_30 : decode cX10_image 30 = .ok (.iand, 1) := by decide +kernel
theorem dX10_image_31 : decode cX10_image 31 = .ok (.invokevirtual 282, 3) := by decide +kernel
theorem dX10_image_34 : decode cX10_image 34 = .ok (.iconst 0, 1) := by decide +kernel
theorem dX10_image_35 : decode cX10_image 35 = .ok (.istore_n 1, 1) := by decide +kernel
theorem dX10_image_36 : decode cX10_image 36 = .ok (.iload_n 1, 1) := by decide +kernel
theorem dX10_image_37 : decode cX10_image 37 = .ok (.bipush 36, 2) := by decide +kernel
theorem dX10_image_39 : decode cX10_image 39 = .ok (.if_icmp .ge 66, 3) := by decide +kernel
theorem dX10_image_42 : decode cX10_image 42 = .ok (.aload_n 0, 1) := by decide +kernel
theorem dX10_image_43 : decode cX10_image 43 = .ok (.getfield 20, 3) := by decide +kernel
theorem dX10_image_46 : decode cX10_image 46 = .ok (.iload_n 1, 1) := by decide +kernel
theorem dX10_image_47 : decode cX10_image 47 = .ok (.bipush 6, 2) := by decide +kernel
theorem dX10_image_49 : decode cX10_image 49 = .ok (.idiv, 1) := by decide +kernel
theorem dX10_image_50 : decode cX10_image 50 = .ok (.iload_n 1, 1) := by decide +kernel
theorem dX10_image_51 : decode cX10_image 51 = .ok (.bipush 6, 2) := by decide +kernel
theorem dX10_image_53 : decode cX10_image 53 = .ok (.irem, 1) := by decide +kernel
theorem dX10_image_54 : decode cX10_image 54 = .ok (.invokevirtual 162, 3) := by decide +kernel
theorem dX10_image_57 : decode cX10_image 57 = .ok (.ifCond .eq 42, 3) := by decide +kernel
theorem dX10_image_60 : decode cX10_image 60 = .ok (.aload_n 0, 1) := by decide +kernel
theorem dX10_image_61 : decode cX10_image 61 = .ok (.aload_n 0, 1) := by decide +kernel
theorem dX10_image_62 : decode cX10_image 62 = .ok (.getfield 33, 3) := by decide +kernel
theorem dX10_image_65 : decode cX10_image 65 = .ok (.getfield 127, 3) := by decide +kernel
theorem dX10_image_68 : decode cX10_image 68 = .ok (.iload_n 1, 1) := by decide +kernel
theorem dX10_image_69 : decode cX10_image 69 = .ok (.iaload, 1) := by decide +kernel
theorem dX10_image_70 : decode cX10_image 70 = .ok (.invokevirtual 282, 3) := by decide +kernel
theorem dX10_image_73 : decode cX10_image 73 = .ok (.aload_n 0, 1) := by decide +kernel
theorem dX10_image_74 : decode cX10_image 74 = .ok (.aload_n 0, 1) := by decide +kernel
theorem dX10_image_75 : decode cX10_image 75 = .ok (.getfield 33, 3) := by decide +kernel
theorem dX10_image_78 : decode cX10_image 78 = .ok (.getfield 137, 3) := by decide +kernel
theorem dX10_image_81 : decode cX10_image 81 = .ok (.iload_n 1, 1) := by decide +kernel
theorem dX10_image_82 : decode cX10_image 82 = .ok (.iaload, 1) := by decide +kernel
theorem dX10_image_83 : decode cX10_image 83 = .ok (.invokevirtual 282, 3) := by decide +kernel
theorem dX10_image_86 : decode cX10_image 86 = .ok (.aload_n 0, 1) := by decide +kernel
theorem dX10_image_87 : decode cX10_image 87 = .ok (.aload_n 0, 1) := by decide +kernel
theorem dX10_image_88 : decode cX10_image 88 = .ok (.getfield 33, 3) := by decide +kernel
theorem dX10_image_91 : decode cX10_image 91 = .ok (.getfield 140, 3) := by decide +kernel
theorem dX10_image_94 : decode cX10_image 94 = .ok (.iload_n 1, 1) := by decide +kernel
theorem dX10_image_95 : decode cX10_image 95 = .ok (.iaload, 1) := by decide +kernel
theorem dX10_image_96 : decode cX10_image 96 = .ok (.invokevirtual 282, 3) := by decide +kernel
theorem dX10_image_99 : decode cX10_image 99 = .ok (.iinc 1 1, 3) := by decide +kernel
theorem dX10_image_102 : decode cX10_image 102 = .ok (.goto (-66), 3) := by decide +kernel
theorem dX10_image_105 : decode cX10_image 105 = .ok (.aload_n 0, 1) := by decide +kernel
theorem dX10_image_106 : decode cX10_image 106 = .ok (.aload_n 0, 1) := by decide +kernel
theorem dX10_image_107 : decode cX10_image 107 = .ok (.getfield 33, 3) := by decide +kernel
theorem dX10_image_110 : decode cX10_image 110 = .ok (.getfield 134, 3) := by decide +kernel
theorem dX10_image_113 : decode cX10_image 113 = .ok (.invokevirtual 282, 3) := by decide +kernel
theorem dX10_image_116 : decode cX10_image 116 = .ok (.iconst 0, 1) := by decide +kernel
theorem dX10_image_117 : decode cX10_image 117 = .ok (.istore_n 1, 1) := by decide +kernel
theorem dX10_image_118 : decode cX10_image 118 = .ok (.iload_n 1, 1) := by decide +kernel
theorem dX10_image_119 : decode cX10_image 119 = .ok (.aload_n 0, 1) := by decide +kernel
theorem dX10_image_120 : decode cX10_image 120 = .ok (.getfield 33, 3) := by decide +kernel
theorem dX10_image_123 : decode cX10_image 123 = .ok (.getfield 134, 3) := by decide +kernel
theorem dX10_image_126 : decode cX10_image 126 = .ok (.if_icmp .ge 60, 3) := by decide +kernel
theorem dX10_image_129 : decode cX10_image 129 = .ok (.iload_n 1, 1) := by decide +kernel
theorem dX10_image_130 : decode cX10_image 130 = .ok (.bipush 60, 2) := by decide +kernel
theorem dX10_image_132 : decode cX10_image 132 = .ok (.if_icmp .ge 54, 3) := by decide +kernel
theorem dX10_image_135 : decode cX10_image 135 = .ok (.aload_n 0, 1) := by decide +kernel
theorem dX10_image_136 : decode cX10_image 136 = .ok (.aload_n 0, 1) := by decide +kernel
theorem dX10_image_137 : decode cX10_image 137 = .ok (.getfield 33, 3) := by decide +kernel
theorem dX10_image_140 : decode cX10_image 140 = .ok (.getfield 172, 3) := by decide +kernel
theorem dX10_image_143 : decode cX10_image 143 = .ok (.iload_n 1, 1) := by decide +kernel
theorem dX10_image_144 : decode cX10_image 144 = .ok (.iaload, 1) := by decide +kernel
theorem dX10_image_145 : decode cX10_image 145 = .ok (.bipush 6, 2) := by decide +kernel
theorem dX10_image_147 : decode cX10_image 147 = .ok (.idiv, 1) := by decide +kernel
theorem dX10_image_148 : decode cX10_image 148 = .ok (.invokevirtual 282, 3) := by decide +kernel
theorem dX10_image_151 : decode cX10_image 151 = .ok (.aload_n 0, 1) := by decide +kernel
theorem dX10_image_152 : decode cX10_image 152 = .ok (.aload_n 0, 1) := by decide +kernel
theorem dX10_image_153 : decode cX10_image 153 = .ok (.getfield 33, 3) := by decide +kernel
theorem dX10_image_156 : decode cX10_image 156 = .ok (.getfield 172, 3) := by decide +kernel
theorem dX10_image_159 : decode cX10_image 159 = .ok (.iload_n 1, 1) := by decide +kernel
theorem dX10_image_160 : decode cX10_image 160 = .ok (.iaload, 1) := by decide +kernel
theorem dX10_image_161 : decode cX10_image 161 = .ok (.bipush 6, 2) := by decide +kernel
theorem dX10_image_163 : decode cX10_image 163 = .ok (.irem, 1) := by decide +kernel
theorem dX10_image_164 : decode cX10_image 164 = .ok (.invokevirtual 282, 3) := by decide +kernel
theorem dX10_image_167 : decode cX10_image 167 = .ok (.aload_n 0, 1) := by decide +kernel
theorem dX10_image_168 : decode cX10_image 168 = .ok (.aload_n 0, 1) := by decide +kernel
theorem dX10_image_169 : decode cX10_image 169 = .ok (.getfield 33, 3) := by decide +kernel
theorem dX10_image_172 : decode cX10_image 172 = .ok (.getfield 175, 3) := by decide +kernel
theorem dX10_image_175 : decode cX10_image 175 = .ok (.iload_n 1, 1) := by decide +kernel
theorem dX10_image_176 : decode cX10_image 176 = .ok (.iaload, 1) := by decide +kernel
theorem dX10_image_177 : decode cX10_image 177 = .ok (.invokevirtual 282, 3) := by decide +kernel
theorem dX10_image_180 : decode cX10_image 180 = .ok (.iinc 1 1, 3) := by decide +kernel
theorem dX10_image_183 : decode cX10_image 183 = .ok (.goto (-65), 3) := by decide +kernel
theorem dX10_image_186 : decode cX10_image 186 = .ok (.sipush 191, 3) := by decide +kernel
theorem dX10_image_189 : decode cX10_image 189 = .ok (.istore_n 1, 1) := by decide +kernel
theorem dX10_image_190 : decode cX10_image 190 = .ok (.iconst 0, 1) := by decide +kernel
theorem dX10_image_191 : decode cX10_image 191 = .ok (.istore_n 2, 1) := by decide +kernel
theorem dX10_image_192 : decode cX10_image 192 = .ok (.iload_n 2, 1) := by decide +kernel
theorem dX10_image_193 : decode cX10_image 193 = .ok (.aload_n 0, 1) := by decide +kernel
theorem dX10_image_194 : decode cX10_image 194 = .ok (.getfield 74, 3) := by decide +kernel
theorem dX10_image_197 : decode cX10_image 197 = .ok (.if_icmp .ge 20, 3) := by decide +kernel
theorem dX10_image_200 : decode cX10_image 200 = .ok (.iload_n 1, 1) := by decide +kernel
theorem dX10_image_201 : decode cX10_image 201 = .ok (.aload_n 0, 1) := by decide +kernel
theorem dX10_image_202 : decode cX10_image 202 = .ok (.getfield 71, 3) := by decide +kernel
theorem dX10_image_205 : decode cX10_image 205 = .ok (.iload_n 2, 1) := by decide +kernel
theorem dX10_image_206 : decode cX10_image 206 = .ok (.iaload, 1) := by decide +kernel
theorem dX10_image_207 : decode cX10_image 207 = .ok (.invokestatic 287, 3) := by decide +kernel
theorem dX10_image_210 : decode cX10_image 210 = .ok (.istore_n 1, 1) := by decide +kernel
theorem dX10_image_211 : decode cX10_image 211 = .ok (.iinc 2 1, 3) := by decide +kernel
theorem dX10_image_214 : decode cX10_image 214 = .ok (.goto (-22), 3) := by decide +kernel
theorem dX10_image_217 : decode cX10_image 217 = .ok (.aload_n 0, 1) := by decide +kernel
theorem dX10_image_218 : decode cX10_image 218 = .ok (.iload_n 1, 1) := by decide +kernel
theorem dX10_image_219 : decode cX10_image 219 = .ok (.invokevirtual 282, 3) := by decide +kernel
theorem dX10_image_222 : decode cX10_image 222 = .ok (.aload_n 0, 1) := by decide +kernel
theorem dX10_image_223 : decode cX10_image 223 = .ok (.getfield 74, 3) := by decide +kernel
theorem dX10_image_226 : decode cX10_image 226 = .ok (.ireturn, 1) := by decide +kernel
theorem dX10_putOctet_0 : decode cX10_putOctet 0 = .ok (.aload_n 0, 1) := by decide +kernel
theorem dX10_putOctet_1 : decode cX10_putOctet 1 = .ok (.getfield 74, 3) := by decide +kernel
theorem dX10_putOctet_4 : decode cX10_putOctet 4 = .ok (.sipush 512, 3) := by decide +kernel
theorem dX10_putOctet_7 : decode cX10_putOctet 7 = .ok (.if_icmp .ge 23, 3) := by decide +kernel
theorem dX10_putOctet_10 : decode cX10_putOctet 10 = .ok (.aload_n 0, 1) := by decide +kernel
theorem dX10_putOctet_11 : decode cX10_putOctet 11 = .ok (.getfield 71, 3) := by decide +kernel
theorem dX10_putOctet_14 : decode cX10_putOctet 14 = .ok (.aload_n 0, 1) := by decide +kernel
theorem dX10_putOctet_15 : decode cX10_putOctet 15 = .ok (.getfield 74, 3) := by decide +kernel
theorem dX10_putOctet_18 : decode cX10_putOctet 18 = .ok (.iload_n 1, 1) := by decide +kernel
theorem dX10_putOctet_19 : decode cX10_putOctet 19 = .ok (.iastore, 1) := by decide +kernel
theorem dX10_putOctet_20 : decode cX10_putOctet 20 = .ok (.aload_n 0, 1) := by decide +kernel
theorem dX10_putOctet_21 : decode cX10_putOctet 21 = .ok (.dup, 1) := by decide +kernel
theorem dX10_putOctet_22 : decode cX10_putOctet 22 = .ok (.getfield 74, 3) := by decide +kernel
theorem dX10_putOctet_25 : decode cX10_putOctet 25 = .ok (.iconst 1, 1) := by decide +kernel
theorem dX10_putOctet_26 : decode cX10_putOctet 26 = .ok (.iadd, 1) := by decide +kernel
theorem dX10_putOctet_27 : decode cX10_putOctet 27 = .ok (.putfield 74, 3) := by decide +kernel
theorem dX10_putOctet_30 : decode cX10_putOctet 30 = .ok (.return_, 1) := by decide +kernel
theorem dX10_octet_0 : decode cX10_octet 0 = .ok (.iload_n 1, 1) := by decide +kernel
theorem dX10_octet_1 : decode cX10_octet 1 = .ok (.ifCond .lt 20, 3) := by decide +kernel
theorem dX10_octet_4 : decode cX10_octet 4 = .ok (.iload_n 1, 1) := by decide +kernel
theorem dX10_octet_5 : decode cX10_octet 5 = .ok (.aload_n 0, 1) := by decide +kernel
theorem dX10_octet_6 : decode cX10_octet 6 = .ok (.getfield 74, 3) := by decide +kernel
theorem dX10_octet_9 : decode cX10_octet 9 = .ok (.if_icmp .ge 12, 3) := by decide +kernel
theorem dX10_octet_12 : decode cX10_octet 12 = .ok (.aload_n 0, 1) := by decide +kernel
theorem dX10_octet_13 : decode cX10_octet 13 = .ok (.getfield 71, 3) := by decide +kernel
theorem dX10_octet_16 : decode cX10_octet 16 = .ok (.iload_n 1, 1) := by decide +kernel
theorem dX10_octet_17 : decode cX10_octet 17 = .ok (.iaload, 1) := by decide +kernel
theorem dX10_octet_18 : decode cX10_octet 18 = .ok (.goto 4, 3) := by decide +kernel
theorem dX10_octet_21 : decode cX10_octet 21 = .ok (.iconst (-1), 1) := by decide +kernel
theorem dX10_octet_22 : decode cX10_octet 22 = .ok (.ireturn, 1) := by decide +kernel
theorem dX10_on_0 : decode cX10_on 0 = .ok (.aload_n 0, 1) := by decide +kernel
theorem dX10_on_1 : decode cX10_on 1 = .ok (.getfield 13, 3) := by decide +kernel
theorem dX10_on_4 : decode cX10_on 4 = .ok (.istore_n 1, 1) := by decide +kernel
theorem dX10_on_5 : decode cX10_on 5 = .ok (.aload_n 0, 1) := by decide +kernel
theorem dX10_on_6 : decode cX10_on 6 = .ok (.iconst 0, 1) := by decide +kernel
theorem dX10_on_7 : decode cX10_on 7 = .ok (.putfield 13, 3) := by decide +kernel
theorem dX10_on_10 : decode cX10_on 10 = .ok (.aload_n 0, 1) := by decide +kernel
theorem dX10_on_11 : decode cX10_on 11 = .ok (.getfield 9, 3) := by decide +kernel
theorem dX10_on_14 : decode cX10_on 14 = .ok (.iload_n 1, 1) := by decide +kernel
theorem dX10_on_15 : decode cX10_on 15 = .ok (.aload_n 0, 1) := by decide +kernel
theorem dX10_on_16 : decode cX10_on 16 = .ok (.getfield 20, 3) := by decide +kernel
theorem dX10_on_19 : decode cX10_on 19 = .ok (.aload_n 0, 1) := by decide +kernel
theorem dX10_on_20 : decode cX10_on 20 = .ok (.getfield 37, 3) := by decide +kernel
theorem dX10_on_23 : decode cX10_on 23 = .ok (.invokestatic 290, 3) := by decide +kernel
theorem dX10_on_26 : decode cX10_on 26 = .ok (.ifCond .ne 11, 3) := by decide +kernel
theorem dX10_on_29 : decode cX10_on 29 = .ok (.aload_n 0, 1) := by decide +kernel
theorem dX10_on_30 : decode cX10_on 30 = .ok (.iconst 5, 1) := by decide +kernel
theorem dX10_on_31 : decode cX10_on 31 = .ok (.invokevirtual 80, 3) := by decide +kernel
theorem dX10_on_34 : decode cX10_on 34 = .ok (.pop, 1) := by decide +kernel
theorem dX10_on_35 : decode cX10_on 35 = .ok (.iconst 0, 1) := by decide +kernel
theorem dX10_on_36 : decode cX10_on 36 = .ok (.ireturn, 1) := by decide +kernel
theorem dX10_on_37 : decode cX10_on 37 = .ok (.aload_n 0, 1) := by decide +kernel
theorem dX10_on_38 : decode cX10_on 38 = .ok (.getfield 33, 3) := by decide +kernel
theorem dX10_on_41 : decode cX10_on 41 = .ok (.aload_n 0, 1) := by decide +kernel
theorem dX10_on_42 : decode cX10_on 42 = .ok (.getfield 37, 3) := by decide +kernel
theorem dX10_on_45 : decode cX10_on 45 = .ok (.invokevirtual 186, 3) := by decide +kernel
theorem dX10_on_48 : decode cX10_on 48 = .ok (.aload_n 0, 1) := by decide +kernel
theorem dX10_on_49 : decode cX10_on 49 = .ok (.iconst 0, 1) := by decide +kernel
theorem dX10_on_50 : decode cX10_on 50 = .ok (.putfield 58, 3) := by decide +kernel
theorem dX10_on_53 : decode cX10_on 53 = .ok (.iconst 1, 1) := by decide +kernel
theorem dX10_on_54 : decode cX10_on 54 = .ok (.ireturn, 1) := by decide +kernel
theorem dX10_status_0 : decode cX10_status 0 = .ok (.iload_n 1, 1) := by decide +kernel
theorem dX10_status_1 : decode cX10_status 1 = .ok (.ifCond .lt 18, 3) := by decide +kernel
theorem dX10_status_4 : decode cX10_status 4 = .ok (.iload_n 1, 1) := by decide +kernel
theorem dX10_status_5 : decode cX10_status 5 = .ok (.bipush 6, 2) := by decide +kernel
theorem dX10_status_7 : decode cX10_status 7 = .ok (.if_icmp .ge 12, 3) := by decide +kernel
theorem dX10_status_10 : decode cX10_status 10 = .ok (.aload_n 0, 1) := by decide +kernel
theorem dX10_status_11 : decode cX10_status 11 = .ok (.getfield 77, 3) := by decide +kernel
theorem dX10_status_14 : decode cX10_status 14 = .ok (.iload_n 1, 1) := by decide +kernel
theorem dX10_status_15 : decode cX10_status 15 = .ok (.iaload, 1) := by decide +kernel
theorem dX10_status_16 : decode cX10_status 16 = .ok (.goto 4, 3) := by decide +kernel
theorem dX10_status_19 : decode cX10_status 19 = .ok (.iconst (-1), 1) := by decide +kernel
theorem dX10_status_20 : decode cX10_status 20 = .ok (.ireturn, 1) := by decide +kernel
theorem dX10_refuse_0 : decode cX10_refuse 0 = .ok (.iload_n 1, 1) := by decide +kernel
theorem dX10_refuse_1 : decode cX10_refuse 1 = .ok (.ifCond .lt 19, 3) := by decide +kernel
theorem dX10_refuse_4 : decode cX10_refuse 4 = .ok (.iload_n 1, 1) := by decide +kernel
theorem dX10_refuse_5 : decode cX10_refuse 5 = .ok (.bipush 6, 2) := by decide +kernel
theorem dX10_refuse_7 : decode cX10_refuse 7 = .ok (.if_icmp .ge 13, 3) := by decide +kernel
theorem dX10_refuse_10 : decode cX10_refuse 10 = .ok (.aload_n 0, 1) := by decide +kernel
theorem dX10_refuse_11 : decode cX10_refuse 11 = .ok (.getfield 77, 3) := by decide +kernel
theorem dX10_refuse_14 : decode cX10_refuse 14 = .ok (.iload_n 1, 1) := by decide +kernel
theorem dX10_refuse_15 : decode cX10_refuse 15 = .ok (.dup2, 1) := by decide +kernel
theorem dX10_refuse_16 : decode cX10_refuse 16 = .ok (.iaload, 1) := by decide +kernel
theorem dX10_refuse_17 : decode cX10_refuse 17 = .ok (.iconst 1, 1) := by decide +kernel
theorem dX10_refuse_18 : decode cX10_refuse 18 = .ok (.iadd, 1) := by decide +kernel
theorem dX10_refuse_19 : decode cX10_refuse 19 = .ok (.iastore, 1) := by decide +kernel
theorem dX10_refuse_20 : decode cX10_refuse 20 = .ok (.iconst (-1), 1) := by decide +kernel
theorem dX10_refuse_21 : decode cX10_refuse 21 = .ok (.ireturn, 1) := by decide +kernel
theorem dJ9_floorDiv_7cf53_0 : decode cJ9_floorDiv_7cf53 0 = .ok (.iload_n 0, 1) := by decide +kernel
theorem dJ9_floorDiv_7cf53_1 : decode cJ9_floorDiv_7cf53 1 = .ok (.iload_n 1, 1) := by decide +kernel
theorem dJ9_floorDiv_7cf53_2 : decode cJ9_floorDiv_7cf53 2 = .ok (.idiv, 1) := by decide +kernel
theorem dJ9_floorDiv_7cf53_3 : decode cJ9_floorDiv_7cf53 3 = .ok (.istore_n 2, 1) := by decide +kernel
theorem dJ9_floorDiv_7cf53_4 : decode cJ9_floorDiv_7cf53 4 = .ok (.iload_n 0, 1) := by decide +kernel
theorem dJ9_floorDiv_7cf53_5 : decode cJ9_floorDiv_7cf53 5 = .ok (.iload_n 1, 1) := by decide +kernel
theorem dJ9_floorDiv_7cf53_6 : decode cJ9_floorDiv_7cf53 6 = .ok (.ixor, 1) := by decide +kernel
theorem dJ9_floorDiv_7cf53_7 : decode cJ9_floorDiv_7cf53 7 = .ok (.ifCond .ge 14, 3) := by decide +kernel
theorem dJ9_floorDiv_7cf53_10 : decode cJ9_floorDiv_7cf53 10 = .ok (.iload_n 2, 1) := by decide +kernel
theorem dJ9_floorDiv_7cf53_11 : decode cJ9_floorDiv_7cf53 11 = .ok (.iload_n 1, 1) := by decide +kernel
theorem dJ9_floorDiv_7cf53_12 : decode cJ9_floorDiv_7cf53 12 = .ok (.imul, 1) := by decide +kernel
theorem dJ9_floorDiv_7cf53_13 : decode cJ9_floorDiv_7cf53 13 = .ok (.iload_n 0, 1) := by decide +kernel
theorem dJ9_floorDiv_7cf53_14 : decode cJ9_floorDiv_7cf53 14 = .ok (.if_icmp .eq 7, 3) := by decide +kernel
theorem dJ9_floorDiv_7cf53_17 : decode cJ9_floorDiv_7cf53 17 = .ok (.iload_n 2, 1) := by decide +kernel
theorem dJ9_floorDiv_7cf53_18 : decode cJ9_floorDiv_7cf53 18 = .ok (.iconst 1, 1) := by decide +kernel
theorem dJ9_floorDiv_7cf53_19 : decode cJ9_floorDiv_7cf53 19 = .ok (.isub, 1) := by decide +kernel
theorem dJ9_floorDiv_7cf53_20 : decode cJ9_floorDiv_7cf53 20 = .ok (.ireturn, 1) := by decide +kernel
theorem dJ9_floorDiv_7cf53_21 : decode cJ9_floorDiv_7cf53 21 = .ok (.iload_n 2, 1) := by decide +kernel
theorem dJ9_floorDiv_7cf53_22 : decode cJ9_floorDiv_7cf53 22 = .ok (.ireturn, 1) := by decide +kernel
theorem dJ9_floorMod_7cf53_0 : decode cJ9_floorMod_7cf53 0 = .ok (.iload_n 0, 1) := by decide +kernel
theorem dJ9_floorMod_7cf53_1 : decode cJ9_floorMod_7cf53 1 = .ok (.iload_n 1, 1) := by decide +kernel
theorem dJ9_floorMod_7cf53_2 : decode cJ9_floorMod_7cf53 2 = .ok (.irem, 1) := by decide +kernel
theorem dJ9_floorMod_7cf53_3 : decode cJ9_floorMod_7cf53 3 = .ok (.istore_n 2, 1) := by decide +kernel
theorem dJ9_floorMod_7cf53_4 : decode cJ9_floorMod_7cf53 4 = .ok (.iload_n 0, 1) := by decide +kernel
theorem dJ9_floorMod_7cf53_5 : decode cJ9_floorMod_7cf53 5 = .ok (.iload_n 1, 1) := by decide +kernel
theorem dJ9_floorMod_7cf53_6 : decode cJ9_floorMod_7cf53 6 = .ok (.ixor, 1) := by decide +kernel
theorem dJ9_floorMod_7cf53_7 : decode cJ9_floorMod_7cf53 7 = .ok (.ifCond .ge 11, 3) := by decide +kernel
theorem dJ9_floorMod_7cf53_10 : decode cJ9_floorMod_7cf53 10 = .ok (.iload_n 2, 1) := by decide +kernel
theorem dJ9_floorMod_7cf53_11 : decode cJ9_floorMod_7cf53 11 = .ok (.ifCond .eq 7, 3) := by decide +kernel
theorem dJ9_floorMod_7cf53_14 : decode cJ9_floorMod_7cf53 14 = .ok (.iload_n 2, 1) := by decide +kernel
theorem dJ9_floorMod_7cf53_15 : decode cJ9_floorMod_7cf53 15 = .ok (.iload_n 1, 1) := by decide +kernel
theorem dJ9_floorMod_7cf53_16 : decode cJ9_floorMod_7cf53 16 = .ok (.iadd, 1) := by decide +kernel
theorem dJ9_floorMod_7cf53_17 : decode cJ9_floorMod_7cf53 17 = .ok (.ireturn, 1) := by decide +kernel
theorem dJ9_floorMod_7cf53_18 : decode cJ9_floorMod_7cf53 18 = .ok (.iload_n 2, 1) := by decide +kernel
theorem dJ9_floorMod_7cf53_19 : decode cJ9_floorMod_7cf53 19 = .ok (.ireturn, 1) := by decide +kernel
