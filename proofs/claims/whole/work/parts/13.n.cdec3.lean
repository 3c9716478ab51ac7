theorem dX8_markOwnWord_14 : decode cX8_markOwnWord 14 = .ok (.iload_n 3, 1) := by decide +kernel
theorem dX8_markOwnWord_15 : decode cX8_markOwnWord 15 = .ok (.iaload, 1) := by decide +kernel
theorem dX8_markOwnWord_16 : decode cX8_markOwnWord 16 = .ok (.iconst 3, 1) := by decide +kernel
theorem dX8_markOwnWord_17 : decode cX8_markOwnWord 17 = .ok (.if_icmp .ne 27, 3) := by decide +kernel
theorem dX8_markOwnWord_20 : decode cX8_markOwnWord 20 = .ok (.aload_n 0, 1) := by decide +kernel
theorem dX8_markOwnWord_21 : decode cX8_markOwnWord 21 = .ok (.getfield 23, 3) := by decide +kernel
theorem dX8_markOwnWord_24 : decode cX8_markOwnWord 24 = .ok (.iload_n 3, 1) := by decide +kernel
theorem dX8_markOwnWord_25 : decode cX8_markOwnWord 25 = .ok (.iaload, 1) := by decide +kernel
theorem dX8_markOwnWord_26 : decode cX8_markOwnWord 26 = .ok (.iload_n 1, 1) := by decide +kernel
theorem dX8_markOwnWord_27 : decode cX8_markOwnWord 27 = .ok (.if_icmp .ne 17, 3) := by decide +kernel
theorem dX8_markOwnWord_30 : decode cX8_markOwnWord 30 = .ok (.aload_n 0, 1) := by decide +kernel
theorem dX8_markOwnWord_31 : decode cX8_markOwnWord 31 = .ok (.getfield 19, 3) := by decide +kernel
theorem dX8_markOwnWord_34 : decode cX8_markOwnWord 34 = .ok (.iload_n 3, 1) := by decide +kernel
theorem dX8_markOwnWord_35 : decode cX8_markOwnWord 35 = .ok (.iconst 4, 1) := by decide +kernel
theorem dX8_markOwnWord_36 : decode cX8_markOwnWord 36 = .ok (.iastore, 1) := by decide +kernel
theorem dX8_markOwnWord_37 : decode cX8_markOwnWord 37 = .ok (.aload_n 0, 1) := by decide +kernel
theorem dX8_markOwnWord_38 : decode cX8_markOwnWord 38 = .ok (.getfield 23, 3) := by decide +kernel
theorem dX8_markOwnWord_41 : decode cX8_markOwnWord 41 = .ok (.iload_n 3, 1) := by decide +kernel
theorem dX8_markOwnWord_42 : decode cX8_markOwnWord 42 = .ok (.iload_n 2, 1) := by decide +kernel
theorem dX8_markOwnWord_43 : decode cX8_markOwnWord 43 = .ok (.iastore, 1) := by decide +kernel
theorem dX8_markOwnWord_44 : decode cX8_markOwnWord 44 = .ok (.iinc 3 1, 3) := by decide +kernel
theorem dX8_markOwnWord_47 : decode cX8_markOwnWord 47 = .ok (.goto (-45), 3) := by decide +kernel
theorem dX8_markOwnWord_50 : decode cX8_markOwnWord 50 = .ok (.return_, 1) := by decide +kernel
theorem dX9_isTown_0 : decode cX9_isTown 0 = .ok (.iload_n 1, 1) := by decide +kernel
theorem dX9_isTown_1 : decode cX9_isTown 1 = .ok (.ifCond .lt 21, 3) := by decide +kernel
theorem dX9_isTown_4 : decode cX9_isTown 4 = .ok (.iload_n 1, 1) := by decide +kernel
theorem dX9_isTown_5 : decode cX9_isTown 5 = .ok (.aload_n 0, 1) := by decide +kernel
theorem dX9_isTown_6 : decode cX9_isTown 6 = .ok (.getfield 9, 3) := by decide +kernel
theorem dX9_isTown_9 : decode cX9_isTown 9 = .ok (.if_icmp .ge 13, 3) := by decide +kernel
theorem dX9_isTown_12 : decode cX9_isTown 12 = .ok (.iload_n 1, 1) := by decide +kernel
theorem dX9_isTown_13 : decode cX9_isTown 13 = .ok (.bipush 6, 2) := by decide +kernel
theorem dX9_isTown_15 : decode cX9_isTown 15 = .ok (.if_icmp .ge 7, 3) := by decide +kernel
theorem dX9_isTown_18 : decode cX9_isTown 18 = .ok (.iconst 1, 1) := by decide +kernel
theorem dX9_isTown_19 : decode cX9_isTown 19 = .ok (.goto 4, 3) := by decide +kernel
theorem dX9_isTown_22 : decode cX9_isTown 22 = .ok (.iconst 0, 1) := by decide +kernel
theorem dX9_isTown_23 : decode cX9_isTown 23 = .ok (.ireturn, 1) := by decide +kernel
theorem dX9_isPair_0 : decode cX9_isPair 0 = .ok (.aload_n 0, 1) := by decide +kernel
theorem dX9_isPair_1 : decode cX9_isPair 1 = .ok (.iload_n 1, 1) := by decide +kernel
theorem dX9_isPair_2 : decode cX9_isPair 2 = .ok (.invokevirtual 46, 3) := by decide +kernel
theorem dX9_isPair_5 : decode cX9_isPair 5 = .ok (.ifCond .eq 20, 3) := by decide +kernel
theorem dX9_isPair_8 : decode cX9_isPair 8 = .ok (.aload_n 0, 1) := by decide +kernel
theorem dX9_isPair_9 : decode cX9_isPair 9 = .ok (.iload_n 2, 1) := by decide +kernel
theorem dX9_isPair_10 : decode cX9_isPair 10 = .ok (.invokevirtual 46, 3) := by decide +kernel
theorem dX9_isPair_13 : decode cX9_isPair 13 = .ok (.ifCond .eq 12, 3) := by decide +kernel
theorem dX9_isPair_16 : decode cX9_isPair 16 = .ok (.iload_n 1, 1) := by decide +kernel
theorem dX9_isPair_17 : decode cX9_isPair 17 = .ok (.iload_n 2, 1) := by decide +kernel
theorem dX9_isPair_18 : decode cX9_isPair 18 = .ok (.if_icmp .eq 7, 3) := by decide +kernel
theorem dX9_isPair_21 : decode cX9_isPair 21 = .ok (.iconst 1, 1) := by decide +kernel
theorem dX9_isPair_22 : decode cX9_isPair 22 = .ok (.goto 4, 3) := by decide +kernel
theorem dX9_isPair_25 : decode cX9_isPair 25 = .ok (.iconst 0, 1) := by decide +kernel
theorem dX9_isPair_26 : decode cX9_isPair 26 = .ok (.ireturn, 1) := by decide +kernel
theorem dX9_townNamed_0 : decode cX9_townNamed 0 = .ok (.iconst 0, 1) := by decide +kernel
theorem dX9_townNamed_1 : decode cX9_townNamed 1 = .ok (.istore_n 2, 1) := by decide +kernel
theorem dX9_townNamed_2 : decode cX9_townNamed 2 = .ok (.iload_n 2, 1) := by decide +kernel
theorem dX9_townNamed_3 : decode cX9_townNamed 3 = .ok (.aload_n 0, 1) := by decide +kernel
theorem dX9_townNamed_4 : decode cX9_townNamed 4 = .ok (.getfield 9, 3) := by decide +kernel
theorem dX9_townNamed_7 : decode cX9_townNamed 7 = .ok (.if_icmp .ge 27, 3) := by decide +kernel
theorem dX9_townNamed_10 : decode cX9_townNamed 10 = .ok (.iload_n 2, 1) := by decide +kernel
theorem dX9_townNamed_11 : decode cX9_townNamed 11 = .ok (.bipush 6, 2) := by decide +kernel
theorem dX9_townNamed_13 : decode cX9_townNamed 13 = .ok (.if_icmp .ge 21, 3) := by decide +kernel
theorem dX9_townNamed_16 : decode cX9_townNamed 16 = .ok (.aload_n 0, 1) := by decide +kernel
theorem dX9_townNamed_17 : decode cX9_townNamed 17 = .ok (.getfield 27, 3) := by decide +kernel
theorem dX9_townNamed_20 : decode cX9_townNamed 20 = .ok (.iload_n 2, 1) := by decide +kernel
theorem dX9_townNamed_21 : decode cX9_townNamed 21 = .ok (.iaload, 1) := by decide +kernel
theorem dX9_townNamed_22 : decode cX9_townNamed 22 = .ok (.iload_n 1, 1) := by decide +kernel
theorem dX9_townNamed_23 : decode cX9_townNamed 23 = .ok (.if_icmp .ne 5, 3) := by decide +kernel
theorem dX9_townNamed_26 : decode cX9_townNamed 26 = .ok (.iload_n 2, 1) := by decide +kernel
theorem dX9_townNamed_27 : decode cX9_townNamed 27 = .ok (.ireturn, 1) := by decide +kernel
theorem dX9_townNamed_28 : decode cX9_townNamed 28 = .ok (.iinc 2 1, 3) := by decide +kernel
theorem dX9_townNamed_31 : decode cX9_townNamed 31 = .ok (.goto (-29), 3) := by decide +kernel
theorem dX9_townNamed_34 : decode cX9_townNamed 34 = .ok (.iconst (-1), 1) := by decide +kernel
theorem dX9_townNamed_35 : decode cX9_townNamed 35 = .ok (.ireturn, 1) := by decide +kernel
theorem dX9_findWays_0 : decode cX9_findWays 0 = .ok (.iconst 0, 1) := by decide +kernel
theorem dX9_findWays_1 : decode cX9_findWays 1 = .ok (.istore_n 1, 1) := by decide +kernel
theorem dX9_findWays_2 : decode cX9_findWays 2 = .ok (.iload_n 1, 1) := by decide +kernel
theorem dX9_findWays_3 : decode cX9_findWays 3 = .ok (.bipush 6, 2) := by decide +kernel
theorem dX9_findWays_5 : decode cX9_findWays 5 = .ok (.if_icmp .ge 123, 3) := by decide +kernel
theorem dX9_findWays_8 : decode cX9_findWays 8 = .ok (.iconst 0, 1) := by decide +kernel
theorem dX9_findWays_9 : decode cX9_findWays 9 = .ok (.istore_n 2, 1) := by decide +kernel
theorem dX9_findWays_10 : decode cX9_findWays 10 = .ok (.iload_n 2, 1) := by decide +kernel
theorem dX9_findWays_11 : decode cX9_findWays 11 = .ok (.bipush 36, 2) := by decide +kernel
theorem dX9_findWays_13 : decode cX9_findWays 13 = .ok (.if_icmp .ge 109, 3) := by decide +kernel
theorem dX9_findWays_16 : decode cX9_findWays 16 = .ok (.iload_n 2, 1) := by decide +kernel
theorem dX9_findWays_17 : decode cX9_findWays 17 = .ok (.bipush 6, 2) := by decide +kernel
theorem dX9_findWays_19 : decode cX9_findWays 19 = .ok (.idiv, 1) := by decide +kernel
theorem dX9_findWays_20 : decode cX9_findWays 20 = .ok (.istore_n 3, 1) := by decide +kernel
theorem dX9_findWays_21 : decode cX9_findWays 21 = .ok (.iload_n 2, 1) := by decide +kernel
theorem dX9_findWays_22 : decode cX9_findWays 22 = .ok (.bipush 6, 2) := by decide +kernel
theorem dX9_findWays_24 : decode cX9_findWays 24 = .ok (.irem, 1) := by decide +kernel
theorem dX9_findWays_25 : decode cX9_findWays 25 = .ok (.istore 4, 2) := by decide +kernel
theorem dX9_findWays_27 : decode cX9_findWays 27 = .ok (.aload_n 0, 1) := by decide +kernel
theorem dX9_findWays_28 : decode cX9_findWays 28 = .ok (.getfield 34, 3) := by decide +kernel
theorem dX9_findWays_31 : decode cX9_findWays 31 = .ok (.iload_n 3, 1) := by decide +kernel
theorem dX9_findWays_32 : decode cX9_findWays 32 = .ok (.bipush 6, 2) := by decide +kernel
theorem dX9_findWays_34 : decode cX9_findWays 34 = .ok (.imul, 1) := by decide +kernel
theorem dX9_findWays_35 : decode cX9_findWays 35 = .ok (.iload_n 1, 1) := by decide +kernel
theorem dX9_findWays_36 : decode cX9_findWays 36 = .ok (.iadd, 1) := by decide +kernel
theorem dX9_findWays_37 : decode cX9_findWays 37 = .ok (.iaload, 1) := by decide +kernel
theorem dX9_findWays_38 : decode cX9_findWays 38 = .ok (.istore 5, 2) := by decide +kernel
theorem dX9_findWays_40 : decode cX9_findWays 40 = .ok (.aload_n 0, 1) := by decide +kernel
theorem dX9_findWays_41 : decode cX9_findWays 41 = .ok (.getfield 34, 3) := by decide +kernel
theorem dX9_findWays_44 : decode cX9_findWays 44 = .ok (.iload_n 1, 1) := by decide +kernel
theorem dX9_findWays_45 : decode cX9_findWays 45 = .ok (.bipush 6, 2) := by decide +kernel
theorem dX9_findWays_47 : decode cX9_findWays 47 = .ok (.imul, 1) := by decide +kernel
theorem dX9_findWays_48 : decode cX9_findWays 48 = .ok (.iload 4, 2) := by decide +kernel
theorem dX9_findWays_50 : decode cX9_findWays 50 = .ok (.iadd, 1) := by decide +kernel
theorem dX9_findWays_51 : decode cX9_findWays 51 = .ok (.iaload, 1) := by decide +kernel
theorem dX9_findWays_52 : decode cX9_findWays 52 = .ok (.istore 6, 2) := by decide +kernel
theorem dX9_findWays_54 : decode cX9_findWays 54 = .ok (.iload_n 3, 1) := by decide +kernel
theorem dX9_findWays_55 : decode cX9_findWays 55 = .ok (.iload 4, 2) := by decide +kernel
theorem dX9_findWays_57 : decode cX9_findWays 57 = .ok (.if_icmp .eq 17, 3) := by decide +kernel
theorem dX9_findWays_60 : decode cX9_findWays 60 = .ok (.iload 5, 2) := by decide +kernel
theorem dX9_findWays_62 : decode cX9_findWays 62 = .ok (.ifCond .le 12, 3) := by decide +kernel
theorem dX9_findWays_65 : decode cX9_findWays 65 = .ok (.iload 6, 2) := by decide +kernel
theorem dX9_findWays_67 : decode cX9_findWays 67 = .ok (.ifCond .le 7, 3) := by decide +kernel
theorem dX9_findWays_70 : decode cX9_findWays 70 = .ok (.iconst 1, 1) := by decide +kernel
theorem dX9_findWays_71 : decode cX9_findWays 71 = .ok (.goto 4, 3) := by decide +kernel
theorem dX9_findWays_74 : decode cX9_findWays 74 = .ok (.iconst 0, 1) := by decide +kernel
theorem dX9_findWays_75 : decode cX9_findWays 75 = .ok (.istore 7, 2) := by decide +kernel
theorem dX9_findWays_77 : decode cX9_findWays 77 = .ok (.iload 7, 2) := by decide +kernel
theorem dX9_findWays_79 : decode cX9_findWays 79 = .ok (.ifCond .eq 37, 3) := by decide +kernel
theorem dX9_findWays_82 : decode cX9_findWays 82 = .ok (.aload_n 0, 1) := by decide +kernel
theorem dX9_findWays_83 : decode cX9_findWays 83 = .ok (.getfield 34, 3) := by decide +kernel
theorem dX9_findWays_86 : decode cX9_findWays 86 = .ok (.iload_n 2, 1) := by decide +kernel
theorem dX9_findWays_87 : decode cX9_findWays 87 = .ok (.iaload, 1) := by decide +kernel
theorem dX9_findWays_88 : decode cX9_findWays 88 = .ok (.ifCond .eq 17, 3) := by decide +kernel
theorem dX9_findWays_91 : decode cX9_findWays 91 = .ok (.iload 5, 2) := by decide +kernel
theorem dX9_findWays_93 : decode cX9_findWays 93 = .ok (.iload 6, 2) := by decide +kernel
theorem dX9_findWays_95 : decode cX9_findWays 95 = .ok (.iadd, 1) := by decide +kernel
theorem dX9_findWays_96 : decode cX9_findWays 96 = .ok (.aload_n 0, 1) := by decide +kernel
theorem dX9_findWays_97 : decode cX9_findWays 97 = .ok (.getfield 34, 3) := by decide +kernel
theorem dX9_findWays_100 : decode cX9_findWays 100 = .ok (.iload_n 2, 1) := by decide +kernel
theorem dX9_findWays_101 : decode cX9_findWays 101 = .ok (.iaload, 1) := by decide +kernel
theorem dX9_findWays_102 : decode cX9_findWays 102 = .ok (.if_icmp .ge 14, 3) := by decide +kernel
theorem dX9_findWays_105 : decode cX9_findWays 105 = .ok (.aload_n 0, 1) := by decide +kernel
theorem dX9_findWays_106 : decode cX9_findWays 106 = .ok (.getfield 34, 3) := by decide +kernel
theorem dX9_findWays_109 : decode cX9_findWays 109 = .ok (.iload_n 2, 1) := by decide +kernel
theorem dX9_findWays_110 : decode cX9_findWays 110 = .ok (.iload 5, 2) := by decide +kernel
theorem dX9_findWays_112 : decode cX9_findWays 112 = .ok (.iload 6, 2) := by decide +kernel
theorem dX9_findWays_114 : decode cX9_findWays 114 = .ok (.iadd, 1) := by decide +kernel
theorem dX9_findWays_115 : decode cX9_findWays 115 = .ok (.iastore, 1) := by decide +kernel
theorem dX9_findWays_116 : decode cX9_findWays 116 = .ok (.iinc 2 1, 3) := by decide +kernel
theorem dX9_findWays_119 : decode cX9_findWays 119 = .ok (.goto (-109), 3) := by decide +kernel
theorem dX9_findWays_122 : decode cX9_findWays 122 = .ok (.iinc 1 1, 3) := by decide +kernel
theorem dX9_findWays_125 : decode cX9_findWays 125 = .ok (.goto (-123), 3) := by decide +kernel
theorem dX9_findWays_128 : decode cX9_findWays 128 = .ok (.return_, 1) := by decide +kernel
theorem dX10_feed_0 : decode cX10_feed 0 = .ok (.aload_n 0, 1) := by decide +kernel
theorem dX10_feed_1 : decode cX10_feed 1 = .ok (.getfield 13, 3) := by decide +kernel
theorem dX10_feed_4 : decode cX10_feed 4 = .ok (.bipush 20, 2) := by decide +kernel
theorem dX10_feed_6 : decode cX10_feed 6 = .ok (.iadd, 1) := by decide +kernel
theorem dX10_feed_7 : decode cX10_feed 7 = .ok (.sipush 1600, 3) := by decide +kernel
theorem dX10_feed_10 : decode cX10_feed 10 = .ok (.if_icmp .le 9, 3) := by decide +kernel
theorem dX10_feed_13 : decode cX10_feed 13 = .ok (.aload_n 0, 1) := by decide +kernel
theorem dX10_feed_14 : decode cX10_feed 14 = .ok (.iconst 0, 1) := by decide +kernel
theorem dX10_feed_15 : decode cX10_feed 15 = .ok (.invokevirtual 80, 3) := by decide +kernel
theorem dX10_feed_18 : decode cX10_feed 18 = .ok (.ireturn, 1) := by decide +kernel
theorem dX10_feed_19 : decode cX10_feed 19 = .ok (.aload_n 0, 1) := by decide +kernel
theorem dX10_feed_20 : decode cX10_feed 20 = .ok (.iload_n 1, 1) := by decide +kernel
theorem dX10_feed_21 : decode cX10_feed 21 = .ok (.invokevirtual 84, 3) := by decide +kernel
theorem dX10_feed_24 : decode cX10_feed 24 = .ok (.aload_n 0, 1) := by decide +kernel
theorem dX10_feed_25 : decode cX10_feed 25 = .ok (.iload_n 2, 1) := by decide +kernel
theorem dX10_feed_26 : decode cX10_feed 26 = .ok (.invokevirtual 84, 3) := by decide +kernel
theorem dX10_feed_29 : decode cX10_feed 29 = .ok (.aload_n 0, 1) := by decide +kernel
theorem dX10_feed_30 : decode cX10_feed 30 = .ok (.iload_n 3, 1) := by decide +kernel
theorem dX10_feed_31 : decode cX10_feed 31 = .ok (.invokevirtual 84, 3) := by decide +kernel
theorem dX10_feed_34 : decode cX10_feed 34 = .ok (.aload_n 0, 1) := by decide +kernel
theorem dX10_feed_35 : decode cX10_feed 35 = .ok (.iload 4, 2) := by decide +kernel
theorem dX10_feed_37 : decode cX10_feed 37 = .ok (.invokevirtual 84, 3) := by decide +kernel
theorem dX10_feed_40 : decode cX10_feed 40 = .ok (.aload_n 0, 1) := by decide +kernel
theorem dX10_feed_41 : decode cX10_feed 41 = .ok (.iload 5, 2) := by decide +kernel
theorem dX10_feed_43 : decode cX10_feed 43 = .ok (.invokevirtual 84, 3) := by decide +kernel
theorem dX10_feed_46 : decode cX10_feed 46 = .ok (.aload_n 0, 1) := by decide +kernel
theorem dX10_feed_47 : decode cX10_feed 47 = .ok (.getfield 13, 3) := by decide +kernel
theorem dX10_feed_50 : decode cX10_feed 50 = .ok (.ireturn, 1) := by decide +kernel
theorem dX10_putNumber_0 : decode cX10_putNumber 0 = .ok (.bipush 24, 2) := by decide +kernel
theorem dX10_putNumber_2 : decode cX10_putNumber 2 = .ok (.istore_n 2, 1) := by decide +kernel
theorem dX10_putNumber_3 : decode cX10_putNumber 3 = .ok (.iload_n 2, 1) := by decide +kernel
theorem dX10_putNumber_4 : decode cX10_putNumber 4 = .ok (.ifCond .lt 42, 3) := by decide +kernel
theorem dX10_putNumber_7 : decode cX10_putNumber 7 = .ok (.aload_n 0, 1) := by decide +kernel
theorem dX10_putNumber_8 : decode cX10_putNumber 8 = .ok (.getfield 13, 3) := by decide +kernel
theorem dX10_putNumber_11 : decode cX10_putNumber 11 = .ok (.sipush 1600, 3) := by decide +kernel
theorem dX10_putNumber_14 : decode cX10_putNumber 14 = .ok (.if_icmp .ge 32, 3) := by decide +kernel
theorem dX10_putNumber_17 : decode cX10_putNumber 17 = .ok (.aload_n 0, 1) := by decide +kernel
theorem dX10_putNumber_18 : decode cX10_putNumber 18 = .ok (.getfield 9, 3) := by decide +kernel
theorem dX10_putNumber_21 : decode cX10_putNumber 21 = .ok (.aload_n 0, 1) := by decide +kernel
theorem dX10_putNumber_22 : decode cX10_putNumber 22 = .ok (.getfield 13, 3) := by decide +kernel
theorem dX10_putNumber_25 : decode cX10_putNumber 25 = .ok (.iload_n 1, 1) := by decide +kernel
theorem dX10_putNumber_26 : decode cX10_putNumber 26 = .ok (.iload_n 2, 1) := by decide +kernel
theorem dX10_putNumber_27 : decode cX10_putNumber 27 = .ok (.ishr, 1) := by decide +kernel
theorem dX10_putNumber_28 : decode cX10_putNumber 28 = .ok (.i2b, 1) := by decide +kernel
theorem dX10_putNumber_29 : decode cX10_putNumber 29 = .ok (.bastore, 1) := by decide +kernel
theorem dX10_putNumber_30 : decode cX10_putNumber 30 = .ok (.aload_n 0, 1) := by decide +kernel
theorem dX10_putNumber_31 : decode cX10_putNumber 31 = .ok (.dup, 1) := by decide +kernel
theorem dX10_putNumber_32 : decode cX10_putNumber 32 = .ok (.getfield 13, 3) := by decide +kernel
theorem dX10_putNumber_35 : decode cX10_putNumber 35 = .ok (.iconst 1, 1) := by decide +kernel
theorem dX10_putNumber_36 : decode cX10_putNumber 36 = .ok (.iadd, 1) := by decide +kernel
theorem dX10_putNumber_37 : decode cX10_putNumber 37 = .ok (.putfield 13, 3) := by decide +kernel
theorem dX10_putNumber_40 : decode cX10_putNumber 40 = .ok (.iinc 2 (-8), 3) := by decide +kernel
theorem dX10_putNumber_43 : decode cX10_putNumber 43 = .ok (.goto (-40), 3) := by decide +kernel
theorem dX10_putNumber_46 : decode cX10_putNumber 46 = .ok (.return_, 1) := by decide +kernel
theorem dX10_end_0 : decode cX10_end 0 = .ok (.iload_n 1, 1) := by decide +kernel
theorem dX10_end_1 : decode cX10_end 1 = .ok (.ifCond .lt 11, 3) := by decide +kernel
theorem dX10_end_4 : decode cX10_end 4 = .ok (.iload_n 1, 1) := by decide +kernel
theorem dX10_end_5 : decode cX10_end 5 = .ok (.aload_n 0, 1) := by decide +kernel
theorem dX10_end_6 : decode cX10_end 6 = .ok (.getfield 13, 3) := by decide +kernel
theorem dX10_end_9 : decode cX10_end 9 = .ok (.if_icmp .le 11, 3) := by decide +kernel
theorem dX10_end_12 : decode cX10_end 12 = .ok (.aload_n 0, 1) := by decide +kernel
theorem dX10_end_13 : decode cX10_end 13 = .ok (.iconst 0, 1) := by decide +kernel
theorem dX10_end_14 : decode cX10_end 14 = .ok (.invokevirtual 80, 3) := by decide +kernel
theorem dX10_end_17 : decode cX10_end 17 = .ok (.pop, 1) := by decide +kernel
theorem dX10_end_18 : decode cX10_end 18 = .ok (.iconst 0, 1) := by decide +kernel
theorem dX10_end_19 : decode cX10_end 19 = .ok (.ireturn, 1) := by decide +kernel
theorem dX10_end_20 : decode cX10_end 20 = .ok (.aload_n 0, 1) := by decide +kernel
theorem dX10_end_21 : decode cX10_end 21 = .ok (.iload_n 1, 1) := by decide +kernel
theorem dX10_end_22 : decode cX10_end 22 = .ok (.putfield 13, 3) := by decide +kernel
theorem dX10_end_25 : decode cX10_end 25 = .ok (.iconst 1, 1) := by decide +kernel
theorem dX10_end_26 : decode cX10_end 26 = .ok (.ireturn, 1) := by decide +kernel
theorem dX10_fault_0 : decode cX10_fault 0 = .ok (.iload_n 1, 1) := by decide +kernel
theorem dX10_fault_1 : decode cX10_fault 1 = .ok (.ifCond .ne 8, 3) := by decide +kernel
theorem dX10_fault_4 : decode cX10_fault 4 = .ok (.aload_n 0, 1) := by decide +kernel
theorem dX10_fault_5 : decode cX10_fault 5 = .ok (.getfield 24, 3) := by decide +kernel
theorem dX10_fault_8 : decode cX10_fault 8 = .ok (.ireturn, 1) := by decide +kernel
theorem dX10_fault_9 : decode cX10_fault 9 = .ok (.iload_n 1, 1) := by decide +kernel
theorem dX10_fault_10 : decode cX10_fault 10 = .ok (.iconst 1, 1) := by decide +kernel
theorem dX10_fault_11 : decode cX10_fault 11 = .ok (.if_icmp .ne 10, 3) := by decide +kernel
theorem dX10_fault_14 : decode cX10_fault 14 = .ok (.aload_n 0, 1) := by decide +kernel
theorem dX10_fault_15 : decode cX10_fault 15 = .ok (.getfield 27, 3) := by decide +kernel
theorem dX10_fault_18 : decode cX10_fault 18 = .ok (.goto 4, 3) := by decide +kernel
theorem dX10_fault_21 : decode cX10_fault 21 = .ok (.iconst (-1), 1) := by decide +kernel
theorem dX10_fault_22 : decode cX10_fault 22 = .ok (.ireturn, 1) := by decide +kernel
theorem dX10_has_0 : decode cX10_has 0 = .ok (.iload_n 1, 1) := by decide +kernel
theorem dX10_has_1 : decode cX10_has 1 = .ok (.tableswitch 150 0 10 #[59, 67, 75, 83, 94, 102, 113, 124, 132, 137, 142], 59) := by decide +kernel
theorem dX10_has_60 : decode cX10_has 60 = .ok (.aload_n 0, 1) := by decide +kernel
theorem dX10_has_61 : decode cX10_has 61 = .ok (.getfield 20, 3) := by decide +kernel
theorem dX10_has_64 : decode cX10_has 64 = .ok (.getfield 118, 3) := by decide +kernel
theorem dX10_has_67 : decode cX10_has 67 = .ok (.ireturn, 1) := by decide +kernel
theorem dX10_has_68 : decode cX10_has 68 = .ok (.aload_n 0, 1) := by decide +kernel
theorem dX10_has_69 : decode cX10_has 69 = .ok (.getfield 20, 3) := by decide +kernel
theorem dX10_has_72 : decode cX10_has 72 = .ok (.getfield 121, 3) := by decide +kernel
theorem dX10_has_75 : decode cX10_has 75 = .ok (.ireturn, 1) := by decide +kernel
theorem dX10_has_76 : decode cX10_has 76 = .ok (.aload_n 0, 1) := by decide +kernel
theorem dX10_has_77 : decode cX10_has 77 = .ok (.getfield 33, 3) := by decide +kernel
theorem dX10_has_80 : decode cX10_has 80 = .ok (.getfield 124, 3) := by decide +kernel
theorem dX10_has_83 : decode cX10_has 83 = .ok (.ireturn, 1) := by decide +kernel
theorem dX10_has_84 : decode cX10_has 84 = .ok (.aload_n 0, 1) := by decide +kernel
theorem dX10_has_85 : decode cX10_has 85 = .ok (.getfield 33, 3) := by decide +kernel
theorem dX10_has_88 : decode cX10_has 88 = .ok (.getfield 127, 3) := by decide +kernel
theorem dX10_has_91 : decode cX10_has 91 = .ok (.invokestatic 130, 3) := by decide +kernel
theorem dX10_has_94 : decode cX10_has 94 = .ok (.ireturn, 1) := by decide +kernel
theorem dX10_has_95 : decode cX10_has 95 = .ok (.aload_n 0, 1) := by decide +kernel
theorem dX10_has_96 : decode cX10_has 96 = .ok (.getfield 33, 3) := by decide +kernel
theorem dX10_has_99 : decode cX10_has 99 = .ok (.getfield 134, 3) := by decide +kernel
theorem dX10_has_102 : decode cX10_has 102 = .ok (.ireturn, 1) := by decide +kernel
theorem dX10_has_103 : decode cX10_has 103 = .ok (.aload_n 0, 1) := by decide +kernel
theorem dX10_has_104 : decode cX10_has 104 = .ok (.getfield 33, 3) := by decide +kernel
theorem dX10_has_107 : decode cX10_has 107 = .ok (.getfield 137, 3) := by decide +kernel
theorem dX10_has_110 : decode cX10_has 110 = .ok (.invokestatic 130, 3) := by decide +kernel
theorem dX10_has_113 : decode cX10_has 113 = .ok (.ireturn, 1) := by decide +kernel
theorem dX10_has_114 : decode cX10_has 114 = .ok (.aload_n 0, 1) := by decide +kernel
theorem dX10_has_115 : decode cX10_has 115 = .ok (.getfield 33, 3) := by decide +kernel
theorem dX10_has_118 : decode cX10_has 118 = .ok (.getfield 140, 3) := by decide +kernel
theorem dX10_has_121 : decode cX10_has 121 = .ok (.invokestatic 130, 3) := by decide +kernel
theorem dX10_has_124 : decode cX10_has 124 = .ok (.ireturn, 1) := by decide +kernel
theorem dX10_has_125 : decode cX10_has 125 = .ok (.aload_n 0, 1) := by decide +kernel
theorem dX10_has_126 : decode cX10_has 126 = .ok (.getfield 33, 3) := by decide +kernel
theorem dX10_has_129 : decode cX10_has 129 = .ok (.getfield 143, 3) := by decide +kernel
theorem dX10_has_132 : decode cX10_has 132 = .ok (.ireturn, 1) := by decide +kernel
theorem dX10_has_133 : decode cX10_has 133 = .ok (.aload_n 0, 1) := by decide +kernel
theorem dX10_has_134 : decode cX10_has 134 = .ok (.getfield 68, 3) := by decide +kernel
theorem dX10_has_137 : decode cX10_has 137 = .ok (.ireturn, 1) := by decide +kernel
theorem dX10_has_138 : decode cX10_has 138 = .ok (.aload_n 0, 1) := by decide +kernel
theorem dX10_has_139 : decode cX10_has 139 = .ok (.getfield 58, 3) := by decide +kernel
theorem dX10_has_142 : decode cX10_has 142 = .ok (.ireturn, 1) := by decide +kernel
theorem dX10_has_143 : decode cX10_has 143 = .ok (.aload_n 0, 1) := by decide +kernel
theorem dX10_has_144 : decode cX10_has 144 = .ok (.getfield 50, 3) := by decide +kernel
theorem dX10_has_147 : decode cX10_has 147 = .ok (.getfield 146, 3) := by decide +kernel
theorem dX10_has_150 : decode cX10_has 150 = .ok (.ireturn, 1) := by decide +kernel
theorem dX10_has_151 : decode cX10_has 151 = .ok (.iconst (-1), 1) := by decide +kernel
theorem dX10_has_152 : decode cX10_has 152 = .ok (.ireturn, 1) := by decide +kernel
theorem dX10_sumOf_0 : decode cX10_sumOf 0 = .ok (.iconst 0, 1) := by decide +kernel
theorem dX10_sumOf_1 : decode cX10_sumOf 1 = .ok (.istore_n 1, 1) := by decide +kernel
theorem dX10_sumOf_2 : decode cX10_sumOf 2 = .ok (.iconst 0, 1) := by decide +kernel
theorem dX10_sumOf_3 : decode cX10_sumOf 3 = .ok (.istore_n 2, 1) := by decide +kernel
theorem dX10_sumOf_4 : decode cX10_sumOf 4 = .ok (.iload_n 2, 1) := by decide +kernel
theorem dX10_sumOf_5 : decode cX10_sumOf 5 = .ok (.aload_n 0, 1) := by decide +kernel
theorem dX10_sumOf_6 : decode cX10_sumOf 6 = .ok (.arraylength, 1) := by decide +kernel
theorem dX10_sumOf_7 : decode cX10_sumOf 7 = .ok (.if_icmp .ge 15, 3) := by decide +kernel
theorem dX10_sumOf_10 : decode cX10_sumOf 10 = .ok (.iload_n 1, 1) := by decide +kernel
theorem dX10_sumOf_11 : decode cX10_sumOf 11 = .ok (.aload_n 0, 1) := by decide +kernel
theorem dX10_sumOf_12 : decode cX10_sumOf 12 = .ok (.iload_n 2, 1) := by decide +kernel
theorem dX10_sumOf_13 : decode cX10_sumOf 13 = .ok (.iaload, 1) := by decide +kernel
theorem dX10_sumOf_14 : decode cX10_sumOf 14 = .ok (.iadd, 1) := by decide +kernel
theorem dX10_sumOf_15 : decode cX10_sumOf 15 = .ok (.istore_n 1, 1) := by decide +kernel
theorem dX10_sumOf_16 : decode cX10_sumOf 16 = .ok (.iinc 2 1, 3) := by decide +kernel
theorem dX10_sumOf_19 : decode cX10_sumOf 19 = .ok (.goto (-15), 3) := by decide +kernel
theorem dX10_sumOf_22 : decode cX10_sumOf 22 = .ok (.iload_n 1, 1) := by decide +kernel
theorem dX10_sumOf_23 : decode cX10_sumOf 23 = .ok (.ireturn, 1) := by decide +kernel
theorem dX10_letter_0 : decode cX10_letter 0 = .ok (.aload_n 0, 1) := by decide +kernel
theorem dX10_letter_1 : decode cX10_letter 1 = .ok (.getfield 20, 3) := by decide +kernel
theorem dX10_letter_4 : decode cX10_letter 4 = .ok (.iload_n 1, 1) := by decide +kernel
theorem dX10_letter_5 : decode cX10_letter 5 = .ok (.invokevirtual 149, 3) := by decide +kernel
theorem dX10_letter_8 : decode cX10_letter 8 = .ok (.ifCond .eq 13, 3) := by decide +kernel
theorem dX10_letter_11 : decode cX10_letter 11 = .ok (.iload_n 2, 1) := by decide +kernel
theorem dX10_letter_12 : decode cX10_letter 12 = .ok (.ifCond .lt 9, 3) := by decide +kernel
theorem dX10_letter_15 : decode cX10_letter 15 = .ok (.iload_n 2, 1) := by decide +kernel
theorem dX10_letter_16 : decode cX10_letter 16 = .ok (.bipush 6, 2) := by decide +kernel
theorem dX10_letter_18 : decode cX10_letter 18 = .ok (.if_icmp .lt 5, 3) := by decide +kernel
theorem dX10_letter_21 : decode cX10_letter 21 = .ok (.iconst (-1), 1) := by decide +kernel
theorem dX10_letter_22 : decode cX10_letter 22 = .ok (.ireturn, 1) := by decide +kernel
theorem dX10_letter_23 : decode cX10_letter 23 = .ok (.aload_n 0, 1) := by decide +kernel
theorem dX10_letter_24 : decode cX10_letter 24 = .ok (.getfield 20, 3) := by decide +kernel
theorem dX10_letter_27 : decode cX10_letter 27 = .ok (.getfield 155, 3) := by decide +kernel
theorem dX10_letter_30 : decode cX10_letter 30 = .ok (.iload_n 1, 1) := by decide +kernel
theorem dX10_letter_31 : decode cX10_letter 31 = .ok (.iaload, 1) := by decide +kernel
theorem dX10_letter_32 : decode cX10_letter 32 = .ok (.iload_n 2, 1) := by decide +kernel
theorem dX10_letter_33 : decode cX10_letter 33 = .ok (.invokestatic 158, 3) := by decide +kernel
theorem dX10_letter_36 : decode cX10_letter 36 = .ok (.ireturn, 1) := by decide +kernel
theorem dX10_pair_0 : decode cX10_pair 0 = .ok (.aload_n 0, 1) := by decide +kernel
theorem dX10_pair_1 : decode cX10_pair 1 = .ok (.getfield 20, 3) := by decide +kernel
theorem dX10_pair_4 : decode cX10_pair 4 = .ok (.iload_n 1, 1) := by decide +kernel
theorem dX10_pair_5 : decode cX10_pair 5 = .ok (.iload_n 2, 1) := by decide +kernel
theorem dX10_pair_6 : decode cX10_pair 6 = .ok (.invokevirtual 162, 3) := by decide +kernel
theorem dX10_pair_9 : decode cX10_pair 9 = .ok (.ifCond .ne 5, 3) := by decide +kernel
theorem dX10_pair_12 : decode cX10_pair 12 = .ok (.iconst (-1), 1) := by decide +kernel
theorem dX10_pair_13 : decode cX10_pair 13 = .ok (.ireturn, 1) := by decide +kernel
theorem dX10_pair_14 : decode cX10_pair 14 = .ok (.iload_n 1, 1) := by decide +kernel
theorem dX10_pair_15 : decode cX10_pair 15 = .ok (.bipush 6, 2) := by decide +kernel
theorem dX10_pair_17 : decode cX10_pair 17 = .ok (.imul, 1) := by decide +kernel
theorem dX10_pair_18 : decode cX10_pair 18 = .ok (.iload_n 2, 1) := by decide +kernel
theorem dX10_pair_19 : decode cX10_pair 19 = .ok (.iadd, 1) := by decide +kernel
theorem dX10_pair_20 : decode cX10_pair 20 = .ok (.istore 4, 2) := by decide +kernel
theorem dX10_pair_22 : decode cX10_pair 22 = .ok (.iload_n 3, 1) := by decide +kernel
theorem dX10_pair_23 : decode cX10_pair 23 = .ok (.iconst 3, 1) := by decide +kernel
theorem dX10_pair_24 : decode cX10_pair 24 = .ok (.if_icmp .ne 31, 3) := by decide +kernel
theorem dX10_pair_27 : decode cX10_pair 27 = .ok (.aload_n 0, 1) := by decide +kernel
theorem dX10_pair_28 : decode cX10_pair 28 = .ok (.getfield 20, 3) := by decide +kernel
theorem dX10_pair_31 : decode cX10_pair 31 = .ok (.getfield 166, 3) := by decide +kernel
theorem dX10_pair_34 : decode cX10_pair 34 = .ok (.iload 4, 2) := by decide +kernel
theorem dX10_pair_36 : decode cX10_pair 36 = .ok (.iaload, 1) := by decide +kernel
theorem dX10_pair_37 : decode cX10_pair 37 = .ok (.ifCond .le 16, 3) := by decide +kernel
theorem dX10_pair_40 : decode cX10_pair 40 = .ok (.aload_n 0, 1) := by decide +kernel
theorem dX10_pair_41 : decode cX10_pair 41 = .ok (.getfield 20, 3) := by decide +kernel
theorem dX10_pair_44 : decode cX10_pair 44 = .ok (.getfield 166, 3) := by decide +kernel
theorem dX10_pair_47 : decode cX10_pair 47 = .ok (.iload 4, 2) := by decide +kernel
theorem dX10_pair_49 : decode cX10_pair 49 = .ok (.iaload, 1) := by decide +kernel
theorem dX10_pair_50 : decode cX10_pair 50 = .ok (.goto 4, 3) := by decide +kernel
theorem dX10_pair_53 : decode cX10_pair 53 = .ok (.iconst (-1), 1) := by decide +kernel
theorem dX10_pair_54 : decode cX10_pair 54 = .ok (.ireturn, 1) := by decide +kernel
theorem dX10_pair_55 : decode cX10_pair 55 = .ok (.aload_n 0, 1) := by decide +kernel
theorem dX10_pair_56 : decode cX10_pair 56 = .ok (.getfield 33, 3) := by decide +kernel
theorem dX10_pair_59 : decode cX10_pair 59 = .ok (.iload 4, 2) := by decide +kernel
theorem dX10_pair_61 : decode cX10_pair 61 = .ok (.iload_n 3, 1) := by decide +kernel
theorem dX10_pair_62 : decode cX10_pair 62 = .ok (.invokevirtual 169, 3) := by decide +kernel
theorem dX10_pair_65 : decode cX10_pair 65 = .ok (.ireturn, 1) := by decide +kernel
theorem dX10_mail_0 : decode cX10_mail 0 = .ok (.iload_n 1, 1) := by decide +kernel
theorem dX10_mail_1 : decode cX10_mail 1 = .ok (.ifCond .lt 20, 3) := by decide +kernel
theorem dX10_mail_4 : decode cX10_mail 4 = .ok (.iload_n 1, 1) := by decide +kernel
theorem dX10_mail_5 : decode cX10_mail 5 = .ok (.aload_n 0, 1) := by decide +kernel
theorem dX10_mail_6 : decode cX10_mail 6 = .ok (.getfield 33, 3) := by decide +kernel
theorem dX10_mail_9 : decode cX10_mail 9 = .ok (.getfield 134, 3) := by decide +kernel
theorem dX10_mail_12 : decode cX10_mail 12 = .ok (.if_icmp .ge 9, 3) := by decide +kernel
theorem dX10_mail_15 : decode cX10_mail 15 = .ok (.iload_n 1, 1) := by decide +kernel
theorem dX10_mail_16 : decode cX10_mail 16 = .ok (.bipush 60, 2) := by decide +kernel
theorem dX10_mail_18 : decode cX10_mail 18 = .ok (.if_icmp .lt 5, 3) := by decide +kernel
theorem dX10_mail_21 : decode cX10_mail 21 = .ok (.iconst (-1), 1) := by decide +kernel
theorem dX10_mail_22 : decode cX10_mail 22 = .ok (.ireturn, 1) := by decide +kernel
theorem dX10_mail_23 : decode cX10_mail 23 = .ok (.iload_n 2, 1) := by decide +kernel
theorem dX10_mail_24 : decode cX10_mail 24 = .ok (.tableswitch 64 0 2 #[28, 41, 54], 28) := by decide +kernel
theorem dX10_mail_52 : decode cX10_mail 52 = .ok (.aload_n 0, 1) := by decide +kernel
theorem dX10_mail_53 : decode cX10_mail 53 = .ok (.getfield 33, 3) := by decide +kernel
theorem dX10_mail_56 : decode cX10_mail 56 = .ok (.getfield 172, 3) := by decide +kernel
theorem dX10_mail_59 : decode cX10_mail 59 = .ok (.iload_n 1, 1) := by decide +kernel
theorem dX10_mail_60 : decode cX10_mail 60 = .ok (.iaload, 1) := by decide +kernel
theorem dX10_mail_61 : decode cX10_mail 61 = .ok (.bipush 6, 2) := by decide +kernel
theorem dX10_mail_63 : decode cX10_mail 63 = .ok (.idiv, 1) := by decide +kernel
theorem dX10_mail_64 : decode cX10_mail 64 = .ok (.ireturn, 1) := by decide +kernel
theorem dX10_mail_65 : decode cX10_mail 65 = .ok (.aload_n 0, 1) := by decide +kernel
theorem dX10_mail_66 : decode cX10_mail 66 = .ok (.getfield 33, 3) := by decide +kernel
theorem dX10_mail_69 : decode cX10_mail 69 = .ok (.getfield 172, 3) := by decide +kernel
theorem dX10_mail_72 : decode cX10_mail 72 = .ok (.iload_n 1, 1) := by decide +kernel
theorem dX10_mail_73 : decode cX10_mail 73 = .ok (.iaload, 1) := by decide +kernel
theorem dX10_mail_74 : decode cX10_mail 74 = .ok (.bipush 6, 2) := by decide +kernel
theorem dX10_mail_76 : decode cX10_mail 76 = .ok (.irem, 1) := by decide +kernel
theorem dX10_mail_77 : decode cX10_mail 77 = .ok (.ireturn, 1) := by decide +kernel
theorem dX10_mail_78 : decode cX10_mail 78 = .ok (.aload_n 0, 1) := by decide +kernel
theorem dX10_mail_79 : decode cX10_mail 79 = .ok (.getfield 33, 3) := by decide +kernel
theorem dX10_mail_82 : decode cX10_mail 82 = .ok (.getfield 175, 3) := by decide +kernel
theorem dX10_mail_85 : decode cX10_mail 85 = .ok (.iload_n 1, 1) := by decide +kernel
theorem dX10_mail_86 : decode cX10_mail 86 = .ok (.iaload, 1) := by decide +kernel
theorem dX10_mail_87 : decode cX10_mail 87 = .ok (.ireturn, 1) := by decide +kernel
theorem dX10_mail_88 : decode cX10_mail 88 = .ok (.iconst (-1), 1) := by decide +kernel
theorem dX10_mail_89 : decode cX10_mail 89 = .ok (.ireturn, 1) := by decide +kernel
theorem dX10_writes_0 : decode cX10_writes 0 = .ok (.aload_n 0, 1) := by decide +kernel
theorem dX10_writes_1 : decode cX10_writes 1 = .ok (.getfield 20, 3) := by decide +kernel
theorem dX10_writes_4 : decode cX10_writes 4 = .ok (.iload_n 1, 1) := by decide +kernel
theorem dX10_writes_5 : decode cX10_writes 5 = .ok (.invokevirtual 149, 3) := by decide +kernel
theorem dX10_writes_8 : decode cX10_writes 8 = .ok (.ifCond .eq 22, 3) := by decide +kernel
theorem dX10_writes_11 : decode cX10_writes 11 = .ok (.aload_n 0, 1) := by decide +kernel
theorem dX10_writes_12 : decode cX10_writes 12 = .ok (.getfield 43, 3) := by decide +kernel
theorem dX10_writes_15 : decode cX10_writes 15 = .ok (.aload_n 0, 1) := by decide +kernel
theorem dX10_writes_16 : decode cX10_writes 16 = .ok (.getfield 20, 3) := by decide +kernel
theorem dX10_writes_19 : decode cX10_writes 19 = .ok (.aload_n 0, 1) := by decide +kernel
theorem dX10_writes_20 : decode cX10_writes 20 = .ok (.getfield 33, 3) := by decide +kernel
theorem dX10_writes_23 : decode cX10_writes 23 = .ok (.iload_n 1, 1) := by decide +kernel
theorem dX10_writes_24 : decode cX10_writes 24 = .ok (.invokevirtual 178, 3) := by decide +kernel
theorem dX10_writes_27 : decode cX10_writes 27 = .ok (.goto 4, 3) := by decide +kernel
theorem dX10_writes_30 : decode cX10_writes 30 = .ok (.iconst (-1), 1) := by decide +kernel
theorem dX10_writes_31 : decode cX10_writes 31 = .ok (.ireturn, 1) := by decide +kernel
theorem dX10_later_0 : decode cX10_later 0 = .ok (.aload_n 0, 1) := by decide +kernel
theorem dX10_later_1 : decode cX10_later 1 = .ok (.getfield 20, 3) := by decide +kernel
theorem dX10_later_4 : decode cX10_later 4 = .ok (.iload_n 1, 1) := by decide +kernel
theorem dX10_later_5 : decode cX10_later 5 = .ok (.iload_n 2, 1) := by decide +kernel
theorem dX10_later_6 : decode cX10_later 6 = .ok (.invokevirtual 162, 3) := by decide +kernel
theorem dX10_later_9 : decode cX10_later 9 = .ok (.ifCond .eq 15, 3) := by decide +kernel
theorem dX10_later_12 : decode cX10_later 12 = .ok (.iload_n 3, 1) := by decide +kernel
theorem dX10_later_13 : decode cX10_later 13 = .ok (.ifCond .lt 11, 3) := by decide +kernel
theorem dX10_later_16 : decode cX10_later 16 = .ok (.iload_n 3, 1) := by decide +kernel
theorem dX10_later_17 : decode cX10_later 17 = .ok (.aload_n 0, 1) := by decide +kernel
theorem dX10_later_18 : decode cX10_later 18 = .ok (.invokevirtual 182, 3) := by decide +kernel
theorem dX10_later_21 : decode cX10_later 21 = .ok (.if_icmp .le 5, 3) := by decide +kernel
theorem dX10_later_24 : decode cX10_later 24 = .ok (.iconst (-1), 1) := by decide +kernel
theorem dX10_later_25 : decode cX10_later 25 = .ok (.ireturn, 1) := by decide +kernel
theorem dX10_later_26 : decode cX10_later 26 = .ok (.aload_n 0, 1) := by decide +kernel
theorem dX10_later_27 : decode cX10_later 27 = .ok (.getfield 37, 3) := by decide +kernel
theorem dX10_later_30 : decode cX10_later 30 = .ok (.aload_n 0, 1) := by decide +kernel
theorem dX10_later_31 : decode cX10_later 31 = .ok (.getfield 33, 3) := by decide +kernel
theorem dX10_later_34 : decode cX10_later 34 = .ok (.invokevirtual 186, 3) := by decide +kernel
theorem dX10_later_37 : decode cX10_later 37 = .ok (.iconst 0, 1) := by decide +kernel
theorem dX10_later_38 : decode cX10_later 38 = .ok (.istore 5, 2) := by decide +kernel
theorem dX10_later_40 : decode cX10_later 40 = .ok (.iload 5, 2) := by decide +kernel
theorem dX10_later_42 : decode cX10_later 42 = .ok (.iload_n 3, 1) := by decide +kernel
theorem dX10_later_43 : decode cX10_later 43 = .ok (.if_icmp .ge 25, 3) := by decide +kernel
theorem dX10_later_46 : decode cX10_later 46 = .ok (.aload_n 0, 1) := by decide +kernel
theorem dX10_later_47 : decode cX10_later 47 = .ok (.getfield 43, 3) := by decide +kernel
theorem dX10_later_50 : decode cX10_later 50 = .ok (.aload_n 0, 1) := by decide +kernel
theorem dX10_later_51 : decode cX10_later 51 = .ok (.getfield 20, 3) := by decide +kernel
theorem dX10_later_54 : decode cX10_later 54 = .ok (.aload_n 0, 1) := by decide +kernel
theorem dX10_later_55 : decode cX10_later 55 = .ok (.getfield 37, 3) := by decide +kernel
theorem dX10_later_58 : decode cX10_later 58 = .ok (.aconst_null, 1) := by decide +kernel
theorem dX10_later_59 : decode cX10_later 59 = .ok (.invokevirtual 190, 3) := by decide +kernel
theorem dX10_later_62 : decode cX10_later 62 = .ok (.iinc 5 1, 3) := by decide +kernel
theorem dX10_later_65 : decode cX10_later 65 = .ok (.goto (-25), 3) := by decide +kernel
theorem dX10_later_68 : decode cX10_later 68 = .ok (.aload_n 0, 1) := by decide +kernel
theorem dX10_later_69 : decode cX10_later 69 = .ok (.getfield 37, 3) := by decide +kernel
theorem dX10_later_72 : decode cX10_later 72 = .ok (.iload_n 1, 1) := by decide +kernel
theorem dX10_later_73 : decode cX10_later 73 = .ok (.bipush 6, 2) := by decide +kernel
theorem dX10_later_75 : decode cX10_later 75 = .ok (.imul, 1) := by decide +kernel
theorem dX10_later_76 : decode cX10_later 76 = .ok (.iload_n 2, 1) := by decide +kernel
theorem dX10_later_77 : decode cX10_later 77 = .ok (.iadd, 1) := by decide +kernel
theorem dX10_later_78 : decode cX10_later 78 = .ok (.iload 4, 2) := by decide +kernel
theorem dX10_later_80 : decode cX10_later 80 = .ok (.invokevirtual 169, 3) := by decide +kernel
theorem dX10_later_83 : decode cX10_later 83 = .ok (.ireturn, 1) := by decide +kernel
theorem dX10_comes_0 : decode cX10_comes 0 = .ok (.aload_n 0, 1) := by decide +kernel
theorem dX10_comes_1 : decode cX10_comes 1 = .ok (.getfield 20, 3) := by decide +kernel
theorem dX10_comes_4 : decode cX10_comes 4 = .ok (.iload_n 1, 1) := by decide +kernel
theorem dX10_comes_5 : decode cX10_comes 5 = .ok (.iload_n 2, 1) := by decide +kernel
theorem dX10_comes_6 : decode cX10_comes 6 = .ok (.invokevirtual 162, 3) := by decide +kernel
theorem dX10_comes_9 : decode cX10_comes 9 = .ok (.ifCond .ne 5, 3) := by decide +kernel
theorem dX10_comes_12 : decode cX10_comes 12 = .ok (.iconst (-1), 1) := by decide +kernel
theorem dX10_comes_13 : decode cX10_comes 13 = .ok (.ireturn, 1) := by decide +kernel
theorem dX10_comes_14 : decode cX10_comes 14 = .ok (.aload_n 0, 1) := by decide +kernel
theorem dX10_comes_15 : decode cX10_comes 15 = .ok (.invokevirtual 182, 3) := by decide +kernel
theorem dX10_comes_18 : decode cX10_comes 18 = .ok (.istore_n 3, 1) := by decide +kernel
theorem dX10_comes_19 : decode cX10_comes 19 = .ok (.lconst 1, 1) := by decide +kernel
theorem dX10_comes_20 : decode cX10_comes 20 = .ok (.iload_n 1, 1) := by decide +kernel
theorem dX10_comes_21 : decode cX10_comes 21 = .ok (.bipush 6, 2) := by decide +kernel
theorem dX10_comes_23 : decode cX10_comes 23 = .ok (.imul, 1) := by decide +kernel
theorem dX10_comes_24 : decode cX10_comes 24 = .ok (.iload_n 2, 1) := by decide +kernel
theorem dX10_comes_25 : decode cX10_comes 25 = .ok (.iadd, 1) := by decide +kernel
theorem dX10_comes_26 : decode cX10_comes 26 = .ok (.lshl, 1) := by decide +kernel
theorem dX10_comes_27 : decode cX10_comes 27 = .ok (.lstore 4, 2) := by decide +kernel
theorem dX10_comes_29 : decode cX10_comes 29 = .ok (.aload_n 0, 1) := by decide +kernel
theorem dX10_comes_30 : decode cX10_comes 30 = .ok (.getfield 37, 3) := by decide +kernel
theorem dX10_comes_33 : decode cX10_comes 33 = .ok (.aload_n 0, 1) := by decide +kernel
theorem dX10_comes_34 : decode cX10_comes 34 = .ok (.getfield 33, 3) := by decide +kernel
theorem dX10_comes_37 : decode cX10_comes 37 = .ok (.invokevirtual 186, 3) := by decide +kernel
theorem dX10_comes_40 : decode cX10_comes 40 = .ok (.iconst 1, 1) := by decide +kernel
theorem dX10_comes_41 : decode cX10_comes 41 = .ok (.istore 6, 2) := by decide +kernel
theorem dX10_comes_43 : decode cX10_comes 43 = .ok (.iload 6, 2) := by decide +kernel
theorem dX10_comes_45 : decode cX10_comes 45 = .ok (.iload_n 3, 1) := by decide +kernel
theorem dX10_comes_46 : decode cX10_comes 46 = .ok (.if_icmp .gt 43, 3) := by decide +kernel
theorem dX10_comes_49 : decode cX10_comes 49 = .ok (.aload_n 0, 1) := by decide +kernel
theorem dX10_comes_50 : decode cX10_comes 50 = .ok (.getfield 43, 3) := by decide +kernel
theorem dX10_comes_53 : decode cX10_comes 53 = .ok (.aload_n 0, 1) := by decide +kernel
theorem dX10_comes_54 : decode cX10_comes 54 = .ok (.getfield 20, 3) := by decide +kernel
theorem dX10_comes_57 : decode cX10_comes 57 = .ok (.aload_n 0, 1) := by decide +kernel
theorem dX10_comes_58 : decode cX10_comes 58 = .ok (.getfield 37, 3) := by decide +kernel
theorem dX10_comes_61 : decode cX10_comes 61 = .ok (.aconst_null, 1) := by decide +kernel
theorem dX10_comes_62 : decode cX10_comes 62 = .ok (.invokevirtual 190, 3) := by decide +kernel
theorem dX10_comes_65 : decode cX10_comes 65 = .ok (.aload_n 0, 1) := by decide +kernel
theorem dX10_comes_66 : decode cX10_comes 66 = .ok (.getfield 37, 3) := by decide +kernel
theorem dX10_comes_69 : decode cX10_comes 69 = .ok (.getfield 194, 3) := by decide +kernel
theorem dX10_comes_72 : decode cX10_comes 72 = .ok (.lload 4, 2) := by decide +kernel
theorem dX10_comes_74 : decode cX10_comes 74 = .ok (.land, 1) := by decide +kernel
theorem dX10_comes_75 : decode cX10_comes 75 = .ok (.lconst 0, 1) := by decide +kernel
theorem dX10_comes_76 : decode cX10_comes 76 = .ok (.lcmp, 1) := by decide +kernel
theorem dX10_comes_77 : decode cX10_comes 77 = .ok (.ifCond .eq 6, 3) := by decide +kernel
theorem dX10_comes_80 : decode cX10_comes 80 = .ok (.iload 6, 2) := by decide +kernel
theorem dX10_comes_82 : decode cX10_comes 82 = .ok (.ireturn, 1) := by decide +kernel
theorem dX10_comes_83 : decode cX10_comes 83 = .ok (.iinc 6 1, 3) := by decide +kernel
theorem dX10_comes_86 : decode cX10_comes 86 = .ok (.goto (-43), 3) := by decide +kernel
theorem dX10_comes_89 : decode cX10_comes 89 = .ok (.iconst (-1), 1) := by decide +kernel
theorem dX10_comes_90 : decode cX10_comes 90 = .ok (.ireturn, 1) := by decide +kernel
theorem dX10_silent_0 : decode cX10_silent 0 = .ok (.aload_n 0, 1) := by decide +kernel
theorem dX10_silent_1 : decode cX10_silent 1 = .ok (.invokevirtual 182, 3) := by decide +kernel
theorem dX10_silent_4 : decode cX10_silent 4 = .ok (.istore_n 1, 1) := by decide +kernel
theorem dX10_silent_5 : decode cX10_silent 5 = .ok (.aload_n 0, 1) := by decide +kernel
theorem dX10_silent_6 : decode cX10_silent 6 = .ok (.getfield 37, 3) := by decide +kernel
theorem dX10_silent_9 : decode cX10_silent 9 = .ok (.aload_n 0, 1) := by decide +kernel
theorem dX10_silent_10 : decode cX10_silent 10 = .ok (.getfield 33, 3) := by decide +kernel
theorem dX10_silent_13 : decode cX10_silent 13 = .ok (.invokevirtual 186, 3) := by decide +kernel
theorem dX10_silent_16 : decode cX10_silent 16 = .ok (.iconst 0, 1) := by decide +kernel
theorem dX10_silent_17 : decode cX10_silent 17 = .ok (.istore_n 2, 1) := by decide +kernel
theorem dX10_silent_18 : decode cX10_silent 18 = .ok (.iload_n 2, 1) := by decide +kernel
theorem dX10_silent_19 : decode cX10_silent 19 = .ok (.iload_n 1, 1) := by decide +kernel
theorem dX10_silent_20 : decode cX10_silent 20 = .ok (.if_icmp .gt 45, 3) := by decide +kernel
theorem dX10_silent_23 : decode cX10_silent 23 = .ok (.aload_n 0, 1) := by decide +kernel
theorem dX10_silent_24 : decode cX10_silent 24 = .ok (.getfield 43, 3) := by decide +kernel
theorem dX10_silent_27 : decode cX10_silent 27 = .ok (.aload_n 0, 1) := by decide +kernel
theorem dX10_silent_28 : decode cX10_silent 28 = .ok (.getfield 20, 3) := by decide +kernel
theorem dX10_silent_31 : decode cX10_silent 31 = .ok (.aload_n 0, 1) := by decide +kernel
theorem dX10_silent_32 : decode cX10_silent 32 = .ok (.getfield 37, 3) := by decide +kernel
theorem dX10_silent_35 : decode cX10_silent 35 = .ok (.invokevirtual 198, 3) := by decide +kernel
theorem dX10_silent_38 : decode cX10_silent 38 = .ok (.ifCond .eq 5, 3) := by decide +kernel
theorem dX10_silent_41 : decode cX10_silent 41 = .ok (.iload_n 2, 1) := by decide +kernel
theorem dX10_silent_42 : decode cX10_silent 42 = .ok (.ireturn, 1) := by decide +kernel
theorem dX10_silent_43 : decode cX10_silent 43 = .ok (.aload_n 0, 1) := by decide +kernel
theorem dX10_silent_44 : decode cX10_silent 44 = .ok (.getfield 43, 3) := by decide +kernel
theorem dX10_silent_47 : decode cX10_silent 47 = .ok (.aload_n 0, 1) := by decide +kernel
theorem dX10_silent_48 : decode cX10_silent 48 = .ok (.getfield 20, 3) := by decide +kernel
theorem dX10_silent_51 : decode cX10_silent 51 = .ok (.aload_n 0, 1) := by decide +kernel
theorem dX10_silent_52 : decode cX10_silent 52 = .ok (.getfield 37, 3) := by decide +kernel
theorem dX10_silent_55 : decode cX10_silent 55 = .ok (.aconst_null, 1) := by decide +kernel
theorem dX10_silent_56 : decode cX10_silent 56 = .ok (.invokevirtual 190, 3) := by decide +kernel
theorem dX10_silent_59 : decode cX10_silent 59 = .ok (.iinc 2 1, 3) := by decide +kernel
theorem dX10_silent_62 : decode cX10_silent 62 = .ok (.goto (-44), 3) := by decide +kernel
theorem dX10_silent_65 : decode cX10_silent 65 = .ok (.iconst (-1), 1) := by decide +kernel
theorem dX10_silent_66 : decode cX10_silent 66 = .ok (.ireturn, 1) := by decide +kernel
theorem dX10_daysAhead_0 : decode cX10_daysAhead 0 = .ok (.bipush 60, 2) := by decide +kernel
theorem dX10_daysAhead_2 : decode cX10_daysAhead 2 = .ok (.sipush 999, 3) := by decide +kernel
theorem dX10_daysAhead_5 : decode cX10_daysAhead 5 = .ok (.aload_n 0, 1) := by decide +kernel
theorem dX10_daysAhead_6 : decode cX10_daysAhead 6 = .ok (.getfield 33, 3) := by decide +kernel
theorem dX10_daysAhead_9 : decode cX10_daysAhead 9 = .ok (.getfield 124, 3) := by decide +kernel
theorem dX10_daysAhead_12 : decode cX10_daysAhead 12 = .ok (.isub, 1) := by decide +kernel
theorem dX10_daysAhead_13 : decode cX10_daysAhead 13 = .ok (.invokestatic 202, 3) := by decide +kernel
theorem dX10_daysAhead_16 : decode cX10_daysAhead 16 = .ok (.ireturn, 1) := by decide +kernel
theorem dX10_word_0 : decode cX10_word 0 = .ok (.aload_n 0, 1) := by decide +kernel
theorem dX10_word_1 : decode cX10_word 1 = .ok (.getfield 20, 3) := by decide +kernel
theorem dX10_word_4 : decode cX10_word 4 = .ok (.iload_n 1, 1) := by decide +kernel
theorem dX10_word_5 : decode cX10_word 5 = .ok (.invokevirtual 149, 3) := by decide +kernel
theorem dX10_word_8 : decode cX10_word 8 = .ok (.ifCond .eq 21, 3) := by decide +kernel
theorem dX10_word_11 : decode cX10_word 11 = .ok (.aload_n 0, 1) := by decide +kernel
theorem dX10_word_12 : decode cX10_word 12 = .ok (.getfield 20, 3) := by decide +kernel
theorem dX10_word_15 : decode cX10_word 15 = .ok (.aload_n 0, 1) := by decide +kernel
theorem dX10_word_16 : decode cX10_word 16 = .ok (.getfield 33, 3) := by decide +kernel
theorem dX10_word_19 : decode cX10_word 19 = .ok (.invokestatic 207, 3) := by decide +kernel
theorem dX10_word_22 : decode cX10_word 22 = .ok (.iload_n 1, 1) := by decide +kernel
theorem dX10_word_23 : decode cX10_word 23 = .ok (.invokestatic 213, 3) := by decide +kernel
theorem dX10_word_26 : decode cX10_word 26 = .ok (.goto 4, 3) := by decide +kernel
theorem dX10_word_29 : decode cX10_word 29 = .ok (.iconst (-1), 1) := by decide +kernel
theorem dX10_word_30 : decode cX10_word 30 = .ok (.ireturn, 1) := by decide +kernel
theorem dX10_bag_0 : decode cX10_bag 0 = .ok (.aload_n 0, 1) := by decide +kernel
theorem dX10_bag_1 : decode cX10_bag 1 = .ok (.getfield 13, 3) := by decide +kernel
theorem dX10_bag_4 : decode cX10_bag 4 = .ok (.istore_n 1, 1) := by decide +kernel
theorem dX10_bag_5 : decode cX10_bag 5 = .ok (.aload_n 0, 1) := by decide +kernel
theorem dX10_bag_6 : decode cX10_bag 6 = .ok (.iconst 0, 1) := by decide +kernel
theorem dX10_bag_7 : decode cX10_bag 7 = .ok (.putfield 13, 3) := by decide +kernel
theorem dX10_bag_10 : decode cX10_bag 10 = .ok (.aload_n 0, 1) := by decide +kernel
theorem dX10_bag_11 : decode cX10_bag 11 = .ok (.iload_n 1, 1) := by decide +kernel
theorem dX10_bag_12 : decode cX10_bag 12 = .ok (.invokevirtual 248, 3) := by decide +kernel
theorem dX10_bag_15 : decode cX10_bag 15 = .ok (.ifCond .ne 9, 3) := by decide +kernel
theorem dX10_bag_18 : decode cX10_bag 18 = .ok (.aload_n 0, 1) := by decide +kernel
theorem dX10_bag_19 : decode cX10_bag 19 = .ok (.iconst 5, 1) := by decide +kernel
theorem dX10_bag_20 : decode cX10_bag 20 = .ok (.invokevirtual 80, 3) := by decide +kernel
theorem dX10_bag_23 : decode cX10_bag 23 = .ok (.ireturn, 1) := by decide +kernel
theorem dX10_bag_24 : decode cX10_bag 24 = .ok (.aload_n 0, 1) := by decide +kernel
theorem dX10_bag_25 : decode cX10_bag 25 = .ok (.iload_n 1, 1) := by decide +kernel
theorem dX10_bag_26 : decode cX10_bag 26 = .ok (.iconst 2, 1) := by decide +kernel
theorem dX10_bag_27 : decode cX10_bag 27 = .ok (.idiv, 1) := by decide +kernel
theorem dX10_bag_28 : decode cX10_bag 28 = .ok (.putfield 68, 3) := by decide +kernel
theorem dX10_bag_31 : decode cX10_bag 31 = .ok (.iconst 0, 1) := by decide +kernel
theorem dX10_bag_32 : decode cX10_bag 32 = .ok (.istore_n 2, 1) := by decide +kernel
theorem dX10_bag_33 : decode cX10_bag 33 = .ok (.iload_n 2, 1) := by decide +kernel
theorem dX10_bag_34 : decode cX10_bag 34 = .ok (.aload_n 0, 1) := by decide +kernel
theorem dX10_bag_35 : decode cX10_bag 35 = .ok (.getfield 68, 3) := by decide +kernel
theorem dX10_bag_38 : decode cX10_bag 38 = .ok (.if_icmp .ge 53, 3) := by decide +kernel
theorem dX10_bag_41 : decode cX10_bag 41 = .ok (.iload_n 2, 1) := by decide +kernel
theorem dX10_bag_42 : decode cX10_bag 42 = .ok (.bipush 16, 2) := by decide +kernel
theorem dX10_bag_44 : decode cX10_bag 44 = .ok (.if_icmp .ge 47, 3) := by decide +kernel
theorem dX10_bag_47 : decode cX10_bag 47 = .ok (.aload_n 0, 1) := by decide +kernel
theorem dX10_bag_48 : decode cX10_bag 48 = .ok (.getfield 61, 3) := by decide +kernel
theorem dX10_bag_51 : decode cX10_bag 51 = .ok (.iload_n 2, 1) := by decide +kernel
theorem dX10_bag_52 : decode cX10_bag 52 = .ok (.aload_n 0, 1) := by decide +kernel
theorem dX10_bag_53 : decode cX10_bag 53 = .ok (.getfield 9, 3) := by decide +kernel
theorem dX10_bag_56 : decode cX10_bag 56 = .ok (.iconst 2, 1) := by decide +kernel
theorem dX10_bag_57 : decode cX10_bag 57 = .ok (.iload_n 2, 1) := by decide +kernel
theorem dX10_bag_58 : decode cX10_bag 58 = .ok (.imul, 1) := by decide +kernel
theorem dX10_bag_59 : decode cX10_bag 59 = .ok (.baload, 1) := by decide +kernel
theorem dX10_bag_60 : decode cX10_bag 60 = .ok (.sipush 255, 3) := by decide +kernel
theorem dX10_bag_63 : decode cX10_bag 63 = .ok (.iand, 1) := by decide +kernel
theorem dX10_bag_64 : decode cX10_bag 64 = .ok (.iastore, 1) := by decide +kernel
theorem dX10_bag_65 : decode cX10_bag 65 = .ok (.aload_n 0, 1) := by decide +kernel
theorem dX10_bag_66 : decode cX10_bag 66 = .ok (.getfield 65, 3) := by decide +kernel
theorem dX10_bag_69 : decode cX10_bag 69 = .ok (.iload_n 2, 1) := by decide +kernel
theorem dX10_bag_70 : decode cX10_bag 70 = .ok (.aload_n 0, 1) := by decide +kernel
theorem dX10_bag_71 : decode cX10_bag 71 = .ok (.getfield 9, 3) := by decide +kernel
theorem dX10_bag_74 : decode cX10_bag 74 = .ok (.iconst 2, 1) := by decide +kernel
theorem dX10_bag_75 : decode cX10_bag 75 = .ok (.iload_n 2, 1) := by decide +kernel
theorem dX10_bag_76 : decode cX10_bag 76 = .ok (.imul, 1) := by decide +kernel
theorem dX10_bag_77 : decode cX10_bag 77 = .ok (.iconst 1, 1) := by decide +kernel
theorem dX10_bag_78 : decode cX10_bag 78 = .ok (.iadd, 1) := by decide +kernel
theorem dX10_bag_79 : decode cX10_bag 79 = .ok (.baload, 1) := by decide +kernel
theorem dX10_bag_80 : decode cX10_bag 80 = .ok (.sipush 255, 3) := by decide +kernel
theorem dX10_bag_83 : decode cX10_bag 83 = .ok (.iand, 1) := by decide +kernel
theorem dX10_bag_84 : decode cX10_bag 84 = .ok (.iastore, 1) := by decide +kernel
theorem dX10_bag_85 : decode cX10_bag 85 = .ok (.iinc 2 1, 3) := by decide +kernel
theorem dX10_bag_88 : decode cX10_bag 88 = .ok (.goto (-55), 3) := by decide +kernel
theorem dX10_bag_91 : decode cX10_bag 91 = .ok (.aload_n 0, 1) := by decide +kernel
theorem dX10_bag_92 : decode cX10_bag 92 = .ok (.getfield 68, 3) := by decide +kernel
theorem dX10_bag_95 : decode cX10_bag 95 = .ok (.ireturn, 1) := by decide +kernel
theorem dX10_isBag_0 : decode cX10_isBag 0 = .ok (.iload_n 1, 1) := by decide +kernel
theorem dX10_isBag_1 : decode cX10_isBag 1 = .ok (.iconst 2, 1) := by decide +kernel
theorem dX10_isBag_2 : decode cX10_isBag 2 = .ok (.if_icmp .lt 15, 3) := by decide +kernel
theorem dX10_isBag_5 : decode cX10_isBag 5 = .ok (.iload_n 1, 1) := by decide +kernel
theorem dX10_isBag_6 : decode cX10_isBag 6 = .ok (.bipush 32, 2) := by decide +kernel
theorem dX10_isBag_8 : decode cX10_isBag 8 = .ok (.if_icmp .gt 9, 3) := by decide +kernel
theorem dX10_isBag_11 : decode cX10_isBag 11 = .ok (.iload_n 1, 1) := by decide +kernel
theorem dX10_isBag_12 : decode cX10_isBag 12 = .ok (.iconst 2, 1) := by decide +kernel
theorem dX10_isBag_13 : decode cX10_isBag 13 = .ok (.irem, 1) := by decide +kernel
theorem dX10_isBag_14 : decode cX10_isBag 14 = .ok (.ifCond .eq 5, 3) := by decide +kernel
theorem dX10_isBag_17 : decode cX10_isBag 17 = .ok (.iconst 0, 1) := by decide +kernel
theorem dX10_isBag_18 : decode cX10_isBag 18 = .ok (.ireturn, 1) := by decide +kernel
theorem dX10_isBag_19 : decode cX10_isBag 19 = .ok (.iconst 0, 1) := by decide +kernel
theorem dX10_isBag_20 : decode cX10_isBag 20 = .ok (.istore_n 2, 1) := by decide +kernel
theorem dX10_isBag_21 : decode cX10_isBag 21 = .ok (.iload_n 2, 1) := by decide +kernel
theorem dX10_isBag_22 : decode cX10_isBag 22 = .ok (.iload_n 1, 1) := by decide +kernel
theorem dX10_isBag_23 : decode cX10_isBag 23 = .ok (.if_icmp .ge 31, 3) := by decide +kernel
theorem dX10_isBag_26 : decode cX10_isBag 26 = .ok (.aload_n 0, 1) := by decide +kernel
theorem dX10_isBag_27 : decode cX10_isBag 27 = .ok (.getfield 20, 3) := by decide +kernel
theorem dX10_isBag_30 : decode cX10_isBag 30 = .ok (.aload_n 0, 1) := by decide +kernel
theorem dX10_isBag_31 : decode cX10_isBag 31 = .ok (.getfield 9, 3) := by decide +kernel
theorem dX10_isBag_34 : decode cX10_isBag 34 = .ok (.iload_n 2, 1) := by decide +kernel
theorem dX10_isBag_35 : decode cX10_isBag 35 = .ok (.baload, 1) := by decide +kernel
theorem dX10_isBag_36 : decode cX10_isBag 36 = .ok (.sipush 255, 3) := by decide +kernel
theorem dX10_isBag_39 : decode cX10_isBag 39 = .ok (.iand, 1) := by decide +kernel
theorem dX10_isBag_40 : decode cX10_isBag 40 = .ok (.invokevirtual 149, 3) := by decide +kernel
theorem dX10_isBag_43 : decode cX10_isBag 43 = .ok (.ifCond .ne 5, 3) := by decide +kernel
theorem dX10_isBag_46 : decode cX10_isBag 46 = .ok (.iconst 0, 1) := by decide +kernel
theorem dX10_isBag_47 : decode cX10_isBag 47 = .ok (.ireturn, 1) := by decide +kernel
theorem dX10_isBag_48 : decode cX10_isBag 48 = .ok (.iinc 2 2, 3) := by decide +kernel
theorem dX10_isBag_51 : decode cX10_isBag 51 = .ok (.goto (-30), 3) := by decide +kernel
theorem dX10_isBag_54 : decode cX10_isBag 54 = .ok (.iconst 1, 1) := by decide +kernel
theorem dX10_isBag_55 : decode cX10_isBag 55 = .ok (.ireturn, 1) := by decide +kernel
theorem dX10_whose_0 : decode cX10_whose 0 = .ok (.iconst 0, 1) := by decide +kernel
theorem dX10_whose_1 : decode cX10_whose 1 = .ok (.istore_n 2, 1) := by decide +kernel
theorem dX10_whose_2 : decode cX10_whose 2 = .ok (.iconst 0, 1) := by decide +kernel
theorem dX10_whose_3 : decode cX10_whose 3 = .ok (.istore_n 3, 1) := by decide +kernel
theorem dX10_whose_4 : decode cX10_whose 4 = .ok (.iload_n 3, 1) := by decide +kernel
theorem dX10_whose_5 : decode cX10_whose 5 = .ok (.aload_n 0, 1) := by decide +kernel
theorem dX10_whose_6 : decode cX10_whose 6 = .ok (.getfield 20, 3) := by decide +kernel
theorem dX10_whose_9 : decode cX10_whose 9 = .ok (.getfield 118, 3) := by decide +kernel
theorem dX10_whose_12 : decode cX10_whose 12 = .ok (.if_icmp .ge 23, 3) := by decide +kernel
theorem dX10_whose_15 : decode cX10_whose 15 = .ok (.aload_n 0, 1) := by decide +kernel
theorem dX10_whose_16 : decode cX10_whose 16 = .ok (.iload_n 3, 1) := by decide +kernel
theorem dX10_whose_17 : decode cX10_whose 17 = .ok (.invokevirtual 251, 3) := by decide +kernel
theorem dX10_whose_20 : decode cX10_whose 20 = .ok (.ifCond .eq 9, 3) := by decide +kernel
theorem dX10_whose_23 : decode cX10_whose 23 = .ok (.iload_n 2, 1) := by decide +kernel
theorem dX10_whose_24 : decode cX10_whose 24 = .ok (.iconst 1, 1) := by decide +kernel
theorem dX10_whose_25 : decode cX10_whose 25 = .ok (.iload_n 3, 1) := by decide +kernel
theorem dX10_whose_26 : decode cX10_whose 26 = .ok (.ishl, 1) := by decide +kernel
theorem dX10_whose_27 : decode cX10_whose 27 = .ok (.ior, 1) := by decide +kernel
theorem dX10_whose_28 : decode cX10_whose 28 = .ok (.istore_n 2, 1) := by decide +kernel
theorem dX10_whose_29 : decode cX10_whose 29 = .ok (.iinc 3 1, 3) := by decide +kernel
theorem dX10_whose_32 : decode cX10_whose 32 = .ok (.goto (-28), 3) := by decide +kernel
theorem dX10_whose_35 : decode cX10_whose 35 = .ok (.iload_n 1, 1) := by decide +kernel
theorem dX10_whose_36 : decode cX10_whose 36 = .ok (.ifCond .ne 5, 3) := by decide +kernel
theorem dX10_whose_39 : decode cX10_whose 39 = .ok (.iload_n 2, 1) := by decide +kernel
theorem dX10_whose_40 : decode cX10_whose 40 = .ok (.ireturn, 1) := by decide +kernel
theorem dX10_whose_41 : decode cX10_whose 41 = .ok (.iload_n 1, 1) := by decide +kernel
theorem dX10_whose_42 : decode cX10_whose 42 = .ok (.iconst 1, 1) := by decide +kernel
theorem dX10_whose_43 : decode cX10_whose 43 = .ok (.if_icmp .eq 8, 3) := by decide +kernel
theorem dX10_whose_46 : decode cX10_whose 46 = .ok (.iload_n 1, 1) := by decide +kernel
theorem dX10_whose_47 : decode cX10_whose 47 = .ok (.iconst 2, 1) := by decide +kernel
theorem dX10_whose_48 : decode cX10_whose 48 = .ok (.if_icmp .ne 7, 3) := by decide +kernel
theorem dX10_whose_51 : decode cX10_whose 51 = .ok (.iload_n 2, 1) := by decide +kernel
theorem dX10_whose_52 : decode cX10_whose 52 = .ok (.ifCond .ne 5, 3) := by decide +kernel
theorem dX10_whose_55 : decode cX10_whose 55 = .ok (.iconst (-1), 1) := by decide +kernel
theorem dX10_whose_56 : decode cX10_whose 56 = .ok (.ireturn, 1) := by decide +kernel
theorem dX10_whose_57 : decode cX10_whose 57 = .ok (.iconst (-1), 1) := by decide +kernel
theorem dX10_whose_58 : decode cX10_whose 58 = .ok (.istore_n 3, 1) := by decide +kernel
theorem dX10_whose_59 : decode cX10_whose 59 = .ok (.iconst (-1), 1) := by decide +kernel
theorem dX10_whose_60 : decode cX10_whose 60 = .ok (.istore 4, 2) := by decide +kernel
theorem dX10_whose_62 : decode cX10_whose 62 = .ok (.iconst 0, 1) := by decide +kernel
theorem dX10_whose_63 : decode cX10_whose 63 = .ok (.istore 5, 2) := by decide +kernel
theorem dX10_whose_65 : decode cX10_whose 65 = .ok (.iload 5, 2) := by decide +kernel
theorem dX10_whose_67 : decode cX10_whose 67 = .ok (.aload_n 0, 1) := by decide +kernel
theorem dX10_whose_68 : decode cX10_whose 68 = .ok (.getfield 20, 3) := by decide +kernel
theorem dX10_whose_71 : decode cX10_whose 71 = .ok (.getfield 118, 3) := by decide +kernel
theorem dX10_whose_74 : decode cX10_whose 74 = .ok (.if_icmp .ge 37, 3) := by decide +kernel
theorem dX10_whose_77 : decode cX10_whose 77 = .ok (.aload_n 0, 1) := by decide +kernel
theorem dX10_whose_78 : decode cX10_whose 78 = .ok (.iload_n 2, 1) := by decide +kernel
theorem dX10_whose_79 : decode cX10_whose 79 = .ok (.iload 5, 2) := by decide +kernel
theorem dX10_whose_81 : decode cX10_whose 81 = .ok (.invokevirtual 254, 3) := by decide +kernel
theorem dX10_whose_84 : decode cX10_whose 84 = .ok (.istore 6, 2) := by decide +kernel
theorem dX10_whose_86 : decode cX10_whose 86 = .ok (.iload_n 3, 1) := by decide +kernel
theorem dX10_whose_87 : decode cX10_whose 87 = .ok (.iconst (-1), 1) := by decide +kernel
theorem dX10_whose_88 : decode cX10_whose 88 = .ok (.if_icmp .eq 10, 3) := by decide +kernel
theorem dX10_whose_91 : decode cX10_whose 91 = .ok (.iload 6, 2) := by decide +kernel
theorem dX10_whose_93 : decode cX10_whose 93 = .ok (.iload 4, 2) := by decide +kernel
theorem dX10_whose_95 : decode cX10_whose 95 = .ok (.if_icmp .ge 10, 3) := by decide +kernel
theorem dX10_whose_98 : decode cX10_whose 98 = .ok (.iload 5, 2) := by decide +kernel
theorem dX10_whose_100 : decode cX10_whose 100 = .ok (.istore_n 3, 1) := by decide +kernel
theorem dX10_whose_101 : decode cX10_whose 101 = .ok (.iload 6, 2) := by decide +kernel
theorem dX10_whose_103 : decode cX10_whose 103 = .ok (.istore 4, 2) := by decide +kernel
theorem dX10_whose_105 : decode cX10_whose 105 = .ok (.iinc 5 1, 3) := by decide +kernel
theorem dX10_whose_108 : decode cX10_whose 108 = .ok (.goto (-43), 3) := by decide +kernel
theorem dX10_whose_111 : decode cX10_whose 111 = .ok (.iload_n 1, 1) := by decide +kernel
theorem dX10_whose_112 : decode cX10_whose 112 = .ok (.iconst 1, 1) := by decide +kernel
theorem dX10_whose_113 : decode cX10_whose 113 = .ok (.if_icmp .ne 7, 3) := by decide +kernel
theorem dX10_whose_116 : decode cX10_whose 116 = .ok (.iload_n 3, 1) := by decide +kernel
theorem dX10_whose_117 : decode cX10_whose 117 = .ok (.goto 5, 3) := by decide +kernel
theorem dX10_whose_120 : decode cX10_whose 120 = .ok (.iload 4, 2) := by decide +kernel
theorem dX10_whose_122 : decode cX10_whose 122 = .ok (.ireturn, 1) := by decide +kernel
theorem dX10_fitsBag_0 : decode cX10_fitsBag 0 = .ok (.iconst 0, 1) := by decide +kernel
theorem dX10_fitsBag_1 : decode cX10_fitsBag 1 = .ok (.istore_n 2, 1) := by decide +kernel
theorem dX10_fitsBag_2 : decode cX10_fitsBag 2 = .ok (.iload_n 2, 1) := by decide +kernel
theorem dX10_fitsBag_3 : decode cX10_fitsBag 3 = .ok (.aload_n 0, 1) := by decide +kernel
theorem dX10_fitsBag_4 : decode cX10_fitsBag 4 = .ok (.getfield 68, 3) := by decide +kernel
theorem dX10_fitsBag_7 : decode cX10_fitsBag 7 = .ok (.if_icmp .ge 40, 3) := by decide +kernel
theorem dX10_fitsBag_10 : decode cX10_fitsBag 10 = .ok (.iload_n 2, 1) := by decide +kernel
theorem dX10_fitsBag_11 : decode cX10_fitsBag 11 = .ok (.bipush 16, 2) := by decide +kernel
theorem dX10_fitsBag_13 : decode cX10_fitsBag 13 = .ok (.if_icmp .ge 34, 3) := by decide +kernel
theorem dX10_fitsBag_16 : decode cX10_fitsBag 16 = .ok (.aload_n 0, 1) := by decide +kernel
theorem dX10_fitsBag_17 : decode cX10_fitsBag 17 = .ok (.getfield 33, 3) := by decide +kernel
theorem dX10_fitsBag_20 : decode cX10_fitsBag 20 = .ok (.iload_n 1, 1) := by decide +kernel
theorem dX10_fitsBag_21 : decode cX10_fitsBag 21 = .ok (.aload_n 0, 1) := by decide +kernel
theorem dX10_fitsBag_22 : decode cX10_fitsBag 22 = .ok (.getfield 61, 3) := by decide +kernel
theorem dX10_fitsBag_25 : decode cX10_fitsBag 25 = .ok (.iload_n 2, 1) := by decide +kernel
theorem dX10_fitsBag_26 : decode cX10_fitsBag 26 = .ok (.iaload, 1) := by decide +kernel
theorem dX10_fitsBag_27 : decode cX10_fitsBag 27 = .ok (.invokevirtual 257, 3) := by decide +kernel
theorem dX10_fitsBag_30 : decode cX10_fitsBag 30 = .ok (.aload_n 0, 1) := by decide +kernel
theorem dX10_fitsBag_31 : decode cX10_fitsBag 31 = .ok (.getfield 65, 3) := by decide +kernel
theorem dX10_fitsBag_34 : decode cX10_fitsBag 34 = .ok (.iload_n 2, 1) := by decide +kernel
theorem dX10_fitsBag_35 : decode cX10_fitsBag 35 = .ok (.iaload, 1) := by decide +kernel
theorem dX10_fitsBag_36 : decode cX10_fitsBag 36 = .ok (.if_icmp .eq 5, 3) := by decide +kernel
theorem dX10_fitsBag_39 : decode cX10_fitsBag 39 = .ok (.iconst 0, 1) := by decide +kernel
theorem dX10_fitsBag_40 : decode cX10_fitsBag 40 = .ok (.ireturn, 1) := by decide +kernel
theorem dX10_fitsBag_41 : decode cX10_fitsBag 41 = .ok (.iinc 2 1, 3) := by decide +kernel
theorem dX10_fitsBag_44 : decode cX10_fitsBag 44 = .ok (.goto (-42), 3) := by decide +kernel
theorem dX10_fitsBag_47 : decode cX10_fitsBag 47 = .ok (.iconst 1, 1) := by decide +kernel
theorem dX10_fitsBag_48 : decode cX10_fitsBag 48 = .ok (.ireturn, 1) := by decide +kernel
theorem dX10_mostLeft_0 : decode cX10_mostLeft 0 = .ok (.iconst 0, 1) := by decide +kernel
theorem dX10_mostLeft_1 : decode cX10_mostLeft 1 = .ok (.istore_n 3, 1) := by decide +kernel
theorem dX10_mostLeft_2 : decode cX10_mostLeft 2 = .ok (.iconst 0, 1) := by decide +kernel
theorem dX10_mostLeft_3 : decode cX10_mostLeft 3 = .ok (.istore 4, 2) := by decide +kernel
theorem dX10_mostLeft_5 : decode cX10_mostLeft 5 = .ok (.iload 4, 2) := by decide +kernel
theorem dX10_mostLeft_7 : decode cX10_mostLeft 7 = .ok (.bipush 6, 2) := by decide +kernel
theorem dX10_mostLeft_9 : decode cX10_mostLeft 9 = .ok (.if_icmp .ge 79, 3) := by decide +kernel
theorem dX10_mostLeft_12 : decode cX10_mostLeft 12 = .ok (.iconst 0, 1) := by decide +kernel
theorem dX10_mostLeft_13 : decode cX10_mostLeft 13 = .ok (.istore 5, 2) := by decide +kernel
theorem dX10_mostLeft_15 : decode cX10_mostLeft 15 = .ok (.iconst 0, 1) := by decide +kernel
theorem dX10_mostLeft_16 : decode cX10_mostLeft 16 = .ok (.istore 6, 2) := by decide +kernel
theorem dX10_mostLeft_18 : decode cX10_mostLeft 18 = .ok (.iload 6, 2) := by decide +kernel
theorem dX10_mostLeft_20 : decode cX10_mostLeft 20 = .ok (.bipush 6, 2) := by decide +kernel
theorem dX10_mostLeft_22 : decode cX10_mostLeft 22 = .ok (.if_icmp .ge 44, 3) := by decide +kernel
theorem dX10_mostLeft_25 : decode cX10_mostLeft 25 = .ok (.iload_n 1, 1) := by decide +kernel
theorem dX10_mostLeft_26 : decode cX10_mostLeft 26 = .ok (.iload 6, 2) := by decide +kernel
theorem dX10_mostLeft_28 : decode cX10_mostLeft 28 = .ok (.ishr, 1) := by decide +kernel
theorem dX10_mostLeft_29 : decode cX10_mostLeft 29 = .ok (.iconst 1, 1) := by decide +kernel
theorem dX10_mostLeft_30 : decode cX10_mostLeft 30 = .ok (.iand, 1) := by decide +kernel
theorem dX10_mostLeft_31 : decode cX10_mostLeft 31 = .ok (.ifCond .eq 29, 3) := by decide +kernel
theorem dX10_mostLeft_34 : decode cX10_mostLeft 34 = .ok (.aload_n 0, 1) := by decide +kernel
theorem dX10_mostLeft_35 : decode cX10_mostLeft 35 = .ok (.getfield 33, 3) := by decide +kernel
theorem dX10_mostLeft_38 : decode cX10_mostLeft 38 = .ok (.iload 6, 2) := by decide +kernel
theorem dX10_mostLeft_40 : decode cX10_mostLeft 40 = .ok (.iload_n 2, 1) := by decide +kernel
theorem dX10_mostLeft_41 : decode cX10_mostLeft 41 = .ok (.invokevirtual 257, 3) := by decide +kernel
theorem dX10_mostLeft_44 : decode cX10_mostLeft 44 = .ok (.aload_n 0, 1) := by decide +kernel
theorem dX10_mostLeft_45 : decode cX10_mostLeft 45 = .ok (.getfield 33, 3) := by decide +kernel
theorem dX10_mostLeft_48 : decode cX10_mostLeft 48 = .ok (.iload 4, 2) := by decide +kernel
theorem dX10_mostLeft_50 : decode cX10_mostLeft 50 = .ok (.iload_n 2, 1) := by decide +kernel
theorem dX10_mostLeft_51 : decode cX10_mostLeft 51 = .ok (.invokevirtual 257, 3) := by decide +kernel
theorem dX10_mostLeft_54 : decode cX10_mostLeft 54 = .ok (.if_icmp .ne 6, 3) := by decide +kernel
theorem dX10_mostLeft_57 : decode cX10_mostLeft 57 = .ok (.iinc 5 1, 3) := by decide +kernel
theorem dX10_mostLeft_60 : decode cX10_mostLeft 60 = .ok (.iinc 6 1, 3) := by decide +kernel
theorem dX10_mostLeft_63 : decode cX10_mostLeft 63 = .ok (.goto (-45), 3) := by decide +kernel
theorem dX10_mostLeft_66 : decode cX10_mostLeft 66 = .ok (.iload_n 1, 1) := by decide +kernel
theorem dX10_mostLeft_67 : decode cX10_mostLeft 67 = .ok (.iload 4, 2) := by decide +kernel
theorem dX10_mostLeft_69 : decode cX10_mostLeft 69 = .ok (.ishr, 1) := by decide +kernel
theorem dX10_mostLeft_70 : decode cX10_mostLeft 70 = .ok (.iconst 1, 1) := by decide +kernel
theorem dX10_mostLeft_71 : decode cX10_mostLeft 71 = .ok (.iand, 1) := by decide +kernel
theorem dX10_mostLeft_72 : decode cX10_mostLeft 72 = .ok (.ifCond .eq 10, 3) := by decide +kernel
theorem dX10_mostLeft_75 : decode cX10_mostLeft 75 = .ok (.iload_n 3, 1) := by decide +kernel
theorem dX10_mostLeft_76 : decode cX10_mostLeft 76 = .ok (.iload 5, 2) := by decide +kernel
theorem dX10_mostLeft_78 : decode cX10_mostLeft 78 = .ok (.invokestatic 260, 3) := by decide +kernel
theorem dX10_mostLeft_81 : decode cX10_mostLeft 81 = .ok (.istore_n 3, 1) := by decide +kernel
theorem dX10_mostLeft_82 : decode cX10_mostLeft 82 = .ok (.iinc 4 1, 3) := by decide +kernel
theorem dX10_mostLeft_85 : decode cX10_mostLeft 85 = .ok (.goto (-80), 3) := by decide +kernel
theorem dX10_mostLeft_88 : decode cX10_mostLeft 88 = .ok (.iload_n 3, 1) := by decide +kernel
theorem dX10_mostLeft_89 : decode cX10_mostLeft 89 = .ok (.ireturn, 1) := by decide +kernel
theorem dX10_canPass_0 : decode cX10_canPass 0 = .ok (.iload_n 1, 1) := by decide +kernel
theorem dX10_canPass_1 : decode cX10_canPass 1 = .ok (.iconst 1, 1) := by decide +kernel
theorem dX10_canPass_2 : decode cX10_canPass 2 = .ok (.if_icmp .lt 28, 3) := by decide +kernel
theorem dX10_canPass_5 : decode cX10_canPass 5 = .ok (.iload_n 1, 1) := by decide +kernel
theorem dX10_canPass_6 : decode cX10_canPass 6 = .ok (.bipush 100, 2) := by decide +kernel
theorem dX10_canPass_8 : decode cX10_canPass 8 = .ok (.if_icmp .gt 22, 3) := by decide +kernel
theorem dX10_canPass_11 : decode cX10_canPass 11 = .ok (.iload_n 1, 1) := by decide +kernel
theorem dX10_canPass_12 : decode cX10_canPass 12 = .ok (.sipush 999, 3) := by decide +kernel
theorem dX10_canPass_15 : decode cX10_canPass 15 = .ok (.aload_n 0, 1) := by decide +kernel
theorem dX10_canPass_16 : decode cX10_canPass 16 = .ok (.getfield 33, 3) := by decide +kernel
theorem dX10_canPass_19 : decode cX10_canPass 19 = .ok (.getfield 124, 3) := by decide +kernel
theorem dX10_canPass_22 : decode cX10_canPass 22 = .ok (.isub, 1) := by decide +kernel
theorem dX10_canPass_23 : decode cX10_canPass 23 = .ok (.if_icmp .gt 7, 3) := by decide +kernel
theorem dX10_canPass_26 : decode cX10_canPass 26 = .ok (.iconst 1, 1) := by decide +kernel
theorem dX10_canPass_27 : decode cX10_canPass 27 = .ok (.goto 4, 3) := by decide +kernel
theorem dX10_canPass_30 : decode cX10_canPass 30 = .ok (.iconst 0, 1) := by decide +kernel
theorem dX10_canPass_31 : decode cX10_canPass 31 = .ok (.ireturn, 1) := by decide +kernel
theorem dX10_canGive_0 : decode cX10_canGive 0 = .ok (.aload_n 0, 1) := by decide +kernel
theorem dX10_canGive_1 : decode cX10_canGive 1 = .ok (.getfield 33, 3) := by decide +kernel
theorem dX10_canGive_4 : decode cX10_canGive 4 = .ok (.iload_n 1, 1) := by decide +kernel
theorem dX10_canGive_5 : decode cX10_canGive 5 = .ok (.iload_n 2, 1) := by decide +kernel
theorem dX10_canGive_6 : decode cX10_canGive 6 = .ok (.invokevirtual 257, 3) := by decide +kernel
theorem dX10_canGive_9 : decode cX10_canGive 9 = .ok (.ifCond .le 26, 3) := by decide +kernel
theorem dX10_canGive_12 : decode cX10_canGive 12 = .ok (.iload_n 3, 1) := by decide +kernel
theorem dX10_canGive_13 : decode cX10_canGive 13 = .ok (.iload_n 2, 1) := by decide +kernel
theorem dX10_canGive_14 : decode cX10_canGive 14 = .ok (.if_icmp .eq 17, 3) := by decide +kernel
theorem dX10_canGive_17 : decode cX10_canGive 17 = .ok (.aload_n 0, 1) := by decide +kernel
theorem dX10_canGive_18 : decode cX10_canGive 18 = .ok (.getfield 33, 3) := by decide +kernel
theorem dX10_canGive_21 : decode cX10_canGive 21 = .ok (.iload_n 3, 1) := by decide +kernel
theorem dX10_canGive_22 : decode cX10_canGive 22 = .ok (.iload_n 2, 1) := by decide +kernel
theorem dX10_canGive_23 : decode cX10_canGive 23 = .ok (.invokevirtual 257, 3) := by decide +kernel
theorem dX10_canGive_26 : decode cX10_canGive 26 = .ok (.bipush 99, 2) := by decide +kernel
theorem dX10_canGive_28 : decode cX10_canGive 28 = .ok (.if_icmp .ge 7, 3) := by decide +kernel
theorem dX10_canGive_31 : decode cX10_canGive 31 = .ok (.iconst 1, 1) := by decide +kernel
theorem dX10_canGive_32 : decode cX10_canGive 32 = .ok (.goto 4, 3) := by decide +kernel
theorem dX10_canGive_35 : decode cX10_canGive 35 = .ok (.iconst 0, 1) := by decide +kernel
theorem dX10_canGive_36 : decode cX10_canGive 36 = .ok (.ireturn, 1) := by decide +kernel
theorem dX10_seed_0 : decode cX10_seed 0 = .ok (.iload_n 1, 1) := by decide +kernel
theorem dX10_seed_1 : decode cX10_seed 1 = .ok (.ifCond .ge 11, 3) := by decide +kernel
theorem dX10_seed_4 : decode cX10_seed 4 = .ok (.aload_n 0, 1) := by decide +kernel
theorem dX10_seed_5 : decode cX10_seed 5 = .ok (.iconst 5, 1) := by decide +kernel
theorem dX10_seed_6 : decode cX10_seed 6 = .ok (.invokevirtual 80, 3) := by decide +kernel
theorem dX10_seed_9 : decode cX10_seed 9 = .ok (.pop, 1) := by decide +kernel
theorem dX10_seed_10 : decode cX10_seed 10 = .ok (.iconst 0, 1) := by decide +kernel
theorem dX10_seed_11 : decode cX10_seed 11 = .ok (.ireturn, 1) := by decide +kernel
theorem dX10_seed_12 : decode cX10_seed 12 = .ok (.aload_n 0, 1) := by decide +kernel
theorem dX10_seed_13 : decode cX10_seed 13 = .ok (.getfield 50, 3) := by decide +kernel
theorem dX10_seed_16 : decode cX10_seed 16 = .ok (.iload_n 1, 1) := by decide +kernel
theorem dX10_seed_17 : decode cX10_seed 17 = .ok (.putfield 146, 3) := by decide +kernel
theorem dX10_seed_20 : decode cX10_seed 20 = .ok (.iconst 1, 1) := by decide +kernel
theorem dX10_seed_21 : decode cX10_seed 21 = .ok (.ireturn, 1) := by decide +kernel
theorem dX10_kept_0 : decode cX10_kept 0 = .ok (.iload_n 1, 1) := by decide +kernel
theorem dX10_kept_1 : decode cX10_kept 1 = .ok (.ifCond .lt 26, 3) := by decide +kernel
theorem dX10_kept_4 : decode cX10_kept 4 = .ok (.iload_n 1, 1) := by decide +kernel
theorem dX10_kept_5 : decode cX10_kept 5 = .ok (.aload_n 0, 1) := by decide +kernel
theorem dX10_kept_6 : decode cX10_kept 6 = .ok (.getfield 33, 3) := by decide +kernel
theorem dX10_kept_9 : decode cX10_kept 9 = .ok (.getfield 143, 3) := by decide +kernel
theorem dX10_kept_12 : decode cX10_kept 12 = .ok (.if_icmp .ge 15, 3) := by decide +kernel
theorem dX10_kept_15 : decode cX10_kept 15 = .ok (.aload_n 0, 1) := by decide +kernel
theorem dX10_kept_16 : decode cX10_kept 16 = .ok (.getfield 33, 3) := by decide +kernel
theorem dX10_kept_19 : decode cX10_kept 19 = .ok (.iload_n 1, 1) := by decide +kernel
theorem dX10_kept_20 : decode cX10_kept 20 = .ok (.iload_n 2, 1) := by decide +kernel
theorem dX10_kept_21 : decode cX10_kept 21 = .ok (.invokevirtual 279, 3) := by decide +kernel
theorem dX10_kept_24 : decode cX10_kept 24 = .ok (.goto 4, 3) := by decide +kernel
theorem dX10_kept_27 : decode cX10_kept 27 = .ok (.iconst (-1), 1) := by decide +kernel
theorem dX10_kept_28 : decode cX10_kept 28 = .ok (.ireturn, 1) := by decide +kernel
theorem dX10_image_0 : decode cX10_image 0 = .ok (.aload_n 0, 1) := by decide +kernel
theorem dX10_image_1 : decode cX10_image 1 = .ok (.iconst 0, 1) := by decide +kernel
theorem dX10_image_2 : decode cX10_image 2 = .ok (.putfield 74, 3) := by decide +kernel
theorem dX10_image_5 : decode cX10_image 5 = .ok (.aload_n 0, 1) := by decide +kernel
theorem dX10_image_6 : decode cX10_image 6 = .ok (.aload_n 0, 1) := by decide +kernel
theorem dX10_image_7 : decode cX10_image 7 = .ok (.getfield 33, 3) := by decide +kernel
theorem dX10_image_10 : decode cX10_image 10 = .ok (.getfield 124, 3) := by decide +kernel
theorem dX10_image_13 : decode cX10_image 13 = .ok (.bipush 8, 2) := by decide +kernel
theorem dX10_image_15 : decode cX10_image 15 = .ok (.ishr, 1) := by decide +kernel
theorem dX10_image_16 : decode cX10_image 16 = .ok (.invokevirtual 282, 3) := by decide +kernel
theorem dX10_image_19 : decode cX10_image 19 = .ok (.aload_n 0, 1) := by decide +kernel
theorem dX10_image_20 : decode cX10_image 20 = .ok (.aload_n 0, 1) := by decide +kernel
theorem dX10_image_21 : decode cX10_image 21 = .ok (.getfield 33, 3) := by decide +kernel
theorem dX10_image_24 : decode cX10_image 24 = .ok (.getfield 124, 3) := by decide +kernel
theorem dX10_image_27 : decode cX10_image 27 = .ok (.sipush 255, 3) := by decide +kernel
theorem dX10_image_30 : decode cX10_image 30 = .ok (.iand, 1) := by decide +kernel
theorem dX10_image_31 : decode cX10_image 31 = .ok (.invokevirtual 282, 3) := by decide +kernel
theorem dX10_image_34 : decode cX10_image 34 = .ok (.iconst 0, 1) := by decide +kernel
theorem dX10_image_35 : decode cX10_image 35 = .ok (.istore_n 1, 1) := by decide +kernel
theorem dX10_image_36 : decode cX10_image 36 = .ok (.iload_n 1, 1) := by decide +kernel
theorem dX10_image_37 : decode cX10_image 37 = .ok (.bipush 36, 2) := by decide +kernel
theorem dX10_image_39 : decode cX10_image 39 = .ok (.if_icmp .ge 66, 3) := by decide +kernel
theorem dX10_image_42 : decode cX10_image 42 = .ok (.aload_n 0, 1) := by decide +kernel
theorem dX10_image_43 : decode cX10_image 43 = .ok (.getfield 20, 3) := by decide +kernel
theorem dX10_image_46 : decode cX10_image 46 = .ok (.iload_n 1, 1) := by decide +kernel
theorem dX10_image_47 : decode cX10_image 47 = .ok (.bipush 6, 2) := by decide +kernel
theorem dX10_image_49 : decode cX10_image 49 = .ok (.idiv, 1) := by decide +kernel
theorem dX10_image_50 : decode cX10_image 50 = .ok (.iload_n 1, 1) := by decide +kernel
theorem dX10_image_51 : decode cX10_image 51 = .ok (.bipush 6, 2) := by decide +kernel
theorem dX10_image_53 : decode cX10_image 53 = .ok (.irem, 1) := by decide +kernel
theorem dX10_image_54 : decode cX10_image 54 = .ok (.invokevirtual 162, 3) := by decide +kernel
theorem dX10_image_57 : decode cX10_image 57 = .ok (.ifCond .eq 42, 3) := by decide +kernel
theorem dX10_image_60 : decode cX10_image 60 = .ok (.aload_n 0, 1) := by decide +kernel
theorem dX10_image_61 : decode cX10_image 61 = .ok (.aload_n 0, 1) := by decide +kernel
theorem dX10_image_62 : decode cX10_image 62 = .ok (.getfield 33, 3) := by decide +kernel
