theorem dX7_copyFrom_66 : decode cX7_copyFrom 66 = .ok (.aload_n 0, 1) := by decide +kernel
theorem dX7_copyFrom_67 : decode cX7_copyFrom 67 = .ok (.getfield 28, 3) := by decide +kernel
theorem dX7_copyFrom_70 : decode cX7_copyFrom 70 = .ok (.iconst 0, 1) := by decide +kernel
theorem dX7_copyFrom_71 : decode cX7_copyFrom 71 = .ok (.bipush 60, 2) := by decide +kernel
theorem dX7_copyFrom_73 : decode cX7_copyFrom 73 = .ok (.invokestatic 50, 3) := by decide +kernel
theorem dX7_copyFrom_76 : decode cX7_copyFrom 76 = .ok (.aload_n 1, 1) := by decide +kernel
theorem dX7_copyFrom_77 : decode cX7_copyFrom 77 = .ok (.getfield 31, 3) := by decide +kernel
theorem dX7_copyFrom_80 : decode cX7_copyFrom 80 = .ok (.iconst 0, 1) := by decide +kernel
theorem dX7_copyFrom_81 : decode cX7_copyFrom 81 = .ok (.aload_n 0, 1) := by decide +kernel
theorem dX7_copyFrom_82 : decode cX7_copyFrom 82 = .ok (.getfield 31, 3) := by decide +kernel
theorem dX7_copyFrom_85 : decode cX7_copyFrom 85 = .ok (.iconst 0, 1) := by decide +kernel
theorem dX7_copyFrom_86 : decode cX7_copyFrom 86 = .ok (.bipush 60, 2) := by decide +kernel
theorem dX7_copyFrom_88 : decode cX7_copyFrom 88 = .ok (.invokestatic 50, 3) := by decide +kernel
theorem dX7_copyFrom_91 : decode cX7_copyFrom 91 = .ok (.aload_n 0, 1) := by decide +kernel
theorem dX7_copyFrom_92 : decode cX7_copyFrom 92 = .ok (.aload_n 1, 1) := by decide +kernel
theorem dX7_copyFrom_93 : decode cX7_copyFrom 93 = .ok (.getfield 34, 3) := by decide +kernel
theorem dX7_copyFrom_96 : decode cX7_copyFrom 96 = .ok (.putfield 34, 3) := by decide +kernel
theorem dX7_copyFrom_99 : decode cX7_copyFrom 99 = .ok (.aload_n 1, 1) := by decide +kernel
theorem dX7_copyFrom_100 : decode cX7_copyFrom 100 = .ok (.getfield 37, 3) := by decide +kernel
theorem dX7_copyFrom_103 : decode cX7_copyFrom 103 = .ok (.iconst 0, 1) := by decide +kernel
theorem dX7_copyFrom_104 : decode cX7_copyFrom 104 = .ok (.aload_n 0, 1) := by decide +kernel
theorem dX7_copyFrom_105 : decode cX7_copyFrom 105 = .ok (.getfield 37, 3) := by decide +kernel
theorem dX7_copyFrom_108 : decode cX7_copyFrom 108 = .ok (.iconst 0, 1) := by decide +kernel
theorem dX7_copyFrom_109 : decode cX7_copyFrom 109 = .ok (.bipush 50, 2) := by decide +kernel
theorem dX7_copyFrom_111 : decode cX7_copyFrom 111 = .ok (.invokestatic 50, 3) := by decide +kernel
theorem dX7_copyFrom_114 : decode cX7_copyFrom 114 = .ok (.return_, 1) := by decide +kernel
theorem dX7_heldBy_0 : decode cX7_heldBy 0 = .ok (.iload_n 1, 1) := by decide +kernel
theorem dX7_heldBy_1 : decode cX7_heldBy 1 = .ok (.bipush 6, 2) := by decide +kernel
theorem dX7_heldBy_3 : decode cX7_heldBy 3 = .ok (.imul, 1) := by decide +kernel
theorem dX7_heldBy_4 : decode cX7_heldBy 4 = .ok (.iload_n 2, 1) := by decide +kernel
theorem dX7_heldBy_5 : decode cX7_heldBy 5 = .ok (.iadd, 1) := by decide +kernel
theorem dX7_heldBy_6 : decode cX7_heldBy 6 = .ok (.istore_n 3, 1) := by decide +kernel
theorem dX7_heldBy_7 : decode cX7_heldBy 7 = .ok (.iload_n 3, 1) := by decide +kernel
theorem dX7_heldBy_8 : decode cX7_heldBy 8 = .ok (.ifCond .lt 18, 3) := by decide +kernel
theorem dX7_heldBy_11 : decode cX7_heldBy 11 = .ok (.iload_n 3, 1) := by decide +kernel
theorem dX7_heldBy_12 : decode cX7_heldBy 12 = .ok (.bipush 36, 2) := by decide +kernel
theorem dX7_heldBy_14 : decode cX7_heldBy 14 = .ok (.if_icmp .ge 12, 3) := by decide +kernel
theorem dX7_heldBy_17 : decode cX7_heldBy 17 = .ok (.aload_n 0, 1) := by decide +kernel
theorem dX7_heldBy_18 : decode cX7_heldBy 18 = .ok (.getfield 15, 3) := by decide +kernel
theorem dX7_heldBy_21 : decode cX7_heldBy 21 = .ok (.iload_n 3, 1) := by decide +kernel
theorem dX7_heldBy_22 : decode cX7_heldBy 22 = .ok (.iaload, 1) := by decide +kernel
theorem dX7_heldBy_23 : decode cX7_heldBy 23 = .ok (.goto 4, 3) := by decide +kernel
theorem dX7_heldBy_26 : decode cX7_heldBy 26 = .ok (.iconst 0, 1) := by decide +kernel
theorem dX7_heldBy_27 : decode cX7_heldBy 27 = .ok (.ireturn, 1) := by decide +kernel
theorem dX7_countOf_0 : decode cX7_countOf 0 = .ok (.iload_n 1, 1) := by decide +kernel
theorem dX7_countOf_1 : decode cX7_countOf 1 = .ok (.ifCond .lt 9, 3) := by decide +kernel
theorem dX7_countOf_4 : decode cX7_countOf 4 = .ok (.iload_n 1, 1) := by decide +kernel
theorem dX7_countOf_5 : decode cX7_countOf 5 = .ok (.bipush 36, 2) := by decide +kernel
theorem dX7_countOf_7 : decode cX7_countOf 7 = .ok (.if_icmp .lt 5, 3) := by decide +kernel
theorem dX7_countOf_10 : decode cX7_countOf 10 = .ok (.iconst (-1), 1) := by decide +kernel
theorem dX7_countOf_11 : decode cX7_countOf 11 = .ok (.ireturn, 1) := by decide +kernel
theorem dX7_countOf_12 : decode cX7_countOf 12 = .ok (.iload_n 2, 1) := by decide +kernel
theorem dX7_countOf_13 : decode cX7_countOf 13 = .ok (.tableswitch 48 0 2 #[27, 34, 41], 27) := by decide +kernel
theorem dX7_countOf_40 : decode cX7_countOf 40 = .ok (.aload_n 0, 1) := by decide +kernel
theorem dX7_countOf_41 : decode cX7_countOf 41 = .ok (.getfield 15, 3) := by decide +kernel
theorem dX7_countOf_44 : decode cX7_countOf 44 = .ok (.iload_n 1, 1) := by decide +kernel
theorem dX7_countOf_45 : decode cX7_countOf 45 = .ok (.iaload, 1) := by decide +kernel
theorem dX7_countOf_46 : decode cX7_countOf 46 = .ok (.ireturn, 1) := by decide +kernel
theorem dX7_countOf_47 : decode cX7_countOf 47 = .ok (.aload_n 0, 1) := by decide +kernel
theorem dX7_countOf_48 : decode cX7_countOf 48 = .ok (.getfield 19, 3) := by decide +kernel
theorem dX7_countOf_51 : decode cX7_countOf 51 = .ok (.iload_n 1, 1) := by decide +kernel
theorem dX7_countOf_52 : decode cX7_countOf 52 = .ok (.iaload, 1) := by decide +kernel
theorem dX7_countOf_53 : decode cX7_countOf 53 = .ok (.ireturn, 1) := by decide +kernel
theorem dX7_countOf_54 : decode cX7_countOf 54 = .ok (.aload_n 0, 1) := by decide +kernel
theorem dX7_countOf_55 : decode cX7_countOf 55 = .ok (.getfield 22, 3) := by decide +kernel
theorem dX7_countOf_58 : decode cX7_countOf 58 = .ok (.iload_n 1, 1) := by decide +kernel
theorem dX7_countOf_59 : decode cX7_countOf 59 = .ok (.iaload, 1) := by decide +kernel
theorem dX7_countOf_60 : decode cX7_countOf 60 = .ok (.ireturn, 1) := by decide +kernel
theorem dX7_countOf_61 : decode cX7_countOf 61 = .ok (.iconst (-1), 1) := by decide +kernel
theorem dX7_countOf_62 : decode cX7_countOf 62 = .ok (.ireturn, 1) := by decide +kernel
theorem dX7_post_0 : decode cX7_post 0 = .ok (.aload_n 0, 1) := by decide +kernel
theorem dX7_post_1 : decode cX7_post 1 = .ok (.getfield 25, 3) := by decide +kernel
theorem dX7_post_4 : decode cX7_post 4 = .ok (.bipush 60, 2) := by decide +kernel
theorem dX7_post_6 : decode cX7_post 6 = .ok (.if_icmp .ge 72, 3) := by decide +kernel
theorem dX7_post_9 : decode cX7_post 9 = .ok (.iload_n 1, 1) := by decide +kernel
theorem dX7_post_10 : decode cX7_post 10 = .ok (.ifCond .lt 68, 3) := by decide +kernel
theorem dX7_post_13 : decode cX7_post 13 = .ok (.iload_n 1, 1) := by decide +kernel
theorem dX7_post_14 : decode cX7_post 14 = .ok (.bipush 36, 2) := by decide +kernel
theorem dX7_post_16 : decode cX7_post 16 = .ok (.if_icmp .ge 62, 3) := by decide +kernel
theorem dX7_post_19 : decode cX7_post 19 = .ok (.aload_n 0, 1) := by decide +kernel
theorem dX7_post_20 : decode cX7_post 20 = .ok (.getfield 15, 3) := by decide +kernel
theorem dX7_post_23 : decode cX7_post 23 = .ok (.iload_n 1, 1) := by decide +kernel
theorem dX7_post_24 : decode cX7_post 24 = .ok (.dup2, 1) := by decide +kernel
theorem dX7_post_25 : decode cX7_post 25 = .ok (.iaload, 1) := by decide +kernel
theorem dX7_post_26 : decode cX7_post 26 = .ok (.iconst 1, 1) := by decide +kernel
theorem dX7_post_27 : decode cX7_post 27 = .ok (.isub, 1) := by decide +kernel
theorem dX7_post_28 : decode cX7_post 28 = .ok (.iastore, 1) := by decide +kernel
theorem dX7_post_29 : decode cX7_post 29 = .ok (.aload_n 0, 1) := by decide +kernel
theorem dX7_post_30 : decode cX7_post 30 = .ok (.getfield 19, 3) := by decide +kernel
theorem dX7_post_33 : decode cX7_post 33 = .ok (.iload_n 1, 1) := by decide +kernel
theorem dX7_post_34 : decode cX7_post 34 = .ok (.bipush 99, 2) := by decide +kernel
theorem dX7_post_36 : decode cX7_post 36 = .ok (.aload_n 0, 1) := by decide +kernel
theorem dX7_post_37 : decode cX7_post 37 = .ok (.getfield 19, 3) := by decide +kernel
theorem dX7_post_40 : decode cX7_post 40 = .ok (.iload_n 1, 1) := by decide +kernel
theorem dX7_post_41 : decode cX7_post 41 = .ok (.iaload, 1) := by decide +kernel
theorem dX7_post_42 : decode cX7_post 42 = .ok (.iconst 1, 1) := by decide +kernel
theorem dX7_post_43 : decode cX7_post 43 = .ok (.iadd, 1) := by decide +kernel
theorem dX7_post_44 : decode cX7_post 44 = .ok (.invokestatic 56, 3) := by decide +kernel
theorem dX7_post_47 : decode cX7_post 47 = .ok (.iastore, 1) := by decide +kernel
theorem dX7_post_48 : decode cX7_post 48 = .ok (.aload_n 0, 1) := by decide +kernel
theorem dX7_post_49 : decode cX7_post 49 = .ok (.getfield 28, 3) := by decide +kernel
theorem dX7_post_52 : decode cX7_post 52 = .ok (.aload_n 0, 1) := by decide +kernel
theorem dX7_post_53 : decode cX7_post 53 = .ok (.getfield 25, 3) := by decide +kernel
theorem dX7_post_56 : decode cX7_post 56 = .ok (.iload_n 1, 1) := by decide +kernel
theorem dX7_post_57 : decode cX7_post 57 = .ok (.iastore, 1) := by decide +kernel
theorem dX7_post_58 : decode cX7_post 58 = .ok (.aload_n 0, 1) := by decide +kernel
theorem dX7_post_59 : decode cX7_post 59 = .ok (.getfield 31, 3) := by decide +kernel
theorem dX7_post_62 : decode cX7_post 62 = .ok (.aload_n 0, 1) := by decide +kernel
theorem dX7_post_63 : decode cX7_post 63 = .ok (.getfield 25, 3) := by decide +kernel
theorem dX7_post_66 : decode cX7_post 66 = .ok (.iload_n 2, 1) := by decide +kernel
theorem dX7_post_67 : decode cX7_post 67 = .ok (.iastore, 1) := by decide +kernel
theorem dX7_post_68 : decode cX7_post 68 = .ok (.aload_n 0, 1) := by decide +kernel
theorem dX7_post_69 : decode cX7_post 69 = .ok (.dup, 1) := by decide +kernel
theorem dX7_post_70 : decode cX7_post 70 = .ok (.getfield 25, 3) := by decide +kernel
theorem dX7_post_73 : decode cX7_post 73 = .ok (.iconst 1, 1) := by decide +kernel
theorem dX7_post_74 : decode cX7_post 74 = .ok (.iadd, 1) := by decide +kernel
theorem dX7_post_75 : decode cX7_post 75 = .ok (.putfield 25, 3) := by decide +kernel
theorem dX7_post_78 : decode cX7_post 78 = .ok (.return_, 1) := by decide +kernel
theorem dX7_deliver_0 : decode cX7_deliver 0 = .ok (.aload_n 0, 1) := by decide +kernel
theorem dX7_deliver_1 : decode cX7_deliver 1 = .ok (.iload_n 1, 1) := by decide +kernel
theorem dX7_deliver_2 : decode cX7_deliver 2 = .ok (.iload_n 3, 1) := by decide +kernel
theorem dX7_deliver_3 : decode cX7_deliver 3 = .ok (.invokevirtual 62, 3) := by decide +kernel
theorem dX7_deliver_6 : decode cX7_deliver 6 = .ok (.iload_n 3, 1) := by decide +kernel
theorem dX7_deliver_7 : decode cX7_deliver 7 = .ok (.ifCond .eq 14, 3) := by decide +kernel
theorem dX7_deliver_10 : decode cX7_deliver 10 = .ok (.aload_n 0, 1) := by decide +kernel
theorem dX7_deliver_11 : decode cX7_deliver 11 = .ok (.dup, 1) := by decide +kernel
theorem dX7_deliver_12 : decode cX7_deliver 12 = .ok (.getfield 47, 3) := by decide +kernel
theorem dX7_deliver_15 : decode cX7_deliver 15 = .ok (.iconst 1, 1) := by decide +kernel
theorem dX7_deliver_16 : decode cX7_deliver 16 = .ok (.iadd, 1) := by decide +kernel
theorem dX7_deliver_17 : decode cX7_deliver 17 = .ok (.putfield 47, 3) := by decide +kernel
theorem dX7_deliver_20 : decode cX7_deliver 20 = .ok (.return_, 1) := by decide +kernel
theorem dX7_deliver_21 : decode cX7_deliver 21 = .ok (.aload_n 0, 1) := by decide +kernel
theorem dX7_deliver_22 : decode cX7_deliver 22 = .ok (.dup, 1) := by decide +kernel
theorem dX7_deliver_23 : decode cX7_deliver 23 = .ok (.getfield 44, 3) := by decide +kernel
theorem dX7_deliver_26 : decode cX7_deliver 26 = .ok (.iconst 1, 1) := by decide +kernel
theorem dX7_deliver_27 : decode cX7_deliver 27 = .ok (.iadd, 1) := by decide +kernel
theorem dX7_deliver_28 : decode cX7_deliver 28 = .ok (.putfield 44, 3) := by decide +kernel
theorem dX7_deliver_31 : decode cX7_deliver 31 = .ok (.aload_n 0, 1) := by decide +kernel
theorem dX7_deliver_32 : decode cX7_deliver 32 = .ok (.dup, 1) := by decide +kernel
theorem dX7_deliver_33 : decode cX7_deliver 33 = .ok (.getfield 40, 3) := by decide +kernel
theorem dX7_deliver_36 : decode cX7_deliver 36 = .ok (.lconst 1, 1) := by decide +kernel
theorem dX7_deliver_37 : decode cX7_deliver 37 = .ok (.iload_n 1, 1) := by decide +kernel
theorem dX7_deliver_38 : decode cX7_deliver 38 = .ok (.lshl, 1) := by decide +kernel
theorem dX7_deliver_39 : decode cX7_deliver 39 = .ok (.lor, 1) := by decide +kernel
theorem dX7_deliver_40 : decode cX7_deliver 40 = .ok (.putfield 40, 3) := by decide +kernel
theorem dX7_deliver_43 : decode cX7_deliver 43 = .ok (.iload_n 1, 1) := by decide +kernel
theorem dX7_deliver_44 : decode cX7_deliver 44 = .ok (.bipush 6, 2) := by decide +kernel
theorem dX7_deliver_46 : decode cX7_deliver 46 = .ok (.irem, 1) := by decide +kernel
theorem dX7_deliver_47 : decode cX7_deliver 47 = .ok (.bipush 6, 2) := by decide +kernel
theorem dX7_deliver_49 : decode cX7_deliver 49 = .ok (.imul, 1) := by decide +kernel
theorem dX7_deliver_50 : decode cX7_deliver 50 = .ok (.iload_n 1, 1) := by decide +kernel
theorem dX7_deliver_51 : decode cX7_deliver 51 = .ok (.bipush 6, 2) := by decide +kernel
theorem dX7_deliver_53 : decode cX7_deliver 53 = .ok (.idiv, 1) := by decide +kernel
theorem dX7_deliver_54 : decode cX7_deliver 54 = .ok (.iadd, 1) := by decide +kernel
theorem dX7_deliver_55 : decode cX7_deliver 55 = .ok (.istore 4, 2) := by decide +kernel
theorem dX7_deliver_57 : decode cX7_deliver 57 = .ok (.iload 4, 2) := by decide +kernel
theorem dX7_deliver_59 : decode cX7_deliver 59 = .ok (.ifCond .lt 52, 3) := by decide +kernel
theorem dX7_deliver_62 : decode cX7_deliver 62 = .ok (.iload 4, 2) := by decide +kernel
theorem dX7_deliver_64 : decode cX7_deliver 64 = .ok (.bipush 36, 2) := by decide +kernel
theorem dX7_deliver_66 : decode cX7_deliver 66 = .ok (.if_icmp .ge 45, 3) := by decide +kernel
theorem dX7_deliver_69 : decode cX7_deliver 69 = .ok (.aload_n 0, 1) := by decide +kernel
theorem dX7_deliver_70 : decode cX7_deliver 70 = .ok (.getfield 15, 3) := by decide +kernel
theorem dX7_deliver_73 : decode cX7_deliver 73 = .ok (.iload 4, 2) := by decide +kernel
theorem dX7_deliver_75 : decode cX7_deliver 75 = .ok (.bipush 99, 2) := by decide +kernel
theorem dX7_deliver_77 : decode cX7_deliver 77 = .ok (.aload_n 0, 1) := by decide +kernel
theorem dX7_deliver_78 : decode cX7_deliver 78 = .ok (.getfield 15, 3) := by decide +kernel
theorem dX7_deliver_81 : decode cX7_deliver 81 = .ok (.iload 4, 2) := by decide +kernel
theorem dX7_deliver_83 : decode cX7_deliver 83 = .ok (.iaload, 1) := by decide +kernel
theorem dX7_deliver_84 : decode cX7_deliver 84 = .ok (.iload_n 2, 1) := by decide +kernel
theorem dX7_deliver_85 : decode cX7_deliver 85 = .ok (.iadd, 1) := by decide +kernel
theorem dX7_deliver_86 : decode cX7_deliver 86 = .ok (.invokestatic 56, 3) := by decide +kernel
theorem dX7_deliver_89 : decode cX7_deliver 89 = .ok (.iastore, 1) := by decide +kernel
theorem dX7_deliver_90 : decode cX7_deliver 90 = .ok (.aload_n 0, 1) := by decide +kernel
theorem dX7_deliver_91 : decode cX7_deliver 91 = .ok (.getfield 22, 3) := by decide +kernel
theorem dX7_deliver_94 : decode cX7_deliver 94 = .ok (.iload 4, 2) := by decide +kernel
theorem dX7_deliver_96 : decode cX7_deliver 96 = .ok (.bipush 99, 2) := by decide +kernel
theorem dX7_deliver_98 : decode cX7_deliver 98 = .ok (.aload_n 0, 1) := by decide +kernel
theorem dX7_deliver_99 : decode cX7_deliver 99 = .ok (.getfield 22, 3) := by decide +kernel
theorem dX7_deliver_102 : decode cX7_deliver 102 = .ok (.iload 4, 2) := by decide +kernel
theorem dX7_deliver_104 : decode cX7_deliver 104 = .ok (.iaload, 1) := by decide +kernel
theorem dX7_deliver_105 : decode cX7_deliver 105 = .ok (.iconst 1, 1) := by decide +kernel
theorem dX7_deliver_106 : decode cX7_deliver 106 = .ok (.iadd, 1) := by decide +kernel
theorem dX7_deliver_107 : decode cX7_deliver 107 = .ok (.invokestatic 56, 3) := by decide +kernel
theorem dX7_deliver_110 : decode cX7_deliver 110 = .ok (.iastore, 1) := by decide +kernel
theorem dX7_deliver_111 : decode cX7_deliver 111 = .ok (.return_, 1) := by decide +kernel
theorem dX7_keep_0 : decode cX7_keep 0 = .ok (.aload_n 0, 1) := by decide +kernel
theorem dX7_keep_1 : decode cX7_keep 1 = .ok (.getfield 34, 3) := by decide +kernel
theorem dX7_keep_4 : decode cX7_keep 4 = .ok (.bipush 50, 2) := by decide +kernel
theorem dX7_keep_6 : decode cX7_keep 6 = .ok (.if_icmp .ne 28, 3) := by decide +kernel
theorem dX7_keep_9 : decode cX7_keep 9 = .ok (.aload_n 0, 1) := by decide +kernel
theorem dX7_keep_10 : decode cX7_keep 10 = .ok (.getfield 37, 3) := by decide +kernel
theorem dX7_keep_13 : decode cX7_keep 13 = .ok (.iconst 1, 1) := by decide +kernel
theorem dX7_keep_14 : decode cX7_keep 14 = .ok (.aload_n 0, 1) := by decide +kernel
theorem dX7_keep_15 : decode cX7_keep 15 = .ok (.getfield 37, 3) := by decide +kernel
theorem dX7_keep_18 : decode cX7_keep 18 = .ok (.iconst 0, 1) := by decide +kernel
theorem dX7_keep_19 : decode cX7_keep 19 = .ok (.bipush 49, 2) := by decide +kernel
theorem dX7_keep_21 : decode cX7_keep 21 = .ok (.invokestatic 50, 3) := by decide +kernel
theorem dX7_keep_24 : decode cX7_keep 24 = .ok (.aload_n 0, 1) := by decide +kernel
theorem dX7_keep_25 : decode cX7_keep 25 = .ok (.dup, 1) := by decide +kernel
theorem dX7_keep_26 : decode cX7_keep 26 = .ok (.getfield 34, 3) := by decide +kernel
theorem dX7_keep_29 : decode cX7_keep 29 = .ok (.iconst 1, 1) := by decide +kernel
theorem dX7_keep_30 : decode cX7_keep 30 = .ok (.isub, 1) := by decide +kernel
theorem dX7_keep_31 : decode cX7_keep 31 = .ok (.putfield 34, 3) := by decide +kernel
theorem dX7_keep_34 : decode cX7_keep 34 = .ok (.aload_n 0, 1) := by decide +kernel
theorem dX7_keep_35 : decode cX7_keep 35 = .ok (.getfield 37, 3) := by decide +kernel
theorem dX7_keep_38 : decode cX7_keep 38 = .ok (.aload_n 0, 1) := by decide +kernel
theorem dX7_keep_39 : decode cX7_keep 39 = .ok (.getfield 34, 3) := by decide +kernel
theorem dX7_keep_42 : decode cX7_keep 42 = .ok (.aload_n 0, 1) := by decide +kernel
theorem dX7_keep_43 : decode cX7_keep 43 = .ok (.getfield 9, 3) := by decide +kernel
theorem dX7_keep_46 : decode cX7_keep 46 = .ok (.bipush 36, 2) := by decide +kernel
theorem dX7_keep_48 : decode cX7_keep 48 = .ok (.imul, 1) := by decide +kernel
theorem dX7_keep_49 : decode cX7_keep 49 = .ok (.iload_n 1, 1) := by decide +kernel
theorem dX7_keep_50 : decode cX7_keep 50 = .ok (.iadd, 1) := by decide +kernel
theorem dX7_keep_51 : decode cX7_keep 51 = .ok (.iconst 2, 1) := by decide +kernel
theorem dX7_keep_52 : decode cX7_keep 52 = .ok (.imul, 1) := by decide +kernel
theorem dX7_keep_53 : decode cX7_keep 53 = .ok (.iload_n 2, 1) := by decide +kernel
theorem dX7_keep_54 : decode cX7_keep 54 = .ok (.ifCond .eq 7, 3) := by decide +kernel
theorem dX7_keep_57 : decode cX7_keep 57 = .ok (.iconst 1, 1) := by decide +kernel
theorem dX7_keep_58 : decode cX7_keep 58 = .ok (.goto 4, 3) := by decide +kernel
theorem dX7_keep_61 : decode cX7_keep 61 = .ok (.iconst 0, 1) := by decide +kernel
theorem dX7_keep_62 : decode cX7_keep 62 = .ok (.iadd, 1) := by decide +kernel
theorem dX7_keep_63 : decode cX7_keep 63 = .ok (.iastore, 1) := by decide +kernel
theorem dX7_keep_64 : decode cX7_keep 64 = .ok (.aload_n 0, 1) := by decide +kernel
theorem dX7_keep_65 : decode cX7_keep 65 = .ok (.dup, 1) := by decide +kernel
theorem dX7_keep_66 : decode cX7_keep 66 = .ok (.getfield 34, 3) := by decide +kernel
theorem dX7_keep_69 : decode cX7_keep 69 = .ok (.iconst 1, 1) := by decide +kernel
theorem dX7_keep_70 : decode cX7_keep 70 = .ok (.iadd, 1) := by decide +kernel
theorem dX7_keep_71 : decode cX7_keep 71 = .ok (.putfield 34, 3) := by decide +kernel
theorem dX7_keep_74 : decode cX7_keep 74 = .ok (.return_, 1) := by decide +kernel
theorem dX7_keptAt_0 : decode cX7_keptAt 0 = .ok (.iload_n 1, 1) := by decide +kernel
theorem dX7_keptAt_1 : decode cX7_keptAt 1 = .ok (.ifCond .lt 9, 3) := by decide +kernel
theorem dX7_keptAt_4 : decode cX7_keptAt 4 = .ok (.iload_n 1, 1) := by decide +kernel
theorem dX7_keptAt_5 : decode cX7_keptAt 5 = .ok (.bipush 50, 2) := by decide +kernel
theorem dX7_keptAt_7 : decode cX7_keptAt 7 = .ok (.if_icmp .lt 5, 3) := by decide +kernel
theorem dX7_keptAt_10 : decode cX7_keptAt 10 = .ok (.iconst (-1), 1) := by decide +kernel
theorem dX7_keptAt_11 : decode cX7_keptAt 11 = .ok (.ireturn, 1) := by decide +kernel
theorem dX7_keptAt_12 : decode cX7_keptAt 12 = .ok (.aload_n 0, 1) := by decide +kernel
theorem dX7_keptAt_13 : decode cX7_keptAt 13 = .ok (.getfield 37, 3) := by decide +kernel
theorem dX7_keptAt_16 : decode cX7_keptAt 16 = .ok (.iload_n 1, 1) := by decide +kernel
theorem dX7_keptAt_17 : decode cX7_keptAt 17 = .ok (.iaload, 1) := by decide +kernel
theorem dX7_keptAt_18 : decode cX7_keptAt 18 = .ok (.iconst 2, 1) := by decide +kernel
theorem dX7_keptAt_19 : decode cX7_keptAt 19 = .ok (.idiv, 1) := by decide +kernel
theorem dX7_keptAt_20 : decode cX7_keptAt 20 = .ok (.bipush 36, 2) := by decide +kernel
theorem dX7_keptAt_22 : decode cX7_keptAt 22 = .ok (.irem, 1) := by decide +kernel
theorem dX7_keptAt_23 : decode cX7_keptAt 23 = .ok (.istore_n 3, 1) := by decide +kernel
theorem dX7_keptAt_24 : decode cX7_keptAt 24 = .ok (.iload_n 2, 1) := by decide +kernel
theorem dX7_keptAt_25 : decode cX7_keptAt 25 = .ok (.tableswitch 62 0 3 #[31, 43, 48, 53], 31) := by decide +kernel
theorem dX7_keptAt_56 : decode cX7_keptAt 56 = .ok (.aload_n 0, 1) := by decide +kernel
theorem dX7_keptAt_57 : decode cX7_keptAt 57 = .ok (.getfield 37, 3) := by decide +kernel
theorem dX7_keptAt_60 : decode cX7_keptAt 60 = .ok (.iload_n 1, 1) := by decide +kernel
theorem dX7_keptAt_61 : decode cX7_keptAt 61 = .ok (.iaload, 1) := by decide +kernel
theorem dX7_keptAt_62 : decode cX7_keptAt 62 = .ok (.iconst 2, 1) := by decide +kernel
theorem dX7_keptAt_63 : decode cX7_keptAt 63 = .ok (.idiv, 1) := by decide +kernel
theorem dX7_keptAt_64 : decode cX7_keptAt 64 = .ok (.bipush 36, 2) := by decide +kernel
theorem dX7_keptAt_66 : decode cX7_keptAt 66 = .ok (.idiv, 1) := by decide +kernel
theorem dX7_keptAt_67 : decode cX7_keptAt 67 = .ok (.ireturn, 1) := by decide +kernel
theorem dX7_keptAt_68 : decode cX7_keptAt 68 = .ok (.iload_n 3, 1) := by decide +kernel
theorem dX7_keptAt_69 : decode cX7_keptAt 69 = .ok (.bipush 6, 2) := by decide +kernel
theorem dX7_keptAt_71 : decode cX7_keptAt 71 = .ok (.idiv, 1) := by decide +kernel
theorem dX7_keptAt_72 : decode cX7_keptAt 72 = .ok (.ireturn, 1) := by decide +kernel
theorem dX7_keptAt_73 : decode cX7_keptAt 73 = .ok (.iload_n 3, 1) := by decide +kernel
theorem dX7_keptAt_74 : decode cX7_keptAt 74 = .ok (.bipush 6, 2) := by decide +kernel
theorem dX7_keptAt_76 : decode cX7_keptAt 76 = .ok (.irem, 1) := by decide +kernel
theorem dX7_keptAt_77 : decode cX7_keptAt 77 = .ok (.ireturn, 1) := by decide +kernel
theorem dX7_keptAt_78 : decode cX7_keptAt 78 = .ok (.aload_n 0, 1) := by decide +kernel
theorem dX7_keptAt_79 : decode cX7_keptAt 79 = .ok (.getfield 37, 3) := by decide +kernel
theorem dX7_keptAt_82 : decode cX7_keptAt 82 = .ok (.iload_n 1, 1) := by decide +kernel
theorem dX7_keptAt_83 : decode cX7_keptAt 83 = .ok (.iaload, 1) := by decide +kernel
theorem dX7_keptAt_84 : decode cX7_keptAt 84 = .ok (.iconst 2, 1) := by decide +kernel
theorem dX7_keptAt_85 : decode cX7_keptAt 85 = .ok (.irem, 1) := by decide +kernel
theorem dX7_keptAt_86 : decode cX7_keptAt 86 = .ok (.ireturn, 1) := by decide +kernel
theorem dX7_keptAt_87 : decode cX7_keptAt 87 = .ok (.iconst (-1), 1) := by decide +kernel
theorem dX7_keptAt_88 : decode cX7_keptAt 88 = .ok (.ireturn, 1) := by decide +kernel
theorem dX8_letterOf_0 : decode cX8_letterOf 0 = .ok (.iload_n 0, 1) := by decide +kernel
theorem dX8_letterOf_1 : decode cX8_letterOf 1 = .ok (.iload_n 1, 1) := by decide +kernel
theorem dX8_letterOf_2 : decode cX8_letterOf 2 = .ok (.iconst 5, 1) := by decide +kernel
theorem dX8_letterOf_3 : decode cX8_letterOf 3 = .ok (.imul, 1) := by decide +kernel
theorem dX8_letterOf_4 : decode cX8_letterOf 4 = .ok (.ishr, 1) := by decide +kernel
theorem dX8_letterOf_5 : decode cX8_letterOf 5 = .ok (.bipush 31, 2) := by decide +kernel
theorem dX8_letterOf_7 : decode cX8_letterOf 7 = .ok (.iand, 1) := by decide +kernel
theorem dX8_letterOf_8 : decode cX8_letterOf 8 = .ok (.ireturn, 1) := by decide +kernel
theorem dX8_kindOf_0 : decode cX8_kindOf 0 = .ok (.iload_n 0, 1) := by decide +kernel
theorem dX8_kindOf_1 : decode cX8_kindOf 1 = .ok (.bipush 97, 2) := by decide +kernel
theorem dX8_kindOf_3 : decode cX8_kindOf 3 = .ok (.if_icmp .lt 11, 3) := by decide +kernel
theorem dX8_kindOf_6 : decode cX8_kindOf 6 = .ok (.iload_n 0, 1) := by decide +kernel
theorem dX8_kindOf_7 : decode cX8_kindOf 7 = .ok (.bipush 122, 2) := by decide +kernel
theorem dX8_kindOf_9 : decode cX8_kindOf 9 = .ok (.if_icmp .gt 5, 3) := by decide +kernel
theorem dX8_kindOf_12 : decode cX8_kindOf 12 = .ok (.iconst 3, 1) := by decide +kernel
theorem dX8_kindOf_13 : decode cX8_kindOf 13 = .ok (.ireturn, 1) := by decide +kernel
theorem dX8_kindOf_14 : decode cX8_kindOf 14 = .ok (.iload_n 0, 1) := by decide +kernel
theorem dX8_kindOf_15 : decode cX8_kindOf 15 = .ok (.bipush 48, 2) := by decide +kernel
theorem dX8_kindOf_17 : decode cX8_kindOf 17 = .ok (.if_icmp .lt 11, 3) := by decide +kernel
theorem dX8_kindOf_20 : decode cX8_kindOf 20 = .ok (.iload_n 0, 1) := by decide +kernel
theorem dX8_kindOf_21 : decode cX8_kindOf 21 = .ok (.bipush 57, 2) := by decide +kernel
theorem dX8_kindOf_23 : decode cX8_kindOf 23 = .ok (.if_icmp .gt 5, 3) := by decide +kernel
theorem dX8_kindOf_26 : decode cX8_kindOf 26 = .ok (.iconst 2, 1) := by decide +kernel
theorem dX8_kindOf_27 : decode cX8_kindOf 27 = .ok (.ireturn, 1) := by decide +kernel
theorem dX8_kindOf_28 : decode cX8_kindOf 28 = .ok (.iload_n 0, 1) := by decide +kernel
theorem dX8_kindOf_29 : decode cX8_kindOf 29 = .ok (.bipush 10, 2) := by decide +kernel
theorem dX8_kindOf_31 : decode cX8_kindOf 31 = .ok (.if_icmp .eq 9, 3) := by decide +kernel
theorem dX8_kindOf_34 : decode cX8_kindOf 34 = .ok (.iload_n 0, 1) := by decide +kernel
theorem dX8_kindOf_35 : decode cX8_kindOf 35 = .ok (.bipush 32, 2) := by decide +kernel
theorem dX8_kindOf_37 : decode cX8_kindOf 37 = .ok (.if_icmp .ne 7, 3) := by decide +kernel
theorem dX8_kindOf_40 : decode cX8_kindOf 40 = .ok (.iconst 0, 1) := by decide +kernel
theorem dX8_kindOf_41 : decode cX8_kindOf 41 = .ok (.goto 4, 3) := by decide +kernel
theorem dX8_kindOf_44 : decode cX8_kindOf 44 = .ok (.iconst 1, 1) := by decide +kernel
theorem dX8_kindOf_45 : decode cX8_kindOf 45 = .ok (.ireturn, 1) := by decide +kernel
theorem dX8_add_0 : decode cX8_add 0 = .ok (.aload_n 0, 1) := by decide +kernel
theorem dX8_add_1 : decode cX8_add 1 = .ok (.getfield 7, 3) := by decide +kernel
theorem dX8_add_4 : decode cX8_add 4 = .ok (.aload_n 0, 1) := by decide +kernel
theorem dX8_add_5 : decode cX8_add 5 = .ok (.getfield 19, 3) := by decide +kernel
theorem dX8_add_8 : decode cX8_add 8 = .ok (.arraylength, 1) := by decide +kernel
theorem dX8_add_9 : decode cX8_add 9 = .ok (.if_icmp .ge 43, 3) := by decide +kernel
theorem dX8_add_12 : decode cX8_add 12 = .ok (.aload_n 0, 1) := by decide +kernel
theorem dX8_add_13 : decode cX8_add 13 = .ok (.getfield 19, 3) := by decide +kernel
theorem dX8_add_16 : decode cX8_add 16 = .ok (.aload_n 0, 1) := by decide +kernel
theorem dX8_add_17 : decode cX8_add 17 = .ok (.getfield 7, 3) := by decide +kernel
theorem dX8_add_20 : decode cX8_add 20 = .ok (.iload_n 1, 1) := by decide +kernel
theorem dX8_add_21 : decode cX8_add 21 = .ok (.iastore, 1) := by decide +kernel
theorem dX8_add_22 : decode cX8_add 22 = .ok (.aload_n 0, 1) := by decide +kernel
theorem dX8_add_23 : decode cX8_add 23 = .ok (.getfield 23, 3) := by decide +kernel
theorem dX8_add_26 : decode cX8_add 26 = .ok (.aload_n 0, 1) := by decide +kernel
theorem dX8_add_27 : decode cX8_add 27 = .ok (.getfield 7, 3) := by decide +kernel
theorem dX8_add_30 : decode cX8_add 30 = .ok (.iload_n 2, 1) := by decide +kernel
theorem dX8_add_31 : decode cX8_add 31 = .ok (.iastore, 1) := by decide +kernel
theorem dX8_add_32 : decode cX8_add 32 = .ok (.aload_n 0, 1) := by decide +kernel
theorem dX8_add_33 : decode cX8_add 33 = .ok (.getfield 26, 3) := by decide +kernel
theorem dX8_add_36 : decode cX8_add 36 = .ok (.aload_n 0, 1) := by decide +kernel
theorem dX8_add_37 : decode cX8_add 37 = .ok (.getfield 7, 3) := by decide +kernel
theorem dX8_add_40 : decode cX8_add 40 = .ok (.iload_n 3, 1) := by decide +kernel
theorem dX8_add_41 : decode cX8_add 41 = .ok (.iastore, 1) := by decide +kernel
theorem dX8_add_42 : decode cX8_add 42 = .ok (.aload_n 0, 1) := by decide +kernel
theorem dX8_add_43 : decode cX8_add 43 = .ok (.dup, 1) := by decide +kernel
theorem dX8_add_44 : decode cX8_add 44 = .ok (.getfield 7, 3) := by decide +kernel
theorem dX8_add_47 : decode cX8_add 47 = .ok (.iconst 1, 1) := by decide +kernel
theorem dX8_add_48 : decode cX8_add 48 = .ok (.iadd, 1) := by decide +kernel
theorem dX8_add_49 : decode cX8_add 49 = .ok (.putfield 7, 3) := by decide +kernel
theorem dX8_add_52 : decode cX8_add 52 = .ok (.return_, 1) := by decide +kernel
theorem dX8_spoil_0 : decode cX8_spoil 0 = .ok (.aload_n 0, 1) := by decide +kernel
theorem dX8_spoil_1 : decode cX8_spoil 1 = .ok (.getfield 7, 3) := by decide +kernel
theorem dX8_spoil_4 : decode cX8_spoil 4 = .ok (.ifCond .le 27, 3) := by decide +kernel
theorem dX8_spoil_7 : decode cX8_spoil 7 = .ok (.aload_n 0, 1) := by decide +kernel
theorem dX8_spoil_8 : decode cX8_spoil 8 = .ok (.getfield 19, 3) := by decide +kernel
theorem dX8_spoil_11 : decode cX8_spoil 11 = .ok (.aload_n 0, 1) := by decide +kernel
theorem dX8_spoil_12 : decode cX8_spoil 12 = .ok (.getfield 7, 3) := by decide +kernel
theorem dX8_spoil_15 : decode cX8_spoil 15 = .ok (.iconst 1, 1) := by decide +kernel
theorem dX8_spoil_16 : decode cX8_spoil 16 = .ok (.isub, 1) := by decide +kernel
theorem dX8_spoil_17 : decode cX8_spoil 17 = .ok (.iconst 5, 1) := by decide +kernel
theorem dX8_spoil_18 : decode cX8_spoil 18 = .ok (.iastore, 1) := by decide +kernel
theorem dX8_spoil_19 : decode cX8_spoil 19 = .ok (.aload_n 0, 1) := by decide +kernel
theorem dX8_spoil_20 : decode cX8_spoil 20 = .ok (.getfield 23, 3) := by decide +kernel
theorem dX8_spoil_23 : decode cX8_spoil 23 = .ok (.aload_n 0, 1) := by decide +kernel
theorem dX8_spoil_24 : decode cX8_spoil 24 = .ok (.getfield 7, 3) := by decide +kernel
theorem dX8_spoil_27 : decode cX8_spoil 27 = .ok (.iconst 1, 1) := by decide +kernel
theorem dX8_spoil_28 : decode cX8_spoil 28 = .ok (.isub, 1) := by decide +kernel
theorem dX8_spoil_29 : decode cX8_spoil 29 = .ok (.iload_n 1, 1) := by decide +kernel
theorem dX8_spoil_30 : decode cX8_spoil 30 = .ok (.iastore, 1) := by decide +kernel
theorem dX8_spoil_31 : decode cX8_spoil 31 = .ok (.return_, 1) := by decide +kernel
theorem dX8_lengthen_0 : decode cX8_lengthen 0 = .ok (.aload_n 0, 1) := by decide +kernel
theorem dX8_lengthen_1 : decode cX8_lengthen 1 = .ok (.getfield 7, 3) := by decide +kernel
theorem dX8_lengthen_4 : decode cX8_lengthen 4 = .ok (.iconst 1, 1) := by decide +kernel
theorem dX8_lengthen_5 : decode cX8_lengthen 5 = .ok (.isub, 1) := by decide +kernel
theorem dX8_lengthen_6 : decode cX8_lengthen 6 = .ok (.istore 4, 2) := by decide +kernel
theorem dX8_lengthen_8 : decode cX8_lengthen 8 = .ok (.iload 4, 2) := by decide +kernel
theorem dX8_lengthen_10 : decode cX8_lengthen 10 = .ok (.ifCond .ge 4, 3) := by decide +kernel
theorem dX8_lengthen_13 : decode cX8_lengthen 13 = .ok (.return_, 1) := by decide +kernel
theorem dX8_lengthen_14 : decode cX8_lengthen 14 = .ok (.iload_n 3, 1) := by decide +kernel
theorem dX8_lengthen_15 : decode cX8_lengthen 15 = .ok (.aload_n 0, 1) := by decide +kernel
theorem dX8_lengthen_16 : decode cX8_lengthen 16 = .ok (.getfield 26, 3) := by decide +kernel
theorem dX8_lengthen_19 : decode cX8_lengthen 19 = .ok (.iload 4, 2) := by decide +kernel
theorem dX8_lengthen_21 : decode cX8_lengthen 21 = .ok (.iaload, 1) := by decide +kernel
theorem dX8_lengthen_22 : decode cX8_lengthen 22 = .ok (.isub, 1) := by decide +kernel
theorem dX8_lengthen_23 : decode cX8_lengthen 23 = .ok (.istore 5, 2) := by decide +kernel
theorem dX8_lengthen_25 : decode cX8_lengthen 25 = .ok (.iload 5, 2) := by decide +kernel
theorem dX8_lengthen_27 : decode cX8_lengthen 27 = .ok (.iload_n 1, 1) := by decide +kernel
theorem dX8_lengthen_28 : decode cX8_lengthen 28 = .ok (.iconst 3, 1) := by decide +kernel
theorem dX8_lengthen_29 : decode cX8_lengthen 29 = .ok (.if_icmp .ne 8, 3) := by decide +kernel
theorem dX8_lengthen_32 : decode cX8_lengthen 32 = .ok (.bipush 6, 2) := by decide +kernel
theorem dX8_lengthen_34 : decode cX8_lengthen 34 = .ok (.goto 4, 3) := by decide +kernel
theorem dX8_lengthen_37 : decode cX8_lengthen 37 = .ok (.iconst 4, 1) := by decide +kernel
theorem dX8_lengthen_38 : decode cX8_lengthen 38 = .ok (.if_icmp .ne 11, 3) := by decide +kernel
theorem dX8_lengthen_41 : decode cX8_lengthen 41 = .ok (.aload_n 0, 1) := by decide +kernel
theorem dX8_lengthen_42 : decode cX8_lengthen 42 = .ok (.iload_n 3, 1) := by decide +kernel
theorem dX8_lengthen_43 : decode cX8_lengthen 43 = .ok (.invokevirtual 40, 3) := by decide +kernel
theorem dX8_lengthen_46 : decode cX8_lengthen 46 = .ok (.goto 71, 3) := by decide +kernel
theorem dX8_lengthen_49 : decode cX8_lengthen 49 = .ok (.aload_n 0, 1) := by decide +kernel
theorem dX8_lengthen_50 : decode cX8_lengthen 50 = .ok (.getfield 19, 3) := by decide +kernel
theorem dX8_lengthen_53 : decode cX8_lengthen 53 = .ok (.iload 4, 2) := by decide +kernel
theorem dX8_lengthen_55 : decode cX8_lengthen 55 = .ok (.iaload, 1) := by decide +kernel
theorem dX8_lengthen_56 : decode cX8_lengthen 56 = .ok (.iconst 3, 1) := by decide +kernel
theorem dX8_lengthen_57 : decode cX8_lengthen 57 = .ok (.if_icmp .ne 27, 3) := by decide +kernel
theorem dX8_lengthen_60 : decode cX8_lengthen 60 = .ok (.aload_n 0, 1) := by decide +kernel
theorem dX8_lengthen_61 : decode cX8_lengthen 61 = .ok (.getfield 23, 3) := by decide +kernel
theorem dX8_lengthen_64 : decode cX8_lengthen 64 = .ok (.iload 4, 2) := by decide +kernel
theorem dX8_lengthen_66 : decode cX8_lengthen 66 = .ok (.dup2, 1) := by decide +kernel
theorem dX8_lengthen_67 : decode cX8_lengthen 67 = .ok (.iaload, 1) := by decide +kernel
theorem dX8_lengthen_68 : decode cX8_lengthen 68 = .ok (.iload_n 2, 1) := by decide +kernel
theorem dX8_lengthen_69 : decode cX8_lengthen 69 = .ok (.bipush 97, 2) := by decide +kernel
theorem dX8_lengthen_71 : decode cX8_lengthen 71 = .ok (.isub, 1) := by decide +kernel
theorem dX8_lengthen_72 : decode cX8_lengthen 72 = .ok (.iconst 1, 1) := by decide +kernel
theorem dX8_lengthen_73 : decode cX8_lengthen 73 = .ok (.iadd, 1) := by decide +kernel
theorem dX8_lengthen_74 : decode cX8_lengthen 74 = .ok (.iload 5, 2) := by decide +kernel
theorem dX8_lengthen_76 : decode cX8_lengthen 76 = .ok (.iconst 5, 1) := by decide +kernel
theorem dX8_lengthen_77 : decode cX8_lengthen 77 = .ok (.imul, 1) := by decide +kernel
theorem dX8_lengthen_78 : decode cX8_lengthen 78 = .ok (.ishl, 1) := by decide +kernel
theorem dX8_lengthen_79 : decode cX8_lengthen 79 = .ok (.ior, 1) := by decide +kernel
theorem dX8_lengthen_80 : decode cX8_lengthen 80 = .ok (.iastore, 1) := by decide +kernel
theorem dX8_lengthen_81 : decode cX8_lengthen 81 = .ok (.goto 36, 3) := by decide +kernel
theorem dX8_lengthen_84 : decode cX8_lengthen 84 = .ok (.aload_n 0, 1) := by decide +kernel
theorem dX8_lengthen_85 : decode cX8_lengthen 85 = .ok (.getfield 19, 3) := by decide +kernel
theorem dX8_lengthen_88 : decode cX8_lengthen 88 = .ok (.iload 4, 2) := by decide +kernel
theorem dX8_lengthen_90 : decode cX8_lengthen 90 = .ok (.iaload, 1) := by decide +kernel
theorem dX8_lengthen_91 : decode cX8_lengthen 91 = .ok (.iconst 2, 1) := by decide +kernel
theorem dX8_lengthen_92 : decode cX8_lengthen 92 = .ok (.if_icmp .ne 25, 3) := by decide +kernel
theorem dX8_lengthen_95 : decode cX8_lengthen 95 = .ok (.aload_n 0, 1) := by decide +kernel
theorem dX8_lengthen_96 : decode cX8_lengthen 96 = .ok (.getfield 23, 3) := by decide +kernel
theorem dX8_lengthen_99 : decode cX8_lengthen 99 = .ok (.iload 4, 2) := by decide +kernel
theorem dX8_lengthen_101 : decode cX8_lengthen 101 = .ok (.aload_n 0, 1) := by decide +kernel
theorem dX8_lengthen_102 : decode cX8_lengthen 102 = .ok (.getfield 23, 3) := by decide +kernel
theorem dX8_lengthen_105 : decode cX8_lengthen 105 = .ok (.iload 4, 2) := by decide +kernel
theorem dX8_lengthen_107 : decode cX8_lengthen 107 = .ok (.iaload, 1) := by decide +kernel
theorem dX8_lengthen_108 : decode cX8_lengthen 108 = .ok (.bipush 10, 2) := by decide +kernel
theorem dX8_lengthen_110 : decode cX8_lengthen 110 = .ok (.imul, 1) := by decide +kernel
theorem dX8_lengthen_111 : decode cX8_lengthen 111 = .ok (.iload_n 2, 1) := by decide +kernel
theorem dX8_lengthen_112 : decode cX8_lengthen 112 = .ok (.iadd, 1) := by decide +kernel
theorem dX8_lengthen_113 : decode cX8_lengthen 113 = .ok (.bipush 48, 2) := by decide +kernel
theorem dX8_lengthen_115 : decode cX8_lengthen 115 = .ok (.isub, 1) := by decide +kernel
theorem dX8_lengthen_116 : decode cX8_lengthen 116 = .ok (.iastore, 1) := by decide +kernel
theorem dX8_lengthen_117 : decode cX8_lengthen 117 = .ok (.return_, 1) := by decide +kernel
theorem dX8_markOwnWord_0 : decode cX8_markOwnWord 0 = .ok (.iconst 0, 1) := by decide +kernel
theorem dX8_markOwnWord_1 : decode cX8_markOwnWord 1 = .ok (.istore_n 3, 1) := by decide +kernel
theorem dX8_markOwnWord_2 : decode cX8_markOwnWord 2 = .ok (.iload_n 3, 1) := by decide +kernel
theorem dX8_markOwnWord_3 : decode cX8_markOwnWord 3 = .ok (.aload_n 0, 1) := by decide +kernel
theorem dX8_markOwnWord_4 : decode cX8_markOwnWord 4 = .ok (.getfield 7, 3) := by decide +kernel
theorem dX8_markOwnWord_7 : decode cX8_markOwnWord 7 = .ok (.if_icmp .ge 43, 3) := by decide +kernel
theorem dX8_markOwnWord_10 : decode cX8_markOwnWord 10 = .ok (.aload_n 0, 1) := by decide +kernel
theorem dX8_markOwnWord_11 : decode cX8_markOwnWord 11 = .ok (.getfield 19, 3) := by decide +kernel
theorem dX8_markOwnWord_14 : decode cX8_markOwnWord 14 = .ok (.iload_n 3, 1) := by decide +kernel
theorem dX8_markOwnWord_15 : decode cX8_markOwnWord 15 = .ok (.iaload, 1) := by decide +kernel
theorem dX8_markOwnWord_16 : decode cX8_markOwnWord 16 = .ok (.iconst 3, 1) := by decide +kernel
theorem dX8_markOwnWord_17 : decode cX8_markOwnWord 17 = .ok (.if_icmp .ne 27, 3) := by decide +kernel
theorem dX8_markOwnWord_20 : decode cX8_markOwnWord 20 = .ok (.aload_n 0, 1) := by decide +kernel
theorem dX8_markOwnWord_21 : decode cX8_markOwnWord 21 = .ok (.getfield 23, 3) := by decide +kernel
theorem dX8_markOwnWord_24 : decode cX8_markOwnWord 24 = .ok (.iload_n 3, 1) := by decide +kernel
theorem dX8_markOwnWord_25 : decode cX8_markOwnWord 25 = .ok (.iaload, 1) := by decide +kernel
theorem dX8_markOwnWord_26 : decode cX8_markOwnWord 26 = .ok (.iload_n 1, 1) := by decide +kernel
theorem dX8_markOwnWord_27 : decode cX8_markOwnWord 27 = .ok (.if_icmp .ne 17, 3) := by decide +kernel
theorem dX8_markOwnWord_30 : decode cX8_markOwnWord 30 = .ok (.aload_n 0, 1) := by decide +kernel
theorem dX8_markOwnWord_31 : decode cX8_markOwnWord 31 = .ok (.getfield 19, 3) := by decide +kernel
theorem dX8_markOwnWord_34 : decode cX8_markOwnWord 34 = .ok (.iload_n 3, 1) := by decide +kernel
theorem dX8_markOwnWord_35 : decode cX8_markOwnWord 35 = .ok (.iconst 4, 1) := by decide +kernel
theorem dX8_markOwnWord_36 : decode cX8_markOwnWord 36 = .ok (.iastore, 1) := by decide +kernel
theorem dX8_markOwnWord_37 : decode cX8_markOwnWord 37 = .ok (.aload_n 0, 1) := by decide +kernel
theorem dX8_markOwnWord_38 : decode cX8_markOwnWord 38 = .ok (.getfield 23, 3) := by decide +kernel
theorem dX8_markOwnWord_41 : decode cX8_markOwnWord 41 = .ok (.iload_n 3, 1) := by decide +kernel
theorem dX8_markOwnWord_42 : decode cX8_markOwnWord 42 = .ok (.iload_n 2, 1) := by decide +kernel
theorem dX8_markOwnWord_43 : decode cX8_markOwnWord 43 = .ok (.iastore, 1) := by decide +kernel
theorem dX8_markOwnWord_44 : decode cX8_markOwnWord 44 = .ok (.iinc 3 1, 3) := by decide +kernel
theorem dX8_markOwnWord_47 : decode cX8_markOwnWord 47 = .ok (.goto (-45), 3) := by decide +kernel
theorem dX8_markOwnWord_50 : decode cX8_markOwnWord 50 = .ok (.return_, 1) := by decide +kernel
theorem dX9_isTown_0 : decode cX9_isTown 0 = .ok (.iload_n 1, 1) := by decide +kernel
theorem dX9_isTown_1 : decode cX9_isTown 1 = .ok (.ifCond .lt 21, 3) := by decide +kernel
theorem dX9_isTown_4 : decode cX9_isTown 4 = .ok (.iload_n 1, 1) := by decide +kernel
theorem dX9_isTown_5 : decode cX9_isTown 5 = .ok (.aload_n 0, 1) := by decide +kernel
theorem dX9_isTown_6 : decode cX9_isTown 6 = .ok (.getfield 9, 3) := by decide +kernel
theorem dX9_isTown_9 : decode cX9_isTown 9 = .ok (.if_icmp .ge 13, 3) := by decide +kernel
theorem dX9_isTown_12 : decode cX9_isTown 12 = .ok (.iload_n 1, 1) := by decide +kernel
theorem dX9_isTown_13 : decode cX9_isTown 13 = .ok (.bipush 6, 2) := by decide +kernel
theorem dX9_isTown_15 : decode cX9_isTown 15 = .ok (.if_icmp .ge 7, 3) := by decide +kernel
theorem dX9_isTown_18 : decode cX9_isTown 18 = .ok (.iconst 1, 1) := by decide +kernel
theorem dX9_isTown_19 : decode cX9_isTown 19 = .ok (.goto 4, 3) := by decide +kernel
theorem dX9_isTown_22 : decode cX9_isTown 22 = .ok (.iconst 0, 1) := by decide +kernel
theorem dX9_isTown_23 : decode cX9_isTown 23 = .ok (.ireturn, 1) := by decide +kernel
theorem dX9_isPair_0 : decode cX9_isPair 0 = .ok (.aload_n 0, 1) := by decide +kernel
theorem dX9_isPair_1 : decode cX9_isPair 1 = .ok (.iload_n 1, 1) := by decide +kernel
theorem dX9_isPair_2 : decode cX9_isPair 2 = .ok (.invokevirtual 46, 3) := by decide +kernel
theorem dX9_isPair_5 : decode cX9_isPair 5 = .ok (.ifCond .eq 20, 3) := by decide +kernel
theorem dX9_isPair_8 : decode cX9_isPair 8 = .ok (.aload_n 0, 1) := by decide +kernel
theorem dX9_isPair_9 : decode cX9_isPair 9 = .ok (.iload_n 2, 1) := by decide +kernel
theorem dX9_isPair_10 : decode cX9_isPair 10 = .ok (.invokevirtual 46, 3) := by decide +kernel
theorem dX9_isPair_13 : decode cX9_isPair 13 = .ok (.ifCond .eq 12, 3) := by decide +kernel
theorem dX9_isPair_16 : decode cX9_isPair 16 = .ok (.iload_n 1, 1) := by decide +kernel
theorem dX9_isPair_17 : decode cX9_isPair 17 = .ok (.iload_n 2, 1) := by decide +kernel
theorem dX9_isPair_18 : decode cX9_isPair 18 = .ok (.if_icmp .eq 7, 3) := by decide +kernel
theorem dX9_isPair_21 : decode cX9_isPair 21 = .ok (.iconst 1, 1) := by decide +kernel
theorem dX9_isPair_22 : decode cX9_isPair 22 = .ok (.goto 4, 3) := by decide +kernel
theorem dX9_isPair_25 : decode cX9_isPair 25 = .ok (.iconst 0, 1) := by decide +kernel
theorem dX9_isPair_26 : decode cX9_isPair 26 = .ok (.ireturn, 1) := by decide +kernel
theorem dX9_townNamed_0 : decode cX9_townNamed 0 = .ok (.iconst 0, 1) := by decide +kernel
theorem dX9_townNamed_1 : decode cX9_townNamed 1 = .ok (.istore_n 2, 1) := by decide +kernel
theorem dX9_townNamed_2 : decode cX9_townNamed 2 = .ok (.iload_n 2, 1) := by decide +kernel
theorem dX9_townNamed_3 : decode cX9_townNamed 3 = .ok (.aload_n 0, 1) := by decide +kernel
theorem dX9_townNamed_4 : decode cX9_townNamed 4 = .ok (.getfield 9, 3) := by decide +kernel
theorem dX9_townNamed_7 : decode cX9_townNamed 7 = .ok (.if_icmp .ge 27, 3) := by decide +kernel
theorem dX9_townNamed_10 : decode cX9_townNamed 10 = .ok (.iload_n 2, 1) := by decide +kernel
theorem dX9_townNamed_11 : decode cX9_townNamed 11 = .ok (.bipush 6, 2) := by decide +kernel
theorem dX9_townNamed_13 : decode cX9_townNamed 13 = .ok (.if_icmp .ge 21, 3) := by decide +kernel
theorem dX9_townNamed_16 : decode cX9_townNamed 16 = .ok (.aload_n 0, 1) := by decide +kernel
theorem dX9_townNamed_17 : decode cX9_townNamed 17 = .ok (.getfield 27, 3) := by decide +kernel
theorem dX9_townNamed_20 : decode cX9_townNamed 20 = .ok (.iload_n 2, 1) := by decide +kernel
theorem dX9_townNamed_21 : decode cX9_townNamed 21 = .ok (.iaload, 1) := by decide +kernel
theorem dX9_townNamed_22 : decode cX9_townNamed 22 = .ok (.iload_n 1, 1) := by decide +kernel
theorem dX9_townNamed_23 : decode cX9_townNamed 23 = .ok (.if_icmp .ne 5, 3) := by decide +kernel
theorem dX9_townNamed_26 : decode cX9_townNamed 26 = .ok (.iload_n 2, 1) := by decide +kernel
theorem dX9_townNamed_27 : decode cX9_townNamed 27 = .ok (.ireturn, 1) := by decide +kernel
theorem dX9_townNamed_28 : decode cX9_townNamed 28 = .ok (.iinc 2 1, 3) := by decide +kernel
theorem dX9_townNamed_31 : decode cX9_townNamed 31 = .ok (.goto (-29), 3) := by decide +kernel
theorem dX9_townNamed_34 : decode cX9_townNamed 34 = .ok (.iconst (-1), 1) := by decide +kernel
theorem dX9_townNamed_35 : decode cX9_townNamed 35 = .ok (.ireturn, 1) := by decide +kernel
theorem dX9_findWays_0 : decode cX9_findWays 0 = .ok (.iconst 0, 1) := by decide +kernel
theorem dX9_findWays_1 : decode cX9_findWays 1 = .ok (.istore_n 1, 1) := by decide +kernel
theorem dX9_findWays_2 : decode cX9_findWays 2 = .ok (.iload_n 1, 1) := by decide +kernel
theorem dX9_findWays_3 : decode cX9_findWays 3 = .ok (.bipush 6, 2) := by decide +kernel
theorem dX9_findWays_5 : decode cX9_findWays 5 = .ok (.if_icmp .ge 123, 3) := by decide +kernel
theorem dX9_findWays_8 : decode cX9_findWays 8 = .ok (.iconst 0, 1) := by decide +kernel
theorem dX9_findWays_9 : decode cX9_findWays 9 = .ok (.istore_n 2, 1) := by decide +kernel
theorem dX9_findWays_10 : decode cX9_findWays 10 = .ok (.iload_n 2, 1) := by decide +kernel
theorem dX9_findWays_11 : decode cX9_findWays 11 = .ok (.bipush 36, 2) := by decide +kernel
theorem dX9_findWays_13 : decode cX9_findWays 13 = .ok (.if_icmp .ge 109, 3) := by decide +kernel
theorem dX9_findWays_16 : decode cX9_findWays 16 = .ok (.iload_n 2, 1) := by decide +kernel
theorem dX9_findWays_17 : decode cX9_findWays 17 = .ok (.bipush 6, 2) := by decide +kernel
theorem dX9_findWays_19 : decode cX9_findWays 19 = .ok (.idiv, 1) := by decide +kernel
theorem dX9_findWays_20 : decode cX9_findWays 20 = .ok (.istore_n 3, 1) := by decide +kernel
theorem dX9_findWays_21 : decode cX9_findWays 21 = .ok (.iload_n 2, 1) := by decide +kernel
theorem dX9_findWays_22 : decode cX9_findWays 22 = .ok (.bipush 6, 2) := by decide +kernel
theorem dX9_findWays_24 : decode cX9_findWays 24 = .ok (.irem, 1) := by decide +kernel
theorem dX9_findWays_25 : decode cX9_findWays 25 = .ok (.istore 4, 2) := by decide +kernel
theorem dX9_findWays_27 : decode cX9_findWays 27 = .ok (.aload_n 0, 1) := by decide +kernel
theorem dX9_findWays_28 : decode cX9_findWays 28 = .ok (.getfield 34, 3) := by decide +kernel
theorem dX9_findWays_31 : decode cX9_findWays 31 = .ok (.iload_n 3, 1) := by decide +kernel
theorem dX9_findWays_32 : decode cX9_findWays 32 = .ok (.bipush 6, 2) := by decide +kernel
theorem dX9_findWays_34 : decode cX9_findWays 34 = .ok (.imul, 1) := by decide +kernel
theorem dX9_findWays_35 : decode cX9_findWays 35 = .ok (.iload_n 1, 1) := by decide +kernel
theorem dX9_findWays_36 : decode cX9_findWays 36 = .ok (.iadd, 1) := by decide +kernel
theorem dX9_findWays_37 : decode cX9_findWays 37 = .ok (.iaload, 1) := by decide +kernel
theorem dX9_findWays_38 : decode cX9_findWays 38 = .ok (.istore 5, 2) := by decide +kernel
theorem dX9_findWays_40 : decode cX9_findWays 40 = .ok (.aload_n 0, 1) := by decide +kernel
theorem dX9_findWays_41 : decode cX9_findWays 41 = .ok (.getfield 34, 3) := by decide +kernel
theorem dX9_findWays_44 : decode cX9_findWays 44 = .ok (.iload_n 1, 1) := by decide +kernel
theorem dX9_findWays_45 : decode cX9_findWays 45 = .ok (.bipush 6, 2) := by decide +kernel
theorem dX9_findWays_47 : decode cX9_findWays 47 = .ok (.imul, 1) := by decide +kernel
theorem dX9_findWays_48 : decode cX9_findWays 48 = .ok (.iload 4, 2) := by decide +kernel
theorem dX9_findWays_50 : decode cX9_findWays 50 = .ok (.iadd, 1) := by decide +kernel
theorem dX9_findWays_51 : decode cX9_findWays 51 = .ok (.iaload, 1) := by decide +kernel
theorem dX9_findWays_52 : decode cX9_findWays 52 = .ok (.istore 6, 2) := by decide +kernel
theorem dX9_findWays_54 : decode cX9_findWays 54 = .ok (.iload_n 3, 1) := by decide +kernel
theorem dX9_findWays_55 : decode cX9_findWays 55 = .ok (.iload 4, 2) := by decide +kernel
theorem dX9_findWays_57 : decode cX9_findWays 57 = .ok (.if_icmp .eq 17, 3) := by decide +kernel
theorem dX9_findWays_60 : decode cX9_findWays 60 = .ok (.iload 5, 2) := by decide +kernel
theorem dX9_findWays_62 : decode cX9_findWays 62 = .ok (.ifCond .le 12, 3) := by decide +kernel
theorem dX9_findWays_65 : decode cX9_findWays 65 = .ok (.iload 6, 2) := by decide +kernel
theorem dX9_findWays_67 : decode cX9_findWays 67 = .ok (.ifCond .le 7, 3) := by decide +kernel
theorem dX9_findWays_70 : decode cX9_findWays 70 = .ok (.iconst 1, 1) := by decide +kernel
theorem dX9_findWays_71 : decode cX9_findWays 71 = .ok (.goto 4, 3) := by decide +kernel
theorem dX9_findWays_74 : decode cX9_findWays 74 = .ok (.iconst 0, 1) := by decide +kernel
theorem dX9_findWays_75 : decode cX9_findWays 75 = .ok (.istore 7, 2) := by decide +kernel
theorem dX9_findWays_77 : decode cX9_findWays 77 = .ok (.iload 7, 2) := by decide +kernel
theorem dX9_findWays_79 : decode cX9_findWays 79 = .ok (.ifCond .eq 37, 3) := by decide +kernel
theorem dX9_findWays_82 : decode cX9_findWays 82 = .ok (.aload_n 0, 1) := by decide +kernel
theorem dX9_findWays_83 : decode cX9_findWays 83 = .ok (.getfield 34, 3) := by decide +kernel
theorem dX9_findWays_86 : decode cX9_findWays 86 = .ok (.iload_n 2, 1) := by decide +kernel
theorem dX9_findWays_87 : decode cX9_findWays 87 = .ok (.iaload, 1) := by decide +kernel
theorem dX9_findWays_88 : decode cX9_findWays 88 = .ok (.ifCond .eq 17, 3) := by decide +kernel
theorem dX9_findWays_91 : decode cX9_findWays 91 = .ok (.iload 5, 2) := by decide +kernel
theorem dX9_findWays_93 : decode cX9_findWays 93 = .ok (.iload 6, 2) := by decide +kernel
theorem dX9_findWays_95 : decode cX9_findWays 95 = .ok (.iadd, 1) := by decide +kernel
theorem dX9_findWays_96 : decode cX9_findWays 96 = .ok (.aload_n 0, 1) := by decide +kernel
theorem dX9_findWays_97 : decode cX9_findWays 97 = .ok (.getfield 34, 3) := by decide +kernel
theorem dX9_findWays_100 : decode cX9_findWays 100 = .ok (.iload_n 2, 1) := by decide +kernel
theorem dX9_findWays_101 : decode cX9_findWays 101 = .ok (.iaload, 1) := by decide +kernel
theorem dX9_findWays_102 : decode cX9_findWays 102 = .ok (.if_icmp .ge 14, 3) := by decide +kernel
theorem dX9_findWays_105 : decode cX9_findWays 105 = .ok (.aload_n 0, 1) := by decide +kernel
theorem dX9_findWays_106 : decode cX9_findWays 106 = .ok (.getfield 34, 3) := by decide +kernel
theorem dX9_findWays_109 : decode cX9_findWays 109 = .ok (.iload_n 2, 1) := by decide +kernel
theorem dX9_findWays_110 : decode cX9_findWays 110 = .ok (.iload 5, 2) := by decide +kernel
theorem dX9_findWays_112 : decode cX9_findWays 112 = .ok (.iload 6, 2) := by decide +kernel
theorem dX9_findWays_114 : decode cX9_findWays 114 = .ok (.iadd, 1) := by decide +kernel
theorem dX9_findWays_115 : decode cX9_findWays 115 = .ok (.iastore, 1) := by decide +kernel
theorem dX9_findWays_116 : decode cX9_findWays 116 = .ok (.iinc 2 1, 3) := by decide +kernel
theorem dX9_findWays_119 : decode cX9_findWays 119 = .ok (.goto (-109), 3) := by decide +kernel
theorem dX9_findWays_122 : decode cX9_findWays 122 = .ok (.iinc 1 1, 3) := by decide +kernel
theorem dX9_findWays_125 : decode cX9_findWays 125 = .ok (.goto (-123), 3) := by decide +kernel
theorem dX9_findWays_128 : decode cX9_findWays 128 = .ok (.return_, 1) := by decide +kernel
theorem dX10_feed_0 : decode cX10_feed 0 = .ok (.aload_n 0, 1) := by decide +kernel
theorem dX10_feed_1 : decode cX10_feed 1 = .ok (.getfield 13, 3) := by decide +kernel
theorem dX10_feed_4 : decode cX10_feed 4 = .ok (.bipush 20, 2) := by decide +kernel
theorem dX10_feed_6 : decode cX10_feed 6 = .ok (.iadd, 1) := by decide +kernel
theorem dX10_feed_7 : decode cX10_feed 7 = .ok (.sipush 1600, 3) := by decide +kernel
theorem dX10_feed_10 : decode cX10_feed 10 = .ok (.if_icmp .le 9, 3) := by decide +kernel
theorem dX10_feed_13 : decode cX10_feed 13 = .ok (.aload_n 0, 1) := by decide +kernel
theorem dX10_feed_14 : decode cX10_feed 14 = .ok (.iconst 0, 1) := by decide +kernel
theorem dX10_feed_15 : decode cX10_feed 15 = .ok (.invokevirtual 80, 3) := by decide +kernel
theorem dX10_feed_18 : decode cX10_feed 18 = .ok (.ireturn, 1) := by decide +kernel
theorem dX10_feed_19 : decode cX10_feed 19 = .ok (.aload_n 0, 1) := by decide +kernel
theorem dX10_feed_20 : decode cX10_feed 20 = .ok (.iload_n 1, 1) := by decide +kernel
theorem dX10_feed_21 : decode cX10_feed 21 = .ok (.invokevirtual 84, 3) := by decide +kernel
theorem dX10_feed_24 : decode cX10_feed 24 = .ok (.aload_n 0, 1) := by decide +kernel
theorem dX10_feed_25 : decode cX10_feed 25 = .ok (.iload_n 2, 1) := by decide +kernel
theorem dX10_feed_26 : decode cX10_feed 26 = .ok (.invokevirtual 84, 3) := by decide +kernel
theorem dX10_feed_29 : decode cX10_feed 29 = .ok (.aload_n 0, 1) := by decide +kernel
theorem dX10_feed_30 : decode cX10_feed 30 = .ok (.iload_n 3, 1) := by decide +kernel
theorem dX10_feed_31 : decode cX10_feed 31 = .ok (.invokevirtual 84, 3) := by decide +kernel
theorem dX10_feed_34 : decode cX10_feed 34 = .ok (.aload_n 0, 1) := by decide +kernel
theorem dX10_feed_35 : decode cX10_feed 35 = .ok (.iload 4, 2) := by decide +kernel
theorem dX10_feed_37 : decode cX10_feed 37 = .ok (.invokevirtual 84, 3) := by decide +kernel
theorem dX10_feed_40 : decode cX10_feed 40 = .ok (.aload_n 0, 1) := by decide +kernel
theorem dX10_feed_41 : decode cX10_feed 41 = .ok (.iload 5, 2) := by decide +kernel
theorem dX10_feed_43 : decode cX10_feed 43 = .ok (.invokevirtual 84, 3) := by decide +kernel
theorem dX10_feed_46 : decode cX10_feed 46 = .ok (.aload_n 0, 1) := by decide +kernel
theorem dX10_feed_47 : decode cX10_feed 47 = .ok (.getfield 13, 3) := by decide +kernel
theorem dX10_feed_50 : decode cX10_feed 50 = .ok (.ireturn, 1) := by decide +kernel
theorem dX10_putNumber_0 : decode cX10_putNumber 0 = .ok (.bipush 24, 2) := by decide +kernel
theorem dX10_putNumber_2 : decode cX10_putNumber 2 = .ok (.istore_n 2, 1) := by decide +kernel
theorem dX10_putNumber_3 : decode cX10_putNumber 3 = .ok (.iload_n 2, 1) := by decide +kernel
theorem dX10_putNumber_4 : decode cX10_putNumber 4 = .ok (.ifCond .lt 42, 3) := by decide +kernel
theorem dX10_putNumber_7 : decode cX10_putNumber 7 = .ok (.aload_n 0, 1) := by decide +kernel
theorem dX10_putNumber_8 : decode cX10_putNumber 8 = .ok (.getfield 13, 3) := by decide +kernel
theorem dX10_putNumber_11 : decode cX10_putNumber 11 = .ok (.sipush 1600, 3) := by decide +kernel
theorem dX10_putNumber_14 : decode cX10_putNumber 14 = .ok (.if_icmp .ge 32, 3) := by decide +kernel
theorem dX10_putNumber_17 : decode cX10_putNumber 17 = .ok (.aload_n 0, 1) := by decide +kernel
theorem dX10_putNumber_18 : decode cX10_putNumber 18 = .ok (.getfield 9, 3) := by decide +kernel
theorem dX10_putNumber_21 : decode cX10_putNumber 21 = .ok (.aload_n 0, 1) := by decide +kernel
theorem dX10_putNumber_22 : decode cX10_putNumber 22 = .ok (.getfield 13, 3) := by decide +kernel
theorem dX10_putNumber_25 : decode cX10_putNumber 25 = .ok (.iload_n 1, 1) := by decide +kernel
theorem dX10_putNumber_26 : decode cX10_putNumber 26 = .ok (.iload_n 2, 1) := by decide +kernel
theorem dX10_putNumber_27 : decode cX10_putNumber 27 = .ok (.ishr, 1) := by decide +kernel
theorem dX10_putNumber_28 : decode cX10_putNumber 28 = .ok (.i2b, 1) := by decide +kernel
theorem dX10_putNumber_29 : decode cX10_putNumber 29 = .ok (.bastore, 1) := by decide +kernel
theorem dX10_putNumber_30 : decode cX10_putNumber 30 = .ok (.aload_n 0, 1) := by decide +kernel
theorem dX10_putNumber_31 : decode cX10_putNumber 31 = .ok (.dup, 1) := by decide +kernel
theorem dX10_putNumber_32 : decode cX10_putNumber 32 = .ok (.getfield 13, 3) := by decide +kernel
theorem dX10_putNumber_35 : decode cX10_putNumber 35 = .ok (.iconst 1, 1) := by decide +kernel
theorem dX10_putNumber_36 : decode cX10_putNumber 36 = .ok (.iadd, 1) := by decide +kernel
theorem dX10_putNumber_37 : decode cX10_putNumber 37 = .ok (.putfield 13, 3) := by decide +kernel
theorem dX10_putNumber_40 : decode cX10_putNumber 40 = .ok (.iinc 2 (-8), 3) := by decide +kernel
theorem dX10_putNumber_43 : decode cX10_putNumber 43 = .ok (.goto (-40), 3) := by decide +kernel
theorem dX10_putNumber_46 : decode cX10_putNumber 46 = .ok (.return_, 1) := by decide +kernel
theorem dX10_end_0 : decode cX10_end 0 = .ok (.iload_n 1, 1) := by decide +kernel
theorem dX10_end_1 : decode cX10_end 1 = .ok (.ifCond .lt 11, 3) := by decide +kernel
theorem dX10_end_4 : decode cX10_end 4 = .ok (.iload_n 1, 1) := by decide +kernel
theorem dX10_end_5 : decode cX10_end 5 = .ok (.aload_n 0, 1) := by decide +kernel
theorem dX10_end_6 : decode cX10_end 6 = .ok (.getfield 13, 3) := by decide +kernel
theorem dX10_end_9 : decode cX10_end 9 = .ok (.if_icmp .le 11, 3) := by decide +kernel
theorem dX10_end_12 : decode cX10_end 12 = .ok (.aload_n 0, 1) := by decide +kernel
theorem dX10_end_13 : decode cX10_end 13 = .ok (.iconst 0, 1) := by decide +kernel
theorem dX10_end_14 : decode cX10_end 14 = .ok (.invokevirtual 80, 3) := by decide +kernel
theorem dX10_end_17 : decode cX10_end 17 = .ok (.pop, 1) := by decide +kernel
theorem dX10_end_18 : decode cX10_end 18 = .ok (.iconst 0, 1) := by decide +kernel
theorem dX10_end_19 : decode cX10_end 19 = .ok (.ireturn, 1) := by decide +kernel
theorem dX10_end_20 : decode cX10_end 20 = .ok (.aload_n 0, 1) := by decide +kernel
theorem dX10_end_21 : decode cX10_end 21 = .ok (.iload_n 1, 1) := by decide +kernel
theorem dX10_end_22 : decode cX10_end 22 = .ok (.putfield 13, 3) := by decide +kernel
theorem dX10_end_25 : decode cX10_end 25 = .ok (.iconst 1, 1) := by decide +kernel
theorem dX10_end_26 : decode cX10_end 26 = .ok (.ireturn, 1) := by decide +kernel
theorem dX10_fault_0 : decode cX10_fault 0 = .ok (.iload_n 1, 1) := by decide +kernel
theorem dX10_fault_1 : decode cX10_fault 1 = .ok (.ifCond .ne 8, 3) := by decide +kernel
theorem dX10_fault_4 : decode cX10_fault 4 = .ok (.aload_n 0, 1) := by decide +kernel
theorem dX10_fault_5 : decode cX10_fault 5 = .ok (.getfield 24, 3) := by decide +kernel
theorem dX10_fault_8 : decode cX10_fault 8 = .ok (.ireturn, 1) := by decide +kernel
theorem dX10_fault_9 : decode cX10_fault 9 = .ok (.iload_n 1, 1) := by decide +kernel
theorem dX10_fault_10 : decode cX10_fault 10 = .ok (.iconst 1, 1) := by decide +kernel
theorem dX10_fault_11 : decode cX10_fault 11 = .ok (.if_icmp .ne 10, 3) := by decide +kernel
theorem dX10_fault_14 : decode cX10_fault 14 = .ok (.aload_n 0, 1) := by decide +kernel
theorem dX10_fault_15 : decode cX10_fault 15 = .ok (.getfield 27, 3) := by decide +kernel
theorem dX10_fault_18 : decode cX10_fault 18 = .ok (.goto 4, 3) := by decide +kernel
theorem dX10_fault_21 : decode cX10_fault 21 = .ok (.iconst (-1), 1) := by decide +kernel
theorem dX10_fault_22 : decode cX10_fault 22 = .ok (.ireturn, 1) := by decide +kernel
theorem dX10_has_0 : decode cX10_has 0 = .ok (.iload_n 1, 1) := by decide +kernel
theorem dX10_has_1 : decode cX10_has 1 = .ok (.tableswitch 150 0 10 #[59, 67, 75, 83, 94, 102, 113, 124, 132, 137, 142], 59) := by decide +kernel
theorem dX10_has_60 : decode cX10_has 60 = .ok (.aload_n 0, 1) := by decide +kernel
theorem dX10_has_61 : decode cX10_has 61 = .ok (.getfield 20, 3) := by decide +kernel
theorem dX10_has_64 : decode cX10_has 64 = .ok (.getfield 118, 3) := by decide +kernel
theorem dX10_has_67 : decode cX10_has 67 = .ok (.ireturn, 1) := by decide +kernel
theorem dX10_has_68 : decode cX10_has 68 = .ok (.aload_n 0, 1) := by decide +kernel
theorem dX10_has_69 : decode cX10_has 69 = .ok (.getfield 20, 3) := by decide +kernel
theorem dX10_has_72 : decode cX10_has 72 = .ok (.getfield 121, 3) := by decide +kernel
theorem dX10_has_75 : decode cX10_has 75 = .ok (.ireturn, 1) := by decide +kernel
theorem dX10_has_76 : decode cX10_has 76 = .ok (.aload_n 0, 1) := by decide +kernel
theorem dX10_has_77 : decode cX10_has 77 = .ok (.getfield 33, 3) := by decide +kernel
theorem dX10_has_80 : decode cX10_has 80 = .ok (.getfield 124, 3) := by decide +kernel
theorem dX10_has_83 : decode cX10_has 83 = .ok (.ireturn, 1) := by decide +kernel
theorem dX10_has_84 : decode cX10_has 84 = .ok (.aload_n 0, 1) := by decide +kernel
theorem dX10_has_85 : decode cX10_has 85 = .ok (.getfield 33, 3) := by decide +kernel
theorem dX10_has_88 : decode cX10_has 88 = .ok (.getfield 127, 3) := by decide +kernel
theorem dX10_has_91 : decode cX10_has 91 = .ok (.invokestatic 130, 3) := by decide +kernel
theorem dX10_has_94 : decode cX10_has 94 = .ok (.ireturn, 1) := by decide +kernel
theorem dX10_has_95 : decode cX10_has 95 = .ok (.aload_n 0, 1) := by decide +kernel
theorem dX10_has_96 : decode cX10_has 96 = .ok (.getfield 33, 3) := by decide +kernel
theorem dX10_has_99 : decode cX10_has 99 = .ok (.getfield 134, 3) := by decide +kernel
theorem dX10_has_102 : decode cX10_has 102 = .ok (.ireturn, 1) := by decide +kernel
theorem dX10_has_103 : decode cX10_has 103 = .ok (.aload_n 0, 1) := by decide +kernel
theorem dX10_has_104 : decode cX10_has 104 = .ok (.getfield 33, 3) := by decide +kernel
theorem dX10_has_107 : decode cX10_has 107 = .ok (.getfield 137, 3) := by decide +kernel
theorem dX10_has_110 : decode cX10_has 110 = .ok (.invokestatic 130, 3) := by decide +kernel
theorem dX10_has_113 : decode cX10_has 113 = .ok (.ireturn, 1) := by decide +kernel
theorem dX10_has_114 : decode cX10_has 114 = .ok (.aload_n 0, 1) := by decide +kernel
theorem dX10_has_115 : decode cX10_has 115 = .ok (.getfield 33, 3) := by decide +kernel
theorem dX10_has_118 : decode cX10_has 118 = .ok (.getfield 140, 3) := by decide +kernel
theorem dX10_has_121 : decode cX10_has 121 = .ok (.invokestatic 130, 3) := by decide +kernel
theorem dX10_has_124 : decode cX10_has 124 = .ok (.ireturn, 1) := by decide +kernel
theorem dX10_has_125 : decode cX10_has 125 = .ok (.aload_n 0, 1) := by decide +kernel
theorem dX10_has_126 : decode cX10_has 126 = .ok (.getfield 33, 3) := by decide +kernel
theorem dX10_has_129 : decode cX10_has 129 = .ok (.getfield 143, 3) := by decide +kernel
theorem dX10_has_132 : decode cX10_has 132 = .ok (.ireturn, 1) := by decide +kernel
theorem dX10_has_133 : decode cX10_has 133 = .ok (.aload_n 0, 1) := by decide +kernel
theorem dX10_has_134 : decode cX10_has 134 = .ok (.getfield 68, 3) := by decide +kernel
theorem dX10_has_137 : decode cX10_has 137 = .ok (.ireturn, 1) := by decide +kernel
theorem dX10_has_138 : decode cX10_has 138 = .ok (.aload_n 0, 1) := by decide +kernel
theorem dX10_has_139 : decode cX10_has 139 = .ok (.getfield 58, 3) := by decide +kernel
theorem dX10_has_142 : decode cX10_has 142 = .ok (.ireturn, 1) := by decide +kernel
theorem dX10_has_143 : decode cX10_has 143 = .ok (.aload_n 0, 1) := by decide +kernel
theorem dX10_has_144 : decode cX10_has 144 = .ok (.getfield 50, 3) := by decide +kernel
theorem dX10_has_147 : decode cX10_has 147 = .ok (.getfield 146, 3) := by decide +kernel
theorem dX10_has_150 : decode cX10_has 150 = .ok (.ireturn, 1) := by decide +kernel
theorem dX10_has_151 : decode cX10_has 151 = .ok (.iconst (-1), 1) := by decide +kernel
theorem dX10_has_152 : decode cX10_has 152 = .ok (.ireturn, 1) := by decide +kernel
theorem dX10_sumOf_0 : decode cX10_sumOf 0 = .ok (.iconst 0, 1) := by decide +kernel
theorem dX10_sumOf_1 : decode cX10_sumOf 1 = .ok (.istore_n 1, 1) := by decide +kernel
theorem dX10_sumOf_2 : decode cX10_sumOf 2 = .ok (.iconst 0, 1) := by decide +kernel
theorem dX10_sumOf_3 : decode cX10_sumOf 3 = .ok (.istore_n 2, 1) := by decide +kernel
theorem dX10_sumOf_4 : decode cX10_sumOf 4 = .ok (.iload_n 2, 1) := by decide +kernel
theorem dX10_sumOf_5 : decode cX10_sumOf 5 = .ok (.aload_n 0, 1) := by decide +kernel
theorem dX10_sumOf_6 : decode cX10_sumOf 6 = .ok (.arraylength, 1) := by decide +kernel
theorem dX10_sumOf_7 : decode cX10_sumOf 7 = .ok (.if_icmp .ge 15, 3) := by decide +kernel
theorem dX10_sumOf_10 : decode cX10_sumOf 10 = .ok (.iload_n 1, 1) := by decide +kernel
theorem dX10_sumOf_11 : decode cX10_sumOf 11 = .ok (.aload_n 0, 1) := by decide +kernel
theorem dX10_sumOf_12 : decode cX10_sumOf 12 = .ok (.iload_n 2, 1) := by decide +kernel
theorem dX10_sumOf_13 : decode cX10_sumOf 13 = .ok (.iaload, 1) := by decide +kernel
theorem dX10_sumOf_14 : decode cX10_sumOf 14 = .ok (.iadd, 1) := by decide +kernel
theorem dX10_sumOf_15 : decode cX10_sumOf 15 = .ok (.istore_n 1, 1) := by decide +kernel
theorem dX10_sumOf_16 : decode cX10_sumOf 16 = .ok (.iinc 2 1, 3) := by decide +kernel
theorem dX10_sumOf_19 : decode cX10_sumOf 19 = .ok (.goto (-15), 3) := by decide +kernel
theorem dX10_sumOf_22 : decode cX10_sumOf 22 = .ok (.iload_n 1, 1) := by decide +kernel
theorem dX10_sumOf_23 : decode cX10_sumOf 23 = .ok (.ireturn, 1) := by decide +kernel
theorem dX10_letter_0 : decode cX10_letter 0 = .ok (.aload_n 0, 1) := by decide +kernel
theorem dX10_letter_1 : decode cX10_letter 1 = .ok (.getfield 20, 3) := by decide +kernel
theorem dX10_letter_4 : decode cX10_letter 4 = .ok (.iload_n 1, 1) := by decide +kernel
theorem dX10_letter_5 : decode cX10_letter 5 = .ok (.invokevirtual 149, 3) := by decide +kernel
theorem dX10_letter_8 : decode cX10_letter 8 = .ok (.ifCond .eq 13, 3) := by decide +kernel
theorem dX10_letter_11 : decode cX10_letter 11 = .ok (.iload_n 2, 1) := by decide +kernel
theorem dX10_letter_12 : decode cX10_letter 12 = .ok (.ifCond .lt 9, 3) := by decide +kernel
theorem dX10_letter_15 : decode cX10_letter 15 = .ok (.iload_n 2, 1) := by decide +kernel
theorem dX10_letter_16 : decode cX10_letter 16 = .ok (.bipush 6, 2) := by decide +kernel
theorem dX10_letter_18 : decode cX10_letter 18 = .ok (.if_icmp .lt 5, 3) := by decide +kernel
theorem dX10_letter_21 : decode cX10_letter 21 = .ok (.iconst (-1), 1) := by decide +kernel
theorem dX10_letter_22 : decode cX10_letter 22 = .ok (.ireturn, 1) := by decide +kernel
theorem dX10_letter_23 : decode cX10_letter 23 = .ok (.aload_n 0, 1) := by decide +kernel
theorem dX10_letter_24 : decode cX10_letter 24 = .ok (.getfield 20, 3) := by decide +kernel
theorem dX10_letter_27 : decode cX10_letter 27 = .ok (.getfield 155, 3) := by decide +kernel
theorem dX10_letter_30 : decode cX10_letter 30 = .ok (.iload_n 1, 1) := by decide +kernel
theorem dX10_letter_31 : decode cX10_letter 31 = .ok (.iaload, 1) := by decide +kernel
theorem dX10_letter_32 : decode cX10_letter 32 = .ok (.iload_n 2, 1) := by decide +kernel
theorem dX10_letter_33 : decode cX10_letter 33 = .ok (.invokestatic 158, 3) := by decide +kernel
theorem dX10_letter_36 : decode cX10_letter 36 = .ok (.ireturn, 1) := by decide +kernel
theorem dX10_pair_0 : decode cX10_pair 0 = .ok (.aload_n 0, 1) := by decide +kernel
theorem dX10_pair_1 : decode cX10_pair 1 = .ok (.getfield 20, 3) := by decide +kernel
theorem dX10_pair_4 : decode cX10_pair 4 = .ok (.iload_n 1, 1) := by decide +kernel
theorem dX10_pair_5 : decode cX10_pair 5 = .ok (.iload_n 2, 1) := by decide +kernel
theorem dX10_pair_6 : decode cX10_pair 6 = .ok (.invokevirtual 162, 3) := by decide +kernel
theorem dX10_pair_9 : decode cX10_pair 9 = .ok (.ifCond .ne 5, 3) := by decide +kernel
theorem dX10_pair_12 : decode cX10_pair 12 = .ok (.iconst (-1), 1) := by decide +kernel
theorem dX10_pair_13 : decode cX10_pair 13 = .ok (.ireturn, 1) := by decide +kernel
theorem dX10_pair_14 : decode cX10_pair 14 = .ok (.iload_n 1, 1) := by decide +kernel
theorem dX10_pair_15 : decode cX10_pair 15 = .ok (.bipush 6, 2) := by decide +kernel
theorem dX10_pair_17 : decode cX10_pair 17 = .ok (.imul, 1) := by decide +kernel
theorem dX10_pair_18 : decode cX10_pair 18 = .ok (.iload_n 2, 1) := by decide +kernel
theorem dX10_pair_19 : decode cX10_pair 19 = .ok (.iadd, 1) := by decide +kernel
theorem dX10_pair_20 : decode cX10_pair 20 = .ok (.istore 4, 2) := by decide +kernel
theorem dX10_pair_22 : decode cX10_pair 22 = .ok (.iload_n 3, 1) := by decide +kernel
theorem dX10_pair_23 : decode cX10_pair 23 = .ok (.iconst 3, 1) := by decide +kernel
theorem dX10_pair_24 : decode cX10_pair 24 = .ok (.if_icmp .ne 31, 3) := by decide +kernel
theorem dX10_pair_27 : decode cX10_pair 27 = .ok (.aload_n 0, 1) := by decide +kernel
theorem dX10_pair_28 : decode cX10_pair 28 = .ok (.getfield 20, 3) := by decide +kernel
theorem dX10_pair_31 : decode cX10_pair 31 = .ok (.getfield 166, 3) := by decide +kernel
theorem dX10_pair_34 : decode cX10_pair 34 = .ok (.iload 4, 2) := by decide +kernel
theorem dX10_pair_36 : decode cX10_pair 36 = .ok (.iaload, 1) := by decide +kernel
theorem dX10_pair_37 : decode cX10_pair 37 = .ok (.ifCond .le 16, 3) := by decide +kernel
theorem dX10_pair_40 : decode cX10_pair 40 = .ok (.aload_n 0, 1) := by decide +kernel
theorem dX10_pair_41 : decode cX10_pair 41 = .ok (.getfield 20, 3) := by decide +kernel
theorem dX10_pair_44 : decode cX10_pair 44 = .ok (.getfield 166, 3) := by decide +kernel
theorem dX10_pair_47 : decode cX10_pair 47 = .ok (.iload 4, 2) := by decide +kernel
theorem dX10_pair_49 : decode cX10_pair 49 = .ok (.iaload, 1) := by decide +kernel
theorem dX10_pair_50 : decode cX10_pair 50 = .ok (.goto 4, 3) := by decide +kernel
theorem dX10_pair_53 : decode cX10_pair 53 = .ok (.iconst (-1), 1) := by decide +kernel
theorem dX10_pair_54 : decode cX10_pair 54 = .ok (.ireturn, 1) := by decide +kernel
theorem dX10_pair_55 : decode cX10_pair 55 = .ok (.aload_n 0, 1) := by decide +kernel
theorem dX10_pair_56 : decode cX10_pair 56 = .ok (.getfield 33, 3) := by decide +kernel
theorem dX10_pair_59 : decode cX10_pair 59 = .ok (.iload 4, 2) := by decide +kernel
theorem dX10_pair_61 : decode cX10_pair 61 = .ok (.iload_n 3, 1) := by decide +kernel
theorem dX10_pair_62 : decode cX10_pair 62 = .ok (.invokevirtual 169, 3) := by decide +kernel
theorem dX10_pair_65 : decode cX10_pair 65 = .ok (.ireturn, 1) := by decide +kernel
theorem dX10_mail_0 : decode cX10_mail 0 = .ok (.iload_n 1, 1) := by decide +kernel
theorem dX10_mail_1 : decode cX10_mail 1 = .ok (.ifCond .lt 20, 3) := by decide +kernel
theorem dX10_mail_4 : decode cX10_mail 4 = .ok (.iload_n 1, 1) := by decide +kernel
theorem dX10_mail_5 : decode cX10_mail 5 = .ok (.aload_n 0, 1) := by decide +kernel
theorem dX10_mail_6 : decode cX10_mail 6 = .ok (.getfield 33, 3) := by decide +kernel
theorem dX10_mail_9 : decode cX10_mail 9 = .ok (.getfield 134, 3) := by decide +kernel
theorem dX10_mail_12 : decode cX10_mail 12 = .ok (.if_icmp .ge 9, 3) := by decide +kernel
theorem dX10_mail_15 : decode cX10_mail 15 = .ok (.iload_n 1, 1) := by decide +kernel
theorem dX10_mail_16 : decode cX10_mail 16 = .ok (.bipush 60, 2) := by decide +kernel
theorem dX10_mail_18 : decode cX10_mail 18 = .ok (.if_icmp .lt 5, 3) := by decide +kernel
theorem dX10_mail_21 : decode cX10_mail 21 = .ok (.iconst (-1), 1) := by decide +kernel
theorem dX10_mail_22 : decode cX10_mail 22 = .ok (.ireturn, 1) := by decide +kernel
theorem dX10_mail_23 : decode cX10_mail 23 = .ok (.iload_n 2, 1) := by decide +kernel
theorem dX10_mail_24 : decode cX10_mail 24 = .ok (.tableswitch 64 0 2 #[28, 41, 54], 28) := by decide +kernel
theorem dX10_mail_52 : decode cX10_mail 52 = .ok (.aload_n 0, 1) := by decide +kernel
theorem dX10_mail_53 : decode cX10_mail 53 = .ok (.getfield 33, 3) := by decide +kernel
theorem dX10_mail_56 : decode cX10_mail 56 = .ok (.getfield 172, 3) := by decide +kernel
theorem dX10_mail_59 : decode cX10_mail 59 = .ok (.iload_n 1, 1) := by decide +kernel
theorem dX10_mail_60 : decode cX10_mail 60 = .ok (.iaload, 1) := by decide +kernel
theorem dX10_mail_61 : decode cX10_mail 61 = .ok (.bipush 6, 2) := by decide +kernel
theorem dX10_mail_63 : decode cX10_mail 63 = .ok (.idiv, 1) := by decide +kernel
theorem dX10_mail_64 : decode cX10_mail 64 = .ok (.ireturn, 1) := by decide +kernel
theorem dX10_mail_65 : decode cX10_mail 65 = .ok (.aload_n 0, 1) := by decide +kernel
theorem dX10_mail_66 : decode cX10_mail 66 = .ok (.getfield 33, 3) := by decide +kernel
theorem dX10_mail_69 : decode cX10_mail 69 = .ok (.getfield 172, 3) := by decide +kernel
theorem dX10_mail_72 : decode cX10_mail 72 = .ok (.iload_n 1, 1) := by decide +kernel
theorem dX10_mail_73 : decode cX10_mail 73 = .ok (.iaload, 1) := by decide +kernel
theorem dX10_mail_74 : decode cX10_mail 74 = .ok (.bipush 6, 2) := by decide +kernel
theorem dX10_mail_76 : decode cX10_mail 76 = .ok (.irem, 1) := by decide +kernel
theorem dX10_mail_77 : decode cX10_mail 77 = .ok (.ireturn, 1) := by decide +kernel
theorem dX10_mail_78 : decode cX10_mail 78 = .ok (.aload_n 0, 1) := by decide +kernel
theorem dX10_mail_79 : decode cX10_mail 79 = .ok (.getfield 33, 3) := by decide +kernel
theorem dX10_mail_82 : decode cX10_mail 82 = .ok (.getfield 175, 3) := by decide +kernel
theorem dX10_mail_85 : decode cX10_mail 85 = .ok (.iload_n 1, 1) := by decide +kernel
theorem dX10_mail_86 : decode cX10_mail 86 = .ok (.iaload, 1) := by decide +kernel
theorem dX10_mail_87 : decode cX10_mail 87 = .ok (.ireturn, 1) := by decide +kernel
theorem dX10_mail_88 : decode cX10_mail 88 = .ok (.iconst (-1), 1) := by decide +kernel
theorem dX10_mail_89 : decode cX10_mail 89 = .ok (.ireturn, 1) := by decide +kernel
theorem dX10_writes_0 : decode cX10_writes 0 = .ok (.aload_n 0, 1) := by decide +kernel
theorem dX10_writes_1 : decode cX10_writes 1 = .ok (.getfield 20, 3) := by decide +kernel
theorem dX10_writes_4 : decode cX10_writes 4 = .ok (.iload_n 1, 1) := by decide +kernel
theorem dX10_writes_5 : decode cX10_writes 5 = .ok (.invokevirtual 149, 3) := by decide +kernel
theorem dX10_writes_8 : decode cX10_writes 8 = .ok (.ifCond .eq 22, 3) := by decide +kernel
theorem dX10_writes_11 : decode cX10_writes 11 = .ok (.aload_n 0, 1) := by decide +kernel
theorem dX10_writes_12 : decode cX10_writes 12 = .ok (.getfield 43, 3) := by decide +kernel
theorem dX10_writes_15 : decode cX10_writes 15 = .ok (.aload_n 0, 1) := by decide +kernel
theorem dX10_writes_16 : decode cX10_writes 16 = .ok (.getfield 20, 3) := by decide +kernel
theorem dX10_writes_19 : decode cX10_writes 19 = .ok (.aload_n 0, 1) := by decide +kernel
theorem dX10_writes_20 : decode cX10_writes 20 = .ok (.getfield 33, 3) := by decide +kernel
theorem dX10_writes_23 : decode cX10_writes 23 = .ok (.iload_n 1, 1) := by decide +kernel
theorem dX10_writes_24 : decode cX10_writes 24 = .ok (.invokevirtual 178, 3) := by decide +kernel
theorem dX10_writes_27 : decode cX10_writes 27 = .ok (.goto 4, 3) := by decide +kernel
theorem dX10_writes_30 : decode cX10_writes 30 = .ok (.iconst (-1), 1) := by decide +kernel
theorem dX10_writes_31 : decode cX10_writes 31 = .ok (.ireturn, 1) := by decide +kernel
theorem dX10_later_0 : decode cX10_later 0 = .ok (.aload_n 0, 1) := by decide +kernel
theorem dX10_later_1 : decode cX10_later 1 = .ok (.getfield 20, 3) := by decide +kernel
theorem dX10_later_4 : decode cX10_later 4 = .ok (.iload_n 1, 1) := by decide +kernel
theorem dX10_later_5 : decode cX10_later 5 = .ok (.iload_n 2, 1) := by decide +kernel
theorem dX10_later_6 : decode cX10_later 6 = .ok (.invokevirtual 162, 3) := by decide +kernel
theorem dX10_later_9 : decode cX10_later 9 = .ok (.ifCond .eq 15, 3) := by decide +kernel
theorem dX10_later_12 : decode cX10_later 12 = .ok (.iload_n 3, 1) := by decide +kernel
theorem dX10_later_13 : decode cX10_later 13 = .ok (.ifCond .lt 11, 3) := by decide +kernel
theorem dX10_later_16 : decode cX10_later 16 = .ok (.iload_n 3, 1) := by decide +kernel
theorem dX10_later_17 : decode cX10_later 17 = .ok (.aload_n 0, 1) := by decide +kernel
theorem dX10_later_18 : decode cX10_later 18 = .ok (.invokevirtual 182, 3) := by decide +kernel
theorem dX10_later_21 : decode cX10_later 21 = .ok (.if_icmp .le 5, 3) := by decide +kernel
theorem dX10_later_24 : decode cX10_later 24 = .ok (.iconst (-1), 1) := by decide +kernel
theorem dX10_later_25 : decode cX10_later 25 = .ok (.ireturn, 1) := by decide +kernel
theorem dX10_later_26 : decode cX10_later 26 = .ok (.aload_n 0, 1) := by decide +kernel
theorem dX10_later_27 : decode cX10_later 27 = .ok (.getfield 37, 3) := by decide +kernel
theorem dX10_later_30 : decode cX10_later 30 = .ok (.aload_n 0, 1) := by decide +kernel
theorem dX10_later_31 : decode cX10_later 31 = .ok (.getfield 33, 3) := by decide +kernel
theorem dX10_later_34 : decode cX10_later 34 = .ok (.invokevirtual 186, 3) := by decide +kernel
theorem dX10_later_37 : decode cX10_later 37 = .ok (.iconst 0, 1) := by decide +kernel
theorem dX10_later_38 : decode cX10_later 38 = .ok (.istore 5, 2) := by decide +kernel
theorem dX10_later_40 : decode cX10_later 40 = .ok (.iload 5, 2) := by decide +kernel
theorem dX10_later_42 : decode cX10_later 42 = .ok (.iload_n 3, 1) := by decide +kernel
theorem dX10_later_43 : decode cX10_later 43 = .ok (.if_icmp .ge 25, 3) := by decide +kernel
theorem dX10_later_46 : decode cX10_later 46 = .ok (.aload_n 0, 1) := by decide +kernel
theorem dX10_later_47 : decode cX10_later 47 = .ok (.getfield 43, 3) := by decide +kernel
theorem dX10_later_50 : decode cX10_later 50 = .ok (.aload_n 0, 1) := by decide +kernel
theorem dX10_later_51 : decode cX10_later 51 = .ok (.getfield 20, 3) := by decide +kernel
theorem dX10_later_54 : decode cX10_later 54 = .ok (.aload_n 0, 1) := by decide +kernel
theorem dX10_later_55 : decode cX10_later 55 = .ok (.getfield 37, 3) := by decide +kernel
theorem dX10_later_58 : decode cX10_later 58 = .ok (.aconst_null, 1) := by decide +kernel
theorem dX10_later_59 : decode cX10_later 59 = .ok (.invokevirtual 190, 3) := by decide +kernel
theorem dX10_later_62 : decode cX10_later 62 = .ok (.iinc 5 1, 3) := by decide +kernel
theorem dX10_later_65 : decode cX10_later 65 = .ok (.goto (-25), 3) := by decide +kernel
theorem dX10_later_68 : decode cX10_later 68 = .ok (.aload_n 0, 1) := by decide +kernel
theorem dX10_later_69 : decode cX10_later 69 = .ok (.getfield 37, 3) := by decide +kernel
theorem dX10_later_72 : decode cX10_later 72 = .ok (.iload_n 1, 1) := by decide +kernel
theorem dX10_later_73 : decode cX10_later 73 = .ok (.bipush 6, 2) := by decide +kernel
theorem dX10_later_75 : decode cX10_later 75 = .ok (.imul, 1) := by decide +kernel
theorem dX10_later_76 : decode cX10_later 76 = .ok (.iload_n 2, 1) := by decide +kernel
theorem dX10_later_77 : decode cX10_later 77 = .ok (.iadd, 1) := by decide +kernel
theorem dX10_later_78 : decode cX10_later 78 = .ok (.iload 4, 2) := by decide +kernel
theorem dX10_later_80 : decode cX10_later 80 = .ok (.invokevirtual 169, 3) := by decide +kernel
theorem dX10_later_83 : decode cX10_later 83 = .ok (.ireturn, 1) := by decide +kernel
theorem dX10_comes_0 : decode cX10_comes 0 = .ok (.aload_n 0, 1) := by decide +kernel
theorem dX10_comes_1 : decode cX10_comes 1 = .ok (.getfield 20, 3) := by decide +kernel
theorem dX10_comes_4 : decode cX10_comes 4 = .ok (.iload_n 1, 1) := by decide +kernel
theorem dX10_comes_5 : decode cX10_comes 5 = .ok (.iload_n 2, 1) := by decide +kernel
theorem dX10_comes_6 : decode cX10_comes 6 = .ok (.invokevirtual 162, 3) := by decide +kernel
theorem dX10_comes_9 : decode cX10_comes 9 = .ok (.ifCond .ne 5, 3) := by decide +kernel
theorem dX10_comes_12 : decode cX10_comes 12 = .ok (.iconst (-1), 1) := by decide +kernel
theorem dX10_comes_13 : decode cX10_comes 13 = .ok (.ireturn, 1) := by decide +kernel
theorem dX10_comes_14 : decode cX10_comes 14 = .ok (.aload_n 0, 1) := by decide +kernel
theorem dX10_comes_15 : decode cX10_comes 15 = .ok (.invokevirtual 182, 3) := by decide +kernel
theorem dX10_comes_18 : decode cX10_comes 18 = .ok (.istore_n 3, 1) := by decide +kernel
