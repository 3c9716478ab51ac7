theorem dX5_readFactNamed_55 : decode cX5_readFactNamed 55 = .ok (.ifCond .eq 8, 3) := by decide +kernel
theorem dX5_readFactNamed_58 : decode cX5_readFactNamed 58 = .ok (.aload_n 0, 1) := by decide +kernel
theorem dX5_readFactNamed_59 : decode cX5_readFactNamed 59 = .ok (.invokevirtual 117, 3) := by decide +kernel
theorem dX5_readFactNamed_62 : decode cX5_readFactNamed 62 = .ok (.return_, 1) := by decide +kernel
theorem dX5_readFactNamed_63 : decode cX5_readFactNamed 63 = .ok (.aload_n 0, 1) := by decide +kernel
theorem dX5_readFactNamed_64 : decode cX5_readFactNamed 64 = .ok (.invokevirtual 70, 3) := by decide +kernel
theorem dX5_readFactNamed_67 : decode cX5_readFactNamed 67 = .ok (.aload_n 0, 1) := by decide +kernel
theorem dX5_readFactNamed_68 : decode cX5_readFactNamed 68 = .ok (.iconst 0, 1) := by decide +kernel
theorem dX5_readFactNamed_69 : decode cX5_readFactNamed 69 = .ok (.iload_n 1, 1) := by decide +kernel
theorem dX5_readFactNamed_70 : decode cX5_readFactNamed 70 = .ok (.iadd, 1) := by decide +kernel
theorem dX5_readFactNamed_71 : decode cX5_readFactNamed 71 = .ok (.bipush 11, 2) := by decide +kernel
theorem dX5_readFactNamed_73 : decode cX5_readFactNamed 73 = .ok (.isub, 1) := by decide +kernel
theorem dX5_readFactNamed_74 : decode cX5_readFactNamed 74 = .ok (.invokevirtual 170, 3) := by decide +kernel
theorem dX5_readFactNamed_77 : decode cX5_readFactNamed 77 = .ok (.return_, 1) := by decide +kernel
theorem dX5_readExtreme_0 : decode cX5_readExtreme 0 = .ok (.aload_n 0, 1) := by decide +kernel
theorem dX5_readExtreme_1 : decode cX5_readExtreme 1 = .ok (.invokevirtual 70, 3) := by decide +kernel
theorem dX5_readExtreme_4 : decode cX5_readExtreme 4 = .ok (.aload_n 0, 1) := by decide +kernel
theorem dX5_readExtreme_5 : decode cX5_readExtreme 5 = .ok (.invokevirtual 201, 3) := by decide +kernel
theorem dX5_readExtreme_8 : decode cX5_readExtreme 8 = .ok (.ifCond .eq 38, 3) := by decide +kernel
theorem dX5_readExtreme_11 : decode cX5_readExtreme 11 = .ok (.aload_n 0, 1) := by decide +kernel
theorem dX5_readExtreme_12 : decode cX5_readExtreme 12 = .ok (.invokevirtual 153, 3) := by decide +kernel
theorem dX5_readExtreme_15 : decode cX5_readExtreme 15 = .ok (.aload_n 0, 1) := by decide +kernel
theorem dX5_readExtreme_16 : decode cX5_readExtreme 16 = .ok (.bipush 44, 2) := by decide +kernel
theorem dX5_readExtreme_18 : decode cX5_readExtreme 18 = .ok (.invokevirtual 80, 3) := by decide +kernel
theorem dX5_readExtreme_21 : decode cX5_readExtreme 21 = .ok (.aload_n 0, 1) := by decide +kernel
theorem dX5_readExtreme_22 : decode cX5_readExtreme 22 = .ok (.invokevirtual 153, 3) := by decide +kernel
theorem dX5_readExtreme_25 : decode cX5_readExtreme 25 = .ok (.aload_n 0, 1) := by decide +kernel
theorem dX5_readExtreme_26 : decode cX5_readExtreme 26 = .ok (.bipush 41, 2) := by decide +kernel
theorem dX5_readExtreme_28 : decode cX5_readExtreme 28 = .ok (.invokevirtual 80, 3) := by decide +kernel
theorem dX5_readExtreme_31 : decode cX5_readExtreme 31 = .ok (.aload_n 0, 1) := by decide +kernel
theorem dX5_readExtreme_32 : decode cX5_readExtreme 32 = .ok (.dup, 1) := by decide +kernel
theorem dX5_readExtreme_33 : decode cX5_readExtreme 33 = .ok (.getfield 36, 3) := by decide +kernel
theorem dX5_readExtreme_36 : decode cX5_readExtreme 36 = .ok (.iconst 1, 1) := by decide +kernel
theorem dX5_readExtreme_37 : decode cX5_readExtreme 37 = .ok (.isub, 1) := by decide +kernel
theorem dX5_readExtreme_38 : decode cX5_readExtreme 38 = .ok (.putfield 36, 3) := by decide +kernel
theorem dX5_readExtreme_41 : decode cX5_readExtreme 41 = .ok (.aload_n 0, 1) := by decide +kernel
theorem dX5_readExtreme_42 : decode cX5_readExtreme 42 = .ok (.iload_n 1, 1) := by decide +kernel
theorem dX5_readExtreme_43 : decode cX5_readExtreme 43 = .ok (.invokevirtual 170, 3) := by decide +kernel
theorem dX5_readExtreme_46 : decode cX5_readExtreme 46 = .ok (.return_, 1) := by decide +kernel
theorem dX5_readChoice_0 : decode cX5_readChoice 0 = .ok (.aload_n 0, 1) := by decide +kernel
theorem dX5_readChoice_1 : decode cX5_readChoice 1 = .ok (.invokevirtual 70, 3) := by decide +kernel
theorem dX5_readChoice_4 : decode cX5_readChoice 4 = .ok (.aload_n 0, 1) := by decide +kernel
theorem dX5_readChoice_5 : decode cX5_readChoice 5 = .ok (.invokevirtual 201, 3) := by decide +kernel
theorem dX5_readChoice_8 : decode cX5_readChoice 8 = .ok (.ifCond .eq 49, 3) := by decide +kernel
theorem dX5_readChoice_11 : decode cX5_readChoice 11 = .ok (.aload_n 0, 1) := by decide +kernel
theorem dX5_readChoice_12 : decode cX5_readChoice 12 = .ok (.invokevirtual 150, 3) := by decide +kernel
theorem dX5_readChoice_15 : decode cX5_readChoice 15 = .ok (.aload_n 0, 1) := by decide +kernel
theorem dX5_readChoice_16 : decode cX5_readChoice 16 = .ok (.bipush 44, 2) := by decide +kernel
theorem dX5_readChoice_18 : decode cX5_readChoice 18 = .ok (.invokevirtual 80, 3) := by decide +kernel
theorem dX5_readChoice_21 : decode cX5_readChoice 21 = .ok (.aload_n 0, 1) := by decide +kernel
theorem dX5_readChoice_22 : decode cX5_readChoice 22 = .ok (.invokevirtual 153, 3) := by decide +kernel
theorem dX5_readChoice_25 : decode cX5_readChoice 25 = .ok (.aload_n 0, 1) := by decide +kernel
theorem dX5_readChoice_26 : decode cX5_readChoice 26 = .ok (.bipush 44, 2) := by decide +kernel
theorem dX5_readChoice_28 : decode cX5_readChoice 28 = .ok (.invokevirtual 80, 3) := by decide +kernel
theorem dX5_readChoice_31 : decode cX5_readChoice 31 = .ok (.aload_n 0, 1) := by decide +kernel
theorem dX5_readChoice_32 : decode cX5_readChoice 32 = .ok (.invokevirtual 153, 3) := by decide +kernel
theorem dX5_readChoice_35 : decode cX5_readChoice 35 = .ok (.aload_n 0, 1) := by decide +kernel
theorem dX5_readChoice_36 : decode cX5_readChoice 36 = .ok (.bipush 41, 2) := by decide +kernel
theorem dX5_readChoice_38 : decode cX5_readChoice 38 = .ok (.invokevirtual 80, 3) := by decide +kernel
theorem dX5_readChoice_41 : decode cX5_readChoice 41 = .ok (.aload_n 0, 1) := by decide +kernel
theorem dX5_readChoice_42 : decode cX5_readChoice 42 = .ok (.dup, 1) := by decide +kernel
theorem dX5_readChoice_43 : decode cX5_readChoice 43 = .ok (.getfield 36, 3) := by decide +kernel
theorem dX5_readChoice_46 : decode cX5_readChoice 46 = .ok (.iconst 1, 1) := by decide +kernel
theorem dX5_readChoice_47 : decode cX5_readChoice 47 = .ok (.isub, 1) := by decide +kernel
theorem dX5_readChoice_48 : decode cX5_readChoice 48 = .ok (.putfield 36, 3) := by decide +kernel
theorem dX5_readChoice_51 : decode cX5_readChoice 51 = .ok (.aload_n 0, 1) := by decide +kernel
theorem dX5_readChoice_52 : decode cX5_readChoice 52 = .ok (.bipush 18, 2) := by decide +kernel
theorem dX5_readChoice_54 : decode cX5_readChoice 54 = .ok (.invokevirtual 170, 3) := by decide +kernel
theorem dX5_readChoice_57 : decode cX5_readChoice 57 = .ok (.return_, 1) := by decide +kernel
theorem dX5_opensWithParenthesis_0 : decode cX5_opensWithParenthesis 0 = .ok (.aload_n 0, 1) := by decide +kernel
theorem dX5_opensWithParenthesis_1 : decode cX5_opensWithParenthesis 1 = .ok (.bipush 40, 2) := by decide +kernel
theorem dX5_opensWithParenthesis_3 : decode cX5_opensWithParenthesis 3 = .ok (.invokevirtual 180, 3) := by decide +kernel
theorem dX5_opensWithParenthesis_6 : decode cX5_opensWithParenthesis 6 = .ok (.ifCond .ne 9, 3) := by decide +kernel
theorem dX5_opensWithParenthesis_9 : decode cX5_opensWithParenthesis 9 = .ok (.aload_n 0, 1) := by decide +kernel
theorem dX5_opensWithParenthesis_10 : decode cX5_opensWithParenthesis 10 = .ok (.invokevirtual 117, 3) := by decide +kernel
theorem dX5_opensWithParenthesis_13 : decode cX5_opensWithParenthesis 13 = .ok (.iconst 0, 1) := by decide +kernel
theorem dX5_opensWithParenthesis_14 : decode cX5_opensWithParenthesis 14 = .ok (.ireturn, 1) := by decide +kernel
theorem dX5_opensWithParenthesis_15 : decode cX5_opensWithParenthesis 15 = .ok (.aload_n 0, 1) := by decide +kernel
theorem dX5_opensWithParenthesis_16 : decode cX5_opensWithParenthesis 16 = .ok (.invokevirtual 176, 3) := by decide +kernel
theorem dX5_opensWithParenthesis_19 : decode cX5_opensWithParenthesis 19 = .ok (.ireturn, 1) := by decide +kernel
theorem dX5_opens_0 : decode cX5_opens 0 = .ok (.aload_n 0, 1) := by decide +kernel
theorem dX5_opens_1 : decode cX5_opens 1 = .ok (.getfield 36, 3) := by decide +kernel
theorem dX5_opens_4 : decode cX5_opens 4 = .ok (.bipush 7, 2) := by decide +kernel
theorem dX5_opens_6 : decode cX5_opens 6 = .ok (.if_icmp .lt 14, 3) := by decide +kernel
theorem dX5_opens_9 : decode cX5_opens 9 = .ok (.aload_n 0, 1) := by decide +kernel
theorem dX5_opens_10 : decode cX5_opens 10 = .ok (.iconst 5, 1) := by decide +kernel
theorem dX5_opens_11 : decode cX5_opens 11 = .ok (.aload_n 0, 1) := by decide +kernel
theorem dX5_opens_12 : decode cX5_opens 12 = .ok (.getfield 23, 3) := by decide +kernel
theorem dX5_opens_15 : decode cX5_opens 15 = .ok (.invokevirtual 73, 3) := by decide +kernel
theorem dX5_opens_18 : decode cX5_opens 18 = .ok (.iconst 0, 1) := by decide +kernel
theorem dX5_opens_19 : decode cX5_opens 19 = .ok (.ireturn, 1) := by decide +kernel
theorem dX5_opens_20 : decode cX5_opens 20 = .ok (.aload_n 0, 1) := by decide +kernel
theorem dX5_opens_21 : decode cX5_opens 21 = .ok (.dup, 1) := by decide +kernel
theorem dX5_opens_22 : decode cX5_opens 22 = .ok (.getfield 36, 3) := by decide +kernel
theorem dX5_opens_25 : decode cX5_opens 25 = .ok (.iconst 1, 1) := by decide +kernel
theorem dX5_opens_26 : decode cX5_opens 26 = .ok (.iadd, 1) := by decide +kernel
theorem dX5_opens_27 : decode cX5_opens 27 = .ok (.putfield 36, 3) := by decide +kernel
theorem dX5_opens_30 : decode cX5_opens 30 = .ok (.aload_n 0, 1) := by decide +kernel
theorem dX5_opens_31 : decode cX5_opens 31 = .ok (.invokevirtual 70, 3) := by decide +kernel
theorem dX5_opens_34 : decode cX5_opens 34 = .ok (.iconst 1, 1) := by decide +kernel
theorem dX5_opens_35 : decode cX5_opens 35 = .ok (.ireturn, 1) := by decide +kernel
theorem dX5_emit_0 : decode cX5_emit 0 = .ok (.aload_n 0, 1) := by decide +kernel
theorem dX5_emit_1 : decode cX5_emit 1 = .ok (.getfield 33, 3) := by decide +kernel
theorem dX5_emit_4 : decode cX5_emit 4 = .ok (.aload_n 0, 1) := by decide +kernel
theorem dX5_emit_5 : decode cX5_emit 5 = .ok (.getfield 66, 3) := by decide +kernel
theorem dX5_emit_8 : decode cX5_emit 8 = .ok (.arraylength, 1) := by decide +kernel
theorem dX5_emit_9 : decode cX5_emit 9 = .ok (.if_icmp .ge 23, 3) := by decide +kernel
theorem dX5_emit_12 : decode cX5_emit 12 = .ok (.aload_n 0, 1) := by decide +kernel
theorem dX5_emit_13 : decode cX5_emit 13 = .ok (.getfield 66, 3) := by decide +kernel
theorem dX5_emit_16 : decode cX5_emit 16 = .ok (.aload_n 0, 1) := by decide +kernel
theorem dX5_emit_17 : decode cX5_emit 17 = .ok (.getfield 33, 3) := by decide +kernel
theorem dX5_emit_20 : decode cX5_emit 20 = .ok (.iload_n 1, 1) := by decide +kernel
theorem dX5_emit_21 : decode cX5_emit 21 = .ok (.iastore, 1) := by decide +kernel
theorem dX5_emit_22 : decode cX5_emit 22 = .ok (.aload_n 0, 1) := by decide +kernel
theorem dX5_emit_23 : decode cX5_emit 23 = .ok (.dup, 1) := by decide +kernel
theorem dX5_emit_24 : decode cX5_emit 24 = .ok (.getfield 33, 3) := by decide +kernel
theorem dX5_emit_27 : decode cX5_emit 27 = .ok (.iconst 1, 1) := by decide +kernel
theorem dX5_emit_28 : decode cX5_emit 28 = .ok (.iadd, 1) := by decide +kernel
theorem dX5_emit_29 : decode cX5_emit 29 = .ok (.putfield 33, 3) := by decide +kernel
theorem dX5_emit_32 : decode cX5_emit 32 = .ok (.return_, 1) := by decide +kernel
theorem dX5_isSign_0 : decode cX5_isSign 0 = .ok (.aload_n 0, 1) := by decide +kernel
theorem dX5_isSign_1 : decode cX5_isSign 1 = .ok (.getfield 17, 3) := by decide +kernel
theorem dX5_isSign_4 : decode cX5_isSign 4 = .ok (.iconst 1, 1) := by decide +kernel
theorem dX5_isSign_5 : decode cX5_isSign 5 = .ok (.if_icmp .ne 15, 3) := by decide +kernel
theorem dX5_isSign_8 : decode cX5_isSign 8 = .ok (.aload_n 0, 1) := by decide +kernel
theorem dX5_isSign_9 : decode cX5_isSign 9 = .ok (.getfield 20, 3) := by decide +kernel
theorem dX5_isSign_12 : decode cX5_isSign 12 = .ok (.iload_n 1, 1) := by decide +kernel
theorem dX5_isSign_13 : decode cX5_isSign 13 = .ok (.if_icmp .ne 7, 3) := by decide +kernel
theorem dX5_isSign_16 : decode cX5_isSign 16 = .ok (.iconst 1, 1) := by decide +kernel
theorem dX5_isSign_17 : decode cX5_isSign 17 = .ok (.goto 4, 3) := by decide +kernel
theorem dX5_isSign_20 : decode cX5_isSign 20 = .ok (.iconst 0, 1) := by decide +kernel
theorem dX5_isSign_21 : decode cX5_isSign 21 = .ok (.ireturn, 1) := by decide +kernel
theorem dX5_isOwn_0 : decode cX5_isOwn 0 = .ok (.aload_n 0, 1) := by decide +kernel
theorem dX5_isOwn_1 : decode cX5_isOwn 1 = .ok (.getfield 17, 3) := by decide +kernel
theorem dX5_isOwn_4 : decode cX5_isOwn 4 = .ok (.iconst 4, 1) := by decide +kernel
theorem dX5_isOwn_5 : decode cX5_isOwn 5 = .ok (.if_icmp .ne 15, 3) := by decide +kernel
theorem dX5_isOwn_8 : decode cX5_isOwn 8 = .ok (.aload_n 0, 1) := by decide +kernel
theorem dX5_isOwn_9 : decode cX5_isOwn 9 = .ok (.getfield 20, 3) := by decide +kernel
theorem dX5_isOwn_12 : decode cX5_isOwn 12 = .ok (.iload_n 1, 1) := by decide +kernel
theorem dX5_isOwn_13 : decode cX5_isOwn 13 = .ok (.if_icmp .ne 7, 3) := by decide +kernel
theorem dX5_isOwn_16 : decode cX5_isOwn 16 = .ok (.iconst 1, 1) := by decide +kernel
theorem dX5_isOwn_17 : decode cX5_isOwn 17 = .ok (.goto 4, 3) := by decide +kernel
theorem dX5_isOwn_20 : decode cX5_isOwn 20 = .ok (.iconst 0, 1) := by decide +kernel
theorem dX5_isOwn_21 : decode cX5_isOwn 21 = .ok (.ireturn, 1) := by decide +kernel
theorem dX5_skipSign_0 : decode cX5_skipSign 0 = .ok (.aload_n 0, 1) := by decide +kernel
theorem dX5_skipSign_1 : decode cX5_skipSign 1 = .ok (.iload_n 1, 1) := by decide +kernel
theorem dX5_skipSign_2 : decode cX5_skipSign 2 = .ok (.invokevirtual 180, 3) := by decide +kernel
theorem dX5_skipSign_5 : decode cX5_skipSign 5 = .ok (.ifCond .eq 10, 3) := by decide +kernel
theorem dX5_skipSign_8 : decode cX5_skipSign 8 = .ok (.aload_n 0, 1) := by decide +kernel
theorem dX5_skipSign_9 : decode cX5_skipSign 9 = .ok (.invokevirtual 70, 3) := by decide +kernel
theorem dX5_skipSign_12 : decode cX5_skipSign 12 = .ok (.goto 7, 3) := by decide +kernel
theorem dX5_skipSign_15 : decode cX5_skipSign 15 = .ok (.aload_n 0, 1) := by decide +kernel
theorem dX5_skipSign_16 : decode cX5_skipSign 16 = .ok (.invokevirtual 117, 3) := by decide +kernel
theorem dX5_skipSign_19 : decode cX5_skipSign 19 = .ok (.return_, 1) := by decide +kernel
theorem dX5_skipOwn_0 : decode cX5_skipOwn 0 = .ok (.aload_n 0, 1) := by decide +kernel
theorem dX5_skipOwn_1 : decode cX5_skipOwn 1 = .ok (.iload_n 1, 1) := by decide +kernel
theorem dX5_skipOwn_2 : decode cX5_skipOwn 2 = .ok (.invokevirtual 164, 3) := by decide +kernel
theorem dX5_skipOwn_5 : decode cX5_skipOwn 5 = .ok (.ifCond .eq 10, 3) := by decide +kernel
theorem dX5_skipOwn_8 : decode cX5_skipOwn 8 = .ok (.aload_n 0, 1) := by decide +kernel
theorem dX5_skipOwn_9 : decode cX5_skipOwn 9 = .ok (.invokevirtual 70, 3) := by decide +kernel
theorem dX5_skipOwn_12 : decode cX5_skipOwn 12 = .ok (.goto 7, 3) := by decide +kernel
theorem dX5_skipOwn_15 : decode cX5_skipOwn 15 = .ok (.aload_n 0, 1) := by decide +kernel
theorem dX5_skipOwn_16 : decode cX5_skipOwn 16 = .ok (.invokevirtual 117, 3) := by decide +kernel
theorem dX5_skipOwn_19 : decode cX5_skipOwn 19 = .ok (.return_, 1) := by decide +kernel
theorem dX5_take_0 : decode cX5_take 0 = .ok (.aload_n 0, 1) := by decide +kernel
theorem dX5_take_1 : decode cX5_take 1 = .ok (.getfield 43, 3) := by decide +kernel
theorem dX5_take_4 : decode cX5_take 4 = .ok (.ifCond .ne 77, 3) := by decide +kernel
theorem dX5_take_7 : decode cX5_take 7 = .ok (.aload_n 0, 1) := by decide +kernel
theorem dX5_take_8 : decode cX5_take 8 = .ok (.getfield 9, 3) := by decide +kernel
theorem dX5_take_11 : decode cX5_take 11 = .ok (.aload_n 0, 1) := by decide +kernel
theorem dX5_take_12 : decode cX5_take 12 = .ok (.getfield 52, 3) := by decide +kernel
theorem dX5_take_15 : decode cX5_take 15 = .ok (.getfield 204, 3) := by decide +kernel
theorem dX5_take_18 : decode cX5_take 18 = .ok (.iconst 1, 1) := by decide +kernel
theorem dX5_take_19 : decode cX5_take 19 = .ok (.isub, 1) := by decide +kernel
theorem dX5_take_20 : decode cX5_take 20 = .ok (.if_icmp .ge 61, 3) := by decide +kernel
theorem dX5_take_23 : decode cX5_take 23 = .ok (.aload_n 0, 1) := by decide +kernel
theorem dX5_take_24 : decode cX5_take 24 = .ok (.dup, 1) := by decide +kernel
theorem dX5_take_25 : decode cX5_take 25 = .ok (.getfield 9, 3) := by decide +kernel
theorem dX5_take_28 : decode cX5_take 28 = .ok (.iconst 1, 1) := by decide +kernel
theorem dX5_take_29 : decode cX5_take 29 = .ok (.iadd, 1) := by decide +kernel
theorem dX5_take_30 : decode cX5_take 30 = .ok (.putfield 9, 3) := by decide +kernel
theorem dX5_take_33 : decode cX5_take 33 = .ok (.aload_n 0, 1) := by decide +kernel
theorem dX5_take_34 : decode cX5_take 34 = .ok (.aload_n 0, 1) := by decide +kernel
theorem dX5_take_35 : decode cX5_take 35 = .ok (.getfield 52, 3) := by decide +kernel
theorem dX5_take_38 : decode cX5_take 38 = .ok (.getfield 207, 3) := by decide +kernel
theorem dX5_take_41 : decode cX5_take 41 = .ok (.aload_n 0, 1) := by decide +kernel
theorem dX5_take_42 : decode cX5_take 42 = .ok (.getfield 9, 3) := by decide +kernel
theorem dX5_take_45 : decode cX5_take 45 = .ok (.iaload, 1) := by decide +kernel
theorem dX5_take_46 : decode cX5_take 46 = .ok (.putfield 17, 3) := by decide +kernel
theorem dX5_take_49 : decode cX5_take 49 = .ok (.aload_n 0, 1) := by decide +kernel
theorem dX5_take_50 : decode cX5_take 50 = .ok (.aload_n 0, 1) := by decide +kernel
theorem dX5_take_51 : decode cX5_take 51 = .ok (.getfield 52, 3) := by decide +kernel
theorem dX5_take_54 : decode cX5_take 54 = .ok (.getfield 209, 3) := by decide +kernel
theorem dX5_take_57 : decode cX5_take 57 = .ok (.aload_n 0, 1) := by decide +kernel
theorem dX5_take_58 : decode cX5_take 58 = .ok (.getfield 9, 3) := by decide +kernel
theorem dX5_take_61 : decode cX5_take 61 = .ok (.iaload, 1) := by decide +kernel
theorem dX5_take_62 : decode cX5_take 62 = .ok (.putfield 20, 3) := by decide +kernel
theorem dX5_take_65 : decode cX5_take 65 = .ok (.aload_n 0, 1) := by decide +kernel
theorem dX5_take_66 : decode cX5_take 66 = .ok (.aload_n 0, 1) := by decide +kernel
theorem dX5_take_67 : decode cX5_take 67 = .ok (.getfield 52, 3) := by decide +kernel
theorem dX5_take_70 : decode cX5_take 70 = .ok (.getfield 211, 3) := by decide +kernel
theorem dX5_take_73 : decode cX5_take 73 = .ok (.aload_n 0, 1) := by decide +kernel
theorem dX5_take_74 : decode cX5_take 74 = .ok (.getfield 9, 3) := by decide +kernel
theorem dX5_take_77 : decode cX5_take 77 = .ok (.iaload, 1) := by decide +kernel
theorem dX5_take_78 : decode cX5_take 78 = .ok (.putfield 23, 3) := by decide +kernel
theorem dX5_take_81 : decode cX5_take 81 = .ok (.return_, 1) := by decide +kernel
theorem dX5_failHere_0 : decode cX5_failHere 0 = .ok (.aload_n 0, 1) := by decide +kernel
theorem dX5_failHere_1 : decode cX5_failHere 1 = .ok (.iconst 1, 1) := by decide +kernel
theorem dX5_failHere_2 : decode cX5_failHere 2 = .ok (.aload_n 0, 1) := by decide +kernel
theorem dX5_failHere_3 : decode cX5_failHere 3 = .ok (.getfield 17, 3) := by decide +kernel
theorem dX5_failHere_6 : decode cX5_failHere 6 = .ok (.iconst 5, 1) := by decide +kernel
theorem dX5_failHere_7 : decode cX5_failHere 7 = .ok (.if_icmp .ne 10, 3) := by decide +kernel
theorem dX5_failHere_10 : decode cX5_failHere 10 = .ok (.aload_n 0, 1) := by decide +kernel
theorem dX5_failHere_11 : decode cX5_failHere 11 = .ok (.getfield 20, 3) := by decide +kernel
theorem dX5_failHere_14 : decode cX5_failHere 14 = .ok (.goto 7, 3) := by decide +kernel
theorem dX5_failHere_17 : decode cX5_failHere 17 = .ok (.aload_n 0, 1) := by decide +kernel
theorem dX5_failHere_18 : decode cX5_failHere 18 = .ok (.getfield 23, 3) := by decide +kernel
theorem dX5_failHere_21 : decode cX5_failHere 21 = .ok (.invokevirtual 73, 3) := by decide +kernel
theorem dX5_failHere_24 : decode cX5_failHere 24 = .ok (.return_, 1) := by decide +kernel
theorem dX5_fail_0 : decode cX5_fail 0 = .ok (.aload_n 0, 1) := by decide +kernel
theorem dX5_fail_1 : decode cX5_fail 1 = .ok (.getfield 43, 3) := by decide +kernel
theorem dX5_fail_4 : decode cX5_fail 4 = .ok (.ifCond .ne 18, 3) := by decide +kernel
theorem dX5_fail_7 : decode cX5_fail 7 = .ok (.aload_n 0, 1) := by decide +kernel
theorem dX5_fail_8 : decode cX5_fail 8 = .ok (.iload_n 1, 1) := by decide +kernel
theorem dX5_fail_9 : decode cX5_fail 9 = .ok (.putfield 43, 3) := by decide +kernel
theorem dX5_fail_12 : decode cX5_fail 12 = .ok (.aload_n 0, 1) := by decide +kernel
theorem dX5_fail_13 : decode cX5_fail 13 = .ok (.iload_n 2, 1) := by decide +kernel
theorem dX5_fail_14 : decode cX5_fail 14 = .ok (.putfield 46, 3) := by decide +kernel
theorem dX5_fail_17 : decode cX5_fail 17 = .ok (.aload_n 0, 1) := by decide +kernel
theorem dX5_fail_18 : decode cX5_fail 18 = .ok (.iconst 5, 1) := by decide +kernel
theorem dX5_fail_19 : decode cX5_fail 19 = .ok (.putfield 17, 3) := by decide +kernel
theorem dX5_fail_22 : decode cX5_fail 22 = .ok (.return_, 1) := by decide +kernel
theorem dX6_open_0 : decode cX6_open 0 = .ok (.lconst 0, 1) := by decide +kernel
theorem dX6_open_1 : decode cX6_open 1 = .ok (.lstore_n 2, 1) := by decide +kernel
theorem dX6_open_2 : decode cX6_open 2 = .ok (.iconst 0, 1) := by decide +kernel
theorem dX6_open_3 : decode cX6_open 3 = .ok (.istore 4, 2) := by decide +kernel
theorem dX6_open_5 : decode cX6_open 5 = .ok (.iload 4, 2) := by decide +kernel
theorem dX6_open_7 : decode cX6_open 7 = .ok (.bipush 36, 2) := by decide +kernel
theorem dX6_open_9 : decode cX6_open 9 = .ok (.if_icmp .ge 36, 3) := by decide +kernel
theorem dX6_open_12 : decode cX6_open 12 = .ok (.aload_n 0, 1) := by decide +kernel
theorem dX6_open_13 : decode cX6_open 13 = .ok (.getfield 9, 3) := by decide +kernel
theorem dX6_open_16 : decode cX6_open 16 = .ok (.iload 4, 2) := by decide +kernel
theorem dX6_open_18 : decode cX6_open 18 = .ok (.iaload, 1) := by decide +kernel
theorem dX6_open_19 : decode cX6_open 19 = .ok (.ifCond .le 20, 3) := by decide +kernel
theorem dX6_open_22 : decode cX6_open 22 = .ok (.aload_n 1, 1) := by decide +kernel
theorem dX6_open_23 : decode cX6_open 23 = .ok (.getfield 15, 3) := by decide +kernel
theorem dX6_open_26 : decode cX6_open 26 = .ok (.iload 4, 2) := by decide +kernel
theorem dX6_open_28 : decode cX6_open 28 = .ok (.iaload, 1) := by decide +kernel
theorem dX6_open_29 : decode cX6_open 29 = .ok (.ifCond .le 10, 3) := by decide +kernel
theorem dX6_open_32 : decode cX6_open 32 = .ok (.lload_n 2, 1) := by decide +kernel
theorem dX6_open_33 : decode cX6_open 33 = .ok (.lconst 1, 1) := by decide +kernel
theorem dX6_open_34 : decode cX6_open 34 = .ok (.iload 4, 2) := by decide +kernel
theorem dX6_open_36 : decode cX6_open 36 = .ok (.lshl, 1) := by decide +kernel
theorem dX6_open_37 : decode cX6_open 37 = .ok (.lor, 1) := by decide +kernel
theorem dX6_open_38 : decode cX6_open 38 = .ok (.lstore_n 2, 1) := by decide +kernel
theorem dX6_open_39 : decode cX6_open 39 = .ok (.iinc 4 1, 3) := by decide +kernel
theorem dX6_open_42 : decode cX6_open 42 = .ok (.goto (-37), 3) := by decide +kernel
theorem dX6_open_45 : decode cX6_open 45 = .ok (.lload_n 2, 1) := by decide +kernel
theorem dX6_open_46 : decode cX6_open 46 = .ok (.lreturn, 1) := by decide +kernel
theorem dX6_from_0 : decode cX6_from 0 = .ok (.lload_n 0, 1) := by decide +kernel
theorem dX6_from_1 : decode cX6_from 1 = .ok (.iload_n 2, 1) := by decide +kernel
theorem dX6_from_2 : decode cX6_from 2 = .ok (.bipush 6, 2) := by decide +kernel
theorem dX6_from_4 : decode cX6_from 4 = .ok (.imul, 1) := by decide +kernel
theorem dX6_from_5 : decode cX6_from 5 = .ok (.lushr, 1) := by decide +kernel
theorem dX6_from_6 : decode cX6_from 6 = .ok (.l2i, 1) := by decide +kernel
theorem dX6_from_7 : decode cX6_from 7 = .ok (.bipush 63, 2) := by decide +kernel
theorem dX6_from_9 : decode cX6_from 9 = .ok (.iand, 1) := by decide +kernel
theorem dX6_from_10 : decode cX6_from 10 = .ok (.ireturn, 1) := by decide +kernel
theorem dX6_reach_0 : decode cX6_reach 0 = .ok (.iconst 1, 1) := by decide +kernel
theorem dX6_reach_1 : decode cX6_reach 1 = .ok (.iload_n 2, 1) := by decide +kernel
theorem dX6_reach_2 : decode cX6_reach 2 = .ok (.ishl, 1) := by decide +kernel
theorem dX6_reach_3 : decode cX6_reach 3 = .ok (.istore_n 3, 1) := by decide +kernel
theorem dX6_reach_4 : decode cX6_reach 4 = .ok (.iconst 1, 1) := by decide +kernel
theorem dX6_reach_5 : decode cX6_reach 5 = .ok (.istore 4, 2) := by decide +kernel
theorem dX6_reach_7 : decode cX6_reach 7 = .ok (.iload 4, 2) := by decide +kernel
theorem dX6_reach_9 : decode cX6_reach 9 = .ok (.bipush 6, 2) := by decide +kernel
theorem dX6_reach_11 : decode cX6_reach 11 = .ok (.if_icmp .ge 55, 3) := by decide +kernel
theorem dX6_reach_14 : decode cX6_reach 14 = .ok (.iload_n 3, 1) := by decide +kernel
theorem dX6_reach_15 : decode cX6_reach 15 = .ok (.istore 5, 2) := by decide +kernel
theorem dX6_reach_17 : decode cX6_reach 17 = .ok (.iconst 0, 1) := by decide +kernel
theorem dX6_reach_18 : decode cX6_reach 18 = .ok (.istore 6, 2) := by decide +kernel
theorem dX6_reach_20 : decode cX6_reach 20 = .ok (.iload 6, 2) := by decide +kernel
theorem dX6_reach_22 : decode cX6_reach 22 = .ok (.bipush 6, 2) := by decide +kernel
theorem dX6_reach_24 : decode cX6_reach 24 = .ok (.if_icmp .ge 27, 3) := by decide +kernel
theorem dX6_reach_27 : decode cX6_reach 27 = .ok (.iload_n 3, 1) := by decide +kernel
theorem dX6_reach_28 : decode cX6_reach 28 = .ok (.iload 6, 2) := by decide +kernel
theorem dX6_reach_30 : decode cX6_reach 30 = .ok (.ishr, 1) := by decide +kernel
theorem dX6_reach_31 : decode cX6_reach 31 = .ok (.iconst 1, 1) := by decide +kernel
theorem dX6_reach_32 : decode cX6_reach 32 = .ok (.iand, 1) := by decide +kernel
theorem dX6_reach_33 : decode cX6_reach 33 = .ok (.ifCond .eq 12, 3) := by decide +kernel
theorem dX6_reach_36 : decode cX6_reach 36 = .ok (.iload_n 3, 1) := by decide +kernel
theorem dX6_reach_37 : decode cX6_reach 37 = .ok (.lload_n 0, 1) := by decide +kernel
theorem dX6_reach_38 : decode cX6_reach 38 = .ok (.iload 6, 2) := by decide +kernel
theorem dX6_reach_40 : decode cX6_reach 40 = .ok (.invokestatic 22, 3) := by decide +kernel
theorem dX6_reach_43 : decode cX6_reach 43 = .ok (.ior, 1) := by decide +kernel
theorem dX6_reach_44 : decode cX6_reach 44 = .ok (.istore_n 3, 1) := by decide +kernel
theorem dX6_reach_45 : decode cX6_reach 45 = .ok (.iinc 6 1, 3) := by decide +kernel
theorem dX6_reach_48 : decode cX6_reach 48 = .ok (.goto (-28), 3) := by decide +kernel
theorem dX6_reach_51 : decode cX6_reach 51 = .ok (.iload_n 3, 1) := by decide +kernel
theorem dX6_reach_52 : decode cX6_reach 52 = .ok (.iload 5, 2) := by decide +kernel
theorem dX6_reach_54 : decode cX6_reach 54 = .ok (.if_icmp .ne 6, 3) := by decide +kernel
theorem dX6_reach_57 : decode cX6_reach 57 = .ok (.goto 9, 3) := by decide +kernel
theorem dX6_reach_60 : decode cX6_reach 60 = .ok (.iinc 4 1, 3) := by decide +kernel
theorem dX6_reach_63 : decode cX6_reach 63 = .ok (.goto (-56), 3) := by decide +kernel
theorem dX6_reach_66 : decode cX6_reach 66 = .ok (.iload_n 3, 1) := by decide +kernel
theorem dX6_reach_67 : decode cX6_reach 67 = .ok (.ireturn, 1) := by decide +kernel
theorem dX6_joinAll_0 : decode cX6_joinAll 0 = .ok (.iconst 1, 1) := by decide +kernel
theorem dX6_joinAll_1 : decode cX6_joinAll 1 = .ok (.iload_n 2, 1) := by decide +kernel
theorem dX6_joinAll_2 : decode cX6_joinAll 2 = .ok (.ishl, 1) := by decide +kernel
theorem dX6_joinAll_3 : decode cX6_joinAll 3 = .ok (.iconst 1, 1) := by decide +kernel
theorem dX6_joinAll_4 : decode cX6_joinAll 4 = .ok (.isub, 1) := by decide +kernel
theorem dX6_joinAll_5 : decode cX6_joinAll 5 = .ok (.istore_n 3, 1) := by decide +kernel
theorem dX6_joinAll_6 : decode cX6_joinAll 6 = .ok (.iconst 0, 1) := by decide +kernel
theorem dX6_joinAll_7 : decode cX6_joinAll 7 = .ok (.istore 4, 2) := by decide +kernel
theorem dX6_joinAll_9 : decode cX6_joinAll 9 = .ok (.iload 4, 2) := by decide +kernel
theorem dX6_joinAll_11 : decode cX6_joinAll 11 = .ok (.iload_n 2, 1) := by decide +kernel
theorem dX6_joinAll_12 : decode cX6_joinAll 12 = .ok (.if_icmp .ge 21, 3) := by decide +kernel
theorem dX6_joinAll_15 : decode cX6_joinAll 15 = .ok (.lload_n 0, 1) := by decide +kernel
theorem dX6_joinAll_16 : decode cX6_joinAll 16 = .ok (.iload 4, 2) := by decide +kernel
theorem dX6_joinAll_18 : decode cX6_joinAll 18 = .ok (.invokestatic 26, 3) := by decide +kernel
theorem dX6_joinAll_21 : decode cX6_joinAll 21 = .ok (.iload_n 3, 1) := by decide +kernel
theorem dX6_joinAll_22 : decode cX6_joinAll 22 = .ok (.if_icmp .eq 5, 3) := by decide +kernel
theorem dX6_joinAll_25 : decode cX6_joinAll 25 = .ok (.iconst 0, 1) := by decide +kernel
theorem dX6_joinAll_26 : decode cX6_joinAll 26 = .ok (.ireturn, 1) := by decide +kernel
theorem dX6_joinAll_27 : decode cX6_joinAll 27 = .ok (.iinc 4 1, 3) := by decide +kernel
theorem dX6_joinAll_30 : decode cX6_joinAll 30 = .ok (.goto (-21), 3) := by decide +kernel
theorem dX6_joinAll_33 : decode cX6_joinAll 33 = .ok (.iconst 1, 1) := by decide +kernel
theorem dX6_joinAll_34 : decode cX6_joinAll 34 = .ok (.ireturn, 1) := by decide +kernel
theorem dX6_nearest_0 : decode cX6_nearest 0 = .ok (.bipush 99, 2) := by decide +kernel
theorem dX6_nearest_2 : decode cX6_nearest 2 = .ok (.istore 4, 2) := by decide +kernel
theorem dX6_nearest_4 : decode cX6_nearest 4 = .ok (.iconst 0, 1) := by decide +kernel
theorem dX6_nearest_5 : decode cX6_nearest 5 = .ok (.istore 5, 2) := by decide +kernel
theorem dX6_nearest_7 : decode cX6_nearest 7 = .ok (.iload 5, 2) := by decide +kernel
theorem dX6_nearest_9 : decode cX6_nearest 9 = .ok (.aload_n 3, 1) := by decide +kernel
theorem dX6_nearest_10 : decode cX6_nearest 10 = .ok (.arraylength, 1) := by decide +kernel
theorem dX6_nearest_11 : decode cX6_nearest 11 = .ok (.if_icmp .ge 33, 3) := by decide +kernel
theorem dX6_nearest_14 : decode cX6_nearest 14 = .ok (.lload_n 0, 1) := by decide +kernel
theorem dX6_nearest_15 : decode cX6_nearest 15 = .ok (.iload_n 2, 1) := by decide +kernel
theorem dX6_nearest_16 : decode cX6_nearest 16 = .ok (.invokestatic 22, 3) := by decide +kernel
theorem dX6_nearest_19 : decode cX6_nearest 19 = .ok (.iload 5, 2) := by decide +kernel
theorem dX6_nearest_21 : decode cX6_nearest 21 = .ok (.ishr, 1) := by decide +kernel
theorem dX6_nearest_22 : decode cX6_nearest 22 = .ok (.iconst 1, 1) := by decide +kernel
theorem dX6_nearest_23 : decode cX6_nearest 23 = .ok (.iand, 1) := by decide +kernel
theorem dX6_nearest_24 : decode cX6_nearest 24 = .ok (.ifCond .eq 14, 3) := by decide +kernel
theorem dX6_nearest_27 : decode cX6_nearest 27 = .ok (.iload 4, 2) := by decide +kernel
theorem dX6_nearest_29 : decode cX6_nearest 29 = .ok (.aload_n 3, 1) := by decide +kernel
theorem dX6_nearest_30 : decode cX6_nearest 30 = .ok (.iload 5, 2) := by decide +kernel
theorem dX6_nearest_32 : decode cX6_nearest 32 = .ok (.iaload, 1) := by decide +kernel
theorem dX6_nearest_33 : decode cX6_nearest 33 = .ok (.invokestatic 41, 3) := by decide +kernel
theorem dX6_nearest_36 : decode cX6_nearest 36 = .ok (.istore 4, 2) := by decide +kernel
theorem dX6_nearest_38 : decode cX6_nearest 38 = .ok (.iinc 5 1, 3) := by decide +kernel
theorem dX6_nearest_41 : decode cX6_nearest 41 = .ok (.goto (-34), 3) := by decide +kernel
theorem dX6_nearest_44 : decode cX6_nearest 44 = .ok (.iload 4, 2) := by decide +kernel
theorem dX6_nearest_46 : decode cX6_nearest 46 = .ok (.ireturn, 1) := by decide +kernel
theorem dX6_firstWith_0 : decode cX6_firstWith 0 = .ok (.iconst 0, 1) := by decide +kernel
theorem dX6_firstWith_1 : decode cX6_firstWith 1 = .ok (.istore 5, 2) := by decide +kernel
theorem dX6_firstWith_3 : decode cX6_firstWith 3 = .ok (.iload 5, 2) := by decide +kernel
theorem dX6_firstWith_5 : decode cX6_firstWith 5 = .ok (.aload_n 3, 1) := by decide +kernel
theorem dX6_firstWith_6 : decode cX6_firstWith 6 = .ok (.arraylength, 1) := by decide +kernel
theorem dX6_firstWith_7 : decode cX6_firstWith 7 = .ok (.if_icmp .ge 34, 3) := by decide +kernel
theorem dX6_firstWith_10 : decode cX6_firstWith 10 = .ok (.lload_n 0, 1) := by decide +kernel
theorem dX6_firstWith_11 : decode cX6_firstWith 11 = .ok (.iload_n 2, 1) := by decide +kernel
theorem dX6_firstWith_12 : decode cX6_firstWith 12 = .ok (.invokestatic 22, 3) := by decide +kernel
theorem dX6_firstWith_15 : decode cX6_firstWith 15 = .ok (.iload 5, 2) := by decide +kernel
theorem dX6_firstWith_17 : decode cX6_firstWith 17 = .ok (.ishr, 1) := by decide +kernel
theorem dX6_firstWith_18 : decode cX6_firstWith 18 = .ok (.iconst 1, 1) := by decide +kernel
theorem dX6_firstWith_19 : decode cX6_firstWith 19 = .ok (.iand, 1) := by decide +kernel
theorem dX6_firstWith_20 : decode cX6_firstWith 20 = .ok (.ifCond .eq 15, 3) := by decide +kernel
theorem dX6_firstWith_23 : decode cX6_firstWith 23 = .ok (.aload_n 3, 1) := by decide +kernel
theorem dX6_firstWith_24 : decode cX6_firstWith 24 = .ok (.iload 5, 2) := by decide +kernel
theorem dX6_firstWith_26 : decode cX6_firstWith 26 = .ok (.iaload, 1) := by decide +kernel
theorem dX6_firstWith_27 : decode cX6_firstWith 27 = .ok (.iload 4, 2) := by decide +kernel
theorem dX6_firstWith_29 : decode cX6_firstWith 29 = .ok (.if_icmp .ne 6, 3) := by decide +kernel
theorem dX6_firstWith_32 : decode cX6_firstWith 32 = .ok (.iload 5, 2) := by decide +kernel
theorem dX6_firstWith_34 : decode cX6_firstWith 34 = .ok (.ireturn, 1) := by decide +kernel
theorem dX6_firstWith_35 : decode cX6_firstWith 35 = .ok (.iinc 5 1, 3) := by decide +kernel
theorem dX6_firstWith_38 : decode cX6_firstWith 38 = .ok (.goto (-35), 3) := by decide +kernel
theorem dX6_firstWith_41 : decode cX6_firstWith 41 = .ok (.iconst (-1), 1) := by decide +kernel
theorem dX6_firstWith_42 : decode cX6_firstWith 42 = .ok (.ireturn, 1) := by decide +kernel
theorem dX7_begin_0 : decode cX7_begin 0 = .ok (.aload_n 0, 1) := by decide +kernel
theorem dX7_begin_1 : decode cX7_begin 1 = .ok (.iconst 0, 1) := by decide +kernel
theorem dX7_begin_2 : decode cX7_begin 2 = .ok (.putfield 9, 3) := by decide +kernel
theorem dX7_begin_5 : decode cX7_begin 5 = .ok (.aload_n 0, 1) := by decide +kernel
theorem dX7_begin_6 : decode cX7_begin 6 = .ok (.iconst 0, 1) := by decide +kernel
theorem dX7_begin_7 : decode cX7_begin 7 = .ok (.putfield 25, 3) := by decide +kernel
theorem dX7_begin_10 : decode cX7_begin 10 = .ok (.aload_n 0, 1) := by decide +kernel
theorem dX7_begin_11 : decode cX7_begin 11 = .ok (.iconst 0, 1) := by decide +kernel
theorem dX7_begin_12 : decode cX7_begin 12 = .ok (.putfield 34, 3) := by decide +kernel
theorem dX7_begin_15 : decode cX7_begin 15 = .ok (.iconst 0, 1) := by decide +kernel
theorem dX7_begin_16 : decode cX7_begin 16 = .ok (.istore_n 2, 1) := by decide +kernel
theorem dX7_begin_17 : decode cX7_begin 17 = .ok (.iload_n 2, 1) := by decide +kernel
theorem dX7_begin_18 : decode cX7_begin 18 = .ok (.bipush 36, 2) := by decide +kernel
theorem dX7_begin_20 : decode cX7_begin 20 = .ok (.if_icmp .ge 42, 3) := by decide +kernel
theorem dX7_begin_23 : decode cX7_begin 23 = .ok (.aload_n 0, 1) := by decide +kernel
theorem dX7_begin_24 : decode cX7_begin 24 = .ok (.getfield 15, 3) := by decide +kernel
theorem dX7_begin_27 : decode cX7_begin 27 = .ok (.iload_n 2, 1) := by decide +kernel
theorem dX7_begin_28 : decode cX7_begin 28 = .ok (.iload_n 2, 1) := by decide +kernel
theorem dX7_begin_29 : decode cX7_begin 29 = .ok (.aload_n 1, 1) := by decide +kernel
theorem dX7_begin_30 : decode cX7_begin 30 = .ok (.arraylength, 1) := by decide +kernel
theorem dX7_begin_31 : decode cX7_begin 31 = .ok (.if_icmp .ge 9, 3) := by decide +kernel
theorem dX7_begin_34 : decode cX7_begin 34 = .ok (.aload_n 1, 1) := by decide +kernel
theorem dX7_begin_35 : decode cX7_begin 35 = .ok (.iload_n 2, 1) := by decide +kernel
theorem dX7_begin_36 : decode cX7_begin 36 = .ok (.iaload, 1) := by decide +kernel
theorem dX7_begin_37 : decode cX7_begin 37 = .ok (.goto 4, 3) := by decide +kernel
theorem dX7_begin_40 : decode cX7_begin 40 = .ok (.iconst 0, 1) := by decide +kernel
theorem dX7_begin_41 : decode cX7_begin 41 = .ok (.iastore, 1) := by decide +kernel
theorem dX7_begin_42 : decode cX7_begin 42 = .ok (.aload_n 0, 1) := by decide +kernel
theorem dX7_begin_43 : decode cX7_begin 43 = .ok (.getfield 19, 3) := by decide +kernel
theorem dX7_begin_46 : decode cX7_begin 46 = .ok (.iload_n 2, 1) := by decide +kernel
theorem dX7_begin_47 : decode cX7_begin 47 = .ok (.iconst 0, 1) := by decide +kernel
theorem dX7_begin_48 : decode cX7_begin 48 = .ok (.iastore, 1) := by decide +kernel
theorem dX7_begin_49 : decode cX7_begin 49 = .ok (.aload_n 0, 1) := by decide +kernel
theorem dX7_begin_50 : decode cX7_begin 50 = .ok (.getfield 22, 3) := by decide +kernel
theorem dX7_begin_53 : decode cX7_begin 53 = .ok (.iload_n 2, 1) := by decide +kernel
theorem dX7_begin_54 : decode cX7_begin 54 = .ok (.iconst 0, 1) := by decide +kernel
theorem dX7_begin_55 : decode cX7_begin 55 = .ok (.iastore, 1) := by decide +kernel
theorem dX7_begin_56 : decode cX7_begin 56 = .ok (.iinc 2 1, 3) := by decide +kernel
theorem dX7_begin_59 : decode cX7_begin 59 = .ok (.goto (-42), 3) := by decide +kernel
theorem dX7_begin_62 : decode cX7_begin 62 = .ok (.return_, 1) := by decide +kernel
theorem dX7_copyFrom_0 : decode cX7_copyFrom 0 = .ok (.aload_n 0, 1) := by decide +kernel
theorem dX7_copyFrom_1 : decode cX7_copyFrom 1 = .ok (.aload_n 1, 1) := by decide +kernel
theorem dX7_copyFrom_2 : decode cX7_copyFrom 2 = .ok (.getfield 9, 3) := by decide +kernel
theorem dX7_copyFrom_5 : decode cX7_copyFrom 5 = .ok (.putfield 9, 3) := by decide +kernel
theorem dX7_copyFrom_8 : decode cX7_copyFrom 8 = .ok (.aload_n 1, 1) := by decide +kernel
theorem dX7_copyFrom_9 : decode cX7_copyFrom 9 = .ok (.getfield 15, 3) := by decide +kernel
theorem dX7_copyFrom_12 : decode cX7_copyFrom 12 = .ok (.iconst 0, 1) := by decide +kernel
theorem dX7_copyFrom_13 : decode cX7_copyFrom 13 = .ok (.aload_n 0, 1) := by decide +kernel
theorem dX7_copyFrom_14 : decode cX7_copyFrom 14 = .ok (.getfield 15, 3) := by decide +kernel
theorem dX7_copyFrom_17 : decode cX7_copyFrom 17 = .ok (.iconst 0, 1) := by decide +kernel
theorem dX7_copyFrom_18 : decode cX7_copyFrom 18 = .ok (.bipush 36, 2) := by decide +kernel
theorem dX7_copyFrom_20 : decode cX7_copyFrom 20 = .ok (.invokestatic 50, 3) := by decide +kernel
theorem dX7_copyFrom_23 : decode cX7_copyFrom 23 = .ok (.aload_n 1, 1) := by decide +kernel
theorem dX7_copyFrom_24 : decode cX7_copyFrom 24 = .ok (.getfield 19, 3) := by decide +kernel
theorem dX7_copyFrom_27 : decode cX7_copyFrom 27 = .ok (.iconst 0, 1) := by decide +kernel
theorem dX7_copyFrom_28 : decode cX7_copyFrom 28 = .ok (.aload_n 0, 1) := by decide +kernel
theorem dX7_copyFrom_29 : decode cX7_copyFrom 29 = .ok (.getfield 19, 3) := by decide +kernel
theorem dX7_copyFrom_32 : decode cX7_copyFrom 32 = .ok (.iconst 0, 1) := by decide +kernel
theorem dX7_copyFrom_33 : decode cX7_copyFrom 33 = .ok (.bipush 36, 2) := by decide +kernel
theorem dX7_copyFrom_35 : decode cX7_copyFrom 35 = .ok (.invokestatic 50, 3) := by decide +kernel
theorem dX7_copyFrom_38 : decode cX7_copyFrom 38 = .ok (.aload_n 1, 1) := by decide +kernel
theorem dX7_copyFrom_39 : decode cX7_copyFrom 39 = .ok (.getfield 22, 3) := by decide +kernel
theorem dX7_copyFrom_42 : decode cX7_copyFrom 42 = .ok (.iconst 0, 1) := by decide +kernel
theorem dX7_copyFrom_43 : decode cX7_copyFrom 43 = .ok (.aload_n 0, 1) := by decide +kernel
theorem dX7_copyFrom_44 : decode cX7_copyFrom 44 = .ok (.getfield 22, 3) := by decide +kernel
theorem dX7_copyFrom_47 : decode cX7_copyFrom 47 = .ok (.iconst 0, 1) := by decide +kernel
theorem dX7_copyFrom_48 : decode cX7_copyFrom 48 = .ok (.bipush 36, 2) := by decide +kernel
theorem dX7_copyFrom_50 : decode cX7_copyFrom 50 = .ok (.invokestatic 50, 3) := by decide +kernel
theorem dX7_copyFrom_53 : decode cX7_copyFrom 53 = .ok (.aload_n 0, 1) := by decide +kernel
theorem dX7_copyFrom_54 : decode cX7_copyFrom 54 = .ok (.aload_n 1, 1) := by decide +kernel
theorem dX7_copyFrom_55 : decode cX7_copyFrom 55 = .ok (.getfield 25, 3) := by decide +kernel
theorem dX7_copyFrom_58 : decode cX7_copyFrom 58 = .ok (.putfield 25, 3) := by decide +kernel
theorem dX7_copyFrom_61 : decode cX7_copyFrom 61 = .ok (.aload_n 1, 1) := by decide +kernel
theorem dX7_copyFrom_62 : decode cX7_copyFrom 62 = .ok (.getfield 28, 3) := by decide +kernel
theorem dX7_copyFrom_65 : decode cX7_copyFrom 65 = .ok (.iconst 0, 1) := by decide +kernel
theorem dX7_copyFrom_66 : decode cX7_copyFrom 66 = .ok (.aload_n 0, 1) := by decide +kernel
theorem dX7_copyFrom_67 : decode cX7_copyFrom 67 = .ok (.getfield 28, 3) := by decide +kernel
theorem dX7_copyFrom_70 : decode cX7_copyFrom 70 = .ok (.iconst 0, 1) := by decide +kernel
theorem dX7_copyFrom_71 : decode cX7_copyFrom 71 = .ok (.bipush 60, 2) := by decide +kernel
theorem dX7_copyFrom_73 : decode cX7_copyFrom 73 = .ok (.invokestatic 50, 3) := by decide +kernel
theorem dX7_copyFrom_76 : decode cX7_copyFrom 76 = .ok (.aload_n 1, 1) := by decide +kernel
theorem dX7_copyFrom_77 : decode cX7_copyFrom 77 = .ok (.getfield 31, 3) := by decide +kernel
theorem dX7_copyFrom_80 : decode cX7_copyFrom 80 = .ok (.iconst 0, 1) := by decide +kernel
theorem dX7_copyFrom_81 : decode cX7_copyFrom 81 = .ok (.aload_n 0, 1) := by decide +kernel
theorem dX7_copyFrom_82 : decode cX7_copyFrom 82 = .ok (.getfield 31, 3) := by decide +kernel
theorem dX7_copyFrom_85 : decode cX7_copyFrom 85 = .ok (.iconst 0, 1) := by decide +kernel
theorem dX7_copyFrom_86 : decode cX7_copyFrom 86 = .ok (.bipush 60, 2) := by decide +kernel
theorem dX7_copyFrom_88 : decode cX7_copyFrom 88 = .ok (.invokestatic 50, 3) := by decide +kernel
theorem dX7_copyFrom_91 : decode cX7_copyFrom 91 = .ok (.aload_n 0, 1) := by decide +kernel
theorem dX7_copyFrom_92 : decode cX7_copyFrom 92 = .ok (.aload_n 1, 1) := by decide +kernel
theorem dX7_copyFrom_93 : decode cX7_copyFrom 93 = .ok (.getfield 34, 3) := by decide +kernel
theorem dX7_copyFrom_96 : decode cX7_copyFrom 96 = .ok (.putfield 34, 3) := by decide +kernel
theorem dX7_copyFrom_99 : decode cX7_copyFrom 99 = .ok (.aload_n 1, 1) := by decide +kernel
theorem dX7_copyFrom_100 : decode cX7_copyFrom 100 = .ok (.getfield 37, 3) := by decide +kernel
theorem dX7_copyFrom_103 : decode cX7_copyFrom 103 = .ok (.iconst 0, 1) := by decide +kernel
theorem dX7_copyFrom_104 : decode cX7_copyFrom 104 = .ok (.aload_n 0, 1) := by decide +kernel
theorem dX7_copyFrom_105 : decode cX7_copyFrom 105 = .ok (.getfield 37, 3) := by decide +kernel
theorem dX7_copyFrom_108 : decode cX7_copyFrom 108 = .ok (.iconst 0, 1) := by decide +kernel
theorem dX7_copyFrom_109 : decode cX7_copyFrom 109 = .ok (.bipush 50, 2) := by decide +kernel
theorem dX7_copyFrom_111 : decode cX7_copyFrom 111 = .ok (.invokestatic 50, 3) := by decide +kernel
theorem dX7_copyFrom_114 : decode cX7_copyFrom 114 = .ok (.return_, 1) := by decide +kernel
theorem dX7_heldBy_0 : decode cX7_heldBy 0 = .ok (.iload_n 1, 1) := by decide +kernel
theorem dX7_heldBy_1 : decode cX7_heldBy 1 = .ok (.bipush 6, 2) := by decide +kernel
theorem dX7_heldBy_3 : decode cX7_heldBy 3 = .ok (.imul, 1) := by decide +kernel
theorem dX7_heldBy_4 : decode cX7_heldBy 4 = .ok (.iload_n 2, 1) := by decide +kernel
theorem dX7_heldBy_5 : decode cX7_heldBy 5 = .ok (.iadd, 1) := by decide +kernel
theorem dX7_heldBy_6 : decode cX7_heldBy 6 = .ok (.istore_n 3, 1) := by decide +kernel
theorem dX7_heldBy_7 : decode cX7_heldBy 7 = .ok (.iload_n 3, 1) := by decide +kernel
theorem dX7_heldBy_8 : decode cX7_heldBy 8 = .ok (.ifCond .lt 18, 3) := by decide +kernel
theorem dX7_heldBy_11 : decode cX7_heldBy 11 = .ok (.iload_n 3, 1) := by decide +kernel
theorem dX7_heldBy_12 : decode cX7_heldBy 12 = .ok (.bipush 36, 2) := by decide +kernel
theorem dX7_heldBy_14 : decode cX7_heldBy 14 = .ok (.if_icmp .ge 12, 3) := by decide +kernel
theorem dX7_heldBy_17 : decode cX7_heldBy 17 = .ok (.aload_n 0, 1) := by decide +kernel
theorem dX7_heldBy_18 : decode cX7_heldBy 18 = .ok (.getfield 15, 3) := by decide +kernel
theorem dX7_heldBy_21 : decode cX7_heldBy 21 = .ok (.iload_n 3, 1) := by decide +kernel
theorem dX7_heldBy_22 : decode cX7_heldBy 22 = .ok (.iaload, 1) := by decide +kernel
theorem dX7_heldBy_23 : decode cX7_heldBy 23 = .ok (.goto 4, 3) := by decide +kernel
theorem dX7_heldBy_26 : decode cX7_heldBy 26 = .ok (.iconst 0, 1) := by decide +kernel
theorem dX7_heldBy_27 : decode cX7_heldBy 27 = .ok (.ireturn, 1) := by decide +kernel
theorem dX7_countOf_0 : decode cX7_countOf 0 = .ok (.iload_n 1, 1) := by decide +kernel
theorem dX7_countOf_1 : decode cX7_countOf 1 = .ok (.ifCond .lt 9, 3) := by decide +kernel
theorem dX7_countOf_4 : decode cX7_countOf 4 = .ok (.iload_n 1, 1) := by decide +kernel
theorem dX7_countOf_5 : decode cX7_countOf 5 = .ok (.bipush 36, 2) := by decide +kernel
theorem dX7_countOf_7 : decode cX7_countOf 7 = .ok (.if_icmp .lt 5, 3) := by decide +kernel
theorem dX7_countOf_10 : decode cX7_countOf 10 = .ok (.iconst (-1), 1) := by decide +kernel
theorem dX7_countOf_11 : decode cX7_countOf 11 = .ok (.ireturn, 1) := by decide +kernel
theorem dX7_countOf_12 : decode cX7_countOf 12 = .ok (.iload_n 2, 1) := by decide +kernel
theorem dX7_countOf_13 : decode cX7_countOf 13 = .ok (.tableswitch 48 0 2 #[27, 34, 41], 27) := by decide +kernel
theorem dX7_countOf_40 : decode cX7_countOf 40 = .ok (.aload_n 0, 1) := by decide +kernel
theorem dX7_countOf_41 : decode cX7_countOf 41 = .ok (.getfield 15, 3) := by decide +kernel
theorem dX7_countOf_44 : decode cX7_countOf 44 = .ok (.iload_n 1, 1) := by decide +kernel
theorem dX7_countOf_45 : decode cX7_countOf 45 = .ok (.iaload, 1) := by decide +kernel
theorem dX7_countOf_46 : decode cX7_countOf 46 = .ok (.ireturn, 1) := by decide +kernel
theorem dX7_countOf_47 : decode cX7_countOf 47 = .ok (.aload_n 0, 1) := by decide +kernel
theorem dX7_countOf_48 : decode cX7_countOf 48 = .ok (.getfield 19, 3) := by decide +kernel
theorem dX7_countOf_51 : decode cX7_countOf 51 = .ok (.iload_n 1, 1) := by decide +kernel
theorem dX7_countOf_52 : decode cX7_countOf 52 = .ok (.iaload, 1) := by decide +kernel
theorem dX7_countOf_53 : decode cX7_countOf 53 = .ok (.ireturn, 1) := by decide +kernel
theorem dX7_countOf_54 : decode cX7_countOf 54 = .ok (.aload_n 0, 1) := by decide +kernel
theorem dX7_countOf_55 : decode cX7_countOf 55 = .ok (.getfield 22, 3) := by decide +kernel
theorem dX7_countOf_58 : decode cX7_countOf 58 = .ok (.iload_n 1, 1) := by decide +kernel
theorem dX7_countOf_59 : decode cX7_countOf 59 = .ok (.iaload, 1) := by decide +kernel
theorem dX7_countOf_60 : decode cX7_countOf 60 = .ok (.ireturn, 1) := by decide +kernel
theorem dX7_countOf_61 : decode cX7_countOf 61 = .ok (.iconst (-1), 1) := by decide +kernel
theorem dX7_countOf_62 : decode cX7_countOf 62 = .ok (.ireturn, 1) := by decide +kernel
theorem dX7_post_0 : decode cX7_post 0 = .ok (.aload_n 0, 1) := by decide +kernel
theorem dX7_post_1 : decode cX7_post 1 = .ok (.getfield 25, 3) := by decide +kernel
theorem dX7_post_4 : decode cX7_post 4 = .ok (.bipush 60, 2) := by decide +kernel
theorem dX7_post_6 : decode cX7_post 6 = .ok (.if_icmp .ge 72, 3) := by decide +kernel
theorem dX7_post_9 : decode cX7_post 9 = .ok (.iload_n 1, 1) := by decide +kernel
theorem dX7_post_10 : decode cX7_post 10 = .ok (.ifCond .lt 68, 3) := by decide +kernel
theorem dX7_post_13 : decode cX7_post 13 = .ok (.iload_n 1, 1) := by decide +kernel
theorem dX7_post_14 : decode cX7_post 14 = .ok (.bipush 36, 2) := by decide +kernel
theorem dX7_post_16 : decode cX7_post 16 = .ok (.if_icmp .ge 62, 3) := by decide +kernel
theorem dX7_post_19 : decode cX7_post 19 = .ok (.aload_n 0, 1) := by decide +kernel
theorem dX7_post_20 : decode cX7_post 20 = .ok (.getfield 15, 3) := by decide +kernel
theorem dX7_post_23 : decode cX7_post 23 = .ok (.iload_n 1, 1) := by decide +kernel
theorem dX7_post_24 : decode cX7_post 24 = .ok (.dup2, 1) := by decide +kernel
theorem dX7_post_25 : decode cX7_post 25 = .ok (.iaload, 1) := by decide +kernel
theorem dX7_post_26 : decode cX7_post 26 = .ok (.iconst 1, 1) := by decide +kernel
theorem dX7_post_27 : decode cX7_post 27 = .ok (.isub, 1) := by decide +kernel
theorem dX7_post_28 : decode cX7_post 28 = .ok (.iastore, 1) := by decide +kernel
theorem dX7_post_29 : decode cX7_post 29 = .ok (.aload_n 0, 1) := by decide +kernel
theorem dX7_post_30 : decode cX7_post 30 = .ok (.getfield 19, 3) := by decide +kernel
theorem dX7_post_33 : decode cX7_post 33 = .ok (.iload_n 1, 1) := by decide +kernel
theorem dX7_post_34 : decode cX7_post 34 = .ok (.bipush 99, 2) := by decide +kernel
theorem dX7_post_36 : decode cX7_post 36 = .ok (.aload_n 0, 1) := by decide +kernel
theorem dX7_post_37 : decode cX7_post 37 = .ok (.getfield 19, 3) := by decide +kernel
theorem dX7_post_40 : decode cX7_post 40 = .ok (.iload_n 1, 1) := by decide +kernel
theorem dX7_post_41 : decode cX7_post 41 = .ok (.iaload, 1) := by decide +kernel
theorem dX7_post_42 : decode cX7_post 42 = .ok (.iconst 1, 1) := by decide +kernel
theorem dX7_post_43 : decode cX7_post 43 = .ok (.iadd, 1) := by decide +kernel
theorem dX7_post_44 : decode cX7_post 44 = .ok (.invokestatic 56, 3) := by decide +kernel
theorem dX7_post_47 : decode cX7_post 47 = .ok (.iastore, 1) := by decide +kernel
theorem dX7_post_48 : decode cX7_post 48 = .ok (.aload_n 0, 1) := by decide +kernel
theorem dX7_post_49 : decode cX7_post 49 = .ok (.getfield 28, 3) := by decide +kernel
theorem dX7_post_52 : decode cX7_post 52 = .ok (.aload_n 0, 1) := by decide +kernel
theorem dX7_post_53 : decode cX7_post 53 = .ok (.getfield 25, 3) := by decide +kernel
theorem dX7_post_56 : decode cX7_post 56 = .ok (.iload_n 1, 1) := by decide +kernel
theorem dX7_post_57 : decode cX7_post 57 = .ok (.iastore, 1) := by decide +kernel
theorem dX7_post_58 : decode cX7_post 58 = .ok (.aload_n 0, 1) := by decide +kernel
theorem dX7_post_59 : decode cX7_post 59 = .ok (.getfield 31, 3) := by decide +kernel
theorem dX7_post_62 : decode cX7_post 62 = .ok (.aload_n 0, 1) := by decide +kernel
theorem dX7_post_63 : decode cX7_post 63 = .ok (.getfield 25, 3) := by decide +kernel
theorem dX7_post_66 : decode cX7_post 66 = .ok (.iload_n 2, 1) := by decide +kernel
theorem dX7_post_67 : decode cX7_post 67 = .ok (.iastore, 1) := by decide +kernel
theorem dX7_post_68 : decode cX7_post 68 = .ok (.aload_n 0, 1) := by decide +kernel
theorem dX7_post_69 : decode cX7_post 69 = .ok (.dup, 1) := by decide +kernel
theorem dX7_post_70 : decode cX7_post 70 = .ok (.getfield 25, 3) := by decide +kernel
theorem dX7_post_73 : decode cX7_post 73 = .ok (.iconst 1, 1) := by decide +kernel
theorem dX7_post_74 : decode cX7_post 74 = .ok (.iadd, 1) := by decide +kernel
theorem dX7_post_75 : decode cX7_post 75 = .ok (.putfield 25, 3) := by decide +kernel
theorem dX7_post_78 : decode cX7_post 78 = .ok (.return_, 1) := by decide +kernel
theorem dX7_deliver_0 : decode cX7_deliver 0 = .ok (.aload_n 0, 1) := by decide +kernel
theorem dX7_deliver_1 : decode cX7_deliver 1 = .ok (.iload_n 1, 1) := by decide +kernel
theorem dX7_deliver_2 : decode cX7_deliver 2 = .ok (.iload_n 3, 1) := by decide +kernel
theorem dX7_deliver_3 : decode cX7_deliver 3 = .ok (.invokevirtual 62, 3) := by decide +kernel
theorem dX7_deliver_6 : decode cX7_deliver 6 = .ok (.iload_n 3, 1) := by decide +kernel
theorem dX7_deliver_7 : decode cX7_deliver 7 = .ok (.ifCond .eq 14, 3) := by decide +kernel
theorem dX7_deliver_10 : decode cX7_deliver 10 = .ok (.aload_n 0, 1) := by decide +kernel
theorem dX7_deliver_11 : decode cX7_deliver 11 = .ok (.dup, 1) := by decide +kernel
theorem dX7_deliver_12 : decode cX7_deliver 12 = .ok (.getfield 47, 3) := by decide +kernel
theorem dX7_deliver_15 : decode cX7_deliver 15 = .ok (.iconst 1, 1) := by decide +kernel
theorem dX7_deliver_16 : decode cX7_deliver 16 = .ok (.iadd, 1) := by decide +kernel
theorem dX7_deliver_17 : decode cX7_deliver 17 = .ok (.putfield 47, 3) := by decide +kernel
theorem dX7_deliver_20 : decode cX7_deliver 20 = .ok (.return_, 1) := by decide +kernel
theorem dX7_deliver_21 : decode cX7_deliver 21 = .ok (.aload_n 0, 1) := by decide +kernel
theorem dX7_deliver_22 : decode cX7_deliver 22 = .ok (.dup, 1) := by decide +kernel
theorem dX7_deliver_23 : decode cX7_deliver 23 = .ok (.getfield 44, 3) := by decide +kernel
theorem dX7_deliver_26 : decode cX7_deliver 26 = .ok (.iconst 1, 1) := by decide +kernel
theorem dX7_deliver_27 : decode cX7_deliver 27 = .ok (.iadd, 1) := by decide +kernel
theorem dX7_deliver_28 : decode cX7_deliver 28 = .ok (.putfield 44, 3) := by decide +kernel
theorem dX7_deliver_31 : decode cX7_deliver 31 = .ok (.aload_n 0, 1) := by decide +kernel
theorem dX7_deliver_32 : decode cX7_deliver 32 = .ok (.dup, 1) := by decide +kernel
theorem dX7_deliver_33 : decode cX7_deliver 33 = .ok (.getfield 40, 3) := by decide +kernel
theorem dX7_deliver_36 : decode cX7_deliver 36 = .ok (.lconst 1, 1) := by decide +kernel
theorem dX7_deliver_37 : decode cX7_deliver 37 = .ok (.iload_n 1, 1) := by decide +kernel
theorem dX7_deliver_38 : decode cX7_deliver 38 = .ok (.lshl, 1) := by decide +kernel
theorem dX7_deliver_39 : decode cX7_deliver 39 = .ok (.lor, 1) := by decide +kernel
theorem dX7_deliver_40 : decode cX7_deliver 40 = .ok (.putfield 40, 3) := by decide +kernel
theorem dX7_deliver_43 : decode cX7_deliver 43 = .ok (.iload_n 1, 1) := by decide +kernel
theorem dX7_deliver_44 : decode cX7_deliver 44 = .ok (.bipush 6, 2) := by decide +kernel
theorem dX7_deliver_46 : decode cX7_deliver 46 = .ok (.irem, 1) := by decide +kernel
theorem dX7_deliver_47 : decode cX7_deliver 47 = .ok (.bipush 6, 2) := by decide +kernel
theorem dX7_deliver_49 : decode cX7_deliver 49 = .ok (.imul, 1) := by decide +kernel
theorem dX7_deliver_50 : decode cX7_deliver 50 = .ok (.iload_n 1, 1) := by decide +kernel
theorem dX7_deliver_51 : decode cX7_deliver 51 = .ok (.bipush 6, 2) := by decide +kernel
theorem dX7_deliver_53 : decode cX7_deliver 53 = .ok (.idiv, 1) := by decide +kernel
theorem dX7_deliver_54 : decode cX7_deliver 54 = .ok (.iadd, 1) := by decide +kernel
theorem dX7_deliver_55 : decode cX7_deliver 55 = .ok (.istore 4, 2) := by decide +kernel
theorem dX7_deliver_57 : decode cX7_deliver 57 = .ok (.iload 4, 2) := by decide +kernel
theorem dX7_deliver_59 : decode cX7_deliver 59 = .ok (.ifCond .lt 52, 3) := by decide +kernel
theorem dX7_deliver_62 : decode cX7_deliver 62 = .ok (.iload 4, 2) := by decide +kernel
theorem dX7_deliver_64 : decode cX7_deliver 64 = .ok (.bipush 36, 2) := by decide +kernel
theorem dX7_deliver_66 : decode cX7_deliver 66 = .ok (.if_icmp .ge 45, 3) := by decide +kernel
theorem dX7_deliver_69 : decode cX7_deliver 69 = .ok (.aload_n 0, 1) := by decide +kernel
theorem dX7_deliver_70 : decode cX7_deliver 70 = .ok (.getfield 15, 3) := by decide +kernel
theorem dX7_deliver_73 : decode cX7_deliver 73 = .ok (.iload 4, 2) := by decide +kernel
theorem dX7_deliver_75 : decode cX7_deliver 75 = .ok (.bipush 99, 2) := by decide +kernel
theorem dX7_deliver_77 : decode cX7_deliver 77 = .ok (.aload_n 0, 1) := by decide +kernel
theorem dX7_deliver_78 : decode cX7_deliver 78 = .ok (.getfield 15, 3) := by decide +kernel
theorem dX7_deliver_81 : decode cX7_deliver 81 = .ok (.iload 4, 2) := by decide +kernel
theorem dX7_deliver_83 : decode cX7_deliver 83 = .ok (.iaload, 1) := by decide +kernel
theorem dX7_deliver_84 : decode cX7_deliver 84 = .ok (.iload_n 2, 1) := by decide +kernel
theorem dX7_deliver_85 : decode cX7_deliver 85 = .ok (.iadd, 1) := by decide +kernel
theorem dX7_deliver_86 : decode cX7_deliver 86 = .ok (.invokestatic 56, 3) := by decide +kernel
theorem dX7_deliver_89 : decode cX7_deliver 89 = .ok (.iastore, 1) := by decide +kernel
theorem dX7_deliver_90 : decode cX7_deliver 90 = .ok (.aload_n 0, 1) := by decide +kernel
theorem dX7_deliver_91 : decode cX7_deliver 91 = .ok (.getfield 22, 3) := by decide +kernel
theorem dX7_deliver_94 : decode cX7_deliver 94 = .ok (.iload 4, 2) := by decide +kernel
theorem dX7_deliver_96 : decode cX7_deliver 96 = .ok (.bipush 99, 2) := by decide +kernel
theorem dX7_deliver_98 : decode cX7_deliver 98 = .ok (.aload_n 0, 1) := by decide +kernel
theorem dX7_deliver_99 : decode cX7_deliver 99 = .ok (.getfield 22, 3) := by decide +kernel
theorem dX7_deliver_102 : decode cX7_deliver 102 = .ok (.iload 4, 2) := by decide +kernel
theorem dX7_deliver_104 : decode cX7_deliver 104 = .ok (.iaload, 1) := by decide +kernel
theorem dX7_deliver_105 : decode cX7_deliver 105 = .ok (.iconst 1, 1) := by decide +kernel
theorem dX7_deliver_106 : decode cX7_deliver 106 = .ok (.iadd, 1) := by decide +kernel
theorem dX7_deliver_107 : decode cX7_deliver 107 = .ok (.invokestatic 56, 3) := by decide +kernel
theorem dX7_deliver_110 : decode cX7_deliver 110 = .ok (.iastore, 1) := by decide +kernel
theorem dX7_deliver_111 : decode cX7_deliver 111 = .ok (.return_, 1) := by decide +kernel
theorem dX7_keep_0 : decode cX7_keep 0 = .ok (.aload_n 0, 1) := by decide +kernel
theorem dX7_keep_1 : decode cX7_keep 1 = .ok (.getfield 34, 3) := by decide +kernel
theorem dX7_keep_4 : decode cX7_keep 4 = .ok (.bipush 50, 2) := by decide +kernel
theorem dX7_keep_6 : decode cX7_keep 6 = .ok (.if_icmp .ne 28, 3) := by decide +kernel
theorem dX7_keep_9 : decode cX7_keep 9 = .ok (.aload_n 0, 1) := by decide +kernel
theorem dX7_keep_10 : decode cX7_keep 10 = .ok (.getfield 37, 3) := by decide +kernel
theorem dX7_keep_13 : decode cX7_keep 13 = .ok (.iconst 1, 1) := by decide +kernel
theorem dX7_keep_14 : decode cX7_keep 14 = .ok (.aload_n 0, 1) := by decide +kernel
theorem dX7_keep_15 : decode cX7_keep 15 = .ok (.getfield 37, 3) := by decide +kernel
theorem dX7_keep_18 : decode cX7_keep 18 = .ok (.iconst 0, 1) := by decide +kernel
theorem dX7_keep_19 : decode cX7_keep 19 = .ok (.bipush 49, 2) := by decide +kernel
theorem dX7_keep_21 : decode cX7_keep 21 = .ok (.invokestatic 50, 3) := by decide +kernel
theorem dX7_keep_24 : decode cX7_keep 24 = .ok (.aload_n 0, 1) := by decide +kernel
theorem dX7_keep_25 : decode cX7_keep 25 = .ok (.dup, 1) := by decide +kernel
theorem dX7_keep_26 : decode cX7_keep 26 = .ok (.getfield 34, 3) := by decide +kernel
theorem dX7_keep_29 : decode cX7_keep 29 = .ok (.iconst 1, 1) := by decide +kernel
theorem dX7_keep_30 : decode cX7_keep 30 = .ok (.isub, 1) := by decide +kernel
theorem dX7_keep_31 : decode cX7_keep 31 = .ok (.putfield 34, 3) := by decide +kernel
theorem dX7_keep_34 : decode cX7_keep 34 = .ok (.aload_n 0, 1) := by decide +kernel
theorem dX7_keep_35 : decode cX7_keep 35 = .ok (.getfield 37, 3) := by decide +kernel
theorem dX7_keep_38 : decode cX7_keep 38 = .ok (.aload_n 0, 1) := by decide +kernel
theorem dX7_keep_39 : decode cX7_keep 39 = .ok (.getfield 34, 3) := by decide +kernel
theorem dX7_keep_42 : decode cX7_keep 42 = .ok (.aload_n 0, 1) := by decide +kernel
theorem dX7_keep_43 : decode cX7_keep 43 = .ok (.getfield 9, 3) := by decide +kernel
theorem dX7_keep_46 : decode cX7_keep 46 = .ok (.bipush 36, 2) := by decide +kernel
theorem dX7_keep_48 : decode cX7_keep 48 = .ok (.imul, 1) := by decide +kernel
theorem dX7_keep_49 : decode cX7_keep 49 = .ok (.iload_n 1, 1) := by decide +kernel
theorem dX7_keep_50 : decode cX7_keep 50 = .ok (.iadd, 1) := by decide +kernel
theorem dX7_keep_51 : decode cX7_keep 51 = .ok (.iconst 2, 1) := by decide +kernel
theorem dX7_keep_52 : decode cX7_keep 52 = .ok (.imul, 1) := by decide +kernel
theorem dX7_keep_53 : decode cX7_keep 53 = .ok (.iload_n 2, 1) := by decide +kernel
theorem dX7_keep_54 : decode cX7_keep 54 = .ok (.ifCond .eq 7, 3) := by decide +kernel
theorem dX7_keep_57 : decode cX7_keep 57 = .ok (.iconst 1, 1) := by decide +kernel
theorem dX7_keep_58 : decode cX7_keep 58 = .ok (.goto 4, 3) := by decide +kernel
theorem dX7_keep_61 : decode cX7_keep 61 = .ok (.iconst 0, 1) := by decide +kernel
theorem dX7_keep_62 : decode cX7_keep 62 = .ok (.iadd, 1) := by decide +kernel
theorem dX7_keep_63 : decode cX7_keep 63 = .ok (.iastore, 1) := by decide +kernel
theorem dX7_keep_64 : decode cX7_keep 64 = .ok (.aload_n 0, 1) := by decide +kernel
theorem dX7_keep_65 : decode cX7_keep 65 = .ok (.dup, 1) := by decide +kernel
theorem dX7_keep_66 : decode cX7_keep 66 = .ok (.getfield 34, 3) := by decide +kernel
theorem dX7_keep_69 : decode cX7_keep 69 = .ok (.iconst 1, 1) := by decide +kernel
theorem dX7_keep_70 : decode cX7_keep 70 = .ok (.iadd, 1) := by decide +kernel
theorem dX7_keep_71 : decode cX7_keep 71 = .ok (.putfield 34, 3) := by decide +kernel
theorem dX7_keep_74 : decode cX7_keep 74 = .ok (.return_, 1) := by decide +kernel
theorem dX7_keptAt_0 : decode cX7_keptAt 0 = .ok (.iload_n 1, 1) := by decide +kernel
theorem dX7_keptAt_1 : decode cX7_keptAt 1 = .ok (.ifCond .lt 9, 3) := by decide +kernel
theorem dX7_keptAt_4 : decode cX7_keptAt 4 = .ok (.iload_n 1, 1) := by decide +kernel
theorem dX7_keptAt_5 : decode cX7_keptAt 5 = .ok (.bipush 50, 2) := by decide +kernel
theorem dX7_keptAt_7 : decode cX7_keptAt 7 = .ok (.if_icmp .lt 5, 3) := by decide +kernel
theorem dX7_keptAt_10 : decode cX7_keptAt 10 = .ok (.iconst (-1), 1) := by decide +kernel
theorem dX7_keptAt_11 : decode cX7_keptAt 11 = .ok (.ireturn, 1) := by decide +kernel
theorem dX7_keptAt_12 : decode cX7_keptAt 12 = .ok (.aload_n 0, 1) := by decide +kernel
theorem dX7_keptAt_13 : decode cX7_keptAt 13 = .ok (.getfield 37, 3) := by decide +kernel
theorem dX7_keptAt_16 : decode cX7_keptAt 16 = .ok (.iload_n 1, 1) := by decide +kernel
theorem dX7_keptAt_17 : decode cX7_keptAt 17 = .ok (.iaload, 1) := by decide +kernel
theorem dX7_keptAt_18 : decode cX7_keptAt 18 = .ok (.iconst 2, 1) := by decide +kernel
theorem dX7_keptAt_19 : decode cX7_keptAt 19 = .ok (.idiv, 1) := by decide +kernel
theorem dX7_keptAt_20 : decode cX7_keptAt 20 = .ok (.bipush 36, 2) := by decide +kernel
theorem dX7_keptAt_22 : decode cX7_keptAt 22 = .ok (.irem, 1) := by decide +kernel
theorem dX7_keptAt_23 : decode cX7_keptAt 23 = .ok (.istore_n 3, 1) := by decide +kernel
theorem dX7_keptAt_24 : decode cX7_keptAt 24 = .ok (.iload_n 2, 1) := by decide +kernel
theorem dX7_keptAt_25 : decode cX7_keptAt 25 = .ok (.tableswitch 62 0 3 #[31, 43, 48, 53], 31) := by decide +kernel
theorem dX7_keptAt_56 : decode cX7_keptAt 56 = .ok (.aload_n 0, 1) := by decide +kernel
theorem dX7_keptAt_57 : decode cX7_keptAt 57 = .ok (.getfield 37, 3) := by decide +kernel
theorem dX7_keptAt_60 : decode cX7_keptAt 60 = .ok (.iload_n 1, 1) := by decide +kernel
theorem dX7_keptAt_61 : decode cX7_keptAt 61 = .ok (.iaload, 1) := by decide +kernel
theorem dX7_keptAt_62 : decode cX7_keptAt 62 = .ok (.iconst 2, 1) := by decide +kernel
theorem dX7_keptAt_63 : decode cX7_keptAt 63 = .ok (.idiv, 1) := by decide +kernel
theorem dX7_keptAt_64 : decode cX7_keptAt 64 = .ok (.bipush 36, 2) := by decide +kernel
theorem dX7_keptAt_66 : decode cX7_keptAt 66 = .ok (.idiv, 1) := by decide +kernel
theorem dX7_keptAt_67 : decode cX7_keptAt 67 = .ok (.ireturn, 1) := by decide +kernel
theorem dX7_keptAt_68 : decode cX7_keptAt 68 = .ok (.iload_n 3, 1) := by decide +kernel
theorem dX7_keptAt_69 : decode cX7_keptAt 69 = .ok (.bipush 6, 2) := by decide +kernel
theorem dX7_keptAt_71 : decode cX7_keptAt 71 = .ok (.idiv, 1) := by decide +kernel
theorem dX7_keptAt_72 : decode cX7_keptAt 72 = .ok (.ireturn, 1) := by decide +kernel
theorem dX7_keptAt_73 : decode cX7_keptAt 73 = .ok (.iload_n 3, 1) := by decide +kernel
theorem dX7_keptAt_74 : decode cX7_keptAt 74 = .ok (.bipush 6, 2) := by decide +kernel
theorem dX7_keptAt_76 : decode cX7_keptAt 76 = .ok (.irem, 1) := by decide +kernel
theorem dX7_keptAt_77 : decode cX7_keptAt 77 = .ok (.ireturn, 1) := by decide +kernel
theorem dX7_keptAt_78 : decode cX7_keptAt 78 = .ok (.aload_n 0, 1) := by decide +kernel
theorem dX7_keptAt_79 : decode cX7_keptAt 79 = .ok (.getfield 37, 3) := by decide +kernel
theorem dX7_keptAt_82 : decode cX7_keptAt 82 = .ok (.iload_n 1, 1) := by decide +kernel
theorem dX7_keptAt_83 : decode cX7_keptAt 83 = .ok (.iaload, 1) := by decide +kernel
theorem dX7_keptAt_84 : decode cX7_keptAt 84 = .ok (.iconst 2, 1) := by decide +kernel
theorem dX7_keptAt_85 : decode cX7_keptAt 85 = .ok (.irem, 1) := by decide +kernel
theorem dX7_keptAt_86 : decode cX7_keptAt 86 = .ok (.ireturn, 1) := by decide +kernel
theorem dX7_keptAt_87 : decode cX7_keptAt 87 = .ok (.iconst (-1), 1) := by decide +kernel
theorem dX7_keptAt_88 : decode cX7_keptAt 88 = .ok (.ireturn, 1) := by decide +kernel
theorem dX8_letterOf_0 : decode cX8_letterOf 0 = .ok (.iload_n 0, 1) := by decide +kernel
theorem dX8_letterOf_1 : decode cX8_letterOf 1 = .ok (.iload_n 1, 1) := by decide +kernel
theorem dX8_letterOf_2 : decode cX8_letterOf 2 = .ok (.iconst 5, 1) := by decide +kernel
theorem dX8_letterOf_3 : decode cX8_letterOf 3 = .ok (.imul, 1) := by decide +kernel
theorem dX8_letterOf_4 : decode cX8_letterOf 4 = .ok (.ishr, 1) := by decide +kernel
theorem dX8_letterOf_5 : decode cX8_letterOf 5 = .ok (.bipush 31, 2) := by decide +kernel
theorem dX8_letterOf_7 : decode cX8_letterOf 7 = .ok (.iand, 1) := by decide +kernel
theorem dX8_letterOf_8 : decode cX8_letterOf 8 = .ok (.ireturn, 1) := by decide +kernel
theorem dX8_kindOf_0 : decode cX8_kindOf 0 = .ok (.iload_n 0, 1) := by decide +kernel
theorem dX8_kindOf_1 : decode cX8_kindOf 1 = .ok (.bipush 97, 2) := by decide +kernel
theorem dX8_kindOf_3 : decode cX8_kindOf 3 = .ok (.if_icmp .lt 11, 3) := by decide +kernel
theorem dX8_kindOf_6 : decode cX8_kindOf 6 = .ok (.iload_n 0, 1) := by decide +kernel
theorem dX8_kindOf_7 : decode cX8_kindOf 7 = .ok (.bipush 122, 2) := by decide +kernel
theorem dX8_kindOf_9 : decode cX8_kindOf 9 = .ok (.if_icmp .gt 5, 3) := by decide +kernel
theorem dX8_kindOf_12 : decode cX8_kindOf 12 = .ok (.iconst 3, 1) := by decide +kernel
theorem dX8_kindOf_13 : decode cX8_kindOf 13 = .ok (.ireturn, 1) := by decide +kernel
theorem dX8_kindOf_14 : decode cX8_kindOf 14 = .ok (.iload_n 0, 1) := by decide +kernel
theorem dX8_kindOf_15 : decode cX8_kindOf 15 = .ok (.bipush 48, 2) := by decide +kernel
theorem dX8_kindOf_17 : decode cX8_kindOf 17 = .ok (.if_icmp .lt 11, 3) := by decide +kernel
theorem dX8_kindOf_20 : decode cX8_kindOf 20 = .ok (.iload_n 0, 1) := by decide +kernel
theorem dX8_kindOf_21 : decode cX8_kindOf 21 = .ok (.bipush 57, 2) := by decide +kernel
theorem dX8_kindOf_23 : decode cX8_kindOf 23 = .ok (.if_icmp .gt 5, 3) := by decide +kernel
theorem dX8_kindOf_26 : decode cX8_kindOf 26 = .ok (.iconst 2, 1) := by decide +kernel
theorem dX8_kindOf_27 : decode cX8_kindOf 27 = .ok (.ireturn, 1) := by decide +kernel
theorem dX8_kindOf_28 : decode cX8_kindOf 28 = .ok (.iload_n 0, 1) := by decide +kernel
theorem dX8_kindOf_29 : decode cX8_kindOf 29 = .ok (.bipush 10, 2) := by decide +kernel
theorem dX8_kindOf_31 : decode cX8_kindOf 31 = .ok (.if_icmp .eq 9, 3) := by decide +kernel
theorem dX8_kindOf_34 : decode cX8_kindOf 34 = .ok (.iload_n 0, 1) := by decide +kernel
theorem dX8_kindOf_35 : decode cX8_kindOf 35 = .ok (.bipush 32, 2) := by decide +kernel
theorem dX8_kindOf_37 : decode cX8_kindOf 37 = .ok (.if_icmp .ne 7, 3) := by decide +kernel
theorem dX8_kindOf_40 : decode cX8_kindOf 40 = .ok (.iconst 0, 1) := by decide +kernel
theorem dX8_kindOf_41 : decode cX8_kindOf 41 = .ok (.goto 4, 3) := by decide +kernel
theorem dX8_kindOf_44 : decode cX8_kindOf 44 = .ok (.iconst 1, 1) := by decide +kernel
theorem dX8_kindOf_45 : decode cX8_kindOf 45 = .ok (.ireturn, 1) := by decide +kernel
theorem dX8_add_0 : decode cX8_add 0 = .ok (.aload_n 0, 1) := by decide +kernel
theorem dX8_add_1 : decode cX8_add 1 = .ok (.getfield 7, 3) := by decide +kernel
theorem dX8_add_4 : decode cX8_add 4 = .ok (.aload_n 0, 1) := by decide +kernel
theorem dX8_add_5 : decode cX8_add 5 = .ok (.getfield 19, 3) := by decide +kernel
theorem dX8_add_8 : decode cX8_add 8 = .ok (.arraylength, 1) := by decide +kernel
theorem dX8_add_9 : decode cX8_add 9 = .ok (.if_icmp .ge 43, 3) := by decide +kernel
theorem dX8_add_12 : decode cX8_add 12 = .ok (.aload_n 0, 1) := by decide +kernel
theorem dX8_add_13 : decode cX8_add 13 = .ok (.getfield 19, 3) := by decide +kernel
theorem dX8_add_16 : decode cX8_add 16 = .ok (.aload_n 0, 1) := by decide +kernel
theorem dX8_add_17 : decode cX8_add 17 = .ok (.getfield 7, 3) := by decide +kernel
theorem dX8_add_20 : decode cX8_add 20 = .ok (.iload_n 1, 1) := by decide +kernel
theorem dX8_add_21 : decode cX8_add 21 = .ok (.iastore, 1) := by decide +kernel
theorem dX8_add_22 : decode cX8_add 22 = .ok (.aload_n 0, 1) := by decide +kernel
theorem dX8_add_23 : decode cX8_add 23 = .ok (.getfield 23, 3) := by decide +kernel
theorem dX8_add_26 : decode cX8_add 26 = .ok (.aload_n 0, 1) := by decide +kernel
theorem dX8_add_27 : decode cX8_add 27 = .ok (.getfield 7, 3) := by decide +kernel
theorem dX8_add_30 : decode cX8_add 30 = .ok (.iload_n 2, 1) := by decide +kernel
theorem dX8_add_31 : decode cX8_add 31 = .ok (.iastore, 1) := by decide +kernel
theorem dX8_add_32 : decode cX8_add 32 = .ok (.aload_n 0, 1) := by decide +kernel
theorem dX8_add_33 : decode cX8_add 33 = .ok (.getfield 26, 3) := by decide +kernel
theorem dX8_add_36 : decode cX8_add 36 = .ok (.aload_n 0, 1) := by decide +kernel
theorem dX8_add_37 : decode cX8_add 37 = .ok (.getfield 7, 3) := by decide +kernel
theorem dX8_add_40 : decode cX8_add 40 = .ok (.iload_n 3, 1) := by decide +kernel
theorem dX8_add_41 : decode cX8_add 41 = .ok (.iastore, 1) := by decide +kernel
theorem dX8_add_42 : decode cX8_add 42 = .ok (.aload_n 0, 1) := by decide +kernel
theorem dX8_add_43 : decode cX8_add 43 = .ok (.dup, 1) := by decide +kernel
theorem dX8_add_44 : decode cX8_add 44 = .ok (.getfield 7, 3) := by decide +kernel
theorem dX8_add_47 : decode cX8_add 47 = .ok (.iconst 1, 1) := by decide +kernel
theorem dX8_add_48 : decode cX8_add 48 = .ok (.iadd, 1) := by decide +kernel
theorem dX8_add_49 : decode cX8_add 49 = .ok (.putfield 7, 3) := by decide +kernel
theorem dX8_add_52 : decode cX8_add 52 = .ok (.return_, 1) := by decide +kernel
theorem dX8_spoil_0 : decode cX8_spoil 0 = .ok (.aload_n 0, 1) := by decide +kernel
theorem dX8_spoil_1 : decode cX8_spoil 1 = .ok (.getfield 7, 3) := by decide +kernel
theorem dX8_spoil_4 : decode cX8_spoil 4 = .ok (.ifCond .le 42, 3) := by decide +kernel
theorem dX8_spoil_7 : decode cX8_spoil 7 = .ok (.aload_n 0, 1) := by decide +kernel
theorem dX8_spoil_8 : decode cX8_spoil 8 = .ok (.getfield 19, 3) := by decide +kernel
theorem dX8_spoil_11 : decode cX8_spoil 11 = .ok (.aload_n 0, 1) := by decide +kernel
theorem dX8_spoil_12 : decode cX8_spoil 12 = .ok (.getfield 7, 3) := by decide +kernel
theorem dX8_spoil_15 : decode cX8_spoil 15 = .ok (.iconst 1, 1) := by decide +kernel
theorem dX8_spoil_16 : decode cX8_spoil 16 = .ok (.isub, 1) := by decide +kernel
theorem dX8_spoil_17 : decode cX8_spoil 17 = .ok (.iaload, 1) := by decide +kernel
theorem dX8_spoil_18 : decode cX8_spoil 18 = .ok (.iconst 5, 1) := by decide +kernel
theorem dX8_spoil_19 : decode cX8_spoil 19 = .ok (.if_icmp .eq 27, 3) := by decide +kernel
theorem dX8_spoil_22 : decode cX8_spoil 22 = .ok (.aload_n 0, 1) := by decide +kernel
theorem dX8_spoil_23 : decode cX8_spoil 23 = .ok (.getfield 19, 3) := by decide +kernel
theorem dX8_spoil_26 : decode cX8_spoil 26 = .ok (.aload_n 0, 1) := by decide +kernel
theorem dX8_spoil_27 : decode cX8_spoil 27 = .ok (.getfield 7, 3) := by decide +kernel
theorem dX8_spoil_30 : decode cX8_spoil 30 = .ok (.iconst 1, 1) := by decide +kernel
theorem dX8_spoil_31 : decode cX8_spoil 31 = .ok (.isub, 1) := by decide +kernel
theorem dX8_spoil_32 : decode cX8_spoil 32 = .ok (.iconst 5, 1) := by decide +kernel
theorem dX8_spoil_33 : decode cX8_spoil 33 = .ok (.iastore, 1) := by decide +kernel
theorem dX8_spoil_34 : decode cX8_spoil 34 = .ok (.aload_n 0, 1) := by decide +kernel
theorem dX8_spoil_35 : decode cX8_spoil 35 = .ok (.getfield 23, 3) := by decide +kernel
theorem dX8_spoil_38 : decode cX8_spoil 38 = .ok (.aload_n 0, 1) := by decide +kernel
theorem dX8_spoil_39 : decode cX8_spoil 39 = .ok (.getfield 7, 3) := by decide +kernel
theorem dX8_spoil_42 : decode cX8_spoil 42 = .ok (.iconst 1, 1) := by decide +kernel
theorem dX8_spoil_43 : decode cX8_spoil 43 = .ok (.isub, 1) := by decide +kernel
theorem dX8_spoil_44 : decode cX8_spoil 44 = .ok (.iload_n 1, 1) := by decide +kernel
theorem dX8_spoil_45 : decode cX8_spoil 45 = .ok (.iastore, 1) := by decide +kernel
theorem dX8_spoil_46 : decode cX8_spoil 46 = .ok (.return_, 1) := by decide +kernel
theorem dX8_lengthen_0 : decode cX8_lengthen 0 = .ok (.aload_n 0, 1) := by decide +kernel
theorem dX8_lengthen_1 : decode cX8_lengthen 1 = .ok (.getfield 7, 3) := by decide +kernel
theorem dX8_lengthen_4 : decode cX8_lengthen 4 = .ok (.iconst 1, 1) := by decide +kernel
theorem dX8_lengthen_5 : decode cX8_lengthen 5 = .ok (.isub, 1) := by decide +kernel
theorem dX8_lengthen_6 : decode cX8_lengthen 6 = .ok (.istore 4, 2) := by decide +kernel
theorem dX8_lengthen_8 : decode cX8_lengthen 8 = .ok (.iload 4, 2) := by decide +kernel
theorem dX8_lengthen_10 : decode cX8_lengthen 10 = .ok (.ifCond .ge 4, 3) := by decide +kernel
theorem dX8_lengthen_13 : decode cX8_lengthen 13 = .ok (.return_, 1) := by decide +kernel
theorem dX8_lengthen_14 : decode cX8_lengthen 14 = .ok (.iload_n 3, 1) := by decide +kernel
theorem dX8_lengthen_15 : decode cX8_lengthen 15 = .ok (.aload_n 0, 1) := by decide +kernel
theorem dX8_lengthen_16 : decode cX8_lengthen 16 = .ok (.getfield 26, 3) := by decide +kernel
theorem dX8_lengthen_19 : decode cX8_lengthen 19 = .ok (.iload 4, 2) := by decide +kernel
theorem dX8_lengthen_21 : decode cX8_lengthen 21 = .ok (.iaload, 1) := by decide +kernel
theorem dX8_lengthen_22 : decode cX8_lengthen 22 = .ok (.isub, 1) := by decide +kernel
theorem dX8_lengthen_23 : decode cX8_lengthen 23 = .ok (.istore 5, 2) := by decide +kernel
theorem dX8_lengthen_25 : decode cX8_lengthen 25 = .ok (.iload 5, 2) := by decide +kernel
theorem dX8_lengthen_27 : decode cX8_lengthen 27 = .ok (.iload_n 1, 1) := by decide +kernel
theorem dX8_lengthen_28 : decode cX8_lengthen 28 = .ok (.iconst 3, 1) := by decide +kernel
theorem dX8_lengthen_29 : decode cX8_lengthen 29 = .ok (.if_icmp .ne 8, 3) := by decide +kernel
theorem dX8_lengthen_32 : decode cX8_lengthen 32 = .ok (.bipush 6, 2) := by decide +kernel
theorem dX8_lengthen_34 : decode cX8_lengthen 34 = .ok (.goto 4, 3) := by decide +kernel
theorem dX8_lengthen_37 : decode cX8_lengthen 37 = .ok (.iconst 4, 1) := by decide +kernel
theorem dX8_lengthen_38 : decode cX8_lengthen 38 = .ok (.if_icmp .ne 11, 3) := by decide +kernel
theorem dX8_lengthen_41 : decode cX8_lengthen 41 = .ok (.aload_n 0, 1) := by decide +kernel
theorem dX8_lengthen_42 : decode cX8_lengthen 42 = .ok (.iload_n 3, 1) := by decide +kernel
theorem dX8_lengthen_43 : decode cX8_lengthen 43 = .ok (.invokevirtual 40, 3) := by decide +kernel
theorem dX8_lengthen_46 : decode cX8_lengthen 46 = .ok (.goto 71, 3) := by decide +kernel
theorem dX8_lengthen_49 : decode cX8_lengthen 49 = .ok (.aload_n 0, 1) := by decide +kernel
theorem dX8_lengthen_50 : decode cX8_lengthen 50 = .ok (.getfield 19, 3) := by decide +kernel
theorem dX8_lengthen_53 : decode cX8_lengthen 53 = .ok (.iload 4, 2) := by decide +kernel
theorem dX8_lengthen_55 : decode cX8_lengthen 55 = .ok (.iaload, 1) := by decide +kernel
theorem dX8_lengthen_56 : decode cX8_lengthen 56 = .ok (.iconst 3, 1) := by decide +kernel
theorem dX8_lengthen_57 : decode cX8_lengthen 57 = .ok (.if_icmp .ne 27, 3) := by decide +kernel
theorem dX8_lengthen_60 : decode cX8_lengthen 60 = .ok (.aload_n 0, 1) := by decide +kernel
theorem dX8_lengthen_61 : decode cX8_lengthen 61 = .ok (.getfield 23, 3) := by decide +kernel
theorem dX8_lengthen_64 : decode cX8_lengthen 64 = .ok (.iload 4, 2) := by decide +kernel
theorem dX8_lengthen_66 : decode cX8_lengthen 66 = .ok (.dup2, 1) := by decide +kernel
theorem dX8_lengthen_67 : decode cX8_lengthen 67 = .ok (.iaload, 1) := by decide +kernel
theorem dX8_lengthen_68 : decode cX8_lengthen 68 = .ok (.iload_n 2, 1) := by decide +kernel
theorem dX8_lengthen_69 : decode cX8_lengthen 69 = .ok (.bipush 97, 2) := by decide +kernel
theorem dX8_lengthen_71 : decode cX8_lengthen 71 = .ok (.isub, 1) := by decide +kernel
theorem dX8_lengthen_72 : decode cX8_lengthen 72 = .ok (.iconst 1, 1) := by decide +kernel
theorem dX8_lengthen_73 : decode cX8_lengthen 73 = .ok (.iadd, 1) := by decide +kernel
theorem dX8_lengthen_74 : decode cX8_lengthen 74 = .ok (.iload 5, 2) := by decide +kernel
theorem dX8_lengthen_76 : decode cX8_lengthen 76 = .ok (.iconst 5, 1) := by decide +kernel
theorem dX8_lengthen_77 : decode cX8_lengthen 77 = .ok (.imul, 1) := by decide +kernel
theorem dX8_lengthen_78 : decode cX8_lengthen 78 = .ok (.ishl, 1) := by decide +kernel
theorem dX8_lengthen_79 : decode cX8_lengthen 79 = .ok (.ior, 1) := by decide +kernel
theorem dX8_lengthen_80 : decode cX8_lengthen 80 = .ok (.iastore, 1) := by decide +kernel
theorem dX8_lengthen_81 : decode cX8_lengthen 81 = .ok (.goto 36, 3) := by decide +kernel
theorem dX8_lengthen_84 : decode cX8_lengthen 84 = .ok (.aload_n 0, 1) := by decide +kernel
theorem dX8_lengthen_85 : decode cX8_lengthen 85 = .ok (.getfield 19, 3) := by decide +kernel
theorem dX8_lengthen_88 : decode cX8_lengthen 88 = .ok (.iload 4, 2) := by decide +kernel
theorem dX8_lengthen_90 : decode cX8_lengthen 90 = .ok (.iaload, 1) := by decide +kernel
theorem dX8_lengthen_91 : decode cX8_lengthen 91 = .ok (.iconst 2, 1) := by decide +kernel
theorem dX8_lengthen_92 : decode cX8_lengthen 92 = .ok (.if_icmp .ne 25, 3) := by decide +kernel
theorem dX8_lengthen_95 : decode cX8_lengthen 95 = .ok (.aload_n 0, 1) := by decide +kernel
theorem dX8_lengthen_96 : decode cX8_lengthen 96 = .ok (.getfield 23, 3) := by decide +kernel
theorem dX8_lengthen_99 : decode cX8_lengthen 99 = .ok (.iload 4, 2) := by decide +kernel
theorem dX8_lengthen_101 : decode cX8_lengthen 101 = .ok (.aload_n 0, 1) := by decide +kernel
theorem dX8_lengthen_102 : decode cX8_lengthen 102 = .ok (.getfield 23, 3) := by decide +kernel
theorem dX8_lengthen_105 : decode cX8_lengthen 105 = .ok (.iload 4, 2) := by decide +kernel
theorem dX8_lengthen_107 : decode cX8_lengthen 107 = .ok (.iaload, 1) := by decide +kernel
theorem dX8_lengthen_108 : decode cX8_lengthen 108 = .ok (.bipush 10, 2) := by decide +kernel
theorem dX8_lengthen_110 : decode cX8_lengthen 110 = .ok (.imul, 1) := by decide +kernel
theorem dX8_lengthen_111 : decode cX8_lengthen 111 = .ok (.iload_n 2, 1) := by decide +kernel
theorem dX8_lengthen_112 : decode cX8_lengthen 112 = .ok (.iadd, 1) := by decide +kernel
theorem dX8_lengthen_113 : decode cX8_lengthen 113 = .ok (.bipush 48, 2) := by decide +kernel
theorem dX8_lengthen_115 : decode cX8_lengthen 115 = .ok (.isub, 1) := by decide +kernel
theorem dX8_lengthen_116 : decode cX8_lengthen 116 = .ok (.iastore, 1) := by decide +kernel
theorem dX8_lengthen_117 : decode cX8_lengthen 117 = .ok (.return_, 1) := by decide +kernel
theorem dX8_markOwnWord_0 : decode cX8_markOwnWord 0 = .ok (.iconst 0, 1) := by decide +kernel
theorem dX8_markOwnWord_1 : decode cX8_markOwnWord 1 = .ok (.istore_n 3, 1) := by decide +kernel
theorem dX8_markOwnWord_2 : decode cX8_markOwnWord 2 = .ok (.iload_n 3, 1) := by decide +kernel
theorem dX8_markOwnWord_3 : decode cX8_markOwnWord 3 = .ok (.aload_n 0, 1) := by decide +kernel
theorem dX8_markOwnWord_4 : decode cX8_markOwnWord 4 = .ok (.getfield 7, 3) := by decide +kernel
theorem dX8_markOwnWord_7 : decode cX8_markOwnWord 7 = .ok (.if_icmp .ge 43, 3) := by decide +kernel
theorem dX8_markOwnWord_10 : decode cX8_markOwnWord 10 = .ok (.aload_n 0, 1) := by decide +kernel
theorem dX8_markOwnWord_11 : decode cX8_markOwnWord 11 = .ok (.getfield 19, 3) := by decide +kernel
