theorem dX0_init_0 : decode cX0_init 0 = .ok (.aload_n 0, 1) := by decide +kernel
theorem dX0_init_1 : decode cX0_init 1 = .ok (.invokespecial 3, 3) := by decide +kernel
theorem dX0_init_4 : decode cX0_init 4 = .ok (.aload_n 0, 1) := by decide +kernel
theorem dX0_init_5 : decode cX0_init 5 = .ok (.bipush 36, 2) := by decide +kernel
theorem dX0_init_7 : decode cX0_init 7 = .ok (.newarray .long, 2) := by decide +kernel
theorem dX0_init_9 : decode cX0_init 9 = .ok (.putfield 9, 3) := by decide +kernel
theorem dX0_init_12 : decode cX0_init 12 = .ok (.aload_n 0, 1) := by decide +kernel
theorem dX0_init_13 : decode cX0_init 13 = .ok (.bipush 36, 2) := by decide +kernel
theorem dX0_init_15 : decode cX0_init 15 = .ok (.newarray .long, 2) := by decide +kernel
theorem dX0_init_17 : decode cX0_init 17 = .ok (.putfield 15, 3) := by decide +kernel
theorem dX0_init_20 : decode cX0_init 20 = .ok (.aload_n 0, 1) := by decide +kernel
theorem dX0_init_21 : decode cX0_init 21 = .ok (.bipush 36, 2) := by decide +kernel
theorem dX0_init_23 : decode cX0_init 23 = .ok (.newarray .boolean, 2) := by decide +kernel
theorem dX0_init_25 : decode cX0_init 25 = .ok (.putfield 18, 3) := by decide +kernel
theorem dX0_init_28 : decode cX0_init 28 = .ok (.aload_n 0, 1) := by decide +kernel
theorem dX0_init_29 : decode cX0_init 29 = .ok (.bipush 36, 2) := by decide +kernel
theorem dX0_init_31 : decode cX0_init 31 = .ok (.newarray .boolean, 2) := by decide +kernel
theorem dX0_init_33 : decode cX0_init 33 = .ok (.putfield 22, 3) := by decide +kernel
theorem dX0_init_36 : decode cX0_init 36 = .ok (.aload_n 0, 1) := by decide +kernel
theorem dX0_init_37 : decode cX0_init 37 = .ok (.iconst 5, 1) := by decide +kernel
theorem dX0_init_38 : decode cX0_init 38 = .ok (.newarray .int, 2) := by decide +kernel
theorem dX0_init_40 : decode cX0_init 40 = .ok (.putfield 25, 3) := by decide +kernel
theorem dX0_init_43 : decode cX0_init 43 = .ok (.aload_n 0, 1) := by decide +kernel
theorem dX0_init_44 : decode cX0_init 44 = .ok (.lconst 0, 1) := by decide +kernel
theorem dX0_init_45 : decode cX0_init 45 = .ok (.putfield 29, 3) := by decide +kernel
theorem dX0_init_48 : decode cX0_init 48 = .ok (.return_, 1) := by decide +kernel
theorem dX1_init_0 : decode cX1_init 0 = .ok (.aload_n 0, 1) := by decide +kernel
theorem dX1_init_1 : decode cX1_init 1 = .ok (.invokespecial 1, 3) := by decide +kernel
theorem dX1_init_4 : decode cX1_init 4 = .ok (.aload_n 0, 1) := by decide +kernel
theorem dX1_init_5 : decode cX1_init 5 = .ok (.iconst 1, 1) := by decide +kernel
theorem dX1_init_6 : decode cX1_init 6 = .ok (.putfield 7, 3) := by decide +kernel
theorem dX1_init_9 : decode cX1_init 9 = .ok (.return_, 1) := by decide +kernel
theorem dX2_init_0 : decode cX2_init 0 = .ok (.aload_n 0, 1) := by decide +kernel
theorem dX2_init_1 : decode cX2_init 1 = .ok (.invokespecial 3, 3) := by decide +kernel
theorem dX2_init_4 : decode cX2_init 4 = .ok (.aload_n 0, 1) := by decide +kernel
theorem dX2_init_5 : decode cX2_init 5 = .ok (.bipush 36, 2) := by decide +kernel
theorem dX2_init_7 : decode cX2_init 7 = .ok (.newarray .int, 2) := by decide +kernel
theorem dX2_init_9 : decode cX2_init 9 = .ok (.putfield 9, 3) := by decide +kernel
theorem dX2_init_12 : decode cX2_init 12 = .ok (.aload_n 0, 1) := by decide +kernel
theorem dX2_init_13 : decode cX2_init 13 = .ok (.iconst 0, 1) := by decide +kernel
theorem dX2_init_14 : decode cX2_init 14 = .ok (.putfield 15, 3) := by decide +kernel
theorem dX2_init_17 : decode cX2_init 17 = .ok (.aload_n 0, 1) := by decide +kernel
theorem dX2_init_18 : decode cX2_init 18 = .ok (.iconst 3, 1) := by decide +kernel
theorem dX2_init_19 : decode cX2_init 19 = .ok (.newarray .int, 2) := by decide +kernel
theorem dX2_init_21 : decode cX2_init 21 = .ok (.putfield 19, 3) := by decide +kernel
theorem dX2_init_24 : decode cX2_init 24 = .ok (.aload_n 0, 1) := by decide +kernel
theorem dX2_init_25 : decode cX2_init 25 = .ok (.iconst (-1), 1) := by decide +kernel
theorem dX2_init_26 : decode cX2_init 26 = .ok (.putfield 22, 3) := by decide +kernel
theorem dX2_init_29 : decode cX2_init 29 = .ok (.aload_n 0, 1) := by decide +kernel
theorem dX2_init_30 : decode cX2_init 30 = .ok (.iconst 0, 1) := by decide +kernel
theorem dX2_init_31 : decode cX2_init 31 = .ok (.putfield 25, 3) := by decide +kernel
theorem dX2_init_34 : decode cX2_init 34 = .ok (.aload_n 0, 1) := by decide +kernel
theorem dX2_init_35 : decode cX2_init 35 = .ok (.iconst 0, 1) := by decide +kernel
theorem dX2_init_36 : decode cX2_init 36 = .ok (.putfield 29, 3) := by decide +kernel
theorem dX2_init_39 : decode cX2_init 39 = .ok (.aload_n 0, 1) := by decide +kernel
theorem dX2_init_40 : decode cX2_init 40 = .ok (.iconst 0, 1) := by decide +kernel
theorem dX2_init_41 : decode cX2_init 41 = .ok (.putfield 32, 3) := by decide +kernel
theorem dX2_init_44 : decode cX2_init 44 = .ok (.aload_n 0, 1) := by decide +kernel
theorem dX2_init_45 : decode cX2_init 45 = .ok (.iconst 0, 1) := by decide +kernel
theorem dX2_init_46 : decode cX2_init 46 = .ok (.putfield 35, 3) := by decide +kernel
theorem dX2_init_49 : decode cX2_init 49 = .ok (.return_, 1) := by decide +kernel
theorem dX4_init_0 : decode cX4_init 0 = .ok (.aload_n 0, 1) := by decide +kernel
theorem dX4_init_1 : decode cX4_init 1 = .ok (.invokespecial 3, 3) := by decide +kernel
theorem dX4_init_4 : decode cX4_init 4 = .ok (.aload_n 0, 1) := by decide +kernel
theorem dX4_init_5 : decode cX4_init 5 = .ok (.sipush 128, 3) := by decide +kernel
theorem dX4_init_8 : decode cX4_init 8 = .ok (.newarray .int, 2) := by decide +kernel
theorem dX4_init_10 : decode cX4_init 10 = .ok (.putfield 11, 3) := by decide +kernel
theorem dX4_init_13 : decode cX4_init 13 = .ok (.return_, 1) := by decide +kernel
theorem dX5_readUnion_0 : decode cX5_readUnion 0 = .ok (.iconst 0, 1) := by decide +kernel
theorem dX5_readUnion_1 : decode cX5_readUnion 1 = .ok (.istore_n 1, 1) := by decide +kernel
theorem dX5_readUnion_2 : decode cX5_readUnion 2 = .ok (.iload_n 1, 1) := by decide +kernel
theorem dX5_readUnion_3 : decode cX5_readUnion 3 = .ok (.bipush 80, 2) := by decide +kernel
theorem dX5_readUnion_5 : decode cX5_readUnion 5 = .ok (.if_icmp .gt 65, 3) := by decide +kernel
theorem dX5_readUnion_8 : decode cX5_readUnion 8 = .ok (.aload_n 0, 1) := by decide +kernel
theorem dX5_readUnion_9 : decode cX5_readUnion 9 = .ok (.getfield 43, 3) := by decide +kernel
theorem dX5_readUnion_12 : decode cX5_readUnion 12 = .ok (.ifCond .ne 58, 3) := by decide +kernel
theorem dX5_readUnion_15 : decode cX5_readUnion 15 = .ok (.aload_n 0, 1) := by decide +kernel
theorem dX5_readUnion_16 : decode cX5_readUnion 16 = .ok (.getfield 17, 3) := by decide +kernel
theorem dX5_readUnion_19 : decode cX5_readUnion 19 = .ok (.ifCond .eq 51, 3) := by decide +kernel
theorem dX5_readUnion_22 : decode cX5_readUnion 22 = .ok (.iload_n 1, 1) := by decide +kernel
theorem dX5_readUnion_23 : decode cX5_readUnion 23 = .ok (.bipush 80, 2) := by decide +kernel
theorem dX5_readUnion_25 : decode cX5_readUnion 25 = .ok (.if_icmp .ne 16, 3) := by decide +kernel
theorem dX5_readUnion_28 : decode cX5_readUnion 28 = .ok (.aload_n 0, 1) := by decide +kernel
theorem dX5_readUnion_29 : decode cX5_readUnion 29 = .ok (.bipush 6, 2) := by decide +kernel
theorem dX5_readUnion_31 : decode cX5_readUnion 31 = .ok (.aload_n 0, 1) := by decide +kernel
theorem dX5_readUnion_32 : decode cX5_readUnion 32 = .ok (.getfield 23, 3) := by decide +kernel
theorem dX5_readUnion_35 : decode cX5_readUnion 35 = .ok (.invokevirtual 73, 3) := by decide +kernel
theorem dX5_readUnion_38 : decode cX5_readUnion 38 = .ok (.goto 26, 3) := by decide +kernel
theorem dX5_readUnion_41 : decode cX5_readUnion 41 = .ok (.aload_n 0, 1) := by decide +kernel
theorem dX5_readUnion_42 : decode cX5_readUnion 42 = .ok (.invokevirtual 77, 3) := by decide +kernel
theorem dX5_readUnion_45 : decode cX5_readUnion 45 = .ok (.aload_n 0, 1) := by decide +kernel
theorem dX5_readUnion_46 : decode cX5_readUnion 46 = .ok (.bipush 59, 2) := by decide +kernel
theorem dX5_readUnion_48 : decode cX5_readUnion 48 = .ok (.invokevirtual 80, 3) := by decide +kernel
theorem dX5_readUnion_51 : decode cX5_readUnion 51 = .ok (.aload_n 0, 1) := by decide +kernel
theorem dX5_readUnion_52 : decode cX5_readUnion 52 = .ok (.getfield 29, 3) := by decide +kernel
theorem dX5_readUnion_55 : decode cX5_readUnion 55 = .ok (.dup, 1) := by decide +kernel
theorem dX5_readUnion_56 : decode cX5_readUnion 56 = .ok (.getfield 83, 3) := by decide +kernel
theorem dX5_readUnion_59 : decode cX5_readUnion 59 = .ok (.iconst 1, 1) := by decide +kernel
theorem dX5_readUnion_60 : decode cX5_readUnion 60 = .ok (.iadd, 1) := by decide +kernel
theorem dX5_readUnion_61 : decode cX5_readUnion 61 = .ok (.putfield 83, 3) := by decide +kernel
theorem dX5_readUnion_64 : decode cX5_readUnion 64 = .ok (.iinc 1 1, 3) := by decide +kernel
theorem dX5_readUnion_67 : decode cX5_readUnion 67 = .ok (.goto (-65), 3) := by decide +kernel
theorem dX5_readUnion_70 : decode cX5_readUnion 70 = .ok (.return_, 1) := by decide +kernel
theorem dX5_readStatement_0 : decode cX5_readStatement 0 = .ok (.aload_n 0, 1) := by decide +kernel
theorem dX5_readStatement_1 : decode cX5_readStatement 1 = .ok (.getfield 17, 3) := by decide +kernel
theorem dX5_readStatement_4 : decode cX5_readStatement 4 = .ok (.iconst 4, 1) := by decide +kernel
theorem dX5_readStatement_5 : decode cX5_readStatement 5 = .ok (.if_icmp .ne 10, 3) := by decide +kernel
theorem dX5_readStatement_8 : decode cX5_readStatement 8 = .ok (.aload_n 0, 1) := by decide +kernel
theorem dX5_readStatement_9 : decode cX5_readStatement 9 = .ok (.getfield 20, 3) := by decide +kernel
theorem dX5_readStatement_12 : decode cX5_readStatement 12 = .ok (.goto 4, 3) := by decide +kernel
theorem dX5_readStatement_15 : decode cX5_readStatement 15 = .ok (.iconst (-1), 1) := by decide +kernel
theorem dX5_readStatement_16 : decode cX5_readStatement 16 = .ok (.istore_n 1, 1) := by decide +kernel
theorem dX5_readStatement_17 : decode cX5_readStatement 17 = .ok (.iload_n 1, 1) := by decide +kernel
theorem dX5_readStatement_18 : decode cX5_readStatement 18 = .ok (.tableswitch 186 0 10 #[58, 65, 186, 186, 72, 186, 79, 101, 123, 145, 165], 58) := by decide +kernel
theorem dX5_readStatement_76 : decode cX5_readStatement 76 = .ok (.aload_n 0, 1) := by decide +kernel
theorem dX5_readStatement_77 : decode cX5_readStatement 77 = .ok (.invokevirtual 86, 3) := by decide +kernel
theorem dX5_readStatement_80 : decode cX5_readStatement 80 = .ok (.goto 128, 3) := by decide +kernel
theorem dX5_readStatement_83 : decode cX5_readStatement 83 = .ok (.aload_n 0, 1) := by decide +kernel
theorem dX5_readStatement_84 : decode cX5_readStatement 84 = .ok (.invokevirtual 89, 3) := by decide +kernel
theorem dX5_readStatement_87 : decode cX5_readStatement 87 = .ok (.goto 121, 3) := by decide +kernel
theorem dX5_readStatement_90 : decode cX5_readStatement 90 = .ok (.aload_n 0, 1) := by decide +kernel
theorem dX5_readStatement_91 : decode cX5_readStatement 91 = .ok (.invokevirtual 92, 3) := by decide +kernel
theorem dX5_readStatement_94 : decode cX5_readStatement 94 = .ok (.goto 114, 3) := by decide +kernel
theorem dX5_readStatement_97 : decode cX5_readStatement 97 = .ok (.aload_n 0, 1) := by decide +kernel
theorem dX5_readStatement_98 : decode cX5_readStatement 98 = .ok (.getfield 29, 3) := by decide +kernel
theorem dX5_readStatement_101 : decode cX5_readStatement 101 = .ok (.aload_n 0, 1) := by decide +kernel
theorem dX5_readStatement_102 : decode cX5_readStatement 102 = .ok (.aload_n 0, 1) := by decide +kernel
theorem dX5_readStatement_103 : decode cX5_readStatement 103 = .ok (.getfield 29, 3) := by decide +kernel
theorem dX5_readStatement_106 : decode cX5_readStatement 106 = .ok (.getfield 95, 3) := by decide +kernel
theorem dX5_readStatement_109 : decode cX5_readStatement 109 = .ok (.iload_n 1, 1) := by decide +kernel
theorem dX5_readStatement_110 : decode cX5_readStatement 110 = .ok (.invokevirtual 98, 3) := by decide +kernel
theorem dX5_readStatement_113 : decode cX5_readStatement 113 = .ok (.putfield 95, 3) := by decide +kernel
theorem dX5_readStatement_116 : decode cX5_readStatement 116 = .ok (.goto 92, 3) := by decide +kernel
theorem dX5_readStatement_119 : decode cX5_readStatement 119 = .ok (.aload_n 0, 1) := by decide +kernel
theorem dX5_readStatement_120 : decode cX5_readStatement 120 = .ok (.getfield 29, 3) := by decide +kernel
theorem dX5_readStatement_123 : decode cX5_readStatement 123 = .ok (.aload_n 0, 1) := by decide +kernel
theorem dX5_readStatement_124 : decode cX5_readStatement 124 = .ok (.aload_n 0, 1) := by decide +kernel
theorem dX5_readStatement_125 : decode cX5_readStatement 125 = .ok (.getfield 29, 3) := by decide +kernel
theorem dX5_readStatement_128 : decode cX5_readStatement 128 = .ok (.getfield 102, 3) := by decide +kernel
theorem dX5_readStatement_131 : decode cX5_readStatement 131 = .ok (.iload_n 1, 1) := by decide +kernel
theorem dX5_readStatement_132 : decode cX5_readStatement 132 = .ok (.invokevirtual 98, 3) := by decide +kernel
theorem dX5_readStatement_135 : decode cX5_readStatement 135 = .ok (.putfield 102, 3) := by decide +kernel
theorem dX5_readStatement_138 : decode cX5_readStatement 138 = .ok (.goto 70, 3) := by decide +kernel
theorem dX5_readStatement_141 : decode cX5_readStatement 141 = .ok (.aload_n 0, 1) := by decide +kernel
theorem dX5_readStatement_142 : decode cX5_readStatement 142 = .ok (.getfield 29, 3) := by decide +kernel
theorem dX5_readStatement_145 : decode cX5_readStatement 145 = .ok (.aload_n 0, 1) := by decide +kernel
theorem dX5_readStatement_146 : decode cX5_readStatement 146 = .ok (.aload_n 0, 1) := by decide +kernel
theorem dX5_readStatement_147 : decode cX5_readStatement 147 = .ok (.getfield 29, 3) := by decide +kernel
theorem dX5_readStatement_150 : decode cX5_readStatement 150 = .ok (.getfield 105, 3) := by decide +kernel
theorem dX5_readStatement_153 : decode cX5_readStatement 153 = .ok (.iload_n 1, 1) := by decide +kernel
theorem dX5_readStatement_154 : decode cX5_readStatement 154 = .ok (.invokevirtual 98, 3) := by decide +kernel
theorem dX5_readStatement_157 : decode cX5_readStatement 157 = .ok (.putfield 105, 3) := by decide +kernel
theorem dX5_readStatement_160 : decode cX5_readStatement 160 = .ok (.goto 48, 3) := by decide +kernel
theorem dX5_readStatement_163 : decode cX5_readStatement 163 = .ok (.aload_n 0, 1) := by decide +kernel
theorem dX5_readStatement_164 : decode cX5_readStatement 164 = .ok (.invokevirtual 70, 3) := by decide +kernel
theorem dX5_readStatement_167 : decode cX5_readStatement 167 = .ok (.aload_n 0, 1) := by decide +kernel
theorem dX5_readStatement_168 : decode cX5_readStatement 168 = .ok (.getfield 29, 3) := by decide +kernel
theorem dX5_readStatement_171 : decode cX5_readStatement 171 = .ok (.aload_n 0, 1) := by decide +kernel
theorem dX5_readStatement_172 : decode cX5_readStatement 172 = .ok (.iconst 0, 1) := by decide +kernel
theorem dX5_readStatement_173 : decode cX5_readStatement 173 = .ok (.iconst 3, 1) := by decide +kernel
theorem dX5_readStatement_174 : decode cX5_readStatement 174 = .ok (.invokevirtual 108, 3) := by decide +kernel
theorem dX5_readStatement_177 : decode cX5_readStatement 177 = .ok (.putfield 111, 3) := by decide +kernel
theorem dX5_readStatement_180 : decode cX5_readStatement 180 = .ok (.goto 28, 3) := by decide +kernel
theorem dX5_readStatement_183 : decode cX5_readStatement 183 = .ok (.aload_n 0, 1) := by decide +kernel
theorem dX5_readStatement_184 : decode cX5_readStatement 184 = .ok (.invokevirtual 70, 3) := by decide +kernel
theorem dX5_readStatement_187 : decode cX5_readStatement 187 = .ok (.aload_n 0, 1) := by decide +kernel
theorem dX5_readStatement_188 : decode cX5_readStatement 188 = .ok (.getfield 29, 3) := by decide +kernel
theorem dX5_readStatement_191 : decode cX5_readStatement 191 = .ok (.aload_n 0, 1) := by decide +kernel
theorem dX5_readStatement_192 : decode cX5_readStatement 192 = .ok (.iconst 0, 1) := by decide +kernel
theorem dX5_readStatement_193 : decode cX5_readStatement 193 = .ok (.bipush 100, 2) := by decide +kernel
theorem dX5_readStatement_195 : decode cX5_readStatement 195 = .ok (.invokevirtual 108, 3) := by decide +kernel
theorem dX5_readStatement_198 : decode cX5_readStatement 198 = .ok (.putfield 114, 3) := by decide +kernel
theorem dX5_readStatement_201 : decode cX5_readStatement 201 = .ok (.goto 7, 3) := by decide +kernel
theorem dX5_readStatement_204 : decode cX5_readStatement 204 = .ok (.aload_n 0, 1) := by decide +kernel
theorem dX5_readStatement_205 : decode cX5_readStatement 205 = .ok (.invokevirtual 117, 3) := by decide +kernel
theorem dX5_readStatement_208 : decode cX5_readStatement 208 = .ok (.return_, 1) := by decide +kernel
theorem dX5_readRule_0 : decode cX5_readRule 0 = .ok (.aload_n 1, 1) := by decide +kernel
theorem dX5_readRule_1 : decode cX5_readRule 1 = .ok (.ifnull 15, 3) := by decide +kernel
theorem dX5_readRule_4 : decode cX5_readRule 4 = .ok (.aload_n 0, 1) := by decide +kernel
theorem dX5_readRule_5 : decode cX5_readRule 5 = .ok (.bipush 6, 2) := by decide +kernel
theorem dX5_readRule_7 : decode cX5_readRule 7 = .ok (.aload_n 0, 1) := by decide +kernel
theorem dX5_readRule_8 : decode cX5_readRule 8 = .ok (.getfield 23, 3) := by decide +kernel
theorem dX5_readRule_11 : decode cX5_readRule 11 = .ok (.invokevirtual 73, 3) := by decide +kernel
theorem dX5_readRule_14 : decode cX5_readRule 14 = .ok (.aload_n 1, 1) := by decide +kernel
theorem dX5_readRule_15 : decode cX5_readRule 15 = .ok (.areturn, 1) := by decide +kernel
theorem dX5_readRule_16 : decode cX5_readRule 16 = .ok (.aload_n 0, 1) := by decide +kernel
theorem dX5_readRule_17 : decode cX5_readRule 17 = .ok (.invokevirtual 70, 3) := by decide +kernel
theorem dX5_readRule_20 : decode cX5_readRule 20 = .ok (.aload_n 0, 1) := by decide +kernel
theorem dX5_readRule_21 : decode cX5_readRule 21 = .ok (.iconst 0, 1) := by decide +kernel
theorem dX5_readRule_22 : decode cX5_readRule 22 = .ok (.putfield 33, 3) := by decide +kernel
theorem dX5_readRule_25 : decode cX5_readRule 25 = .ok (.aload_n 0, 1) := by decide +kernel
theorem dX5_readRule_26 : decode cX5_readRule 26 = .ok (.iload_n 2, 1) := by decide +kernel
theorem dX5_readRule_27 : decode cX5_readRule 27 = .ok (.bipush 8, 2) := by decide +kernel
theorem dX5_readRule_29 : decode cX5_readRule 29 = .ok (.if_icmp .ne 7, 3) := by decide +kernel
theorem dX5_readRule_32 : decode cX5_readRule 32 = .ok (.iconst 1, 1) := by decide +kernel
theorem dX5_readRule_33 : decode cX5_readRule 33 = .ok (.goto 4, 3) := by decide +kernel
theorem dX5_readRule_36 : decode cX5_readRule 36 = .ok (.iconst 0, 1) := by decide +kernel
theorem dX5_readRule_37 : decode cX5_readRule 37 = .ok (.putfield 39, 3) := by decide +kernel
theorem dX5_readRule_40 : decode cX5_readRule 40 = .ok (.iload_n 2, 1) := by decide +kernel
theorem dX5_readRule_41 : decode cX5_readRule 41 = .ok (.bipush 6, 2) := by decide +kernel
theorem dX5_readRule_43 : decode cX5_readRule 43 = .ok (.if_icmp .ne 10, 3) := by decide +kernel
theorem dX5_readRule_46 : decode cX5_readRule 46 = .ok (.aload_n 0, 1) := by decide +kernel
theorem dX5_readRule_47 : decode cX5_readRule 47 = .ok (.invokevirtual 150, 3) := by decide +kernel
theorem dX5_readRule_50 : decode cX5_readRule 50 = .ok (.goto 7, 3) := by decide +kernel
theorem dX5_readRule_53 : decode cX5_readRule 53 = .ok (.aload_n 0, 1) := by decide +kernel
theorem dX5_readRule_54 : decode cX5_readRule 54 = .ok (.invokevirtual 153, 3) := by decide +kernel
theorem dX5_readRule_57 : decode cX5_readRule 57 = .ok (.aload_n 0, 1) := by decide +kernel
theorem dX5_readRule_58 : decode cX5_readRule 58 = .ok (.getfield 66, 3) := by decide +kernel
theorem dX5_readRule_61 : decode cX5_readRule 61 = .ok (.aload_n 0, 1) := by decide +kernel
theorem dX5_readRule_62 : decode cX5_readRule 62 = .ok (.getfield 33, 3) := by decide +kernel
theorem dX5_readRule_65 : decode cX5_readRule 65 = .ok (.invokestatic 156, 3) := by decide +kernel
theorem dX5_readRule_68 : decode cX5_readRule 68 = .ok (.areturn, 1) := by decide +kernel
theorem dX6_shortestRing_0 : decode cX6_shortestRing 0 = .ok (.lload_n 0, 1) := by decide +kernel
theorem dX6_shortestRing_1 : decode cX6_shortestRing 1 = .ok (.iload_n 2, 1) := by decide +kernel
theorem dX6_shortestRing_2 : decode cX6_shortestRing 2 = .ok (.invokestatic 29, 3) := by decide +kernel
theorem dX6_shortestRing_5 : decode cX6_shortestRing 5 = .ok (.astore 4, 2) := by decide +kernel
theorem dX6_shortestRing_7 : decode cX6_shortestRing 7 = .ok (.iconst 1, 1) := by decide +kernel
theorem dX6_shortestRing_8 : decode cX6_shortestRing 8 = .ok (.lload_n 0, 1) := by decide +kernel
theorem dX6_shortestRing_9 : decode cX6_shortestRing 9 = .ok (.iload_n 2, 1) := by decide +kernel
theorem dX6_shortestRing_10 : decode cX6_shortestRing 10 = .ok (.aload 4, 2) := by decide +kernel
theorem dX6_shortestRing_12 : decode cX6_shortestRing 12 = .ok (.invokestatic 33, 3) := by decide +kernel
theorem dX6_shortestRing_15 : decode cX6_shortestRing 15 = .ok (.iadd, 1) := by decide +kernel
theorem dX6_shortestRing_16 : decode cX6_shortestRing 16 = .ok (.istore 5, 2) := by decide +kernel
theorem dX6_shortestRing_18 : decode cX6_shortestRing 18 = .ok (.iload 5, 2) := by decide +kernel
theorem dX6_shortestRing_20 : decode cX6_shortestRing 20 = .ok (.bipush 6, 2) := by decide +kernel
theorem dX6_shortestRing_22 : decode cX6_shortestRing 22 = .ok (.if_icmp .gt 10, 3) := by decide +kernel
theorem dX6_shortestRing_25 : decode cX6_shortestRing 25 = .ok (.iload 5, 2) := by decide +kernel
theorem dX6_shortestRing_27 : decode cX6_shortestRing 27 = .ok (.aload_n 3, 1) := by decide +kernel
theorem dX6_shortestRing_28 : decode cX6_shortestRing 28 = .ok (.arraylength, 1) := by decide +kernel
theorem dX6_shortestRing_29 : decode cX6_shortestRing 29 = .ok (.if_icmp .le 5, 3) := by decide +kernel
theorem dX6_shortestRing_32 : decode cX6_shortestRing 32 = .ok (.iconst 0, 1) := by decide +kernel
theorem dX6_shortestRing_33 : decode cX6_shortestRing 33 = .ok (.ireturn, 1) := by decide +kernel
theorem dX6_shortestRing_34 : decode cX6_shortestRing 34 = .ok (.iload_n 2, 1) := by decide +kernel
theorem dX6_shortestRing_35 : decode cX6_shortestRing 35 = .ok (.istore 6, 2) := by decide +kernel
theorem dX6_shortestRing_37 : decode cX6_shortestRing 37 = .ok (.iconst 0, 1) := by decide +kernel
theorem dX6_shortestRing_38 : decode cX6_shortestRing 38 = .ok (.istore 7, 2) := by decide +kernel
theorem dX6_shortestRing_40 : decode cX6_shortestRing 40 = .ok (.iload 7, 2) := by decide +kernel
theorem dX6_shortestRing_42 : decode cX6_shortestRing 42 = .ok (.iload 5, 2) := by decide +kernel
theorem dX6_shortestRing_44 : decode cX6_shortestRing 44 = .ok (.if_icmp .ge 38, 3) := by decide +kernel
theorem dX6_shortestRing_47 : decode cX6_shortestRing 47 = .ok (.iload 6, 2) := by decide +kernel
theorem dX6_shortestRing_49 : decode cX6_shortestRing 49 = .ok (.iconst (-1), 1) := by decide +kernel
theorem dX6_shortestRing_50 : decode cX6_shortestRing 50 = .ok (.if_icmp .eq 32, 3) := by decide +kernel
theorem dX6_shortestRing_53 : decode cX6_shortestRing 53 = .ok (.aload_n 3, 1) := by decide +kernel
theorem dX6_shortestRing_54 : decode cX6_shortestRing 54 = .ok (.iload 7, 2) := by decide +kernel
theorem dX6_shortestRing_56 : decode cX6_shortestRing 56 = .ok (.iload 6, 2) := by decide +kernel
theorem dX6_shortestRing_58 : decode cX6_shortestRing 58 = .ok (.iastore, 1) := by decide +kernel
theorem dX6_shortestRing_59 : decode cX6_shortestRing 59 = .ok (.lload_n 0, 1) := by decide +kernel
theorem dX6_shortestRing_60 : decode cX6_shortestRing 60 = .ok (.iload 6, 2) := by decide +kernel
theorem dX6_shortestRing_62 : decode cX6_shortestRing 62 = .ok (.aload 4, 2) := by decide +kernel
theorem dX6_shortestRing_64 : decode cX6_shortestRing 64 = .ok (.iload 5, 2) := by decide +kernel
theorem dX6_shortestRing_66 : decode cX6_shortestRing 66 = .ok (.iconst 1, 1) := by decide +kernel
theorem dX6_shortestRing_67 : decode cX6_shortestRing 67 = .ok (.isub, 1) := by decide +kernel
theorem dX6_shortestRing_68 : decode cX6_shortestRing 68 = .ok (.iload 7, 2) := by decide +kernel
theorem dX6_shortestRing_70 : decode cX6_shortestRing 70 = .ok (.isub, 1) := by decide +kernel
theorem dX6_shortestRing_71 : decode cX6_shortestRing 71 = .ok (.invokestatic 37, 3) := by decide +kernel
theorem dX6_shortestRing_74 : decode cX6_shortestRing 74 = .ok (.istore 6, 2) := by decide +kernel
theorem dX6_shortestRing_76 : decode cX6_shortestRing 76 = .ok (.iinc 7 1, 3) := by decide +kernel
theorem dX6_shortestRing_79 : decode cX6_shortestRing 79 = .ok (.goto (-39), 3) := by decide +kernel
theorem dX6_shortestRing_82 : decode cX6_shortestRing 82 = .ok (.iload 5, 2) := by decide +kernel
theorem dX6_shortestRing_84 : decode cX6_shortestRing 84 = .ok (.ireturn, 1) := by decide +kernel
theorem dX6_stepsTo_0 : decode cX6_stepsTo 0 = .ok (.bipush 6, 2) := by decide +kernel
theorem dX6_stepsTo_2 : decode cX6_stepsTo 2 = .ok (.newarray .int, 2) := by decide +kernel
theorem dX6_stepsTo_4 : decode cX6_stepsTo 4 = .ok (.astore_n 3, 1) := by decide +kernel
theorem dX6_stepsTo_5 : decode cX6_stepsTo 5 = .ok (.iconst 0, 1) := by decide +kernel
theorem dX6_stepsTo_6 : decode cX6_stepsTo 6 = .ok (.istore 4, 2) := by decide +kernel
theorem dX6_stepsTo_8 : decode cX6_stepsTo 8 = .ok (.iload 4, 2) := by decide +kernel
theorem dX6_stepsTo_10 : decode cX6_stepsTo 10 = .ok (.bipush 6, 2) := by decide +kernel
theorem dX6_stepsTo_12 : decode cX6_stepsTo 12 = .ok (.if_icmp .ge 25, 3) := by decide +kernel
theorem dX6_stepsTo_15 : decode cX6_stepsTo 15 = .ok (.aload_n 3, 1) := by decide +kernel
theorem dX6_stepsTo_16 : decode cX6_stepsTo 16 = .ok (.iload 4, 2) := by decide +kernel
theorem dX6_stepsTo_18 : decode cX6_stepsTo 18 = .ok (.iload 4, 2) := by decide +kernel
theorem dX6_stepsTo_20 : decode cX6_stepsTo 20 = .ok (.iload_n 2, 1) := by decide +kernel
theorem dX6_stepsTo_21 : decode cX6_stepsTo 21 = .ok (.if_icmp .ne 7, 3) := by decide +kernel
theorem dX6_stepsTo_24 : decode cX6_stepsTo 24 = .ok (.iconst 0, 1) := by decide +kernel
theorem dX6_stepsTo_25 : decode cX6_stepsTo 25 = .ok (.goto 5, 3) := by decide +kernel
theorem dX6_stepsTo_28 : decode cX6_stepsTo 28 = .ok (.bipush 99, 2) := by decide +kernel
theorem dX6_stepsTo_30 : decode cX6_stepsTo 30 = .ok (.iastore, 1) := by decide +kernel
theorem dX6_stepsTo_31 : decode cX6_stepsTo 31 = .ok (.iinc 4 1, 3) := by decide +kernel
theorem dX6_stepsTo_34 : decode cX6_stepsTo 34 = .ok (.goto (-26), 3) := by decide +kernel
theorem dX6_stepsTo_37 : decode cX6_stepsTo 37 = .ok (.iconst 1, 1) := by decide +kernel
theorem dX6_stepsTo_38 : decode cX6_stepsTo 38 = .ok (.istore 4, 2) := by decide +kernel
theorem dX6_stepsTo_40 : decode cX6_stepsTo 40 = .ok (.iload 4, 2) := by decide +kernel
theorem dX6_stepsTo_42 : decode cX6_stepsTo 42 = .ok (.bipush 6, 2) := by decide +kernel
theorem dX6_stepsTo_44 : decode cX6_stepsTo 44 = .ok (.if_icmp .ge 45, 3) := by decide +kernel
theorem dX6_stepsTo_47 : decode cX6_stepsTo 47 = .ok (.iconst 0, 1) := by decide +kernel
theorem dX6_stepsTo_48 : decode cX6_stepsTo 48 = .ok (.istore 5, 2) := by decide +kernel
theorem dX6_stepsTo_50 : decode cX6_stepsTo 50 = .ok (.iload 5, 2) := by decide +kernel
theorem dX6_stepsTo_52 : decode cX6_stepsTo 52 = .ok (.bipush 6, 2) := by decide +kernel
theorem dX6_stepsTo_54 : decode cX6_stepsTo 54 = .ok (.if_icmp .ge 29, 3) := by decide +kernel
theorem dX6_stepsTo_57 : decode cX6_stepsTo 57 = .ok (.aload_n 3, 1) := by decide +kernel
theorem dX6_stepsTo_58 : decode cX6_stepsTo 58 = .ok (.iload 5, 2) := by decide +kernel
theorem dX6_stepsTo_60 : decode cX6_stepsTo 60 = .ok (.aload_n 3, 1) := by decide +kernel
theorem dX6_stepsTo_61 : decode cX6_stepsTo 61 = .ok (.iload 5, 2) := by decide +kernel
theorem dX6_stepsTo_63 : decode cX6_stepsTo 63 = .ok (.iaload, 1) := by decide +kernel
theorem dX6_stepsTo_64 : decode cX6_stepsTo 64 = .ok (.iconst 1, 1) := by decide +kernel
theorem dX6_stepsTo_65 : decode cX6_stepsTo 65 = .ok (.lload_n 0, 1) := by decide +kernel
theorem dX6_stepsTo_66 : decode cX6_stepsTo 66 = .ok (.iload 5, 2) := by decide +kernel
theorem dX6_stepsTo_68 : decode cX6_stepsTo 68 = .ok (.aload_n 3, 1) := by decide +kernel
theorem dX6_stepsTo_69 : decode cX6_stepsTo 69 = .ok (.invokestatic 33, 3) := by decide +kernel
theorem dX6_stepsTo_72 : decode cX6_stepsTo 72 = .ok (.iadd, 1) := by decide +kernel
theorem dX6_stepsTo_73 : decode cX6_stepsTo 73 = .ok (.invokestatic 41, 3) := by decide +kernel
theorem dX6_stepsTo_76 : decode cX6_stepsTo 76 = .ok (.iastore, 1) := by decide +kernel
theorem dX6_stepsTo_77 : decode cX6_stepsTo 77 = .ok (.iinc 5 1, 3) := by decide +kernel
theorem dX6_stepsTo_80 : decode cX6_stepsTo 80 = .ok (.goto (-30), 3) := by decide +kernel
theorem dX6_stepsTo_83 : decode cX6_stepsTo 83 = .ok (.iinc 4 1, 3) := by decide +kernel
theorem dX6_stepsTo_86 : decode cX6_stepsTo 86 = .ok (.goto (-46), 3) := by decide +kernel
theorem dX6_stepsTo_89 : decode cX6_stepsTo 89 = .ok (.aload_n 3, 1) := by decide +kernel
theorem dX6_stepsTo_90 : decode cX6_stepsTo 90 = .ok (.areturn, 1) := by decide +kernel
theorem dX7_init_0 : decode cX7_init 0 = .ok (.aload_n 0, 1) := by decide +kernel
theorem dX7_init_1 : decode cX7_init 1 = .ok (.invokespecial 3, 3) := by decide +kernel
theorem dX7_init_4 : decode cX7_init 4 = .ok (.aload_n 0, 1) := by decide +kernel
theorem dX7_init_5 : decode cX7_init 5 = .ok (.iconst 0, 1) := by decide +kernel
theorem dX7_init_6 : decode cX7_init 6 = .ok (.putfield 9, 3) := by decide +kernel
theorem dX7_init_9 : decode cX7_init 9 = .ok (.aload_n 0, 1) := by decide +kernel
theorem dX7_init_10 : decode cX7_init 10 = .ok (.bipush 36, 2) := by decide +kernel
theorem dX7_init_12 : decode cX7_init 12 = .ok (.newarray .int, 2) := by decide +kernel
theorem dX7_init_14 : decode cX7_init 14 = .ok (.putfield 15, 3) := by decide +kernel
theorem dX7_init_17 : decode cX7_init 17 = .ok (.aload_n 0, 1) := by decide +kernel
theorem dX7_init_18 : decode cX7_init 18 = .ok (.bipush 36, 2) := by decide +kernel
theorem dX7_init_20 : decode cX7_init 20 = .ok (.newarray .int, 2) := by decide +kernel
theorem dX7_init_22 : decode cX7_init 22 = .ok (.putfield 19, 3) := by decide +kernel
theorem dX7_init_25 : decode cX7_init 25 = .ok (.aload_n 0, 1) := by decide +kernel
theorem dX7_init_26 : decode cX7_init 26 = .ok (.bipush 36, 2) := by decide +kernel
theorem dX7_init_28 : decode cX7_init 28 = .ok (.newarray .int, 2) := by decide +kernel
theorem dX7_init_30 : decode cX7_init 30 = .ok (.putfield 22, 3) := by decide +kernel
theorem dX7_init_33 : decode cX7_init 33 = .ok (.aload_n 0, 1) := by decide +kernel
theorem dX7_init_34 : decode cX7_init 34 = .ok (.iconst 0, 1) := by decide +kernel
theorem dX7_init_35 : decode cX7_init 35 = .ok (.putfield 25, 3) := by decide +kernel
theorem dX7_init_38 : decode cX7_init 38 = .ok (.aload_n 0, 1) := by decide +kernel
theorem dX7_init_39 : decode cX7_init 39 = .ok (.bipush 60, 2) := by decide +kernel
theorem dX7_init_41 : decode cX7_init 41 = .ok (.newarray .int, 2) := by decide +kernel
theorem dX7_init_43 : decode cX7_init 43 = .ok (.putfield 28, 3) := by decide +kernel
theorem dX7_init_46 : decode cX7_init 46 = .ok (.aload_n 0, 1) := by decide +kernel
theorem dX7_init_47 : decode cX7_init 47 = .ok (.bipush 60, 2) := by decide +kernel
theorem dX7_init_49 : decode cX7_init 49 = .ok (.newarray .int, 2) := by decide +kernel
theorem dX7_init_51 : decode cX7_init 51 = .ok (.putfield 31, 3) := by decide +kernel
theorem dX7_init_54 : decode cX7_init 54 = .ok (.aload_n 0, 1) := by decide +kernel
theorem dX7_init_55 : decode cX7_init 55 = .ok (.iconst 0, 1) := by decide +kernel
theorem dX7_init_56 : decode cX7_init 56 = .ok (.putfield 34, 3) := by decide +kernel
theorem dX7_init_59 : decode cX7_init 59 = .ok (.aload_n 0, 1) := by decide +kernel
theorem dX7_init_60 : decode cX7_init 60 = .ok (.bipush 50, 2) := by decide +kernel
theorem dX7_init_62 : decode cX7_init 62 = .ok (.newarray .int, 2) := by decide +kernel
theorem dX7_init_64 : decode cX7_init 64 = .ok (.putfield 37, 3) := by decide +kernel
theorem dX7_init_67 : decode cX7_init 67 = .ok (.aload_n 0, 1) := by decide +kernel
theorem dX7_init_68 : decode cX7_init 68 = .ok (.lconst 0, 1) := by decide +kernel
theorem dX7_init_69 : decode cX7_init 69 = .ok (.putfield 40, 3) := by decide +kernel
theorem dX7_init_72 : decode cX7_init 72 = .ok (.aload_n 0, 1) := by decide +kernel
theorem dX7_init_73 : decode cX7_init 73 = .ok (.iconst 0, 1) := by decide +kernel
theorem dX7_init_74 : decode cX7_init 74 = .ok (.putfield 44, 3) := by decide +kernel
theorem dX7_init_77 : decode cX7_init 77 = .ok (.aload_n 0, 1) := by decide +kernel
theorem dX7_init_78 : decode cX7_init 78 = .ok (.iconst 0, 1) := by decide +kernel
theorem dX7_init_79 : decode cX7_init 79 = .ok (.putfield 47, 3) := by decide +kernel
theorem dX7_init_82 : decode cX7_init 82 = .ok (.return_, 1) := by decide +kernel
theorem dX8_init_0 : decode cX8_init 0 = .ok (.aload_n 0, 1) := by decide +kernel
theorem dX8_init_1 : decode cX8_init 1 = .ok (.invokespecial 1, 3) := by decide +kernel
theorem dX8_init_4 : decode cX8_init 4 = .ok (.aload_n 0, 1) := by decide +kernel
theorem dX8_init_5 : decode cX8_init 5 = .ok (.iconst 0, 1) := by decide +kernel
theorem dX8_init_6 : decode cX8_init 6 = .ok (.putfield 7, 3) := by decide +kernel
theorem dX8_init_9 : decode cX8_init 9 = .ok (.iconst 0, 1) := by decide +kernel
theorem dX8_init_10 : decode cX8_init 10 = .ok (.iload_n 1, 1) := by decide +kernel
theorem dX8_init_11 : decode cX8_init 11 = .ok (.invokestatic 13, 3) := by decide +kernel
theorem dX8_init_14 : decode cX8_init 14 = .ok (.iconst 1, 1) := by decide +kernel
theorem dX8_init_15 : decode cX8_init 15 = .ok (.iadd, 1) := by decide +kernel
theorem dX8_init_16 : decode cX8_init 16 = .ok (.istore_n 2, 1) := by decide +kernel
theorem dX8_init_17 : decode cX8_init 17 = .ok (.aload_n 0, 1) := by decide +kernel
theorem dX8_init_18 : decode cX8_init 18 = .ok (.iload_n 2, 1) := by decide +kernel
theorem dX8_init_19 : decode cX8_init 19 = .ok (.newarray .int, 2) := by decide +kernel
theorem dX8_init_21 : decode cX8_init 21 = .ok (.putfield 19, 3) := by decide +kernel
theorem dX8_init_24 : decode cX8_init 24 = .ok (.aload_n 0, 1) := by decide +kernel
theorem dX8_init_25 : decode cX8_init 25 = .ok (.iload_n 2, 1) := by decide +kernel
theorem dX8_init_26 : decode cX8_init 26 = .ok (.newarray .int, 2) := by decide +kernel
theorem dX8_init_28 : decode cX8_init 28 = .ok (.putfield 23, 3) := by decide +kernel
theorem dX8_init_31 : decode cX8_init 31 = .ok (.aload_n 0, 1) := by decide +kernel
theorem dX8_init_32 : decode cX8_init 32 = .ok (.iload_n 2, 1) := by decide +kernel
theorem dX8_init_33 : decode cX8_init 33 = .ok (.newarray .int, 2) := by decide +kernel
theorem dX8_init_35 : decode cX8_init 35 = .ok (.putfield 26, 3) := by decide +kernel
theorem dX8_init_38 : decode cX8_init 38 = .ok (.return_, 1) := by decide +kernel
theorem dX9_init_0 : decode cX9_init 0 = .ok (.aload_n 0, 1) := by decide +kernel
theorem dX9_init_1 : decode cX9_init 1 = .ok (.invokespecial 3, 3) := by decide +kernel
theorem dX9_init_4 : decode cX9_init 4 = .ok (.aload_n 0, 1) := by decide +kernel
theorem dX9_init_5 : decode cX9_init 5 = .ok (.iconst 0, 1) := by decide +kernel
theorem dX9_init_6 : decode cX9_init 6 = .ok (.putfield 9, 3) := by decide +kernel
theorem dX9_init_9 : decode cX9_init 9 = .ok (.aload_n 0, 1) := by decide +kernel
theorem dX9_init_10 : decode cX9_init 10 = .ok (.iconst 0, 1) := by decide +kernel
theorem dX9_init_11 : decode cX9_init 11 = .ok (.putfield 15, 3) := by decide +kernel
theorem dX9_init_14 : decode cX9_init 14 = .ok (.aload_n 0, 1) := by decide +kernel
theorem dX9_init_15 : decode cX9_init 15 = .ok (.iconst 0, 1) := by decide +kernel
theorem dX9_init_16 : decode cX9_init 16 = .ok (.putfield 18, 3) := by decide +kernel
theorem dX9_init_19 : decode cX9_init 19 = .ok (.aload_n 0, 1) := by decide +kernel
theorem dX9_init_20 : decode cX9_init 20 = .ok (.iconst 1, 1) := by decide +kernel
theorem dX9_init_21 : decode cX9_init 21 = .ok (.putfield 21, 3) := by decide +kernel
theorem dX9_init_24 : decode cX9_init 24 = .ok (.aload_n 0, 1) := by decide +kernel
theorem dX9_init_25 : decode cX9_init 25 = .ok (.iconst 0, 1) := by decide +kernel
theorem dX9_init_26 : decode cX9_init 26 = .ok (.putfield 24, 3) := by decide +kernel
theorem dX9_init_29 : decode cX9_init 29 = .ok (.aload_n 0, 1) := by decide +kernel
theorem dX9_init_30 : decode cX9_init 30 = .ok (.bipush 6, 2) := by decide +kernel
theorem dX9_init_32 : decode cX9_init 32 = .ok (.newarray .int, 2) := by decide +kernel
theorem dX9_init_34 : decode cX9_init 34 = .ok (.putfield 27, 3) := by decide +kernel
theorem dX9_init_37 : decode cX9_init 37 = .ok (.aload_n 0, 1) := by decide +kernel
theorem dX9_init_38 : decode cX9_init 38 = .ok (.bipush 36, 2) := by decide +kernel
theorem dX9_init_40 : decode cX9_init 40 = .ok (.newarray .int, 2) := by decide +kernel
theorem dX9_init_42 : decode cX9_init 42 = .ok (.putfield 31, 3) := by decide +kernel
theorem dX9_init_45 : decode cX9_init 45 = .ok (.aload_n 0, 1) := by decide +kernel
theorem dX9_init_46 : decode cX9_init 46 = .ok (.bipush 36, 2) := by decide +kernel
theorem dX9_init_48 : decode cX9_init 48 = .ok (.newarray .int, 2) := by decide +kernel
theorem dX9_init_50 : decode cX9_init 50 = .ok (.putfield 34, 3) := by decide +kernel
theorem dX9_init_53 : decode cX9_init 53 = .ok (.aload_n 0, 1) := by decide +kernel
theorem dX9_init_54 : decode cX9_init 54 = .ok (.aconst_null, 1) := by decide +kernel
theorem dX9_init_55 : decode cX9_init 55 = .ok (.putfield 37, 3) := by decide +kernel
theorem dX9_init_58 : decode cX9_init 58 = .ok (.aload_n 0, 1) := by decide +kernel
theorem dX9_init_59 : decode cX9_init 59 = .ok (.aconst_null, 1) := by decide +kernel
theorem dX9_init_60 : decode cX9_init 60 = .ok (.putfield 40, 3) := by decide +kernel
theorem dX9_init_63 : decode cX9_init 63 = .ok (.aload_n 0, 1) := by decide +kernel
theorem dX9_init_64 : decode cX9_init 64 = .ok (.aconst_null, 1) := by decide +kernel
theorem dX9_init_65 : decode cX9_init 65 = .ok (.putfield 43, 3) := by decide +kernel
theorem dX9_init_68 : decode cX9_init 68 = .ok (.return_, 1) := by decide +kernel
theorem dX10_init_0 : decode cX10_init 0 = .ok (.aload_n 0, 1) := by decide +kernel
theorem dX10_init_1 : decode cX10_init 1 = .ok (.invokespecial 3, 3) := by decide +kernel
theorem dX10_init_4 : decode cX10_init 4 = .ok (.aload_n 0, 1) := by decide +kernel
theorem dX10_init_5 : decode cX10_init 5 = .ok (.sipush 1600, 3) := by decide +kernel
theorem dX10_init_8 : decode cX10_init 8 = .ok (.newarray .byte, 2) := by decide +kernel
theorem dX10_init_10 : decode cX10_init 10 = .ok (.putfield 9, 3) := by decide +kernel
theorem dX10_init_13 : decode cX10_init 13 = .ok (.aload_n 0, 1) := by decide +kernel
theorem dX10_init_14 : decode cX10_init 14 = .ok (.iconst 0, 1) := by decide +kernel
theorem dX10_init_15 : decode cX10_init 15 = .ok (.putfield 13, 3) := by decide +kernel
theorem dX10_init_18 : decode cX10_init 18 = .ok (.aload_n 0, 1) := by decide +kernel
theorem dX10_init_19 : decode cX10_init 19 = .ok (.new 17, 3) := by decide +kernel
theorem dX10_init_22 : decode cX10_init 22 = .ok (.dup, 1) := by decide +kernel
theorem dX10_init_23 : decode cX10_init 23 = .ok (.invokespecial 19, 3) := by decide +kernel
theorem dX10_init_26 : decode cX10_init 26 = .ok (.putfield 20, 3) := by decide +kernel
theorem dX10_init_29 : decode cX10_init 29 = .ok (.aload_n 0, 1) := by decide +kernel
theorem dX10_init_30 : decode cX10_init 30 = .ok (.iconst 0, 1) := by decide +kernel
theorem dX10_init_31 : decode cX10_init 31 = .ok (.putfield 24, 3) := by decide +kernel
theorem dX10_init_34 : decode cX10_init 34 = .ok (.aload_n 0, 1) := by decide +kernel
theorem dX10_init_35 : decode cX10_init 35 = .ok (.iconst (-1), 1) := by decide +kernel
theorem dX10_init_36 : decode cX10_init 36 = .ok (.putfield 27, 3) := by decide +kernel
theorem dX10_init_39 : decode cX10_init 39 = .ok (.aload_n 0, 1) := by decide +kernel
theorem dX10_init_40 : decode cX10_init 40 = .ok (.new 30, 3) := by decide +kernel
theorem dX10_init_43 : decode cX10_init 43 = .ok (.dup, 1) := by decide +kernel
theorem dX10_init_44 : decode cX10_init 44 = .ok (.invokespecial 32, 3) := by decide +kernel
theorem dX10_init_47 : decode cX10_init 47 = .ok (.putfield 33, 3) := by decide +kernel
theorem dX10_init_50 : decode cX10_init 50 = .ok (.aload_n 0, 1) := by decide +kernel
theorem dX10_init_51 : decode cX10_init 51 = .ok (.new 30, 3) := by decide +kernel
theorem dX10_init_54 : decode cX10_init 54 = .ok (.dup, 1) := by decide +kernel
theorem dX10_init_55 : decode cX10_init 55 = .ok (.invokespecial 32, 3) := by decide +kernel
theorem dX10_init_58 : decode cX10_init 58 = .ok (.putfield 37, 3) := by decide +kernel
theorem dX10_init_61 : decode cX10_init 61 = .ok (.aload_n 0, 1) := by decide +kernel
theorem dX10_init_62 : decode cX10_init 62 = .ok (.new 40, 3) := by decide +kernel
theorem dX10_init_65 : decode cX10_init 65 = .ok (.dup, 1) := by decide +kernel
theorem dX10_init_66 : decode cX10_init 66 = .ok (.invokespecial 42, 3) := by decide +kernel
theorem dX10_init_69 : decode cX10_init 69 = .ok (.putfield 43, 3) := by decide +kernel
theorem dX10_init_72 : decode cX10_init 72 = .ok (.aload_n 0, 1) := by decide +kernel
theorem dX10_init_73 : decode cX10_init 73 = .ok (.new 47, 3) := by decide +kernel
theorem dX10_init_76 : decode cX10_init 76 = .ok (.dup, 1) := by decide +kernel
theorem dX10_init_77 : decode cX10_init 77 = .ok (.invokespecial 49, 3) := by decide +kernel
theorem dX10_init_80 : decode cX10_init 80 = .ok (.putfield 50, 3) := by decide +kernel
theorem dX10_init_83 : decode cX10_init 83 = .ok (.aload_n 0, 1) := by decide +kernel
theorem dX10_init_84 : decode cX10_init 84 = .ok (.bipush 20, 2) := by decide +kernel
theorem dX10_init_86 : decode cX10_init 86 = .ok (.anewarray 30, 3) := by decide +kernel
theorem dX10_init_89 : decode cX10_init 89 = .ok (.putfield 54, 3) := by decide +kernel
theorem dX10_init_92 : decode cX10_init 92 = .ok (.aload_n 0, 1) := by decide +kernel
theorem dX10_init_93 : decode cX10_init 93 = .ok (.iconst 0, 1) := by decide +kernel
theorem dX10_init_94 : decode cX10_init 94 = .ok (.putfield 58, 3) := by decide +kernel
theorem dX10_init_97 : decode cX10_init 97 = .ok (.aload_n 0, 1) := by decide +kernel
theorem dX10_init_98 : decode cX10_init 98 = .ok (.bipush 16, 2) := by decide +kernel
theorem dX10_init_100 : decode cX10_init 100 = .ok (.newarray .int, 2) := by decide +kernel
theorem dX10_init_102 : decode cX10_init 102 = .ok (.putfield 61, 3) := by decide +kernel
theorem dX10_init_105 : decode cX10_init 105 = .ok (.aload_n 0, 1) := by decide +kernel
theorem dX10_init_106 : decode cX10_init 106 = .ok (.bipush 16, 2) := by decide +kernel
theorem dX10_init_108 : decode cX10_init 108 = .ok (.newarray .int, 2) := by decide +kernel
theorem dX10_init_110 : decode cX10_init 110 = .ok (.putfield 65, 3) := by decide +kernel
theorem dX10_init_113 : decode cX10_init 113 = .ok (.aload_n 0, 1) := by decide +kernel
theorem dX10_init_114 : decode cX10_init 114 = .ok (.iconst 0, 1) := by decide +kernel
theorem dX10_init_115 : decode cX10_init 115 = .ok (.putfield 68, 3) := by decide +kernel
theorem dX10_init_118 : decode cX10_init 118 = .ok (.aload_n 0, 1) := by decide +kernel
theorem dX10_init_119 : decode cX10_init 119 = .ok (.sipush 512, 3) := by decide +kernel
theorem dX10_init_122 : decode cX10_init 122 = .ok (.newarray .int, 2) := by decide +kernel
theorem dX10_init_124 : decode cX10_init 124 = .ok (.putfield 71, 3) := by decide +kernel
theorem dX10_init_127 : decode cX10_init 127 = .ok (.aload_n 0, 1) := by decide +kernel
theorem dX10_init_128 : decode cX10_init 128 = .ok (.iconst 0, 1) := by decide +kernel
theorem dX10_init_129 : decode cX10_init 129 = .ok (.putfield 74, 3) := by decide +kernel
theorem dX10_init_132 : decode cX10_init 132 = .ok (.aload_n 0, 1) := by decide +kernel
theorem dX10_init_133 : decode cX10_init 133 = .ok (.bipush 6, 2) := by decide +kernel
theorem dX10_init_135 : decode cX10_init 135 = .ok (.newarray .int, 2) := by decide +kernel
theorem dX10_init_137 : decode cX10_init 137 = .ok (.putfield 77, 3) := by decide +kernel
theorem dX10_init_140 : decode cX10_init 140 = .ok (.return_, 1) := by decide +kernel
theorem dX10_wide_0 : decode cX10_wide 0 = .ok (.new 217, 3) := by decide +kernel
theorem dX10_wide_3 : decode cX10_wide 3 = .ok (.dup, 1) := by decide +kernel
theorem dX10_wide_4 : decode cX10_wide 4 = .ok (.invokespecial 219, 3) := by decide +kernel
theorem dX10_wide_7 : decode cX10_wide 7 = .ok (.astore_n 2, 1) := by decide +kernel
theorem dX10_wide_8 : decode cX10_wide 8 = .ok (.aload_n 2, 1) := by decide +kernel
theorem dX10_wide_9 : decode cX10_wide 9 = .ok (.aload_n 0, 1) := by decide +kernel
theorem dX10_wide_10 : decode cX10_wide 10 = .ok (.getfield 20, 3) := by decide +kernel
theorem dX10_wide_13 : decode cX10_wide 13 = .ok (.aload_n 0, 1) := by decide +kernel
theorem dX10_wide_14 : decode cX10_wide 14 = .ok (.getfield 20, 3) := by decide +kernel
theorem dX10_wide_17 : decode cX10_wide 17 = .ok (.aload_n 0, 1) := by decide +kernel
theorem dX10_wide_18 : decode cX10_wide 18 = .ok (.getfield 33, 3) := by decide +kernel
theorem dX10_wide_21 : decode cX10_wide 21 = .ok (.invokestatic 207, 3) := by decide +kernel
theorem dX10_wide_24 : decode cX10_wide 24 = .ok (.invokevirtual 220, 3) := by decide +kernel
theorem dX10_wide_27 : decode cX10_wide 27 = .ok (.aload_n 2, 1) := by decide +kernel
theorem dX10_wide_28 : decode cX10_wide 28 = .ok (.iload_n 1, 1) := by decide +kernel
theorem dX10_wide_29 : decode cX10_wide 29 = .ok (.invokevirtual 224, 3) := by decide +kernel
theorem dX10_wide_32 : decode cX10_wide 32 = .ok (.ireturn, 1) := by decide +kernel
theorem dX10_cut_0 : decode cX10_cut 0 = .ok (.aload_n 0, 1) := by decide +kernel
theorem dX10_cut_1 : decode cX10_cut 1 = .ok (.getfield 20, 3) := by decide +kernel
theorem dX10_cut_4 : decode cX10_cut 4 = .ok (.iload_n 1, 1) := by decide +kernel
theorem dX10_cut_5 : decode cX10_cut 5 = .ok (.iload_n 2, 1) := by decide +kernel
theorem dX10_cut_6 : decode cX10_cut 6 = .ok (.invokevirtual 162, 3) := by decide +kernel
theorem dX10_cut_9 : decode cX10_cut 9 = .ok (.ifCond .ne 5, 3) := by decide +kernel
theorem dX10_cut_12 : decode cX10_cut 12 = .ok (.iconst (-1), 1) := by decide +kernel
theorem dX10_cut_13 : decode cX10_cut 13 = .ok (.ireturn, 1) := by decide +kernel
theorem dX10_cut_14 : decode cX10_cut 14 = .ok (.new 217, 3) := by decide +kernel
theorem dX10_cut_17 : decode cX10_cut 17 = .ok (.dup, 1) := by decide +kernel
theorem dX10_cut_18 : decode cX10_cut 18 = .ok (.invokespecial 219, 3) := by decide +kernel
theorem dX10_cut_21 : decode cX10_cut 21 = .ok (.astore 4, 2) := by decide +kernel
theorem dX10_cut_23 : decode cX10_cut 23 = .ok (.aload 4, 2) := by decide +kernel
theorem dX10_cut_25 : decode cX10_cut 25 = .ok (.iload_n 1, 1) := by decide +kernel
theorem dX10_cut_26 : decode cX10_cut 26 = .ok (.iload_n 2, 1) := by decide +kernel
theorem dX10_cut_27 : decode cX10_cut 27 = .ok (.aload_n 0, 1) := by decide +kernel
theorem dX10_cut_28 : decode cX10_cut 28 = .ok (.getfield 20, 3) := by decide +kernel
theorem dX10_cut_31 : decode cX10_cut 31 = .ok (.aload_n 0, 1) := by decide +kernel
theorem dX10_cut_32 : decode cX10_cut 32 = .ok (.getfield 33, 3) := by decide +kernel
theorem dX10_cut_35 : decode cX10_cut 35 = .ok (.invokestatic 207, 3) := by decide +kernel
theorem dX10_cut_38 : decode cX10_cut 38 = .ok (.invokevirtual 227, 3) := by decide +kernel
theorem dX10_cut_41 : decode cX10_cut 41 = .ok (.aload 4, 2) := by decide +kernel
theorem dX10_cut_43 : decode cX10_cut 43 = .ok (.iload_n 3, 1) := by decide +kernel
theorem dX10_cut_44 : decode cX10_cut 44 = .ok (.invokevirtual 224, 3) := by decide +kernel
theorem dX10_cut_47 : decode cX10_cut 47 = .ok (.ireturn, 1) := by decide +kernel
theorem dX10_ring_0 : decode cX10_ring 0 = .ok (.aload_n 0, 1) := by decide +kernel
theorem dX10_ring_1 : decode cX10_ring 1 = .ok (.getfield 20, 3) := by decide +kernel
theorem dX10_ring_4 : decode cX10_ring 4 = .ok (.iload_n 1, 1) := by decide +kernel
theorem dX10_ring_5 : decode cX10_ring 5 = .ok (.invokevirtual 149, 3) := by decide +kernel
theorem dX10_ring_8 : decode cX10_ring 8 = .ok (.ifCond .ne 5, 3) := by decide +kernel
theorem dX10_ring_11 : decode cX10_ring 11 = .ok (.iconst (-1), 1) := by decide +kernel
theorem dX10_ring_12 : decode cX10_ring 12 = .ok (.ireturn, 1) := by decide +kernel
theorem dX10_ring_13 : decode cX10_ring 13 = .ok (.bipush 6, 2) := by decide +kernel
theorem dX10_ring_15 : decode cX10_ring 15 = .ok (.newarray .int, 2) := by decide +kernel
theorem dX10_ring_17 : decode cX10_ring 17 = .ok (.astore_n 3, 1) := by decide +kernel
theorem dX10_ring_18 : decode cX10_ring 18 = .ok (.aload_n 0, 1) := by decide +kernel
theorem dX10_ring_19 : decode cX10_ring 19 = .ok (.getfield 20, 3) := by decide +kernel
theorem dX10_ring_22 : decode cX10_ring 22 = .ok (.aload_n 0, 1) := by decide +kernel
theorem dX10_ring_23 : decode cX10_ring 23 = .ok (.getfield 33, 3) := by decide +kernel
theorem dX10_ring_26 : decode cX10_ring 26 = .ok (.invokestatic 207, 3) := by decide +kernel
theorem dX10_ring_29 : decode cX10_ring 29 = .ok (.iload_n 1, 1) := by decide +kernel
theorem dX10_ring_30 : decode cX10_ring 30 = .ok (.aload_n 3, 1) := by decide +kernel
theorem dX10_ring_31 : decode cX10_ring 31 = .ok (.invokestatic 231, 3) := by decide +kernel
theorem dX10_ring_34 : decode cX10_ring 34 = .ok (.istore 4, 2) := by decide +kernel
theorem dX10_ring_36 : decode cX10_ring 36 = .ok (.iload_n 2, 1) := by decide +kernel
theorem dX10_ring_37 : decode cX10_ring 37 = .ok (.iconst (-1), 1) := by decide +kernel
theorem dX10_ring_38 : decode cX10_ring 38 = .ok (.if_icmp .ne 15, 3) := by decide +kernel
theorem dX10_ring_41 : decode cX10_ring 41 = .ok (.iload 4, 2) := by decide +kernel
theorem dX10_ring_43 : decode cX10_ring 43 = .ok (.ifCond .le 8, 3) := by decide +kernel
theorem dX10_ring_46 : decode cX10_ring 46 = .ok (.iload 4, 2) := by decide +kernel
theorem dX10_ring_48 : decode cX10_ring 48 = .ok (.goto 4, 3) := by decide +kernel
theorem dX10_ring_51 : decode cX10_ring 51 = .ok (.iconst (-1), 1) := by decide +kernel
theorem dX10_ring_52 : decode cX10_ring 52 = .ok (.ireturn, 1) := by decide +kernel
theorem dX10_ring_53 : decode cX10_ring 53 = .ok (.iload_n 2, 1) := by decide +kernel
theorem dX10_ring_54 : decode cX10_ring 54 = .ok (.ifCond .lt 21, 3) := by decide +kernel
theorem dX10_ring_57 : decode cX10_ring 57 = .ok (.iload_n 2, 1) := by decide +kernel
theorem dX10_ring_58 : decode cX10_ring 58 = .ok (.iload 4, 2) := by decide +kernel
theorem dX10_ring_60 : decode cX10_ring 60 = .ok (.if_icmp .ge 15, 3) := by decide +kernel
theorem dX10_ring_63 : decode cX10_ring 63 = .ok (.iload_n 2, 1) := by decide +kernel
theorem dX10_ring_64 : decode cX10_ring 64 = .ok (.aload_n 3, 1) := by decide +kernel
theorem dX10_ring_65 : decode cX10_ring 65 = .ok (.arraylength, 1) := by decide +kernel
theorem dX10_ring_66 : decode cX10_ring 66 = .ok (.if_icmp .ge 9, 3) := by decide +kernel
theorem dX10_ring_69 : decode cX10_ring 69 = .ok (.aload_n 3, 1) := by decide +kernel
theorem dX10_ring_70 : decode cX10_ring 70 = .ok (.iload_n 2, 1) := by decide +kernel
theorem dX10_ring_71 : decode cX10_ring 71 = .ok (.iaload, 1) := by decide +kernel
theorem dX10_ring_72 : decode cX10_ring 72 = .ok (.goto 4, 3) := by decide +kernel
theorem dX10_ring_75 : decode cX10_ring 75 = .ok (.iconst (-1), 1) := by decide +kernel
theorem dX10_ring_76 : decode cX10_ring 76 = .ok (.ireturn, 1) := by decide +kernel
theorem dX10_swap_0 : decode cX10_swap 0 = .ok (.iload_n 1, 1) := by decide +kernel
theorem dX10_swap_1 : decode cX10_swap 1 = .ok (.ifCond .lt 8, 3) := by decide +kernel
theorem dX10_swap_4 : decode cX10_swap 4 = .ok (.iload_n 1, 1) := by decide +kernel
theorem dX10_swap_5 : decode cX10_swap 5 = .ok (.iconst 5, 1) := by decide +kernel
theorem dX10_swap_6 : decode cX10_swap 6 = .ok (.if_icmp .lt 5, 3) := by decide +kernel
theorem dX10_swap_9 : decode cX10_swap 9 = .ok (.iconst (-1), 1) := by decide +kernel
theorem dX10_swap_10 : decode cX10_swap 10 = .ok (.ireturn, 1) := by decide +kernel
theorem dX10_swap_11 : decode cX10_swap 11 = .ok (.new 235, 3) := by decide +kernel
theorem dX10_swap_14 : decode cX10_swap 14 = .ok (.dup, 1) := by decide +kernel
theorem dX10_swap_15 : decode cX10_swap 15 = .ok (.invokespecial 237, 3) := by decide +kernel
theorem dX10_swap_18 : decode cX10_swap 18 = .ok (.astore_n 2, 1) := by decide +kernel
theorem dX10_swap_19 : decode cX10_swap 19 = .ok (.aload_n 2, 1) := by decide +kernel
theorem dX10_swap_20 : decode cX10_swap 20 = .ok (.aload_n 0, 1) := by decide +kernel
theorem dX10_swap_21 : decode cX10_swap 21 = .ok (.getfield 20, 3) := by decide +kernel
theorem dX10_swap_24 : decode cX10_swap 24 = .ok (.aload_n 0, 1) := by decide +kernel
theorem dX10_swap_25 : decode cX10_swap 25 = .ok (.getfield 33, 3) := by decide +kernel
theorem dX10_swap_28 : decode cX10_swap 28 = .ok (.aload_n 0, 1) := by decide +kernel
theorem dX10_swap_29 : decode cX10_swap 29 = .ok (.getfield 43, 3) := by decide +kernel
theorem dX10_swap_32 : decode cX10_swap 32 = .ok (.invokevirtual 238, 3) := by decide +kernel
theorem dX10_swap_35 : decode cX10_swap 35 = .ok (.aload_n 2, 1) := by decide +kernel
theorem dX10_swap_36 : decode cX10_swap 36 = .ok (.aload_n 0, 1) := by decide +kernel
theorem dX10_swap_37 : decode cX10_swap 37 = .ok (.getfield 20, 3) := by decide +kernel
theorem dX10_swap_40 : decode cX10_swap 40 = .ok (.getfield 118, 3) := by decide +kernel
theorem dX10_swap_43 : decode cX10_swap 43 = .ok (.invokevirtual 242, 3) := by decide +kernel
theorem dX10_swap_46 : decode cX10_swap 46 = .ok (.aload_n 2, 1) := by decide +kernel
theorem dX10_swap_47 : decode cX10_swap 47 = .ok (.getfield 245, 3) := by decide +kernel
theorem dX10_swap_50 : decode cX10_swap 50 = .ok (.iconst 4, 1) := by decide +kernel
theorem dX10_swap_51 : decode cX10_swap 51 = .ok (.iaload, 1) := by decide +kernel
theorem dX10_swap_52 : decode cX10_swap 52 = .ok (.ifCond .le 12, 3) := by decide +kernel
theorem dX10_swap_55 : decode cX10_swap 55 = .ok (.aload_n 2, 1) := by decide +kernel
theorem dX10_swap_56 : decode cX10_swap 56 = .ok (.getfield 245, 3) := by decide +kernel
theorem dX10_swap_59 : decode cX10_swap 59 = .ok (.iload_n 1, 1) := by decide +kernel
theorem dX10_swap_60 : decode cX10_swap 60 = .ok (.iaload, 1) := by decide +kernel
theorem dX10_swap_61 : decode cX10_swap 61 = .ok (.goto 4, 3) := by decide +kernel
theorem dX10_swap_64 : decode cX10_swap 64 = .ok (.iconst (-1), 1) := by decide +kernel
theorem dX10_swap_65 : decode cX10_swap 65 = .ok (.ireturn, 1) := by decide +kernel
theorem dX10_days_0 : decode cX10_days 0 = .ok (.aload_n 0, 1) := by decide +kernel
theorem dX10_days_1 : decode cX10_days 1 = .ok (.iload_n 1, 1) := by decide +kernel
theorem dX10_days_2 : decode cX10_days 2 = .ok (.invokevirtual 263, 3) := by decide +kernel
theorem dX10_days_5 : decode cX10_days 5 = .ok (.ifCond .ne 9, 3) := by decide +kernel
theorem dX10_days_8 : decode cX10_days 8 = .ok (.aload_n 0, 1) := by decide +kernel
theorem dX10_days_9 : decode cX10_days 9 = .ok (.iconst 2, 1) := by decide +kernel
theorem dX10_days_10 : decode cX10_days 10 = .ok (.invokevirtual 80, 3) := by decide +kernel
theorem dX10_days_13 : decode cX10_days 13 = .ok (.ireturn, 1) := by decide +kernel
theorem dX10_days_14 : decode cX10_days 14 = .ok (.aload_n 0, 1) := by decide +kernel
theorem dX10_days_15 : decode cX10_days 15 = .ok (.invokevirtual 266, 3) := by decide +kernel
theorem dX10_days_18 : decode cX10_days 18 = .ok (.iconst 0, 1) := by decide +kernel
theorem dX10_days_19 : decode cX10_days 19 = .ok (.istore_n 2, 1) := by decide +kernel
theorem dX10_days_20 : decode cX10_days 20 = .ok (.iconst 0, 1) := by decide +kernel
theorem dX10_days_21 : decode cX10_days 21 = .ok (.istore_n 3, 1) := by decide +kernel
theorem dX10_days_22 : decode cX10_days 22 = .ok (.iload_n 3, 1) := by decide +kernel
theorem dX10_days_23 : decode cX10_days 23 = .ok (.iload_n 1, 1) := by decide +kernel
theorem dX10_days_24 : decode cX10_days 24 = .ok (.if_icmp .ge 35, 3) := by decide +kernel
theorem dX10_days_27 : decode cX10_days 27 = .ok (.aload_n 0, 1) := by decide +kernel
theorem dX10_days_28 : decode cX10_days 28 = .ok (.getfield 43, 3) := by decide +kernel
theorem dX10_days_31 : decode cX10_days 31 = .ok (.aload_n 0, 1) := by decide +kernel
theorem dX10_days_32 : decode cX10_days 32 = .ok (.getfield 20, 3) := by decide +kernel
theorem dX10_days_35 : decode cX10_days 35 = .ok (.aload_n 0, 1) := by decide +kernel
theorem dX10_days_36 : decode cX10_days 36 = .ok (.getfield 33, 3) := by decide +kernel
theorem dX10_days_39 : decode cX10_days 39 = .ok (.aconst_null, 1) := by decide +kernel
theorem dX10_days_40 : decode cX10_days 40 = .ok (.invokevirtual 190, 3) := by decide +kernel
theorem dX10_days_43 : decode cX10_days 43 = .ok (.iload_n 2, 1) := by decide +kernel
theorem dX10_days_44 : decode cX10_days 44 = .ok (.aload_n 0, 1) := by decide +kernel
theorem dX10_days_45 : decode cX10_days 45 = .ok (.getfield 33, 3) := by decide +kernel
theorem dX10_days_48 : decode cX10_days 48 = .ok (.getfield 269, 3) := by decide +kernel
theorem dX10_days_51 : decode cX10_days 51 = .ok (.iadd, 1) := by decide +kernel
theorem dX10_days_52 : decode cX10_days 52 = .ok (.istore_n 2, 1) := by decide +kernel
theorem dX10_days_53 : decode cX10_days 53 = .ok (.iinc 3 1, 3) := by decide +kernel
theorem dX10_days_56 : decode cX10_days 56 = .ok (.goto (-34), 3) := by decide +kernel
theorem dX10_days_59 : decode cX10_days 59 = .ok (.iload_n 2, 1) := by decide +kernel
theorem dX10_days_60 : decode cX10_days 60 = .ok (.ireturn, 1) := by decide +kernel
theorem dX10_chance_0 : decode cX10_chance 0 = .ok (.aload_n 0, 1) := by decide +kernel
theorem dX10_chance_1 : decode cX10_chance 1 = .ok (.iload_n 1, 1) := by decide +kernel
theorem dX10_chance_2 : decode cX10_chance 2 = .ok (.invokevirtual 263, 3) := by decide +kernel
theorem dX10_chance_5 : decode cX10_chance 5 = .ok (.ifCond .ne 9, 3) := by decide +kernel
theorem dX10_chance_8 : decode cX10_chance 8 = .ok (.aload_n 0, 1) := by decide +kernel
theorem dX10_chance_9 : decode cX10_chance 9 = .ok (.iconst 2, 1) := by decide +kernel
theorem dX10_chance_10 : decode cX10_chance 10 = .ok (.invokevirtual 80, 3) := by decide +kernel
theorem dX10_chance_13 : decode cX10_chance 13 = .ok (.ireturn, 1) := by decide +kernel
theorem dX10_chance_14 : decode cX10_chance 14 = .ok (.aload_n 0, 1) := by decide +kernel
theorem dX10_chance_15 : decode cX10_chance 15 = .ok (.invokevirtual 266, 3) := by decide +kernel
theorem dX10_chance_18 : decode cX10_chance 18 = .ok (.iconst 0, 1) := by decide +kernel
theorem dX10_chance_19 : decode cX10_chance 19 = .ok (.istore_n 2, 1) := by decide +kernel
theorem dX10_chance_20 : decode cX10_chance 20 = .ok (.iconst 0, 1) := by decide +kernel
theorem dX10_chance_21 : decode cX10_chance 21 = .ok (.istore_n 3, 1) := by decide +kernel
theorem dX10_chance_22 : decode cX10_chance 22 = .ok (.iload_n 3, 1) := by decide +kernel
theorem dX10_chance_23 : decode cX10_chance 23 = .ok (.iload_n 1, 1) := by decide +kernel
theorem dX10_chance_24 : decode cX10_chance 24 = .ok (.if_icmp .ge 38, 3) := by decide +kernel
theorem dX10_chance_27 : decode cX10_chance 27 = .ok (.aload_n 0, 1) := by decide +kernel
theorem dX10_chance_28 : decode cX10_chance 28 = .ok (.getfield 43, 3) := by decide +kernel
theorem dX10_chance_31 : decode cX10_chance 31 = .ok (.aload_n 0, 1) := by decide +kernel
theorem dX10_chance_32 : decode cX10_chance 32 = .ok (.getfield 20, 3) := by decide +kernel
theorem dX10_chance_35 : decode cX10_chance 35 = .ok (.aload_n 0, 1) := by decide +kernel
theorem dX10_chance_36 : decode cX10_chance 36 = .ok (.getfield 33, 3) := by decide +kernel
theorem dX10_chance_39 : decode cX10_chance 39 = .ok (.aload_n 0, 1) := by decide +kernel
theorem dX10_chance_40 : decode cX10_chance 40 = .ok (.getfield 50, 3) := by decide +kernel
theorem dX10_chance_43 : decode cX10_chance 43 = .ok (.invokevirtual 190, 3) := by decide +kernel
theorem dX10_chance_46 : decode cX10_chance 46 = .ok (.iload_n 2, 1) := by decide +kernel
theorem dX10_chance_47 : decode cX10_chance 47 = .ok (.aload_n 0, 1) := by decide +kernel
theorem dX10_chance_48 : decode cX10_chance 48 = .ok (.getfield 33, 3) := by decide +kernel
theorem dX10_chance_51 : decode cX10_chance 51 = .ok (.getfield 272, 3) := by decide +kernel
theorem dX10_chance_54 : decode cX10_chance 54 = .ok (.iadd, 1) := by decide +kernel
theorem dX10_chance_55 : decode cX10_chance 55 = .ok (.istore_n 2, 1) := by decide +kernel
theorem dX10_chance_56 : decode cX10_chance 56 = .ok (.iinc 3 1, 3) := by decide +kernel
theorem dX10_chance_59 : decode cX10_chance 59 = .ok (.goto (-37), 3) := by decide +kernel
theorem dX10_chance_62 : decode cX10_chance 62 = .ok (.iload_n 2, 1) := by decide +kernel
theorem dX10_chance_63 : decode cX10_chance 63 = .ok (.ireturn, 1) := by decide +kernel
theorem dX10_give_0 : decode cX10_give 0 = .ok (.aload_n 0, 1) := by decide +kernel
theorem dX10_give_1 : decode cX10_give 1 = .ok (.getfield 20, 3) := by decide +kernel
theorem dX10_give_4 : decode cX10_give 4 = .ok (.iload_n 1, 1) := by decide +kernel
theorem dX10_give_5 : decode cX10_give 5 = .ok (.iload_n 2, 1) := by decide +kernel
theorem dX10_give_6 : decode cX10_give 6 = .ok (.invokevirtual 162, 3) := by decide +kernel
theorem dX10_give_9 : decode cX10_give 9 = .ok (.ifCond .eq 25, 3) := by decide +kernel
theorem dX10_give_12 : decode cX10_give 12 = .ok (.aload_n 0, 1) := by decide +kernel
theorem dX10_give_13 : decode cX10_give 13 = .ok (.getfield 20, 3) := by decide +kernel
theorem dX10_give_16 : decode cX10_give 16 = .ok (.iload_n 1, 1) := by decide +kernel
theorem dX10_give_17 : decode cX10_give 17 = .ok (.iload_n 3, 1) := by decide +kernel
theorem dX10_give_18 : decode cX10_give 18 = .ok (.invokevirtual 162, 3) := by decide +kernel
theorem dX10_give_21 : decode cX10_give 21 = .ok (.ifCond .eq 13, 3) := by decide +kernel
theorem dX10_give_24 : decode cX10_give 24 = .ok (.aload_n 0, 1) := by decide +kernel
theorem dX10_give_25 : decode cX10_give 25 = .ok (.iload_n 1, 1) := by decide +kernel
theorem dX10_give_26 : decode cX10_give 26 = .ok (.iload_n 2, 1) := by decide +kernel
theorem dX10_give_27 : decode cX10_give 27 = .ok (.iload_n 3, 1) := by decide +kernel
theorem dX10_give_28 : decode cX10_give 28 = .ok (.invokevirtual 275, 3) := by decide +kernel
theorem dX10_give_31 : decode cX10_give 31 = .ok (.ifCond .ne 11, 3) := by decide +kernel
theorem dX10_give_34 : decode cX10_give 34 = .ok (.aload_n 0, 1) := by decide +kernel
theorem dX10_give_35 : decode cX10_give 35 = .ok (.iconst 3, 1) := by decide +kernel
theorem dX10_give_36 : decode cX10_give 36 = .ok (.invokevirtual 80, 3) := by decide +kernel
theorem dX10_give_39 : decode cX10_give 39 = .ok (.pop, 1) := by decide +kernel
theorem dX10_give_40 : decode cX10_give 40 = .ok (.iconst 0, 1) := by decide +kernel
theorem dX10_give_41 : decode cX10_give 41 = .ok (.ireturn, 1) := by decide +kernel
theorem dX10_give_42 : decode cX10_give 42 = .ok (.aload_n 0, 1) := by decide +kernel
theorem dX10_give_43 : decode cX10_give 43 = .ok (.invokevirtual 266, 3) := by decide +kernel
theorem dX10_give_46 : decode cX10_give 46 = .ok (.aload_n 0, 1) := by decide +kernel
theorem dX10_give_47 : decode cX10_give 47 = .ok (.getfield 33, 3) := by decide +kernel
theorem dX10_give_50 : decode cX10_give 50 = .ok (.getfield 127, 3) := by decide +kernel
theorem dX10_give_53 : decode cX10_give 53 = .ok (.iload_n 1, 1) := by decide +kernel
theorem dX10_give_54 : decode cX10_give 54 = .ok (.bipush 6, 2) := by decide +kernel
theorem dX10_give_56 : decode cX10_give 56 = .ok (.imul, 1) := by decide +kernel
theorem dX10_give_57 : decode cX10_give 57 = .ok (.iload_n 2, 1) := by decide +kernel
theorem dX10_give_58 : decode cX10_give 58 = .ok (.iadd, 1) := by decide +kernel
theorem dX10_give_59 : decode cX10_give 59 = .ok (.dup2, 1) := by decide +kernel
theorem dX10_give_60 : decode cX10_give 60 = .ok (.iaload, 1) := by decide +kernel
theorem dX10_give_61 : decode cX10_give 61 = .ok (.iconst 1, 1) := by decide +kernel
theorem dX10_give_62 : decode cX10_give 62 = .ok (.isub, 1) := by decide +kernel
theorem dX10_give_63 : decode cX10_give 63 = .ok (.iastore, 1) := by decide +kernel
theorem dX10_give_64 : decode cX10_give 64 = .ok (.iload_n 3, 1) := by decide +kernel
theorem dX10_give_65 : decode cX10_give 65 = .ok (.iload_n 2, 1) := by decide +kernel
theorem dX10_give_66 : decode cX10_give 66 = .ok (.if_icmp .eq 21, 3) := by decide +kernel
theorem dX10_give_69 : decode cX10_give 69 = .ok (.aload_n 0, 1) := by decide +kernel
theorem dX10_give_70 : decode cX10_give 70 = .ok (.getfield 33, 3) := by decide +kernel
theorem dX10_give_73 : decode cX10_give 73 = .ok (.getfield 127, 3) := by decide +kernel
theorem dX10_give_76 : decode cX10_give 76 = .ok (.iload_n 3, 1) := by decide +kernel
theorem dX10_give_77 : decode cX10_give 77 = .ok (.bipush 6, 2) := by decide +kernel
theorem dX10_give_79 : decode cX10_give 79 = .ok (.imul, 1) := by decide +kernel
theorem dX10_give_80 : decode cX10_give 80 = .ok (.iload_n 2, 1) := by decide +kernel
theorem dX10_give_81 : decode cX10_give 81 = .ok (.iadd, 1) := by decide +kernel
theorem dX10_give_82 : decode cX10_give 82 = .ok (.dup2, 1) := by decide +kernel
theorem dX10_give_83 : decode cX10_give 83 = .ok (.iaload, 1) := by decide +kernel
theorem dX10_give_84 : decode cX10_give 84 = .ok (.iconst 1, 1) := by decide +kernel
theorem dX10_give_85 : decode cX10_give 85 = .ok (.iadd, 1) := by decide +kernel
theorem dX10_give_86 : decode cX10_give 86 = .ok (.iastore, 1) := by decide +kernel
theorem dX10_give_87 : decode cX10_give 87 = .ok (.iconst 1, 1) := by decide +kernel
theorem dX10_give_88 : decode cX10_give 88 = .ok (.ireturn, 1) := by decide +kernel
theorem dX10_find_0 : decode cX10_find 0 = .ok (.aload_n 0, 1) := by decide +kernel
theorem dX10_find_1 : decode cX10_find 1 = .ok (.getfield 20, 3) := by decide +kernel
theorem dX10_find_4 : decode cX10_find 4 = .ok (.iload_n 1, 1) := by decide +kernel
theorem dX10_find_5 : decode cX10_find 5 = .ok (.iload_n 2, 1) := by decide +kernel
theorem dX10_find_6 : decode cX10_find 6 = .ok (.invokevirtual 162, 3) := by decide +kernel
theorem dX10_find_9 : decode cX10_find 9 = .ok (.ifCond .eq 17, 3) := by decide +kernel
theorem dX10_find_12 : decode cX10_find 12 = .ok (.aload_n 0, 1) := by decide +kernel
theorem dX10_find_13 : decode cX10_find 13 = .ok (.getfield 33, 3) := by decide +kernel
theorem dX10_find_16 : decode cX10_find 16 = .ok (.iload_n 1, 1) := by decide +kernel
theorem dX10_find_17 : decode cX10_find 17 = .ok (.iload_n 2, 1) := by decide +kernel
theorem dX10_find_18 : decode cX10_find 18 = .ok (.invokevirtual 257, 3) := by decide +kernel
theorem dX10_find_21 : decode cX10_find 21 = .ok (.bipush 99, 2) := by decide +kernel
theorem dX10_find_23 : decode cX10_find 23 = .ok (.if_icmp .lt 11, 3) := by decide +kernel
theorem dX10_find_26 : decode cX10_find 26 = .ok (.aload_n 0, 1) := by decide +kernel
theorem dX10_find_27 : decode cX10_find 27 = .ok (.iconst 3, 1) := by decide +kernel
theorem dX10_find_28 : decode cX10_find 28 = .ok (.invokevirtual 80, 3) := by decide +kernel
theorem dX10_find_31 : decode cX10_find 31 = .ok (.pop, 1) := by decide +kernel
theorem dX10_find_32 : decode cX10_find 32 = .ok (.iconst 0, 1) := by decide +kernel
theorem dX10_find_33 : decode cX10_find 33 = .ok (.ireturn, 1) := by decide +kernel
theorem dX10_find_34 : decode cX10_find 34 = .ok (.aload_n 0, 1) := by decide +kernel
theorem dX10_find_35 : decode cX10_find 35 = .ok (.invokevirtual 266, 3) := by decide +kernel
theorem dX10_find_38 : decode cX10_find 38 = .ok (.aload_n 0, 1) := by decide +kernel
theorem dX10_find_39 : decode cX10_find 39 = .ok (.getfield 33, 3) := by decide +kernel
theorem dX10_find_42 : decode cX10_find 42 = .ok (.getfield 127, 3) := by decide +kernel
theorem dX10_find_45 : decode cX10_find 45 = .ok (.iload_n 1, 1) := by decide +kernel
theorem dX10_find_46 : decode cX10_find 46 = .ok (.bipush 6, 2) := by decide +kernel
theorem dX10_find_48 : decode cX10_find 48 = .ok (.imul, 1) := by decide +kernel
theorem dX10_find_49 : decode cX10_find 49 = .ok (.iload_n 2, 1) := by decide +kernel
theorem dX10_find_50 : decode cX10_find 50 = .ok (.iadd, 1) := by decide +kernel
theorem dX10_find_51 : decode cX10_find 51 = .ok (.dup2, 1) := by decide +kernel
theorem dX10_find_52 : decode cX10_find 52 = .ok (.iaload, 1) := by decide +kernel
theorem dX10_find_53 : decode cX10_find 53 = .ok (.iconst 1, 1) := by decide +kernel
theorem dX10_find_54 : decode cX10_find 54 = .ok (.iadd, 1) := by decide +kernel
theorem dX10_find_55 : decode cX10_find 55 = .ok (.iastore, 1) := by decide +kernel
theorem dX10_find_56 : decode cX10_find 56 = .ok (.iconst 1, 1) := by decide +kernel
theorem dX10_find_57 : decode cX10_find 57 = .ok (.ireturn, 1) := by decide +kernel
theorem dX10_burn_0 : decode cX10_burn 0 = .ok (.aload_n 0, 1) := by decide +kernel
theorem dX10_burn_1 : decode cX10_burn 1 = .ok (.getfield 20, 3) := by decide +kernel
theorem dX10_burn_4 : decode cX10_burn 4 = .ok (.iload_n 1, 1) := by decide +kernel
theorem dX10_burn_5 : decode cX10_burn 5 = .ok (.iload_n 2, 1) := by decide +kernel
theorem dX10_burn_6 : decode cX10_burn 6 = .ok (.invokevirtual 162, 3) := by decide +kernel
theorem dX10_burn_9 : decode cX10_burn 9 = .ok (.ifCond .eq 15, 3) := by decide +kernel
theorem dX10_burn_12 : decode cX10_burn 12 = .ok (.aload_n 0, 1) := by decide +kernel
theorem dX10_burn_13 : decode cX10_burn 13 = .ok (.getfield 33, 3) := by decide +kernel
theorem dX10_burn_16 : decode cX10_burn 16 = .ok (.iload_n 1, 1) := by decide +kernel
theorem dX10_burn_17 : decode cX10_burn 17 = .ok (.iload_n 2, 1) := by decide +kernel
theorem dX10_burn_18 : decode cX10_burn 18 = .ok (.invokevirtual 257, 3) := by decide +kernel
theorem dX10_burn_21 : decode cX10_burn 21 = .ok (.ifCond .ne 9, 3) := by decide +kernel
theorem dX10_burn_24 : decode cX10_burn 24 = .ok (.aload_n 0, 1) := by decide +kernel
theorem dX10_burn_25 : decode cX10_burn 25 = .ok (.iconst 3, 1) := by decide +kernel
theorem dX10_burn_26 : decode cX10_burn 26 = .ok (.invokevirtual 80, 3) := by decide +kernel
theorem dX10_burn_29 : decode cX10_burn 29 = .ok (.ireturn, 1) := by decide +kernel
theorem dX10_burn_30 : decode cX10_burn 30 = .ok (.aload_n 0, 1) := by decide +kernel
theorem dX10_burn_31 : decode cX10_burn 31 = .ok (.invokevirtual 266, 3) := by decide +kernel
theorem dX10_burn_34 : decode cX10_burn 34 = .ok (.aload_n 0, 1) := by decide +kernel
theorem dX10_burn_35 : decode cX10_burn 35 = .ok (.getfield 33, 3) := by decide +kernel
theorem dX10_burn_38 : decode cX10_burn 38 = .ok (.iload_n 1, 1) := by decide +kernel
theorem dX10_burn_39 : decode cX10_burn 39 = .ok (.iload_n 2, 1) := by decide +kernel
theorem dX10_burn_40 : decode cX10_burn 40 = .ok (.invokevirtual 257, 3) := by decide +kernel
theorem dX10_burn_43 : decode cX10_burn 43 = .ok (.istore_n 3, 1) := by decide +kernel
theorem dX10_burn_44 : decode cX10_burn 44 = .ok (.aload_n 0, 1) := by decide +kernel
theorem dX10_burn_45 : decode cX10_burn 45 = .ok (.getfield 33, 3) := by decide +kernel
theorem dX10_burn_48 : decode cX10_burn 48 = .ok (.getfield 127, 3) := by decide +kernel
theorem dX10_burn_51 : decode cX10_burn 51 = .ok (.iload_n 1, 1) := by decide +kernel
theorem dX10_burn_52 : decode cX10_burn 52 = .ok (.bipush 6, 2) := by decide +kernel
theorem dX10_burn_54 : decode cX10_burn 54 = .ok (.imul, 1) := by decide +kernel
theorem dX10_burn_55 : decode cX10_burn 55 = .ok (.iload_n 2, 1) := by decide +kernel
theorem dX10_burn_56 : decode cX10_burn 56 = .ok (.iadd, 1) := by decide +kernel
theorem dX10_burn_57 : decode cX10_burn 57 = .ok (.iconst 0, 1) := by decide +kernel
theorem dX10_burn_58 : decode cX10_burn 58 = .ok (.iastore, 1) := by decide +kernel
theorem dX10_burn_59 : decode cX10_burn 59 = .ok (.iload_n 3, 1) := by decide +kernel
theorem dX10_burn_60 : decode cX10_burn 60 = .ok (.ireturn, 1) := by decide +kernel
theorem dX10_remember_0 : decode cX10_remember 0 = .ok (.aload_n 0, 1) := by decide +kernel
theorem dX10_remember_1 : decode cX10_remember 1 = .ok (.getfield 58, 3) := by decide +kernel
theorem dX10_remember_4 : decode cX10_remember 4 = .ok (.bipush 19, 2) := by decide +kernel
theorem dX10_remember_6 : decode cX10_remember 6 = .ok (.invokestatic 202, 3) := by decide +kernel
theorem dX10_remember_9 : decode cX10_remember 9 = .ok (.istore_n 1, 1) := by decide +kernel
theorem dX10_remember_10 : decode cX10_remember 10 = .ok (.aload_n 0, 1) := by decide +kernel
theorem dX10_remember_11 : decode cX10_remember 11 = .ok (.getfield 54, 3) := by decide +kernel
theorem dX10_remember_14 : decode cX10_remember 14 = .ok (.iload_n 1, 1) := by decide +kernel
theorem dX10_remember_15 : decode cX10_remember 15 = .ok (.aaload, 1) := by decide +kernel
theorem dX10_remember_16 : decode cX10_remember 16 = .ok (.astore_n 2, 1) := by decide +kernel
theorem dX10_remember_17 : decode cX10_remember 17 = .ok (.aload_n 0, 1) := by decide +kernel
theorem dX10_remember_18 : decode cX10_remember 18 = .ok (.getfield 58, 3) := by decide +kernel
theorem dX10_remember_21 : decode cX10_remember 21 = .ok (.bipush 20, 2) := by decide +kernel
theorem dX10_remember_23 : decode cX10_remember 23 = .ok (.if_icmp .ne 38, 3) := by decide +kernel
theorem dX10_remember_26 : decode cX10_remember 26 = .ok (.aload_n 0, 1) := by decide +kernel
theorem dX10_remember_27 : decode cX10_remember 27 = .ok (.getfield 54, 3) := by decide +kernel
theorem dX10_remember_30 : decode cX10_remember 30 = .ok (.iconst 0, 1) := by decide +kernel
theorem dX10_remember_31 : decode cX10_remember 31 = .ok (.aaload, 1) := by decide +kernel
theorem dX10_remember_32 : decode cX10_remember 32 = .ok (.astore_n 2, 1) := by decide +kernel
theorem dX10_remember_33 : decode cX10_remember 33 = .ok (.iconst 1, 1) := by decide +kernel
theorem dX10_remember_34 : decode cX10_remember 34 = .ok (.istore_n 3, 1) := by decide +kernel
theorem dX10_remember_35 : decode cX10_remember 35 = .ok (.iload_n 3, 1) := by decide +kernel
theorem dX10_remember_36 : decode cX10_remember 36 = .ok (.bipush 20, 2) := by decide +kernel
theorem dX10_remember_38 : decode cX10_remember 38 = .ok (.if_icmp .ge 23, 3) := by decide +kernel
theorem dX10_remember_41 : decode cX10_remember 41 = .ok (.aload_n 0, 1) := by decide +kernel
theorem dX10_remember_42 : decode cX10_remember 42 = .ok (.getfield 54, 3) := by decide +kernel
theorem dX10_remember_45 : decode cX10_remember 45 = .ok (.iload_n 3, 1) := by decide +kernel
theorem dX10_remember_46 : decode cX10_remember 46 = .ok (.iconst 1, 1) := by decide +kernel
theorem dX10_remember_47 : decode cX10_remember 47 = .ok (.isub, 1) := by decide +kernel
theorem dX10_remember_48 : decode cX10_remember 48 = .ok (.aload_n 0, 1) := by decide +kernel
theorem dX10_remember_49 : decode cX10_remember 49 = .ok (.getfield 54, 3) := by decide +kernel
theorem dX10_remember_52 : decode cX10_remember 52 = .ok (.iload_n 3, 1) := by decide +kernel
theorem dX10_remember_53 : decode cX10_remember 53 = .ok (.aaload, 1) := by decide +kernel
theorem dX10_remember_54 : decode cX10_remember 54 = .ok (.aastore, 1) := by decide +kernel
theorem dX10_remember_55 : decode cX10_remember 55 = .ok (.iinc 3 1, 3) := by decide +kernel
theorem dX10_remember_58 : decode cX10_remember 58 = .ok (.goto (-23), 3) := by decide +kernel
theorem dX10_remember_61 : decode cX10_remember 61 = .ok (.aload_n 2, 1) := by decide +kernel
theorem dX10_remember_62 : decode cX10_remember 62 = .ok (.ifnonnull 11, 3) := by decide +kernel
theorem dX10_remember_65 : decode cX10_remember 65 = .ok (.new 30, 3) := by decide +kernel
theorem dX10_remember_68 : decode cX10_remember 68 = .ok (.dup, 1) := by decide +kernel
theorem dX10_remember_69 : decode cX10_remember 69 = .ok (.invokespecial 32, 3) := by decide +kernel
theorem dX10_remember_72 : decode cX10_remember 72 = .ok (.astore_n 2, 1) := by decide +kernel
theorem dX10_remember_73 : decode cX10_remember 73 = .ok (.aload_n 2, 1) := by decide +kernel
theorem dX10_remember_74 : decode cX10_remember 74 = .ok (.aload_n 0, 1) := by decide +kernel
theorem dX10_remember_75 : decode cX10_remember 75 = .ok (.getfield 33, 3) := by decide +kernel
theorem dX10_remember_78 : decode cX10_remember 78 = .ok (.invokevirtual 186, 3) := by decide +kernel
theorem dX10_remember_81 : decode cX10_remember 81 = .ok (.aload_n 0, 1) := by decide +kernel
theorem dX10_remember_82 : decode cX10_remember 82 = .ok (.getfield 54, 3) := by decide +kernel
theorem dX10_remember_85 : decode cX10_remember 85 = .ok (.iload_n 1, 1) := by decide +kernel
theorem dX10_remember_86 : decode cX10_remember 86 = .ok (.aload_n 2, 1) := by decide +kernel
theorem dX10_remember_87 : decode cX10_remember 87 = .ok (.aastore, 1) := by decide +kernel
theorem dX10_remember_88 : decode cX10_remember 88 = .ok (.aload_n 0, 1) := by decide +kernel
theorem dX10_remember_89 : decode cX10_remember 89 = .ok (.iload_n 1, 1) := by decide +kernel
theorem dX10_remember_90 : decode cX10_remember 90 = .ok (.iconst 1, 1) := by decide +kernel
theorem dX10_remember_91 : decode cX10_remember 91 = .ok (.iadd, 1) := by decide +kernel
theorem dX10_remember_92 : decode cX10_remember 92 = .ok (.putfield 58, 3) := by decide +kernel
theorem dX10_remember_95 : decode cX10_remember 95 = .ok (.return_, 1) := by decide +kernel
theorem dX10_undo_0 : decode cX10_undo 0 = .ok (.aload_n 0, 1) := by decide +kernel
theorem dX10_undo_1 : decode cX10_undo 1 = .ok (.getfield 58, 3) := by decide +kernel
theorem dX10_undo_4 : decode cX10_undo 4 = .ok (.ifCond .le 26, 3) := by decide +kernel
theorem dX10_undo_7 : decode cX10_undo 7 = .ok (.aload_n 0, 1) := by decide +kernel
theorem dX10_undo_8 : decode cX10_undo 8 = .ok (.getfield 58, 3) := by decide +kernel
theorem dX10_undo_11 : decode cX10_undo 11 = .ok (.bipush 20, 2) := by decide +kernel
theorem dX10_undo_13 : decode cX10_undo 13 = .ok (.if_icmp .gt 17, 3) := by decide +kernel
theorem dX10_undo_16 : decode cX10_undo 16 = .ok (.aload_n 0, 1) := by decide +kernel
theorem dX10_undo_17 : decode cX10_undo 17 = .ok (.getfield 54, 3) := by decide +kernel
theorem dX10_undo_20 : decode cX10_undo 20 = .ok (.aload_n 0, 1) := by decide +kernel
theorem dX10_undo_21 : decode cX10_undo 21 = .ok (.getfield 58, 3) := by decide +kernel
theorem dX10_undo_24 : decode cX10_undo 24 = .ok (.iconst 1, 1) := by decide +kernel
theorem dX10_undo_25 : decode cX10_undo 25 = .ok (.isub, 1) := by decide +kernel
theorem dX10_undo_26 : decode cX10_undo 26 = .ok (.aaload, 1) := by decide +kernel
theorem dX10_undo_27 : decode cX10_undo 27 = .ok (.goto 4, 3) := by decide +kernel
theorem dX10_undo_30 : decode cX10_undo 30 = .ok (.aconst_null, 1) := by decide +kernel
theorem dX10_undo_31 : decode cX10_undo 31 = .ok (.astore_n 1, 1) := by decide +kernel
theorem dX10_undo_32 : decode cX10_undo 32 = .ok (.aload_n 1, 1) := by decide +kernel
theorem dX10_undo_33 : decode cX10_undo 33 = .ok (.ifnonnull 11, 3) := by decide +kernel
theorem dX10_undo_36 : decode cX10_undo 36 = .ok (.aload_n 0, 1) := by decide +kernel
theorem dX10_undo_37 : decode cX10_undo 37 = .ok (.iconst 4, 1) := by decide +kernel
theorem dX10_undo_38 : decode cX10_undo 38 = .ok (.invokevirtual 80, 3) := by decide +kernel
theorem dX10_undo_41 : decode cX10_undo 41 = .ok (.pop, 1) := by decide +kernel
theorem dX10_undo_42 : decode cX10_undo 42 = .ok (.iconst 0, 1) := by decide +kernel
theorem dX10_undo_43 : decode cX10_undo 43 = .ok (.ireturn, 1) := by decide +kernel
theorem dX10_undo_44 : decode cX10_undo 44 = .ok (.aload_n 0, 1) := by decide +kernel
theorem dX10_undo_45 : decode cX10_undo 45 = .ok (.getfield 33, 3) := by decide +kernel
theorem dX10_undo_48 : decode cX10_undo 48 = .ok (.aload_n 1, 1) := by decide +kernel
theorem dX10_undo_49 : decode cX10_undo 49 = .ok (.invokevirtual 186, 3) := by decide +kernel
theorem dX10_undo_52 : decode cX10_undo 52 = .ok (.aload_n 0, 1) := by decide +kernel
theorem dX10_undo_53 : decode cX10_undo 53 = .ok (.dup, 1) := by decide +kernel
theorem dX10_undo_54 : decode cX10_undo 54 = .ok (.getfield 58, 3) := by decide +kernel
theorem dX10_undo_57 : decode cX10_undo 57 = .ok (.iconst 1, 1) := by decide +kernel
theorem dX10_undo_58 : decode cX10_undo 58 = .ok (.isub, 1) := by decide +kernel
theorem dX10_undo_59 : decode cX10_undo 59 = .ok (.putfield 58, 3) := by decide +kernel
theorem dX10_undo_62 : decode cX10_undo 62 = .ok (.iconst 1, 1) := by decide +kernel
theorem dX10_undo_63 : decode cX10_undo 63 = .ok (.ireturn, 1) := by decide +kernel
theorem dJ7_copyOf_59c91_0 : decode cJ7_copyOf_59c91 0 = .ok (.iload_n 1, 1) := by decide +kernel
theorem dJ7_copyOf_59c91_1 : decode cJ7_copyOf_59c91 1 = .ok (.aload_n 0, 1) := by decide +kernel
theorem dJ7_copyOf_59c91_2 : decode cJ7_copyOf_59c91 2 = .ok (.arraylength, 1) := by decide +kernel
theorem dJ7_copyOf_59c91_3 : decode cJ7_copyOf_59c91 3 = .ok (.if_icmp .ne 11, 3) := by decide +kernel
theorem dJ7_copyOf_59c91_6 : decode cJ7_copyOf_59c91 6 = .ok (.aload_n 0, 1) := by decide +kernel
theorem dJ7_copyOf_59c91_7 : decode cJ7_copyOf_59c91 7 = .ok (.invokevirtual 316, 3) := by decide +kernel
theorem dJ7_copyOf_59c91_10 : decode cJ7_copyOf_59c91 10 = .ok (.checkcast 317, 3) := by decide +kernel
theorem dJ7_copyOf_59c91_13 : decode cJ7_copyOf_59c91 13 = .ok (.areturn, 1) := by decide +kernel
theorem dJ7_copyOf_59c91_14 : decode cJ7_copyOf_59c91 14 = .ok (.iload_n 1, 1) := by decide +kernel
theorem dJ7_copyOf_59c91_15 : decode cJ7_copyOf_59c91 15 = .ok (.newarray .int, 2) := by decide +kernel
theorem dJ7_copyOf_59c91_17 : decode cJ7_copyOf_59c91 17 = .ok (.astore_n 2, 1) := by decide +kernel
theorem dJ7_copyOf_59c91_18 : decode cJ7_copyOf_59c91 18 = .ok (.aload_n 0, 1) := by decide +kernel
theorem dJ7_copyOf_59c91_19 : decode cJ7_copyOf_59c91 19 = .ok (.iconst 0, 1) := by decide +kernel
theorem dJ7_copyOf_59c91_20 : decode cJ7_copyOf_59c91 20 = .ok (.aload_n 2, 1) := by decide +kernel
theorem dJ7_copyOf_59c91_21 : decode cJ7_copyOf_59c91 21 = .ok (.iconst 0, 1) := by decide +kernel
theorem dJ7_copyOf_59c91_22 : decode cJ7_copyOf_59c91 22 = .ok (.aload_n 0, 1) := by decide +kernel
theorem dJ7_copyOf_59c91_23 : decode cJ7_copyOf_59c91 23 = .ok (.arraylength, 1) := by decide +kernel
theorem dJ7_copyOf_59c91_24 : decode cJ7_copyOf_59c91 24 = .ok (.iload_n 1, 1) := by decide +kernel
theorem dJ7_copyOf_59c91_25 : decode cJ7_copyOf_59c91 25 = .ok (.invokestatic 304, 3) := by decide +kernel
theorem dJ7_copyOf_59c91_28 : decode cJ7_copyOf_59c91 28 = .ok (.invokestatic 150, 3) := by decide +kernel
theorem dJ7_copyOf_59c91_31 : decode cJ7_copyOf_59c91 31 = .ok (.aload_n 2, 1) := by decide +kernel
theorem dJ7_copyOf_59c91_32 : decode cJ7_copyOf_59c91 32 = .ok (.areturn, 1) := by decide +kernel
