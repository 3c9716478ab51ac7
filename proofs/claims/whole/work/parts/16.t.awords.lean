theorem dv_X0 : ∀ j, j < 6 → defaultValue (tyX0 j) = vp_V ((zft 0).mapIdx (fun k t => z_fv (fun _ => 0) (fun _ => 0) (fun _ => 0) zn0 k t)) j := by decide
theorem dv_X1 : ∀ j, j < 1 → defaultValue (tyX1 j) = vp_V ((zft 1).mapIdx (fun k t => z_fv (fun _ => 0) (fun _ => 0) (fun _ => 0) zn0 k t)) j := by decide
theorem dv_X2 : ∀ j, j < 8 → defaultValue (tyX2 j) = vp_V ((zft 2).mapIdx (fun k t => z_fv (fun _ => 0) (fun _ => 0) (fun _ => 0) zn0 k t)) j := by decide
theorem dv_X4 : ∀ j, j < 1 → defaultValue (tyX4 j) = vp_V ((zft 3).mapIdx (fun k t => z_fv (fun _ => 0) (fun _ => 0) (fun _ => 0) zn0 k t)) j := by decide
theorem dv_X5 : ∀ j, j < 12 → defaultValue (tyX5 j) = vp_V ((zft 4).mapIdx (fun k t => z_fv (fun _ => 0) (fun _ => 0) (fun _ => 0) zn0 k t)) j := by decide
theorem dv_X7 : ∀ j, j < 12 → defaultValue (tyX7 j) = vp_V ((zft 5).mapIdx (fun k t => z_fv (fun _ => 0) (fun _ => 0) (fun _ => 0) zn0 k t)) j := by decide
theorem dv_X8 : ∀ j, j < 4 → defaultValue (tyX8 j) = vp_V ((zft 6).mapIdx (fun k t => z_fv (fun _ => 0) (fun _ => 0) (fun _ => 0) zn0 k t)) j := by decide
theorem dv_X9 : ∀ j, j < 11 → defaultValue (tyX9 j) = vp_V ((zft 7).mapIdx (fun k t => z_fv (fun _ => 0) (fun _ => 0) (fun _ => 0) zn0 k t)) j := by decide
theorem dv_X10 : ∀ j, j < 17 → defaultValue (tyX10 j) = vp_V ((zft 8).mapIdx (fun k t => z_fv (fun _ => 0) (fun _ => 0) (fun _ => 0) zn0 k t)) j := by decide
theorem ca_100 : Cond.arrayClass .int ∈ zTB := zmT1 99 (by decide +kernel) rfl
theorem ca_101 : Cond.arrayClass .byte ∈ zTB := zmT1 98 (by decide +kernel) rfl
theorem ca_102 : Cond.arrayClass .boolean ∈ zTB := zmT4 106 (by decide +kernel) rfl
theorem ca_103 : Cond.arrayClass .long ∈ zTB := zmT4 105 (by decide +kernel) rfl
theorem cf_X10_245 : ((zcl[0]? = some (RX0, TX0, 6) ∧ 0 < 100 ∧ ∀ q ∈ u_ws RX0 TX0 6, q ∈ zTB) ∧ 4 < 6 ∧ (zft 0)[4]? = some 2 ∧ (TX0 4).1 = RX0) ∧ zLk RX10 245 RX0 (TX0 4).2.1 (TX0 4).2.2.1 := ⟨⟨ci_X0, by decide, rfl, rfl⟩, Or.inr ⟨"ReplyStamps", zmN4 90 (by decide +kernel) rfl⟩⟩
theorem cf_X10_269 : ((zcl[5]? = some (RX7, TX7, 12) ∧ 5 < 100 ∧ ∀ q ∈ u_ws RX7 TX7 12, q ∈ zTB) ∧ 10 < 12 ∧ (zft 5)[10]? = some 0 ∧ (TX7 10).1 = RX7) ∧ zLk RX10 269 RX7 (TX7 10).2.1 (TX7 10).2.2.1 := ⟨⟨ci_X7, by decide, rfl, rfl⟩, Or.inr ⟨"ReplyStamps", zmN1 144 (by decide +kernel) rfl⟩⟩
theorem cf_X10_272 : ((zcl[5]? = some (RX7, TX7, 12) ∧ 5 < 100 ∧ ∀ q ∈ u_ws RX7 TX7 12, q ∈ zTB) ∧ 11 < 12 ∧ (zft 5)[11]? = some 0 ∧ (TX7 11).1 = RX7) ∧ zLk RX10 272 RX7 (TX7 11).2.1 (TX7 11).2.2.1 := ⟨⟨ci_X7, by decide, rfl, rfl⟩, Or.inr ⟨"ReplyStamps", zmN1 147 (by decide +kernel) rfl⟩⟩
theorem cf_X10_54 : ((zcl[8]? = some (RX10, TX10, 17) ∧ 8 < 100 ∧ ∀ q ∈ u_ws RX10 TX10 17, q ∈ zTB) ∧ 9 < 17 ∧ (zft 8)[9]? = some 2 ∧ (TX10 9).1 = RX10) ∧ zLk RX10 54 RX10 (TX10 9).2.1 (TX10 9).2.2.1 := ⟨⟨ci_X10, by decide, rfl, rfl⟩, Or.inl (zmT1 204 (by decide +kernel) rfl)⟩
theorem cf_X5_102 : ((zcl[7]? = some (RX9, TX9, 11) ∧ 7 < 100 ∧ ∀ q ∈ u_ws RX9 TX9 11, q ∈ zTB) ∧ 9 < 11 ∧ (zft 7)[9]? = some 2 ∧ (TX9 9).1 = RX9) ∧ zLk RX5 102 RX9 (TX9 9).2.1 (TX9 9).2.2.1 := ⟨⟨ci_X9, by decide, rfl, rfl⟩, Or.inr ⟨"ReplyStamps", zmN1 70 (by decide +kernel) rfl⟩⟩
theorem cf_X5_105 : ((zcl[7]? = some (RX9, TX9, 11) ∧ 7 < 100 ∧ ∀ q ∈ u_ws RX9 TX9 11, q ∈ zTB) ∧ 10 < 11 ∧ (zft 7)[10]? = some 2 ∧ (TX9 10).1 = RX9) ∧ zLk RX5 105 RX9 (TX9 10).2.1 (TX9 10).2.2.1 := ⟨⟨ci_X9, by decide, rfl, rfl⟩, Or.inr ⟨"ReplyStamps", zmN1 74 (by decide +kernel) rfl⟩⟩
theorem cf_X5_111 : ((zcl[7]? = some (RX9, TX9, 11) ∧ 7 < 100 ∧ ∀ q ∈ u_ws RX9 TX9 11, q ∈ zTB) ∧ 3 < 11 ∧ (zft 7)[3]? = some 0 ∧ (TX9 3).1 = RX9) ∧ zLk RX5 111 RX9 (TX9 3).2.1 (TX9 3).2.2.1 := ⟨⟨ci_X9, by decide, rfl, rfl⟩, Or.inr ⟨"ReplyStamps", zmN1 48 (by decide +kernel) rfl⟩⟩
theorem cf_X5_114 : ((zcl[7]? = some (RX9, TX9, 11) ∧ 7 < 100 ∧ ∀ q ∈ u_ws RX9 TX9 11, q ∈ zTB) ∧ 4 < 11 ∧ (zft 7)[4]? = some 0 ∧ (TX9 4).1 = RX9) ∧ zLk RX5 114 RX9 (TX9 4).2.1 (TX9 4).2.2.1 := ⟨⟨ci_X9, by decide, rfl, rfl⟩, Or.inr ⟨"ReplyStamps", zmN1 51 (by decide +kernel) rfl⟩⟩
theorem cf_X5_83 : ((zcl[7]? = some (RX9, TX9, 11) ∧ 7 < 100 ∧ ∀ q ∈ u_ws RX9 TX9 11, q ∈ zTB) ∧ 2 < 11 ∧ (zft 7)[2]? = some 0 ∧ (TX9 2).1 = RX9) ∧ zLk RX5 83 RX9 (TX9 2).2.1 (TX9 2).2.2.1 := ⟨⟨ci_X9, by decide, rfl, rfl⟩, Or.inr ⟨"ReplyStamps", zmN1 44 (by decide +kernel) rfl⟩⟩
theorem cf_X5_95 : ((zcl[7]? = some (RX9, TX9, 11) ∧ 7 < 100 ∧ ∀ q ∈ u_ws RX9 TX9 11, q ∈ zTB) ∧ 8 < 11 ∧ (zft 7)[8]? = some 2 ∧ (TX9 8).1 = RX9) ∧ zLk RX5 95 RX9 (TX9 8).2.1 (TX9 8).2.2.1 := ⟨⟨ci_X9, by decide, rfl, rfl⟩, Or.inr ⟨"ReplyStamps", zmN1 67 (by decide +kernel) rfl⟩⟩
theorem cf_X9_15 : ((zcl[7]? = some (RX9, TX9, 11) ∧ 7 < 100 ∧ ∀ q ∈ u_ws RX9 TX9 11, q ∈ zTB) ∧ 1 < 11 ∧ (zft 7)[1]? = some 0 ∧ (TX9 1).1 = RX9) ∧ zLk RX9 15 RX9 (TX9 1).2.1 (TX9 1).2.2.1 := ⟨⟨ci_X9, by decide, rfl, rfl⟩, Or.inl (zmT1 40 (by decide +kernel) rfl)⟩
theorem cf_X9_18 : ((zcl[7]? = some (RX9, TX9, 11) ∧ 7 < 100 ∧ ∀ q ∈ u_ws RX9 TX9 11, q ∈ zTB) ∧ 2 < 11 ∧ (zft 7)[2]? = some 0 ∧ (TX9 2).1 = RX9) ∧ zLk RX9 18 RX9 (TX9 2).2.1 (TX9 2).2.2.1 := ⟨⟨ci_X9, by decide, rfl, rfl⟩, Or.inl (zmT1 43 (by decide +kernel) rfl)⟩
theorem cf_X9_21 : ((zcl[7]? = some (RX9, TX9, 11) ∧ 7 < 100 ∧ ∀ q ∈ u_ws RX9 TX9 11, q ∈ zTB) ∧ 3 < 11 ∧ (zft 7)[3]? = some 0 ∧ (TX9 3).1 = RX9) ∧ zLk RX9 21 RX9 (TX9 3).2.1 (TX9 3).2.2.1 := ⟨⟨ci_X9, by decide, rfl, rfl⟩, Or.inl (zmT1 46 (by decide +kernel) rfl)⟩
theorem cf_X9_24 : ((zcl[7]? = some (RX9, TX9, 11) ∧ 7 < 100 ∧ ∀ q ∈ u_ws RX9 TX9 11, q ∈ zTB) ∧ 4 < 11 ∧ (zft 7)[4]? = some 0 ∧ (TX9 4).1 = RX9) ∧ zLk RX9 24 RX9 (TX9 4).2.1 (TX9 4).2.2.1 := ⟨⟨ci_X9, by decide, rfl, rfl⟩, Or.inl (zmT1 49 (by decide +kernel) rfl)⟩
theorem cf_X9_31 : ((zcl[7]? = some (RX9, TX9, 11) ∧ 7 < 100 ∧ ∀ q ∈ u_ws RX9 TX9 11, q ∈ zTB) ∧ 6 < 11 ∧ (zft 7)[6]? = some 2 ∧ (TX9 6).1 = RX9) ∧ zLk RX9 31 RX9 (TX9 6).2.1 (TX9 6).2.2.1 := ⟨⟨ci_X9, by decide, rfl, rfl⟩, Or.inl (zmT1 55 (by decide +kernel) rfl)⟩
theorem cf_X9_37 : ((zcl[7]? = some (RX9, TX9, 11) ∧ 7 < 100 ∧ ∀ q ∈ u_ws RX9 TX9 11, q ∈ zTB) ∧ 8 < 11 ∧ (zft 7)[8]? = some 2 ∧ (TX9 8).1 = RX9) ∧ zLk RX9 37 RX9 (TX9 8).2.1 (TX9 8).2.2.1 := ⟨⟨ci_X9, by decide, rfl, rfl⟩, Or.inl (zmT1 66 (by decide +kernel) rfl)⟩
theorem cf_X9_40 : ((zcl[7]? = some (RX9, TX9, 11) ∧ 7 < 100 ∧ ∀ q ∈ u_ws RX9 TX9 11, q ∈ zTB) ∧ 9 < 11 ∧ (zft 7)[9]? = some 2 ∧ (TX9 9).1 = RX9) ∧ zLk RX9 40 RX9 (TX9 9).2.1 (TX9 9).2.2.1 := ⟨⟨ci_X9, by decide, rfl, rfl⟩, Or.inl (zmT1 69 (by decide +kernel) rfl)⟩
theorem cf_X9_43 : ((zcl[7]? = some (RX9, TX9, 11) ∧ 7 < 100 ∧ ∀ q ∈ u_ws RX9 TX9 11, q ∈ zTB) ∧ 10 < 11 ∧ (zft 7)[10]? = some 2 ∧ (TX9 10).1 = RX9) ∧ zLk RX9 43 RX9 (TX9 10).2.1 (TX9 10).2.2.1 := ⟨⟨ci_X9, by decide, rfl, rfl⟩, Or.inl (zmT1 72 (by decide +kernel) rfl)⟩
theorem cj_J7_150 : Cond.methodLink RJ7 150 arraycopyName ∈ zTB ∧ Cond.native arraycopyName ∈ zTB ∧ Cond.static arraycopyName ∈ zTB ∧ Cond.initialized "java/lang/System" ∈ zTB := ⟨zmT3 75 (by decide +kernel) rfl, zmT3 77 (by decide +kernel) rfl, zmT3 76 (by decide +kernel) rfl, zmT1 15 (by decide +kernel) rfl⟩
theorem cj_J7_304 : Cond.methodLink RJ7 304 Lib.Math.min.name ∈ zTB ∧ Cond.static Lib.Math.min.name ∈ zTB ∧ Cond.initialized "java/lang/Math" ∈ zTB ∧ Cond.code Lib.Math.min.name Lib.Math.min.code 2 (some .int) ∈ zTB := ⟨zmT3 72 rfl rfl, zmT3 73 rfl rfl, zmT1 9 rfl rfl, zmT3 74 rfl rfl⟩
theorem cj_X8_13 : Cond.methodLink RX8 13 Lib.Math.max.name ∈ zTB ∧ Cond.static Lib.Math.max.name ∈ zTB ∧ Cond.initialized "java/lang/Math" ∈ zTB ∧ Cond.code Lib.Math.max.name Lib.Math.max.code 2 (some .int) ∈ zTB := ⟨zmT2 41 rfl rfl, zmT2 42 rfl rfl, zmT1 9 rfl rfl, zmT2 43 rfl rfl⟩
theorem cl_X10_30 : Cond.classLink RX10 30 RX7 ∈ zTB := zmT1 100 (by decide +kernel) rfl
theorem cm_X10_19 : zMk RX10 19 yX9_init := Or.inr ⟨"ReplyStamps", zmN1 30 (by decide +kernel) rfl⟩
theorem cm_X10_219 : zMk RX10 219 yX2_init := Or.inr ⟨"ReplyStamps", zmN3 232 (by decide +kernel) rfl⟩
theorem cm_X10_220 : zMk RX10 220 yX2_seekWide := Or.inr ⟨"ReplyStamps", zmN4 21 (by decide +kernel) rfl⟩
theorem cm_X10_224 : zMk RX10 224 yX2_tell := Or.inr ⟨"ReplyStamps", zmN4 46 (by decide +kernel) rfl⟩
theorem cm_X10_227 : zMk RX10 227 yX2_seekCut := Or.inr ⟨"ReplyStamps", zmN4 54 (by decide +kernel) rfl⟩
theorem cm_X10_231 : zMk RX10 231 yX6_shortestRing := Or.inr ⟨"ReplyStamps", zmN4 62 (by decide +kernel) rfl⟩
theorem cm_X10_237 : zMk RX10 237 yX0_init := Or.inr ⟨"ReplyStamps", zmN4 81 (by decide +kernel) rfl⟩
theorem cm_X10_238 : zMk RX10 238 yX0_weigh := Or.inr ⟨"ReplyStamps", zmN4 107 (by decide +kernel) rfl⟩
theorem cm_X10_242 : zMk RX10 242 yX0_seekBest := Or.inr ⟨"ReplyStamps", zmN4 116 (by decide +kernel) rfl⟩
theorem cm_X10_263 : zMk RX10 263 yX10_canPass := Or.inl (zmT4 157 (by decide +kernel) rfl)
theorem cm_X10_266 : zMk RX10 266 yX10_remember := Or.inl (zmT4 161 (by decide +kernel) rfl)
theorem cm_X10_275 : zMk RX10 275 yX10_canGive := Or.inl (zmT4 173 (by decide +kernel) rfl)
theorem cm_X10_32 : zMk RX10 32 yX7_init := Or.inr ⟨"ReplyStamps", zmN1 102 (by decide +kernel) rfl⟩
theorem cm_X10_42 : zMk RX10 42 yX4_init := Or.inr ⟨"ReplyStamps", zmN1 175 (by decide +kernel) rfl⟩
theorem cm_X10_49 : zMk RX10 49 yX1_init := Or.inr ⟨"ReplyStamps", zmN1 185 (by decide +kernel) rfl⟩
theorem cm_X5_156 : zMk RX5 156 yJ7_copyOf_59c91 := Or.inl (zmT3 62 (by decide +kernel) rfl)
theorem cm_X5_77 : zMk RX5 77 yX5_readStatement := Or.inl (zmT2 190 (by decide +kernel) rfl)
theorem cm_X5_86 : zMk RX5 86 yX5_readTown := Or.inl (zmT2 194 (by decide +kernel) rfl)
theorem cm_X5_89 : zMk RX5 89 yX5_readCart := Or.inl (zmT2 206 (by decide +kernel) rfl)
theorem cm_X5_92 : zMk RX5 92 yX5_readHolds := Or.inl (zmT2 234 (by decide +kernel) rfl)
theorem cm_X5_98 : zMk RX5 98 yX5_readRule := Or.inl (zmT2 238 (by decide +kernel) rfl)
theorem cm_X6_29 : zMk RX6 29 yX6_stepsTo := Or.inl (zmT4 65 (by decide +kernel) rfl)
theorem cm_X6_33 : zMk RX6 33 yX6_nearest := Or.inl (zmT4 68 (by decide +kernel) rfl)
theorem cm_X6_37 : zMk RX6 37 yX6_firstWith := Or.inl (zmT4 72 (by decide +kernel) rfl)
theorem cn_X10_17 : Cond.classLink RX10 17 RX9 ∈ zTB ∧ Cond.instantiable RX9 11 ∈ zTB ∧ Cond.initialized RX9 ∈ zTB := ⟨zmT1 28 (by decide +kernel) rfl, zmT1 29 (by decide +kernel) rfl, zmT1 2 (by decide +kernel) rfl⟩
theorem cn_X10_217 : Cond.classLink RX10 217 RX2 ∈ zTB ∧ Cond.instantiable RX2 8 ∈ zTB ∧ Cond.initialized RX2 ∈ zTB := ⟨zmT3 230 (by decide +kernel) rfl, zmT3 231 (by decide +kernel) rfl, zmT1 17 (by decide +kernel) rfl⟩
theorem cn_X10_235 : Cond.classLink RX10 235 RX0 ∈ zTB ∧ Cond.instantiable RX0 6 ∈ zTB ∧ Cond.initialized RX0 ∈ zTB := ⟨zmT4 79 (by decide +kernel) rfl, zmT4 80 (by decide +kernel) rfl, zmT1 18 (by decide +kernel) rfl⟩
theorem cn_X10_30 : Cond.classLink RX10 30 RX7 ∈ zTB ∧ Cond.instantiable RX7 12 ∈ zTB ∧ Cond.initialized RX7 ∈ zTB := ⟨zmT1 100 (by decide +kernel) rfl, zmT1 101 (by decide +kernel) rfl, zmT1 3 (by decide +kernel) rfl⟩
theorem cn_X10_40 : Cond.classLink RX10 40 RX4 ∈ zTB ∧ Cond.instantiable RX4 1 ∈ zTB ∧ Cond.initialized RX4 ∈ zTB := ⟨zmT1 173 (by decide +kernel) rfl, zmT1 174 (by decide +kernel) rfl, zmT1 4 (by decide +kernel) rfl⟩
theorem cn_X10_47 : Cond.classLink RX10 47 RX1 ∈ zTB ∧ Cond.instantiable RX1 1 ∈ zTB ∧ Cond.initialized RX1 ∈ zTB := ⟨zmT1 183 (by decide +kernel) rfl, zmT1 184 (by decide +kernel) rfl, zmT1 5 (by decide +kernel) rfl⟩
theorem co_X0_3 : Cond.methodLink RX0 3 Lib.objectInit ∈ zTB ∧ Cond.instanceMethod Lib.objectInit ∈ zTB ∧ Cond.code Lib.objectInit ⟨#[0xb1]⟩ 1 none ∈ zTB := ⟨zmT4 84 rfl rfl, zmT1 26 rfl rfl, zmT1 27 rfl rfl⟩
theorem co_X10_3 : Cond.methodLink RX10 3 Lib.objectInit ∈ zTB ∧ Cond.instanceMethod Lib.objectInit ∈ zTB ∧ Cond.code Lib.objectInit ⟨#[0xb1]⟩ 1 none ∈ zTB := ⟨zmT1 25 rfl rfl, zmT1 26 rfl rfl, zmT1 27 rfl rfl⟩
theorem co_X1_1 : Cond.methodLink RX1 1 Lib.objectInit ∈ zTB ∧ Cond.instanceMethod Lib.objectInit ∈ zTB ∧ Cond.code Lib.objectInit ⟨#[0xb1]⟩ 1 none ∈ zTB := ⟨zmT1 188 rfl rfl, zmT1 26 rfl rfl, zmT1 27 rfl rfl⟩
theorem co_X2_3 : Cond.methodLink RX2 3 Lib.objectInit ∈ zTB ∧ Cond.instanceMethod Lib.objectInit ∈ zTB ∧ Cond.code Lib.objectInit ⟨#[0xb1]⟩ 1 none ∈ zTB := ⟨zmT3 235 rfl rfl, zmT1 26 rfl rfl, zmT1 27 rfl rfl⟩
theorem co_X4_3 : Cond.methodLink RX4 3 Lib.objectInit ∈ zTB ∧ Cond.instanceMethod Lib.objectInit ∈ zTB ∧ Cond.code Lib.objectInit ⟨#[0xb1]⟩ 1 none ∈ zTB := ⟨zmT1 178 rfl rfl, zmT1 26 rfl rfl, zmT1 27 rfl rfl⟩
theorem co_X7_3 : Cond.methodLink RX7 3 Lib.objectInit ∈ zTB ∧ Cond.instanceMethod Lib.objectInit ∈ zTB ∧ Cond.code Lib.objectInit ⟨#[0xb1]⟩ 1 none ∈ zTB := ⟨zmT1 105 rfl rfl, zmT1 26 rfl rfl, zmT1 27 rfl rfl⟩
theorem co_X8_1 : Cond.methodLink RX8 1 Lib.objectInit ∈ zTB ∧ Cond.instanceMethod Lib.objectInit ∈ zTB ∧ Cond.code Lib.objectInit ⟨#[0xb1]⟩ 1 none ∈ zTB := ⟨zmT2 40 rfl rfl, zmT1 26 rfl rfl, zmT1 27 rfl rfl⟩
theorem co_X9_3 : Cond.methodLink RX9 3 Lib.objectInit ∈ zTB ∧ Cond.instanceMethod Lib.objectInit ∈ zTB ∧ Cond.code Lib.objectInit ⟨#[0xb1]⟩ 1 none ∈ zTB := ⟨zmT1 33 rfl rfl, zmT1 26 rfl rfl, zmT1 27 rfl rfl⟩
theorem cp_X10_3 : (TX10 3).2.2.2 = false ∧ parseFieldDescriptor (TX10 3).2.2.1 = some .int := ⟨rfl, by decide +kernel⟩
theorem cp_X10_4 : (TX10 4).2.2.2 = false ∧ parseFieldDescriptor (TX10 4).2.2.1 = some .int := ⟨rfl, by decide +kernel⟩
theorem cp_X5_9 : (TX5 9).2.2.2 = false ∧ parseFieldDescriptor (TX5 9).2.2.1 = some .boolean := ⟨rfl, by decide +kernel⟩
theorem cp_X9_2 : (TX9 2).2.2.2 = false ∧ parseFieldDescriptor (TX9 2).2.2.1 = some .int := ⟨rfl, by decide +kernel⟩
theorem cp_X9_3 : (TX9 3).2.2.2 = false ∧ parseFieldDescriptor (TX9 3).2.2.1 = some .int := ⟨rfl, by decide +kernel⟩
theorem cp_X9_4 : (TX9 4).2.2.2 = false ∧ parseFieldDescriptor (TX9 4).2.2.1 = some .int := ⟨rfl, by decide +kernel⟩
theorem cq_J7_copyOf_59c91 : (yJ7_copyOf_59c91.cls ≠ "java/lang/invoke/MethodHandle" ∧ yJ7_copyOf_59c91.cls ≠ "java/lang/invoke/VarHandle") ∧ (parseMethodDescriptor yJ7_copyOf_59c91.desc).map (fun d => d.parameters.length) = some 2 := ⟨⟨by decide, by decide⟩, by decide +kernel⟩
theorem cq_X0_init : (yX0_init.cls ≠ "java/lang/invoke/MethodHandle" ∧ yX0_init.cls ≠ "java/lang/invoke/VarHandle") ∧ (parseMethodDescriptor yX0_init.desc).map (fun d => d.parameters.length) = some 0 := ⟨⟨by decide, by decide⟩, by decide +kernel⟩
theorem cq_X0_seekBest : (yX0_seekBest.cls ≠ "java/lang/invoke/MethodHandle" ∧ yX0_seekBest.cls ≠ "java/lang/invoke/VarHandle") ∧ (parseMethodDescriptor yX0_seekBest.desc).map (fun d => d.parameters.length) = some 1 := ⟨⟨by decide, by decide⟩, by decide +kernel⟩
theorem cq_X0_weigh : (yX0_weigh.cls ≠ "java/lang/invoke/MethodHandle" ∧ yX0_weigh.cls ≠ "java/lang/invoke/VarHandle") ∧ (parseMethodDescriptor yX0_weigh.desc).map (fun d => d.parameters.length) = some 3 := ⟨⟨by decide, by decide⟩, by decide +kernel⟩
theorem cq_X10_canGive : (yX10_canGive.cls ≠ "java/lang/invoke/MethodHandle" ∧ yX10_canGive.cls ≠ "java/lang/invoke/VarHandle") ∧ (parseMethodDescriptor yX10_canGive.desc).map (fun d => d.parameters.length) = some 3 := ⟨⟨by decide, by decide⟩, by decide +kernel⟩
theorem cq_X10_canPass : (yX10_canPass.cls ≠ "java/lang/invoke/MethodHandle" ∧ yX10_canPass.cls ≠ "java/lang/invoke/VarHandle") ∧ (parseMethodDescriptor yX10_canPass.desc).map (fun d => d.parameters.length) = some 1 := ⟨⟨by decide, by decide⟩, by decide +kernel⟩
theorem cq_X10_remember : (yX10_remember.cls ≠ "java/lang/invoke/MethodHandle" ∧ yX10_remember.cls ≠ "java/lang/invoke/VarHandle") ∧ (parseMethodDescriptor yX10_remember.desc).map (fun d => d.parameters.length) = some 0 := ⟨⟨by decide, by decide⟩, by decide +kernel⟩
theorem cq_X1_init : (yX1_init.cls ≠ "java/lang/invoke/MethodHandle" ∧ yX1_init.cls ≠ "java/lang/invoke/VarHandle") ∧ (parseMethodDescriptor yX1_init.desc).map (fun d => d.parameters.length) = some 0 := ⟨⟨by decide, by decide⟩, by decide +kernel⟩
theorem cq_X2_init : (yX2_init.cls ≠ "java/lang/invoke/MethodHandle" ∧ yX2_init.cls ≠ "java/lang/invoke/VarHandle") ∧ (parseMethodDescriptor yX2_init.desc).map (fun d => d.parameters.length) = some 0 := ⟨⟨by decide, by decide⟩, by decide +kernel⟩
theorem cq_X2_seekCut : (yX2_seekCut.cls ≠ "java/lang/invoke/MethodHandle" ∧ yX2_seekCut.cls ≠ "java/lang/invoke/VarHandle") ∧ (parseMethodDescriptor yX2_seekCut.desc).map (fun d => d.parameters.length) = some 3 := ⟨⟨by decide, by decide⟩, by decide +kernel⟩
theorem cq_X2_seekWide : (yX2_seekWide.cls ≠ "java/lang/invoke/MethodHandle" ∧ yX2_seekWide.cls ≠ "java/lang/invoke/VarHandle") ∧ (parseMethodDescriptor yX2_seekWide.desc).map (fun d => d.parameters.length) = some 2 := ⟨⟨by decide, by decide⟩, by decide +kernel⟩
theorem cq_X2_tell : (yX2_tell.cls ≠ "java/lang/invoke/MethodHandle" ∧ yX2_tell.cls ≠ "java/lang/invoke/VarHandle") ∧ (parseMethodDescriptor yX2_tell.desc).map (fun d => d.parameters.length) = some 1 := ⟨⟨by decide, by decide⟩, by decide +kernel⟩
theorem cq_X4_init : (yX4_init.cls ≠ "java/lang/invoke/MethodHandle" ∧ yX4_init.cls ≠ "java/lang/invoke/VarHandle") ∧ (parseMethodDescriptor yX4_init.desc).map (fun d => d.parameters.length) = some 0 := ⟨⟨by decide, by decide⟩, by decide +kernel⟩
theorem cq_X5_readCart : (yX5_readCart.cls ≠ "java/lang/invoke/MethodHandle" ∧ yX5_readCart.cls ≠ "java/lang/invoke/VarHandle") ∧ (parseMethodDescriptor yX5_readCart.desc).map (fun d => d.parameters.length) = some 0 := ⟨⟨by decide, by decide⟩, by decide +kernel⟩
theorem cq_X5_readHolds : (yX5_readHolds.cls ≠ "java/lang/invoke/MethodHandle" ∧ yX5_readHolds.cls ≠ "java/lang/invoke/VarHandle") ∧ (parseMethodDescriptor yX5_readHolds.desc).map (fun d => d.parameters.length) = some 0 := ⟨⟨by decide, by decide⟩, by decide +kernel⟩
theorem cq_X5_readRule : (yX5_readRule.cls ≠ "java/lang/invoke/MethodHandle" ∧ yX5_readRule.cls ≠ "java/lang/invoke/VarHandle") ∧ (parseMethodDescriptor yX5_readRule.desc).map (fun d => d.parameters.length) = some 2 := ⟨⟨by decide, by decide⟩, by decide +kernel⟩
theorem cq_X5_readStatement : (yX5_readStatement.cls ≠ "java/lang/invoke/MethodHandle" ∧ yX5_readStatement.cls ≠ "java/lang/invoke/VarHandle") ∧ (parseMethodDescriptor yX5_readStatement.desc).map (fun d => d.parameters.length) = some 0 := ⟨⟨by decide, by decide⟩, by decide +kernel⟩
theorem cq_X5_readTown : (yX5_readTown.cls ≠ "java/lang/invoke/MethodHandle" ∧ yX5_readTown.cls ≠ "java/lang/invoke/VarHandle") ∧ (parseMethodDescriptor yX5_readTown.desc).map (fun d => d.parameters.length) = some 0 := ⟨⟨by decide, by decide⟩, by decide +kernel⟩
theorem cq_X6_firstWith : (yX6_firstWith.cls ≠ "java/lang/invoke/MethodHandle" ∧ yX6_firstWith.cls ≠ "java/lang/invoke/VarHandle") ∧ (parseMethodDescriptor yX6_firstWith.desc).map (fun d => d.parameters.length) = some 4 := ⟨⟨by decide, by decide⟩, by decide +kernel⟩
theorem cq_X6_nearest : (yX6_nearest.cls ≠ "java/lang/invoke/MethodHandle" ∧ yX6_nearest.cls ≠ "java/lang/invoke/VarHandle") ∧ (parseMethodDescriptor yX6_nearest.desc).map (fun d => d.parameters.length) = some 3 := ⟨⟨by decide, by decide⟩, by decide +kernel⟩
theorem cq_X6_shortestRing : (yX6_shortestRing.cls ≠ "java/lang/invoke/MethodHandle" ∧ yX6_shortestRing.cls ≠ "java/lang/invoke/VarHandle") ∧ (parseMethodDescriptor yX6_shortestRing.desc).map (fun d => d.parameters.length) = some 3 := ⟨⟨by decide, by decide⟩, by decide +kernel⟩
theorem cq_X6_stepsTo : (yX6_stepsTo.cls ≠ "java/lang/invoke/MethodHandle" ∧ yX6_stepsTo.cls ≠ "java/lang/invoke/VarHandle") ∧ (parseMethodDescriptor yX6_stepsTo.desc).map (fun d => d.parameters.length) = some 2 := ⟨⟨by decide, by decide⟩, by decide +kernel⟩
theorem cq_X7_init : (yX7_init.cls ≠ "java/lang/invoke/MethodHandle" ∧ yX7_init.cls ≠ "java/lang/invoke/VarHandle") ∧ (parseMethodDescriptor yX7_init.desc).map (fun d => d.parameters.length) = some 0 := ⟨⟨by decide, by decide⟩, by decide +kernel⟩
theorem cq_X9_init : (yX9_init.cls ≠ "java/lang/invoke/MethodHandle" ∧ yX9_init.cls ≠ "java/lang/invoke/VarHandle") ∧ (parseMethodDescriptor yX9_init.desc).map (fun d => d.parameters.length) = some 0 := ⟨⟨by decide, by decide⟩, by decide +kernel⟩
theorem ct_X0_0 : parseFieldDescriptor (TX0 0).2.2.1 = some (.array .long) := by decide +kernel
theorem ct_X0_1 : parseFieldDescriptor (TX0 1).2.2.1 = some (.array .long) := by decide +kernel
theorem ct_X0_2 : parseFieldDescriptor (TX0 2).2.2.1 = some (.array .boolean) := by decide +kernel
theorem ct_X0_3 : parseFieldDescriptor (TX0 3).2.2.1 = some (.array .boolean) := by decide +kernel
theorem ct_X0_4 : parseFieldDescriptor (TX0 4).2.2.1 = some (.array .int) := by decide +kernel
theorem ct_X10_0 : parseFieldDescriptor (TX10 0).2.2.1 = some (.array .byte) := by decide +kernel
theorem ct_X10_11 : parseFieldDescriptor (TX10 11).2.2.1 = some (.array .int) := by decide +kernel
theorem ct_X10_12 : parseFieldDescriptor (TX10 12).2.2.1 = some (.array .int) := by decide +kernel
theorem ct_X10_14 : parseFieldDescriptor (TX10 14).2.2.1 = some (.array .int) := by decide +kernel
theorem ct_X10_16 : parseFieldDescriptor (TX10 16).2.2.1 = some (.array .int) := by decide +kernel
theorem ct_X10_2 : parseFieldDescriptor (TX10 2).2.2.1 = some (.object "ReplyStamps$Union") := by decide +kernel
theorem ct_X10_5 : parseFieldDescriptor (TX10 5).2.2.1 = some (.object "ReplyStamps$State") := by decide +kernel
theorem ct_X10_6 : parseFieldDescriptor (TX10 6).2.2.1 = some (.object "ReplyStamps$State") := by decide +kernel
theorem ct_X10_7 : parseFieldDescriptor (TX10 7).2.2.1 = some (.object "ReplyStamps$Office") := by decide +kernel
theorem ct_X10_8 : parseFieldDescriptor (TX10 8).2.2.1 = some (.object "ReplyStamps$Draws") := by decide +kernel
theorem ct_X10_9 : parseFieldDescriptor (TX10 9).2.2.1 = some (.array (.object "ReplyStamps$State")) := by decide +kernel
theorem ct_X2_0 : parseFieldDescriptor (TX2 0).2.2.1 = some (.array .int) := by decide +kernel
theorem ct_X2_2 : parseFieldDescriptor (TX2 2).2.2.1 = some (.array .int) := by decide +kernel
theorem ct_X4_0 : parseFieldDescriptor (TX4 0).2.2.1 = some (.array .int) := by decide +kernel
theorem ct_X7_1 : parseFieldDescriptor (TX7 1).2.2.1 = some (.array .int) := by decide +kernel
theorem ct_X7_2 : parseFieldDescriptor (TX7 2).2.2.1 = some (.array .int) := by decide +kernel
theorem ct_X7_3 : parseFieldDescriptor (TX7 3).2.2.1 = some (.array .int) := by decide +kernel
theorem ct_X7_5 : parseFieldDescriptor (TX7 5).2.2.1 = some (.array .int) := by decide +kernel
theorem ct_X7_6 : parseFieldDescriptor (TX7 6).2.2.1 = some (.array .int) := by decide +kernel
theorem ct_X7_8 : parseFieldDescriptor (TX7 8).2.2.1 = some (.array .int) := by decide +kernel
theorem ct_X8_0 : parseFieldDescriptor (TX8 0).2.2.1 = some (.array .int) := by decide +kernel
theorem ct_X8_1 : parseFieldDescriptor (TX8 1).2.2.1 = some (.array .int) := by decide +kernel
theorem ct_X8_2 : parseFieldDescriptor (TX8 2).2.2.1 = some (.array .int) := by decide +kernel
theorem ct_X9_10 : parseFieldDescriptor (TX9 10).2.2.1 = some (.array .int) := by decide +kernel
theorem ct_X9_5 : parseFieldDescriptor (TX9 5).2.2.1 = some (.array .int) := by decide +kernel
theorem ct_X9_6 : parseFieldDescriptor (TX9 6).2.2.1 = some (.array .int) := by decide +kernel
theorem ct_X9_7 : parseFieldDescriptor (TX9 7).2.2.1 = some (.array .int) := by decide +kernel
theorem ct_X9_8 : parseFieldDescriptor (TX9 8).2.2.1 = some (.array .int) := by decide +kernel
theorem ct_X9_9 : parseFieldDescriptor (TX9 9).2.2.1 = some (.array .int) := by decide +kernel
theorem cw_J7_copyOf_59c91 : Cond.code yJ7_copyOf_59c91 cJ7_copyOf_59c91 3 ((some (.array .int))) ∈ zTB ∧ Cond.initialized yJ7_copyOf_59c91.cls ∈ zTB ∧ Cond.static yJ7_copyOf_59c91 ∈ zTB := ⟨zmT3 64 rfl rfl, zmT1 14 rfl rfl, zmT3 63 rfl rfl⟩
theorem cw_X0_seekBest : Cond.code yX0_seekBest cX0_seekBest 4 (none) ∈ zTB ∧ Cond.initialized yX0_seekBest.cls ∈ zTB ∧ Cond.instanceMethod yX0_seekBest ∈ zTB ∧ Cond.selects yX0_seekBest.cls yX0_seekBest yX0_seekBest ∈ zTB := ⟨zmT4 119 rfl rfl, zmT1 18 rfl rfl, zmT4 118 rfl rfl, zmT0 62 (by decide +kernel) rfl⟩
theorem cw_X0_weigh : Cond.code yX0_weigh cX0_weigh 8 (none) ∈ zTB ∧ Cond.initialized yX0_weigh.cls ∈ zTB ∧ Cond.instanceMethod yX0_weigh ∈ zTB ∧ Cond.selects yX0_weigh.cls yX0_weigh yX0_weigh ∈ zTB := ⟨zmT4 110 rfl rfl, zmT1 18 rfl rfl, zmT4 109 rfl rfl, zmT0 61 (by decide +kernel) rfl⟩
theorem cw_X10_canGive : Cond.code yX10_canGive cX10_canGive 4 ((some .boolean)) ∈ zTB ∧ Cond.initialized yX10_canGive.cls ∈ zTB ∧ Cond.instanceMethod yX10_canGive ∈ zTB ∧ Cond.selects yX10_canGive.cls yX10_canGive yX10_canGive ∈ zTB := ⟨zmT4 176 rfl rfl, zmT1 1 rfl rfl, zmT4 175 rfl rfl, zmT0 71 (by decide +kernel) rfl⟩
theorem cw_X10_canPass : Cond.code yX10_canPass cX10_canPass 2 ((some .boolean)) ∈ zTB ∧ Cond.initialized yX10_canPass.cls ∈ zTB ∧ Cond.instanceMethod yX10_canPass ∈ zTB ∧ Cond.selects yX10_canPass.cls yX10_canPass yX10_canPass ∈ zTB := ⟨zmT4 160 rfl rfl, zmT1 1 rfl rfl, zmT4 159 rfl rfl, zmT0 69 (by decide +kernel) rfl⟩
theorem cw_X10_remember : Cond.code yX10_remember cX10_remember 4 (none) ∈ zTB ∧ Cond.initialized yX10_remember.cls ∈ zTB ∧ Cond.instanceMethod yX10_remember ∈ zTB ∧ Cond.selects yX10_remember.cls yX10_remember yX10_remember ∈ zTB := ⟨zmT4 164 rfl rfl, zmT1 1 rfl rfl, zmT4 163 rfl rfl, zmT0 70 (by decide +kernel) rfl⟩
theorem cw_X2_seekCut : Cond.code yX2_seekCut cX2_seekCut 6 (none) ∈ zTB ∧ Cond.initialized yX2_seekCut.cls ∈ zTB ∧ Cond.instanceMethod yX2_seekCut ∈ zTB ∧ Cond.selects yX2_seekCut.cls yX2_seekCut yX2_seekCut ∈ zTB := ⟨zmT4 57 rfl rfl, zmT1 17 rfl rfl, zmT4 56 rfl rfl, zmT0 60 (by decide +kernel) rfl⟩
theorem cw_X2_seekWide : Cond.code yX2_seekWide cX2_seekWide 5 (none) ∈ zTB ∧ Cond.initialized yX2_seekWide.cls ∈ zTB ∧ Cond.instanceMethod yX2_seekWide ∈ zTB ∧ Cond.selects yX2_seekWide.cls yX2_seekWide yX2_seekWide ∈ zTB := ⟨zmT4 24 rfl rfl, zmT1 17 rfl rfl, zmT4 23 rfl rfl, zmT0 54 (by decide +kernel) rfl⟩
theorem cw_X2_tell : Cond.code yX2_tell cX2_tell 2 ((some .int)) ∈ zTB ∧ Cond.initialized yX2_tell.cls ∈ zTB ∧ Cond.instanceMethod yX2_tell ∈ zTB ∧ Cond.selects yX2_tell.cls yX2_tell yX2_tell ∈ zTB := ⟨zmT4 49 rfl rfl, zmT1 17 rfl rfl, zmT4 48 rfl rfl, zmT0 59 (by decide +kernel) rfl⟩
theorem cw_X5_readCart : Cond.code yX5_readCart cX5_readCart 4 (none) ∈ zTB ∧ Cond.initialized yX5_readCart.cls ∈ zTB ∧ Cond.instanceMethod yX5_readCart ∈ zTB ∧ Cond.selects yX5_readCart.cls yX5_readCart yX5_readCart ∈ zTB := ⟨zmT2 209 rfl rfl, zmT1 7 rfl rfl, zmT2 208 rfl rfl, zmT0 15 (by decide +kernel) rfl⟩
theorem cw_X5_readHolds : Cond.code yX5_readHolds cX5_readHolds 4 (none) ∈ zTB ∧ Cond.initialized yX5_readHolds.cls ∈ zTB ∧ Cond.instanceMethod yX5_readHolds ∈ zTB ∧ Cond.selects yX5_readHolds.cls yX5_readHolds yX5_readHolds ∈ zTB := ⟨zmT2 237 rfl rfl, zmT1 7 rfl rfl, zmT2 236 rfl rfl, zmT0 22 (by decide +kernel) rfl⟩
theorem cw_X5_readRule : Cond.code yX5_readRule cX5_readRule 3 ((some (.array .int))) ∈ zTB ∧ Cond.initialized yX5_readRule.cls ∈ zTB ∧ Cond.instanceMethod yX5_readRule ∈ zTB ∧ Cond.selects yX5_readRule.cls yX5_readRule yX5_readRule ∈ zTB := ⟨zmT3 1 rfl rfl, zmT1 7 rfl rfl, zmT3 0 rfl rfl, zmT0 23 (by decide +kernel) rfl⟩
theorem cw_X5_readStatement : Cond.code yX5_readStatement cX5_readStatement 2 (none) ∈ zTB ∧ Cond.initialized yX5_readStatement.cls ∈ zTB ∧ Cond.instanceMethod yX5_readStatement ∈ zTB ∧ Cond.selects yX5_readStatement.cls yX5_readStatement yX5_readStatement ∈ zTB := ⟨zmT2 193 rfl rfl, zmT1 7 rfl rfl, zmT2 192 rfl rfl, zmT0 11 (by decide +kernel) rfl⟩
theorem cw_X5_readTown : Cond.code yX5_readTown cX5_readTown 1 (none) ∈ zTB ∧ Cond.initialized yX5_readTown.cls ∈ zTB ∧ Cond.instanceMethod yX5_readTown ∈ zTB ∧ Cond.selects yX5_readTown.cls yX5_readTown yX5_readTown ∈ zTB := ⟨zmT2 197 rfl rfl, zmT1 7 rfl rfl, zmT2 196 rfl rfl, zmT0 12 (by decide +kernel) rfl⟩
theorem cw_X6_firstWith : Cond.code yX6_firstWith cX6_firstWith 6 ((some .int)) ∈ zTB ∧ Cond.initialized yX6_firstWith.cls ∈ zTB ∧ Cond.static yX6_firstWith ∈ zTB := ⟨zmT4 74 rfl rfl, zmT1 16 rfl rfl, zmT4 73 rfl rfl⟩
theorem cw_X6_nearest : Cond.code yX6_nearest cX6_nearest 6 ((some .int)) ∈ zTB ∧ Cond.initialized yX6_nearest.cls ∈ zTB ∧ Cond.static yX6_nearest ∈ zTB := ⟨zmT4 70 rfl rfl, zmT1 16 rfl rfl, zmT4 69 rfl rfl⟩
theorem cw_X6_shortestRing : Cond.code yX6_shortestRing cX6_shortestRing 8 ((some .int)) ∈ zTB ∧ Cond.initialized yX6_shortestRing.cls ∈ zTB ∧ Cond.static yX6_shortestRing ∈ zTB := ⟨zmT4 64 rfl rfl, zmT1 16 rfl rfl, zmT4 63 rfl rfl⟩
theorem cw_X6_stepsTo : Cond.code yX6_stepsTo cX6_stepsTo 6 ((some (.array .int))) ∈ zTB ∧ Cond.initialized yX6_stepsTo.cls ∈ zTB ∧ Cond.static yX6_stepsTo ∈ zTB := ⟨zmT4 67 rfl rfl, zmT1 16 rfl rfl, zmT4 66 rfl rfl⟩
theorem cx_X0_init : Cond.code yX0_init cX0_init 1 (none) ∈ zTB ∧ Cond.initialized yX0_init.cls ∈ zTB ∧ Cond.instanceMethod yX0_init ∈ zTB ∧ yX0_init.name = "<init>" := ⟨zmT4 83 rfl rfl, zmT1 18 rfl rfl, zmT4 82 rfl rfl, rfl⟩
theorem cx_X1_init : Cond.code yX1_init cX1_init 1 (none) ∈ zTB ∧ Cond.initialized yX1_init.cls ∈ zTB ∧ Cond.instanceMethod yX1_init ∈ zTB ∧ yX1_init.name = "<init>" := ⟨zmT1 187 rfl rfl, zmT1 5 rfl rfl, zmT1 186 rfl rfl, rfl⟩
theorem cx_X2_init : Cond.code yX2_init cX2_init 1 (none) ∈ zTB ∧ Cond.initialized yX2_init.cls ∈ zTB ∧ Cond.instanceMethod yX2_init ∈ zTB ∧ yX2_init.name = "<init>" := ⟨zmT3 234 rfl rfl, zmT1 17 rfl rfl, zmT3 233 rfl rfl, rfl⟩
theorem cx_X4_init : Cond.code yX4_init cX4_init 1 (none) ∈ zTB ∧ Cond.initialized yX4_init.cls ∈ zTB ∧ Cond.instanceMethod yX4_init ∈ zTB ∧ yX4_init.name = "<init>" := ⟨zmT1 177 rfl rfl, zmT1 4 rfl rfl, zmT1 176 rfl rfl, rfl⟩
theorem cx_X7_init : Cond.code yX7_init cX7_init 1 (none) ∈ zTB ∧ Cond.initialized yX7_init.cls ∈ zTB ∧ Cond.instanceMethod yX7_init ∈ zTB ∧ yX7_init.name = "<init>" := ⟨zmT1 104 rfl rfl, zmT1 3 rfl rfl, zmT1 103 rfl rfl, rfl⟩
theorem cx_X9_init : Cond.code yX9_init cX9_init 1 (none) ∈ zTB ∧ Cond.initialized yX9_init.cls ∈ zTB ∧ Cond.instanceMethod yX9_init ∈ zTB ∧ yX9_init.name = "<init>" := ⟨zmT1 32 rfl rfl, zmT1 2 rfl rfl, zmT1 31 rfl rfl, rfl⟩
theorem cz_X0_15 : ((zcl[0]? = some (RX0, TX0, 6) ∧ 0 < 100 ∧ ∀ q ∈ u_ws RX0 TX0 6, q ∈ zTB) ∧ 1 < 6 ∧ (zft 0)[1]? = some 2 ∧ (TX0 1).1 = RX0) ∧ Cond.fieldLink RX0 15 RX0 (TX0 1).2.1 (TX0 1).2.2.1 ∈ zTB := ⟨⟨ci_X0, by decide, rfl, rfl⟩, zmT4 86 (by decide +kernel) rfl⟩
theorem cz_X0_18 : ((zcl[0]? = some (RX0, TX0, 6) ∧ 0 < 100 ∧ ∀ q ∈ u_ws RX0 TX0 6, q ∈ zTB) ∧ 2 < 6 ∧ (zft 0)[2]? = some 2 ∧ (TX0 2).1 = RX0) ∧ Cond.fieldLink RX0 18 RX0 (TX0 2).2.1 (TX0 2).2.2.1 ∈ zTB := ⟨⟨ci_X0, by decide, rfl, rfl⟩, zmT4 87 (by decide +kernel) rfl⟩
theorem cz_X0_22 : ((zcl[0]? = some (RX0, TX0, 6) ∧ 0 < 100 ∧ ∀ q ∈ u_ws RX0 TX0 6, q ∈ zTB) ∧ 3 < 6 ∧ (zft 0)[3]? = some 2 ∧ (TX0 3).1 = RX0) ∧ Cond.fieldLink RX0 22 RX0 (TX0 3).2.1 (TX0 3).2.2.1 ∈ zTB := ⟨⟨ci_X0, by decide, rfl, rfl⟩, zmT4 88 (by decide +kernel) rfl⟩
theorem cz_X0_25 : ((zcl[0]? = some (RX0, TX0, 6) ∧ 0 < 100 ∧ ∀ q ∈ u_ws RX0 TX0 6, q ∈ zTB) ∧ 4 < 6 ∧ (zft 0)[4]? = some 2 ∧ (TX0 4).1 = RX0) ∧ Cond.fieldLink RX0 25 RX0 (TX0 4).2.1 (TX0 4).2.2.1 ∈ zTB := ⟨⟨ci_X0, by decide, rfl, rfl⟩, zmT4 89 (by decide +kernel) rfl⟩
theorem cz_X0_9 : ((zcl[0]? = some (RX0, TX0, 6) ∧ 0 < 100 ∧ ∀ q ∈ u_ws RX0 TX0 6, q ∈ zTB) ∧ 0 < 6 ∧ (zft 0)[0]? = some 2 ∧ (TX0 0).1 = RX0) ∧ Cond.fieldLink RX0 9 RX0 (TX0 0).2.1 (TX0 0).2.2.1 ∈ zTB := ⟨⟨ci_X0, by decide, rfl, rfl⟩, zmT4 85 (by decide +kernel) rfl⟩
theorem cz_X10_33 : ((zcl[8]? = some (RX10, TX10, 17) ∧ 8 < 100 ∧ ∀ q ∈ u_ws RX10 TX10 17, q ∈ zTB) ∧ 5 < 17 ∧ (zft 8)[5]? = some 2 ∧ (TX10 5).1 = RX10) ∧ Cond.fieldLink RX10 33 RX10 (TX10 5).2.1 (TX10 5).2.2.1 ∈ zTB := ⟨⟨ci_X10, by decide, rfl, rfl⟩, zmT1 200 (by decide +kernel) rfl⟩
theorem cz_X10_37 : ((zcl[8]? = some (RX10, TX10, 17) ∧ 8 < 100 ∧ ∀ q ∈ u_ws RX10 TX10 17, q ∈ zTB) ∧ 6 < 17 ∧ (zft 8)[6]? = some 2 ∧ (TX10 6).1 = RX10) ∧ Cond.fieldLink RX10 37 RX10 (TX10 6).2.1 (TX10 6).2.2.1 ∈ zTB := ⟨⟨ci_X10, by decide, rfl, rfl⟩, zmT1 201 (by decide +kernel) rfl⟩
theorem cz_X10_43 : ((zcl[8]? = some (RX10, TX10, 17) ∧ 8 < 100 ∧ ∀ q ∈ u_ws RX10 TX10 17, q ∈ zTB) ∧ 7 < 17 ∧ (zft 8)[7]? = some 2 ∧ (TX10 7).1 = RX10) ∧ Cond.fieldLink RX10 43 RX10 (TX10 7).2.1 (TX10 7).2.2.1 ∈ zTB := ⟨⟨ci_X10, by decide, rfl, rfl⟩, zmT1 202 (by decide +kernel) rfl⟩
theorem cz_X10_50 : ((zcl[8]? = some (RX10, TX10, 17) ∧ 8 < 100 ∧ ∀ q ∈ u_ws RX10 TX10 17, q ∈ zTB) ∧ 8 < 17 ∧ (zft 8)[8]? = some 2 ∧ (TX10 8).1 = RX10) ∧ Cond.fieldLink RX10 50 RX10 (TX10 8).2.1 (TX10 8).2.2.1 ∈ zTB := ⟨⟨ci_X10, by decide, rfl, rfl⟩, zmT1 203 (by decide +kernel) rfl⟩
theorem cz_X10_54 : ((zcl[8]? = some (RX10, TX10, 17) ∧ 8 < 100 ∧ ∀ q ∈ u_ws RX10 TX10 17, q ∈ zTB) ∧ 9 < 17 ∧ (zft 8)[9]? = some 2 ∧ (TX10 9).1 = RX10) ∧ Cond.fieldLink RX10 54 RX10 (TX10 9).2.1 (TX10 9).2.2.1 ∈ zTB := ⟨⟨ci_X10, by decide, rfl, rfl⟩, zmT1 204 (by decide +kernel) rfl⟩
theorem cz_X10_61 : ((zcl[8]? = some (RX10, TX10, 17) ∧ 8 < 100 ∧ ∀ q ∈ u_ws RX10 TX10 17, q ∈ zTB) ∧ 11 < 17 ∧ (zft 8)[11]? = some 2 ∧ (TX10 11).1 = RX10) ∧ Cond.fieldLink RX10 61 RX10 (TX10 11).2.1 (TX10 11).2.2.1 ∈ zTB := ⟨⟨ci_X10, by decide, rfl, rfl⟩, zmT1 206 (by decide +kernel) rfl⟩
theorem cz_X10_65 : ((zcl[8]? = some (RX10, TX10, 17) ∧ 8 < 100 ∧ ∀ q ∈ u_ws RX10 TX10 17, q ∈ zTB) ∧ 12 < 17 ∧ (zft 8)[12]? = some 2 ∧ (TX10 12).1 = RX10) ∧ Cond.fieldLink RX10 65 RX10 (TX10 12).2.1 (TX10 12).2.2.1 ∈ zTB := ⟨⟨ci_X10, by decide, rfl, rfl⟩, zmT1 207 (by decide +kernel) rfl⟩
theorem cz_X10_71 : ((zcl[8]? = some (RX10, TX10, 17) ∧ 8 < 100 ∧ ∀ q ∈ u_ws RX10 TX10 17, q ∈ zTB) ∧ 14 < 17 ∧ (zft 8)[14]? = some 2 ∧ (TX10 14).1 = RX10) ∧ Cond.fieldLink RX10 71 RX10 (TX10 14).2.1 (TX10 14).2.2.1 ∈ zTB := ⟨⟨ci_X10, by decide, rfl, rfl⟩, zmT1 209 (by decide +kernel) rfl⟩
theorem cz_X10_77 : ((zcl[8]? = some (RX10, TX10, 17) ∧ 8 < 100 ∧ ∀ q ∈ u_ws RX10 TX10 17, q ∈ zTB) ∧ 16 < 17 ∧ (zft 8)[16]? = some 2 ∧ (TX10 16).1 = RX10) ∧ Cond.fieldLink RX10 77 RX10 (TX10 16).2.1 (TX10 16).2.2.1 ∈ zTB := ⟨⟨ci_X10, by decide, rfl, rfl⟩, zmT1 211 (by decide +kernel) rfl⟩
theorem cz_X10_9 : ((zcl[8]? = some (RX10, TX10, 17) ∧ 8 < 100 ∧ ∀ q ∈ u_ws RX10 TX10 17, q ∈ zTB) ∧ 0 < 17 ∧ (zft 8)[0]? = some 2 ∧ (TX10 0).1 = RX10) ∧ Cond.fieldLink RX10 9 RX10 (TX10 0).2.1 (TX10 0).2.2.1 ∈ zTB := ⟨⟨ci_X10, by decide, rfl, rfl⟩, zmT1 195 (by decide +kernel) rfl⟩
theorem cz_X2_19 : ((zcl[2]? = some (RX2, TX2, 8) ∧ 2 < 100 ∧ ∀ q ∈ u_ws RX2 TX2 8, q ∈ zTB) ∧ 2 < 8 ∧ (zft 2)[2]? = some 2 ∧ (TX2 2).1 = RX2) ∧ Cond.fieldLink RX2 19 RX2 (TX2 2).2.1 (TX2 2).2.2.1 ∈ zTB := ⟨⟨ci_X2, by decide, rfl, rfl⟩, zmT3 238 (by decide +kernel) rfl⟩
theorem cz_X2_9 : ((zcl[2]? = some (RX2, TX2, 8) ∧ 2 < 100 ∧ ∀ q ∈ u_ws RX2 TX2 8, q ∈ zTB) ∧ 0 < 8 ∧ (zft 2)[0]? = some 2 ∧ (TX2 0).1 = RX2) ∧ Cond.fieldLink RX2 9 RX2 (TX2 0).2.1 (TX2 0).2.2.1 ∈ zTB := ⟨⟨ci_X2, by decide, rfl, rfl⟩, zmT3 236 (by decide +kernel) rfl⟩
theorem cz_X4_11 : ((zcl[3]? = some (RX4, TX4, 1) ∧ 3 < 100 ∧ ∀ q ∈ u_ws RX4 TX4 1, q ∈ zTB) ∧ 0 < 1 ∧ (zft 3)[0]? = some 2 ∧ (TX4 0).1 = RX4) ∧ Cond.fieldLink RX4 11 RX4 (TX4 0).2.1 (TX4 0).2.2.1 ∈ zTB := ⟨⟨ci_X4, by decide, rfl, rfl⟩, zmT1 179 (by decide +kernel) rfl⟩
theorem cz_X7_15 : ((zcl[5]? = some (RX7, TX7, 12) ∧ 5 < 100 ∧ ∀ q ∈ u_ws RX7 TX7 12, q ∈ zTB) ∧ 1 < 12 ∧ (zft 5)[1]? = some 2 ∧ (TX7 1).1 = RX7) ∧ Cond.fieldLink RX7 15 RX7 (TX7 1).2.1 (TX7 1).2.2.1 ∈ zTB := ⟨⟨ci_X7, by decide, rfl, rfl⟩, zmT1 110 (by decide +kernel) rfl⟩
theorem cz_X7_19 : ((zcl[5]? = some (RX7, TX7, 12) ∧ 5 < 100 ∧ ∀ q ∈ u_ws RX7 TX7 12, q ∈ zTB) ∧ 2 < 12 ∧ (zft 5)[2]? = some 2 ∧ (TX7 2).1 = RX7) ∧ Cond.fieldLink RX7 19 RX7 (TX7 2).2.1 (TX7 2).2.2.1 ∈ zTB := ⟨⟨ci_X7, by decide, rfl, rfl⟩, zmT1 116 (by decide +kernel) rfl⟩
theorem cz_X7_22 : ((zcl[5]? = some (RX7, TX7, 12) ∧ 5 < 100 ∧ ∀ q ∈ u_ws RX7 TX7 12, q ∈ zTB) ∧ 3 < 12 ∧ (zft 5)[3]? = some 2 ∧ (TX7 3).1 = RX7) ∧ Cond.fieldLink RX7 22 RX7 (TX7 3).2.1 (TX7 3).2.2.1 ∈ zTB := ⟨⟨ci_X7, by decide, rfl, rfl⟩, zmT1 120 (by decide +kernel) rfl⟩
theorem cz_X7_28 : ((zcl[5]? = some (RX7, TX7, 12) ∧ 5 < 100 ∧ ∀ q ∈ u_ws RX7 TX7 12, q ∈ zTB) ∧ 5 < 12 ∧ (zft 5)[5]? = some 2 ∧ (TX7 5).1 = RX7) ∧ Cond.fieldLink RX7 28 RX7 (TX7 5).2.1 (TX7 5).2.2.1 ∈ zTB := ⟨⟨ci_X7, by decide, rfl, rfl⟩, zmT1 128 (by decide +kernel) rfl⟩
theorem cz_X7_31 : ((zcl[5]? = some (RX7, TX7, 12) ∧ 5 < 100 ∧ ∀ q ∈ u_ws RX7 TX7 12, q ∈ zTB) ∧ 6 < 12 ∧ (zft 5)[6]? = some 2 ∧ (TX7 6).1 = RX7) ∧ Cond.fieldLink RX7 31 RX7 (TX7 6).2.1 (TX7 6).2.2.1 ∈ zTB := ⟨⟨ci_X7, by decide, rfl, rfl⟩, zmT1 132 (by decide +kernel) rfl⟩
theorem cz_X7_37 : ((zcl[5]? = some (RX7, TX7, 12) ∧ 5 < 100 ∧ ∀ q ∈ u_ws RX7 TX7 12, q ∈ zTB) ∧ 8 < 12 ∧ (zft 5)[8]? = some 2 ∧ (TX7 8).1 = RX7) ∧ Cond.fieldLink RX7 37 RX7 (TX7 8).2.1 (TX7 8).2.2.1 ∈ zTB := ⟨⟨ci_X7, by decide, rfl, rfl⟩, zmT1 138 (by decide +kernel) rfl⟩
theorem cz_X8_19 : ((zcl[6]? = some (RX8, TX8, 4) ∧ 6 < 100 ∧ ∀ q ∈ u_ws RX8 TX8 4, q ∈ zTB) ∧ 0 < 4 ∧ (zft 6)[0]? = some 2 ∧ (TX8 0).1 = RX8) ∧ Cond.fieldLink RX8 19 RX8 (TX8 0).2.1 (TX8 0).2.2.1 ∈ zTB := ⟨⟨ci_X8, by decide, rfl, rfl⟩, zmT2 44 (by decide +kernel) rfl⟩
theorem cz_X8_23 : ((zcl[6]? = some (RX8, TX8, 4) ∧ 6 < 100 ∧ ∀ q ∈ u_ws RX8 TX8 4, q ∈ zTB) ∧ 1 < 4 ∧ (zft 6)[1]? = some 2 ∧ (TX8 1).1 = RX8) ∧ Cond.fieldLink RX8 23 RX8 (TX8 1).2.1 (TX8 1).2.2.1 ∈ zTB := ⟨⟨ci_X8, by decide, rfl, rfl⟩, zmT2 46 (by decide +kernel) rfl⟩
theorem cz_X8_26 : ((zcl[6]? = some (RX8, TX8, 4) ∧ 6 < 100 ∧ ∀ q ∈ u_ws RX8 TX8 4, q ∈ zTB) ∧ 2 < 4 ∧ (zft 6)[2]? = some 2 ∧ (TX8 2).1 = RX8) ∧ Cond.fieldLink RX8 26 RX8 (TX8 2).2.1 (TX8 2).2.2.1 ∈ zTB := ⟨⟨ci_X8, by decide, rfl, rfl⟩, zmT2 48 (by decide +kernel) rfl⟩
theorem cz_X9_27 : ((zcl[7]? = some (RX9, TX9, 11) ∧ 7 < 100 ∧ ∀ q ∈ u_ws RX9 TX9 11, q ∈ zTB) ∧ 5 < 11 ∧ (zft 7)[5]? = some 2 ∧ (TX9 5).1 = RX9) ∧ Cond.fieldLink RX9 27 RX9 (TX9 5).2.1 (TX9 5).2.2.1 ∈ zTB := ⟨⟨ci_X9, by decide, rfl, rfl⟩, zmT1 52 (by decide +kernel) rfl⟩
theorem cz_X9_31 : ((zcl[7]? = some (RX9, TX9, 11) ∧ 7 < 100 ∧ ∀ q ∈ u_ws RX9 TX9 11, q ∈ zTB) ∧ 6 < 11 ∧ (zft 7)[6]? = some 2 ∧ (TX9 6).1 = RX9) ∧ Cond.fieldLink RX9 31 RX9 (TX9 6).2.1 (TX9 6).2.2.1 ∈ zTB := ⟨⟨ci_X9, by decide, rfl, rfl⟩, zmT1 55 (by decide +kernel) rfl⟩
theorem cz_X9_34 : ((zcl[7]? = some (RX9, TX9, 11) ∧ 7 < 100 ∧ ∀ q ∈ u_ws RX9 TX9 11, q ∈ zTB) ∧ 7 < 11 ∧ (zft 7)[7]? = some 2 ∧ (TX9 7).1 = RX9) ∧ Cond.fieldLink RX9 34 RX9 (TX9 7).2.1 (TX9 7).2.2.1 ∈ zTB := ⟨⟨ci_X9, by decide, rfl, rfl⟩, zmT1 59 (by decide +kernel) rfl⟩
