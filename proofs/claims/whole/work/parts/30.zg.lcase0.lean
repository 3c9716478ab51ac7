set_option maxHeartbeats 4000000 in
set_option maxRecDepth 100000 in
theorem lc_feed {I : Nat → zS → zI → zL → Prop} (hI : LI I) : lCase I 0 172 := by
  intro M D cy b0 Lx xs sa sb j S V L ad ad2 ls X hM hL hj hS hWF hl kk
  obtain ⟨v, S', V', L', hC, hR, hI2⟩ := hI.2.1 j 0 (fun t => xs (6 * j + t)) S V L (by omega) (by decide) hS
  obtain ⟨h0, hc0, hq0⟩ := hI.1 _ _ _ _ hS
  obtain ⟨-, hcc, hqq⟩ := hI.1 _ _ _ _ hI2
  obtain ⟨n, c, q, K, N, G, V1, L1⟩ := S
  have hR : f_feed (xs (6 * j + 1)) (xs (6 * j + 2)) (xs (6 * j + 3)) (xs (6 * j + 4)) (xs (6 * j + 5)) V L = some (v, V', L') := hR
  have hC : (f_X10_feed N G 0 (xs (6 * j + 1)) (xs (6 * j + 2)) (xs (6 * j + 3)) (xs (6 * j + 4)) (xs (6 * j + 5)) V1 L1).bind (fun r => some (r.1, (n, 0, 0, K, N, G, r.2.1, r.2.2))) = some (v, S') := hC
  obtain ⟨r1, hc1, hC⟩ := z_bind hC
  obtain ⟨rfl, rfl⟩ := Prod.mk.inj (Option.some.inj hC)
  have X1 := LX.at X (c' := c) (q' := q) ⟨by rw [hM.1]; exact hc0, by rw [hM.2]; exact hq0⟩
  refine zl_aload_n X1 dL_law_172 rfl (lv_at hl 1 rfl) ?_
  refine zl_aload_n X1 dL_law_173 rfl (lv_at hl 0 rfl) ?_
  refine zl_iload_n X1 dL_law_174 rfl (lv_at hl 3 rfl) ?_
  refine zl_iconst (v := 1) X1 dL_law_175 (by decide) ?_
  refine zl_iadd X1 dL_law_176 ?_
  refine zl_sldK X1 (zl_ix hj hL (t := 1) (by decide)) dL_law_177 ?_
  refine zl_aload_n X1 dL_law_178 rfl (lv_at hl 0 rfl) ?_
  refine zl_iload_n X1 dL_law_179 rfl (lv_at hl 3 rfl) ?_
  refine zl_iconst (v := 2) X1 dL_law_180 (by decide) ?_
  refine zl_iadd X1 dL_law_181 ?_
  refine zl_sldK X1 (zl_ix hj hL (t := 2) (by decide)) dL_law_182 ?_
  refine zl_aload_n X1 dL_law_183 rfl (lv_at hl 0 rfl) ?_
  refine zl_iload_n X1 dL_law_184 rfl (lv_at hl 3 rfl) ?_
  refine zl_iconst (v := 3) X1 dL_law_185 (by decide) ?_
  refine zl_iadd X1 dL_law_186 ?_
  refine zl_sldK X1 (zl_ix hj hL (t := 3) (by decide)) dL_law_187 ?_
  refine zl_aload_n X1 dL_law_188 rfl (lv_at hl 0 rfl) ?_
  refine zl_iload_n X1 dL_law_189 rfl (lv_at hl 3 rfl) ?_
  refine zl_iconst (v := 4) X1 dL_law_190 (by decide) ?_
  refine zl_iadd X1 dL_law_191 ?_
  refine zl_sldK X1 (zl_ix hj hL (t := 4) (by decide)) dL_law_192 ?_
  refine zl_aload_n X1 dL_law_193 rfl (lv_at hl 0 rfl) ?_
  refine zl_iload_n X1 dL_law_194 rfl (lv_at hl 3 rfl) ?_
  refine zl_iconst (v := 5) X1 dL_law_195 (by decide) ?_
  refine zl_iadd X1 dL_law_196 ?_
  refine zl_sldK X1 (zl_ix hj hL (t := 5) (by decide)) dL_law_197 ?_
  refine zl_callT [.int (xs (6 * j + 1)), .int (xs (6 * j + 2)), .int (xs (6 * j + 3)), .int (xs (6 * j + 4)), .int (xs (6 * j + 5))] X1 hl.1 (RCi.toT hWF (c_X10_feed D cy ad hWF h0 hc1)) h0 rfl lm_C_feed lg_C_feed rfl lp_C_feed ⟨by decide, by decide⟩ (Nat.le_of_ble_eq_true rfl) rfl ⟨by rw [hM.1]; exact hcc, by rw [hM.2]; exact hqq⟩ dL_law_198 (fun ad' hag hWF2 hnn hKg => ?_)
  have X2 := LX.at X1 (c' := _) (q' := _) ⟨Nat.le_trans hcc (Nat.le_of_eq hM.1.symm), Nat.le_trans hqq (Nat.le_of_eq hM.2.symm)⟩
  refine zl_aload_n X2 dL_law_201 rfl (lv_at hl 2 rfl) ?_
  refine zl_aload_n X2 dL_law_202 rfl (lv_at hl 0 rfl) ?_
  refine zl_iload_n X2 dL_law_203 rfl (lv_at hl 3 rfl) ?_
  refine zl_iconst (v := 1) X2 dL_law_204 (by decide) ?_
  refine zl_iadd X2 dL_law_205 ?_
  refine zl_sldK X2 (zl_ix hj hL (t := 1) (by decide)) dL_law_206 ?_
  refine zl_aload_n X2 dL_law_207 rfl (lv_at hl 0 rfl) ?_
  refine zl_iload_n X2 dL_law_208 rfl (lv_at hl 3 rfl) ?_
  refine zl_iconst (v := 2) X2 dL_law_209 (by decide) ?_
  refine zl_iadd X2 dL_law_210 ?_
  refine zl_sldK X2 (zl_ix hj hL (t := 2) (by decide)) dL_law_211 ?_
  refine zl_aload_n X2 dL_law_212 rfl (lv_at hl 0 rfl) ?_
  refine zl_iload_n X2 dL_law_213 rfl (lv_at hl 3 rfl) ?_
  refine zl_iconst (v := 3) X2 dL_law_214 (by decide) ?_
  refine zl_iadd X2 dL_law_215 ?_
  refine zl_sldK X2 (zl_ix hj hL (t := 3) (by decide)) dL_law_216 ?_
  refine zl_aload_n X2 dL_law_217 rfl (lv_at hl 0 rfl) ?_
  refine zl_iload_n X2 dL_law_218 rfl (lv_at hl 3 rfl) ?_
  refine zl_iconst (v := 4) X2 dL_law_219 (by decide) ?_
  refine zl_iadd X2 dL_law_220 ?_
  refine zl_sldK X2 (zl_ix hj hL (t := 4) (by decide)) dL_law_221 ?_
  refine zl_aload_n X2 dL_law_222 rfl (lv_at hl 0 rfl) ?_
  refine zl_iload_n X2 dL_law_223 rfl (lv_at hl 3 rfl) ?_
  refine zl_iconst (v := 5) X2 dL_law_224 (by decide) ?_
  refine zl_iadd X2 dL_law_225 ?_
  refine zl_sldK X2 (zl_ix hj hL (t := 5) (by decide)) dL_law_226 ?_
  refine zl_callM [.int (xs (6 * j + 1)), .int (xs (6 * j + 2)), .int (xs (6 * j + 3)), .int (xs (6 * j + 4)), .int (xs (6 * j + 5))] X2 hl.1 (c_feed D cy ad2 hR) rfl lm_M_feed lg_M_feed rfl lp_M_feed ⟨by decide, by decide⟩ (Nat.le_of_ble_eq_true rfl) rfl dL_law_227 ?_
  refine zl_icmp_eq (tgt := 1025) X2 dL_law_230 (by decide) (fun _ => ?_) (fun c_ => absurd rfl c_)
  exact kk _ V' L' ad' hI2 hWF2 (hag 0 h0.1)
set_option maxHeartbeats 4000000 in
set_option maxRecDepth 100000 in
theorem lc_end {I : Nat → zS → zI → zL → Prop} (hI : LI I) : lCase I 1 235 := by
  intro M D cy b0 Lx xs sa sb j S V L ad ad2 ls X hM hL hj hS hWF hl kk
  obtain ⟨v, S', V', L', hC, hR, hI2⟩ := hI.2.1 j 1 (fun t => xs (6 * j + t)) S V L (by omega) (by decide) hS
  obtain ⟨h0, hc0, hq0⟩ := hI.1 _ _ _ _ hS
  obtain ⟨-, hcc, hqq⟩ := hI.1 _ _ _ _ hI2
  obtain ⟨n, c, q, K, N, G, V1, L1⟩ := S
  have hR : f_end (xs (6 * j + 1)) V L = some (v, V', L') := hR
  have hC : (f_X10_end N G 0 (xs (6 * j + 1)) V1 L1).bind (fun r => some (r.1, (n, 0, 0, K, N, G, r.2.1, r.2.2))) = some (v, S') := hC
  obtain ⟨r1, hc1, hC⟩ := z_bind hC
  obtain ⟨rfl, rfl⟩ := Prod.mk.inj (Option.some.inj hC)
  have X1 := LX.at X (c' := c) (q' := q) ⟨by rw [hM.1]; exact hc0, by rw [hM.2]; exact hq0⟩
  refine zl_aload_n X1 dL_law_235 rfl (lv_at hl 1 rfl) ?_
  refine zl_aload_n X1 dL_law_236 rfl (lv_at hl 0 rfl) ?_
  refine zl_iload_n X1 dL_law_237 rfl (lv_at hl 3 rfl) ?_
  refine zl_iconst (v := 1) X1 dL_law_238 (by decide) ?_
  refine zl_iadd X1 dL_law_239 ?_
  refine zl_sldK X1 (zl_ix hj hL (t := 1) (by decide)) dL_law_240 ?_
  refine zl_callT [.int (xs (6 * j + 1))] X1 hl.1 (RCi.toT hWF (c_X10_end D cy ad hWF h0 hc1)) h0 rfl lm_C_end lg_C_end rfl lp_C_end ⟨by decide, by decide⟩ (Nat.le_of_ble_eq_true rfl) rfl ⟨by rw [hM.1]; exact hcc, by rw [hM.2]; exact hqq⟩ dL_law_241 (fun ad' hag hWF2 hnn hKg => ?_)
  have X2 := LX.at X1 (c' := _) (q' := _) ⟨Nat.le_trans hcc (Nat.le_of_eq hM.1.symm), Nat.le_trans hqq (Nat.le_of_eq hM.2.symm)⟩
  refine zl_aload_n X2 dL_law_244 rfl (lv_at hl 2 rfl) ?_
  refine zl_aload_n X2 dL_law_245 rfl (lv_at hl 0 rfl) ?_
  refine zl_iload_n X2 dL_law_246 rfl (lv_at hl 3 rfl) ?_
  refine zl_iconst (v := 1) X2 dL_law_247 (by decide) ?_
  refine zl_iadd X2 dL_law_248 ?_
  refine zl_sldK X2 (zl_ix hj hL (t := 1) (by decide)) dL_law_249 ?_
  refine zl_callM [.int (xs (6 * j + 1))] X2 hl.1 (c_end D cy ad2 hR) rfl lm_M_end lg_M_end rfl lp_M_end ⟨by decide, by decide⟩ (Nat.le_of_ble_eq_true rfl) rfl dL_law_250 ?_
  refine zl_icmp_eq (tgt := 1025) X2 dL_law_253 (by decide) (fun _ => ?_) (fun c_ => absurd rfl c_)
  exact kk _ V' L' ad' hI2 hWF2 (hag 0 h0.1)
set_option maxHeartbeats 4000000 in
set_option maxRecDepth 100000 in
theorem lc_union {I : Nat → zS → zI → zL → Prop} (hI : LI I) : lCase I 2 258 := by
  intro M D cy b0 Lx xs sa sb j S V L ad ad2 ls X hM hL hj hS hWF hl kk
  obtain ⟨v, S', V', L', hC, hR, hI2⟩ := hI.2.1 j 2 (fun t => xs (6 * j + t)) S V L (by omega) (by decide) hS
  obtain ⟨h0, hc0, hq0⟩ := hI.1 _ _ _ _ hS
  obtain ⟨-, hcc, hqq⟩ := hI.1 _ _ _ _ hI2
  obtain ⟨n, c, q, K, N, G, V1, L1⟩ := S
  have hR : f_union  V L = some (v, V', L') := hR
  have hC : f_X10_union 0  n K N G V1 L1 = some (v, S') := hC
  have X1 := LX.at X (c' := c) (q' := q) ⟨by rw [hM.1]; exact hc0, by rw [hM.2]; exact hq0⟩
  refine zl_aload_n X1 dL_law_258 rfl (lv_at hl 1 rfl) ?_
  refine zl_callT [] X1 hl.1 (c_X10_union D cy ad hWF h0 hC) h0 rfl lm_C_union lg_C_union rfl lp_C_union ⟨by decide, by decide⟩ (Nat.le_of_ble_eq_true rfl) rfl ⟨by rw [hM.1]; exact hcc, by rw [hM.2]; exact hqq⟩ dL_law_259 (fun ad' hag hWF2 hnn hKg => ?_)
  have X2 := LX.at X1 (c' := _) (q' := _) ⟨Nat.le_trans hcc (Nat.le_of_eq hM.1.symm), Nat.le_trans hqq (Nat.le_of_eq hM.2.symm)⟩
  refine zl_aload_n X2 dL_law_262 rfl (lv_at hl 2 rfl) ?_
  refine zl_callM [] X2 hl.1 (c_union D cy ad2 hR) rfl lm_M_union lg_M_union rfl lp_M_union ⟨by decide, by decide⟩ (Nat.le_of_ble_eq_true rfl) rfl dL_law_263 ?_
  refine zl_icmp_eq (tgt := 1025) X2 dL_law_266 (by decide) (fun _ => ?_) (fun c_ => absurd rfl c_)
  exact kk _ V' L' ad' hI2 hWF2 (hag 0 h0.1)
set_option maxHeartbeats 4000000 in
set_option maxRecDepth 100000 in
theorem lc_fault {I : Nat → zS → zI → zL → Prop} (hI : LI I) : lCase I 3 271 := by
  intro M D cy b0 Lx xs sa sb j S V L ad ad2 ls X hM hL hj hS hWF hl kk
  obtain ⟨v, S', V', L', hC, hR, hI2⟩ := hI.2.1 j 3 (fun t => xs (6 * j + t)) S V L (by omega) (by decide) hS
  obtain ⟨h0, hc0, hq0⟩ := hI.1 _ _ _ _ hS
  obtain ⟨-, hcc, hqq⟩ := hI.1 _ _ _ _ hI2
  obtain ⟨n, c, q, K, N, G, V1, L1⟩ := S
  have hR : f_fault (xs (6 * j + 1)) V L = some (v, V', L') := hR
  have hC : (f_X10_fault N G 0 (xs (6 * j + 1)) V1 L1).bind (fun r => some (r, (n, 0, 0, K, N, G, V1, L1))) = some (v, S') := hC
  obtain ⟨r1, hc1, hC⟩ := z_bind hC
  obtain ⟨rfl, rfl⟩ := Prod.mk.inj (Option.some.inj hC)
  have X1 := LX.at X (c' := c) (q' := q) ⟨by rw [hM.1]; exact hc0, by rw [hM.2]; exact hq0⟩
  refine zl_aload_n X1 dL_law_271 rfl (lv_at hl 1 rfl) ?_
  refine zl_aload_n X1 dL_law_272 rfl (lv_at hl 0 rfl) ?_
  refine zl_iload_n X1 dL_law_273 rfl (lv_at hl 3 rfl) ?_
  refine zl_iconst (v := 1) X1 dL_law_274 (by decide) ?_
  refine zl_iadd X1 dL_law_275 ?_
  refine zl_sldK X1 (zl_ix hj hL (t := 1) (by decide)) dL_law_276 ?_
  refine zl_callT [.int (xs (6 * j + 1))] X1 hl.1 (RCi.toT hWF (c_X10_fault D cy ad hWF h0 hc1)) h0 rfl lm_C_fault lg_C_fault rfl lp_C_fault ⟨by decide, by decide⟩ (Nat.le_of_ble_eq_true rfl) rfl ⟨by rw [hM.1]; exact hcc, by rw [hM.2]; exact hqq⟩ dL_law_277 (fun ad' hag hWF2 hnn hKg => ?_)
  have X2 := LX.at X1 (c' := _) (q' := _) ⟨Nat.le_trans hcc (Nat.le_of_eq hM.1.symm), Nat.le_trans hqq (Nat.le_of_eq hM.2.symm)⟩
  refine zl_aload_n X2 dL_law_280 rfl (lv_at hl 2 rfl) ?_
  refine zl_aload_n X2 dL_law_281 rfl (lv_at hl 0 rfl) ?_
  refine zl_iload_n X2 dL_law_282 rfl (lv_at hl 3 rfl) ?_
  refine zl_iconst (v := 1) X2 dL_law_283 (by decide) ?_
  refine zl_iadd X2 dL_law_284 ?_
  refine zl_sldK X2 (zl_ix hj hL (t := 1) (by decide)) dL_law_285 ?_
  refine zl_callM [.int (xs (6 * j + 1))] X2 hl.1 (c_fault D cy ad2 hR) rfl lm_M_fault lg_M_fault rfl lp_M_fault ⟨by decide, by decide⟩ (Nat.le_of_ble_eq_true rfl) rfl dL_law_286 ?_
  refine zl_icmp_eq (tgt := 1025) X2 dL_law_289 (by decide) (fun _ => ?_) (fun c_ => absurd rfl c_)
  exact kk _ V' L' ad' hI2 hWF2 (hag 0 h0.1)
set_option maxHeartbeats 4000000 in
set_option maxRecDepth 100000 in
theorem lc_has {I : Nat → zS → zI → zL → Prop} (hI : LI I) : lCase I 4 294 := by
  intro M D cy b0 Lx xs sa sb j S V L ad ad2 ls X hM hL hj hS hWF hl kk
  obtain ⟨v, S', V', L', hC, hR, hI2⟩ := hI.2.1 j 4 (fun t => xs (6 * j + t)) S V L (by omega) (by decide) hS
  obtain ⟨h0, hc0, hq0⟩ := hI.1 _ _ _ _ hS
  obtain ⟨-, hcc, hqq⟩ := hI.1 _ _ _ _ hI2
  obtain ⟨n, c, q, K, N, G, V1, L1⟩ := S
  have hR : f_has (xs (6 * j + 1)) V L = some (v, V', L') := hR
  have hC : (f_X10_has N G 0 (xs (6 * j + 1)) V1 L1).bind (fun r => some (r, (n, 0, 0, K, N, G, V1, L1))) = some (v, S') := hC
  obtain ⟨r1, hc1, hC⟩ := z_bind hC
  obtain ⟨rfl, rfl⟩ := Prod.mk.inj (Option.some.inj hC)
  have X1 := LX.at X (c' := c) (q' := q) ⟨by rw [hM.1]; exact hc0, by rw [hM.2]; exact hq0⟩
  refine zl_aload_n X1 dL_law_294 rfl (lv_at hl 1 rfl) ?_
  refine zl_aload_n X1 dL_law_295 rfl (lv_at hl 0 rfl) ?_
  refine zl_iload_n X1 dL_law_296 rfl (lv_at hl 3 rfl) ?_
  refine zl_iconst (v := 1) X1 dL_law_297 (by decide) ?_
  refine zl_iadd X1 dL_law_298 ?_
  refine zl_sldK X1 (zl_ix hj hL (t := 1) (by decide)) dL_law_299 ?_
  refine zl_callT [.int (xs (6 * j + 1))] X1 hl.1 (RCi.toT hWF (c_X10_has D cy ad hWF h0 hc1)) h0 rfl lm_C_has lg_C_has rfl lp_C_has ⟨by decide, by decide⟩ (Nat.le_of_ble_eq_true rfl) rfl ⟨by rw [hM.1]; exact hcc, by rw [hM.2]; exact hqq⟩ dL_law_300 (fun ad' hag hWF2 hnn hKg => ?_)
  have X2 := LX.at X1 (c' := _) (q' := _) ⟨Nat.le_trans hcc (Nat.le_of_eq hM.1.symm), Nat.le_trans hqq (Nat.le_of_eq hM.2.symm)⟩
  refine zl_aload_n X2 dL_law_303 rfl (lv_at hl 2 rfl) ?_
  refine zl_aload_n X2 dL_law_304 rfl (lv_at hl 0 rfl) ?_
  refine zl_iload_n X2 dL_law_305 rfl (lv_at hl 3 rfl) ?_
  refine zl_iconst (v := 1) X2 dL_law_306 (by decide) ?_
  refine zl_iadd X2 dL_law_307 ?_
  refine zl_sldK X2 (zl_ix hj hL (t := 1) (by decide)) dL_law_308 ?_
  refine zl_callM [.int (xs (6 * j + 1))] X2 hl.1 (c_has D cy ad2 hR) rfl lm_M_has lg_M_has rfl lp_M_has ⟨by decide, by decide⟩ (Nat.le_of_ble_eq_true rfl) rfl dL_law_309 ?_
  refine zl_icmp_eq (tgt := 1025) X2 dL_law_312 (by decide) (fun _ => ?_) (fun c_ => absurd rfl c_)
  exact kk _ V' L' ad' hI2 hWF2 (hag 0 h0.1)
set_option maxHeartbeats 4000000 in
set_option maxRecDepth 100000 in
theorem lc_letter {I : Nat → zS → zI → zL → Prop} (hI : LI I) : lCase I 5 317 := by
  intro M D cy b0 Lx xs sa sb j S V L ad ad2 ls X hM hL hj hS hWF hl kk
  obtain ⟨v, S', V', L', hC, hR, hI2⟩ := hI.2.1 j 5 (fun t => xs (6 * j + t)) S V L (by omega) (by decide) hS
  obtain ⟨h0, hc0, hq0⟩ := hI.1 _ _ _ _ hS
  obtain ⟨-, hcc, hqq⟩ := hI.1 _ _ _ _ hI2
  obtain ⟨n, c, q, K, N, G, V1, L1⟩ := S
  have hR : f_letter (xs (6 * j + 1)) (xs (6 * j + 2)) V L = some (v, V', L') := hR
  have hC : (f_X10_letter N G 0 (xs (6 * j + 1)) (xs (6 * j + 2)) V1 L1).bind (fun r => some (r, (n, 0, 0, K, N, G, V1, L1))) = some (v, S') := hC
  obtain ⟨r1, hc1, hC⟩ := z_bind hC
  obtain ⟨rfl, rfl⟩ := Prod.mk.inj (Option.some.inj hC)
  have X1 := LX.at X (c' := c) (q' := q) ⟨by rw [hM.1]; exact hc0, by rw [hM.2]; exact hq0⟩
  refine zl_aload_n X1 dL_law_317 rfl (lv_at hl 1 rfl) ?_
  refine zl_aload_n X1 dL_law_318 rfl (lv_at hl 0 rfl) ?_
  refine zl_iload_n X1 dL_law_319 rfl (lv_at hl 3 rfl) ?_
  refine zl_iconst (v := 1) X1 dL_law_320 (by decide) ?_
  refine zl_iadd X1 dL_law_321 ?_
  refine zl_sldK X1 (zl_ix hj hL (t := 1) (by decide)) dL_law_322 ?_
  refine zl_aload_n X1 dL_law_323 rfl (lv_at hl 0 rfl) ?_
  refine zl_iload_n X1 dL_law_324 rfl (lv_at hl 3 rfl) ?_
  refine zl_iconst (v := 2) X1 dL_law_325 (by decide) ?_
  refine zl_iadd X1 dL_law_326 ?_
  refine zl_sldK X1 (zl_ix hj hL (t := 2) (by decide)) dL_law_327 ?_
  refine zl_callT [.int (xs (6 * j + 1)), .int (xs (6 * j + 2))] X1 hl.1 (RCi.toT hWF (c_X10_letter D cy ad hWF h0 hc1)) h0 rfl lm_C_letter lg_C_letter rfl lp_C_letter ⟨by decide, by decide⟩ (Nat.le_of_ble_eq_true rfl) rfl ⟨by rw [hM.1]; exact hcc, by rw [hM.2]; exact hqq⟩ dL_law_328 (fun ad' hag hWF2 hnn hKg => ?_)
  have X2 := LX.at X1 (c' := _) (q' := _) ⟨Nat.le_trans hcc (Nat.le_of_eq hM.1.symm), Nat.le_trans hqq (Nat.le_of_eq hM.2.symm)⟩
  refine zl_aload_n X2 dL_law_331 rfl (lv_at hl 2 rfl) ?_
  refine zl_aload_n X2 dL_law_332 rfl (lv_at hl 0 rfl) ?_
  refine zl_iload_n X2 dL_law_333 rfl (lv_at hl 3 rfl) ?_
  refine zl_iconst (v := 1) X2 dL_law_334 (by decide) ?_
  refine zl_iadd X2 dL_law_335 ?_
  refine zl_sldK X2 (zl_ix hj hL (t := 1) (by decide)) dL_law_336 ?_
  refine zl_aload_n X2 dL_law_337 rfl (lv_at hl 0 rfl) ?_
  refine zl_iload_n X2 dL_law_338 rfl (lv_at hl 3 rfl) ?_
  refine zl_iconst (v := 2) X2 dL_law_339 (by decide) ?_
  refine zl_iadd X2 dL_law_340 ?_
  refine zl_sldK X2 (zl_ix hj hL (t := 2) (by decide)) dL_law_341 ?_
  refine zl_callM [.int (xs (6 * j + 1)), .int (xs (6 * j + 2))] X2 hl.1 (c_letter D cy ad2 hR) rfl lm_M_letter lg_M_letter rfl lp_M_letter ⟨by decide, by decide⟩ (Nat.le_of_ble_eq_true rfl) rfl dL_law_342 ?_
  refine zl_icmp_eq (tgt := 1025) X2 dL_law_345 (by decide) (fun _ => ?_) (fun c_ => absurd rfl c_)
  exact kk _ V' L' ad' hI2 hWF2 (hag 0 h0.1)
set_option maxHeartbeats 4000000 in
set_option maxRecDepth 100000 in
theorem lc_pair {I : Nat → zS → zI → zL → Prop} (hI : LI I) : lCase I 6 350 := by
  intro M D cy b0 Lx xs sa sb j S V L ad ad2 ls X hM hL hj hS hWF hl kk
  obtain ⟨v, S', V', L', hC, hR, hI2⟩ := hI.2.1 j 6 (fun t => xs (6 * j + t)) S V L (by omega) (by decide) hS
  obtain ⟨h0, hc0, hq0⟩ := hI.1 _ _ _ _ hS
  obtain ⟨-, hcc, hqq⟩ := hI.1 _ _ _ _ hI2
  obtain ⟨n, c, q, K, N, G, V1, L1⟩ := S
  have hR : f_pair (xs (6 * j + 1)) (xs (6 * j + 2)) (xs (6 * j + 3)) V L = some (v, V', L') := hR
  have hC : (f_X10_pair N G 0 (xs (6 * j + 1)) (xs (6 * j + 2)) (xs (6 * j + 3)) V1 L1).bind (fun r => some (r, (n, 0, 0, K, N, G, V1, L1))) = some (v, S') := hC
  obtain ⟨r1, hc1, hC⟩ := z_bind hC
  obtain ⟨rfl, rfl⟩ := Prod.mk.inj (Option.some.inj hC)
  have X1 := LX.at X (c' := c) (q' := q) ⟨by rw [hM.1]; exact hc0, by rw [hM.2]; exact hq0⟩
  refine zl_aload_n X1 dL_law_350 rfl (lv_at hl 1 rfl) ?_
  refine zl_aload_n X1 dL_law_351 rfl (lv_at hl 0 rfl) ?_
  refine zl_iload_n X1 dL_law_352 rfl (lv_at hl 3 rfl) ?_
  refine zl_iconst (v := 1) X1 dL_law_353 (by decide) ?_
  refine zl_iadd X1 dL_law_354 ?_
  refine zl_sldK X1 (zl_ix hj hL (t := 1) (by decide)) dL_law_355 ?_
  refine zl_aload_n X1 dL_law_356 rfl (lv_at hl 0 rfl) ?_
  refine zl_iload_n X1 dL_law_357 rfl (lv_at hl 3 rfl) ?_
  refine zl_iconst (v := 2) X1 dL_law_358 (by decide) ?_
  refine zl_iadd X1 dL_law_359 ?_
  refine zl_sldK X1 (zl_ix hj hL (t := 2) (by decide)) dL_law_360 ?_
  refine zl_aload_n X1 dL_law_361 rfl (lv_at hl 0 rfl) ?_
  refine zl_iload_n X1 dL_law_362 rfl (lv_at hl 3 rfl) ?_
  refine zl_iconst (v := 3) X1 dL_law_363 (by decide) ?_
  refine zl_iadd X1 dL_law_364 ?_
  refine zl_sldK X1 (zl_ix hj hL (t := 3) (by decide)) dL_law_365 ?_
  refine zl_callT [.int (xs (6 * j + 1)), .int (xs (6 * j + 2)), .int (xs (6 * j + 3))] X1 hl.1 (RCi.toT hWF (c_X10_pair D cy ad hWF h0 hc1)) h0 rfl lm_C_pair lg_C_pair rfl lp_C_pair ⟨by decide, by decide⟩ (Nat.le_of_ble_eq_true rfl) rfl ⟨by rw [hM.1]; exact hcc, by rw [hM.2]; exact hqq⟩ dL_law_366 (fun ad' hag hWF2 hnn hKg => ?_)
  have X2 := LX.at X1 (c' := _) (q' := _) ⟨Nat.le_trans hcc (Nat.le_of_eq hM.1.symm), Nat.le_trans hqq (Nat.le_of_eq hM.2.symm)⟩
  refine zl_aload_n X2 dL_law_369 rfl (lv_at hl 2 rfl) ?_
  refine zl_aload_n X2 dL_law_370 rfl (lv_at hl 0 rfl) ?_
  refine zl_iload_n X2 dL_law_371 rfl (lv_at hl 3 rfl) ?_
  refine zl_iconst (v := 1) X2 dL_law_372 (by decide) ?_
  refine zl_iadd X2 dL_law_373 ?_
  refine zl_sldK X2 (zl_ix hj hL (t := 1) (by decide)) dL_law_374 ?_
  refine zl_aload_n X2 dL_law_375 rfl (lv_at hl 0 rfl) ?_
  refine zl_iload_n X2 dL_law_376 rfl (lv_at hl 3 rfl) ?_
  refine zl_iconst (v := 2) X2 dL_law_377 (by decide) ?_
  refine zl_iadd X2 dL_law_378 ?_
  refine zl_sldK X2 (zl_ix hj hL (t := 2) (by decide)) dL_law_379 ?_
  refine zl_aload_n X2 dL_law_380 rfl (lv_at hl 0 rfl) ?_
  refine zl_iload_n X2 dL_law_381 rfl (lv_at hl 3 rfl) ?_
  refine zl_iconst (v := 3) X2 dL_law_382 (by decide) ?_
  refine zl_iadd X2 dL_law_383 ?_
  refine zl_sldK X2 (zl_ix hj hL (t := 3) (by decide)) dL_law_384 ?_
  refine zl_callM [.int (xs (6 * j + 1)), .int (xs (6 * j + 2)), .int (xs (6 * j + 3))] X2 hl.1 (c_pair D cy ad2 hR) rfl lm_M_pair lg_M_pair rfl lp_M_pair ⟨by decide, by decide⟩ (Nat.le_of_ble_eq_true rfl) rfl dL_law_385 ?_
  refine zl_icmp_eq (tgt := 1025) X2 dL_law_388 (by decide) (fun _ => ?_) (fun c_ => absurd rfl c_)
  exact kk _ V' L' ad' hI2 hWF2 (hag 0 h0.1)
set_option maxHeartbeats 4000000 in
set_option maxRecDepth 100000 in
theorem lc_mail {I : Nat → zS → zI → zL → Prop} (hI : LI I) : lCase I 7 393 := by
  intro M D cy b0 Lx xs sa sb j S V L ad ad2 ls X hM hL hj hS hWF hl kk
  obtain ⟨v, S', V', L', hC, hR, hI2⟩ := hI.2.1 j 7 (fun t => xs (6 * j + t)) S V L (by omega) (by decide) hS
  obtain ⟨h0, hc0, hq0⟩ := hI.1 _ _ _ _ hS
  obtain ⟨-, hcc, hqq⟩ := hI.1 _ _ _ _ hI2
  obtain ⟨n, c, q, K, N, G, V1, L1⟩ := S
  have hR : f_mail (xs (6 * j + 1)) (xs (6 * j + 2)) V L = some (v, V', L') := hR
  have hC : (f_X10_mail N G 0 (xs (6 * j + 1)) (xs (6 * j + 2)) V1 L1).bind (fun r => some (r, (n, 0, 0, K, N, G, V1, L1))) = some (v, S') := hC
  obtain ⟨r1, hc1, hC⟩ := z_bind hC
  obtain ⟨rfl, rfl⟩ := Prod.mk.inj (Option.some.inj hC)
  have X1 := LX.at X (c' := c) (q' := q) ⟨by rw [hM.1]; exact hc0, by rw [hM.2]; exact hq0⟩
  refine zl_aload_n X1 dL_law_393 rfl (lv_at hl 1 rfl) ?_
  refine zl_aload_n X1 dL_law_394 rfl (lv_at hl 0 rfl) ?_
  refine zl_iload_n X1 dL_law_395 rfl (lv_at hl 3 rfl) ?_
  refine zl_iconst (v := 1) X1 dL_law_396 (by decide) ?_
  refine zl_iadd X1 dL_law_397 ?_
  refine zl_sldK X1 (zl_ix hj hL (t := 1) (by decide)) dL_law_398 ?_
  refine zl_aload_n X1 dL_law_399 rfl (lv_at hl 0 rfl) ?_
  refine zl_iload_n X1 dL_law_400 rfl (lv_at hl 3 rfl) ?_
  refine zl_iconst (v := 2) X1 dL_law_401 (by decide) ?_
  refine zl_iadd X1 dL_law_402 ?_
  refine zl_sldK X1 (zl_ix hj hL (t := 2) (by decide)) dL_law_403 ?_
  refine zl_callT [.int (xs (6 * j + 1)), .int (xs (6 * j + 2))] X1 hl.1 (RCi.toT hWF (c_X10_mail D cy ad hWF h0 hc1)) h0 rfl lm_C_mail lg_C_mail rfl lp_C_mail ⟨by decide, by decide⟩ (Nat.le_of_ble_eq_true rfl) rfl ⟨by rw [hM.1]; exact hcc, by rw [hM.2]; exact hqq⟩ dL_law_404 (fun ad' hag hWF2 hnn hKg => ?_)
  have X2 := LX.at X1 (c' := _) (q' := _) ⟨Nat.le_trans hcc (Nat.le_of_eq hM.1.symm), Nat.le_trans hqq (Nat.le_of_eq hM.2.symm)⟩
  refine zl_aload_n X2 dL_law_407 rfl (lv_at hl 2 rfl) ?_
  refine zl_aload_n X2 dL_law_408 rfl (lv_at hl 0 rfl) ?_
  refine zl_iload_n X2 dL_law_409 rfl (lv_at hl 3 rfl) ?_
  refine zl_iconst (v := 1) X2 dL_law_410 (by decide) ?_
  refine zl_iadd X2 dL_law_411 ?_
  refine zl_sldK X2 (zl_ix hj hL (t := 1) (by decide)) dL_law_412 ?_
  refine zl_aload_n X2 dL_law_413 rfl (lv_at hl 0 rfl) ?_
  refine zl_iload_n X2 dL_law_414 rfl (lv_at hl 3 rfl) ?_
  refine zl_iconst (v := 2) X2 dL_law_415 (by decide) ?_
  refine zl_iadd X2 dL_law_416 ?_
  refine zl_sldK X2 (zl_ix hj hL (t := 2) (by decide)) dL_law_417 ?_
  refine zl_callM [.int (xs (6 * j + 1)), .int (xs (6 * j + 2))] X2 hl.1 (c_mail D cy ad2 hR) rfl lm_M_mail lg_M_mail rfl lp_M_mail ⟨by decide, by decide⟩ (Nat.le_of_ble_eq_true rfl) rfl dL_law_418 ?_
  refine zl_icmp_eq (tgt := 1025) X2 dL_law_421 (by decide) (fun _ => ?_) (fun c_ => absurd rfl c_)
  exact kk _ V' L' ad' hI2 hWF2 (hag 0 h0.1)
set_option maxHeartbeats 4000000 in
set_option maxRecDepth 100000 in
theorem lc_writes {I : Nat → zS → zI → zL → Prop} (hI : LI I) : lCase I 8 426 := by
  intro M D cy b0 Lx xs sa sb j S V L ad ad2 ls X hM hL hj hS hWF hl kk
  obtain ⟨v, S', V', L', hC, hR, hI2⟩ := hI.2.1 j 8 (fun t => xs (6 * j + t)) S V L (by omega) (by decide) hS
  obtain ⟨h0, hc0, hq0⟩ := hI.1 _ _ _ _ hS
  obtain ⟨-, hcc, hqq⟩ := hI.1 _ _ _ _ hI2
  obtain ⟨n, c, q, K, N, G, V1, L1⟩ := S
  have hR : f_writes (xs (6 * j + 1)) V L = some (v, V', L') := hR
  have hC : (f_X10_writes N G 0 (xs (6 * j + 1)) V1 L1).bind (fun r => some (r.1, (n, 0, 0, K, N, G, r.2.1, r.2.2))) = some (v, S') := hC
  obtain ⟨r1, hc1, hC⟩ := z_bind hC
  obtain ⟨rfl, rfl⟩ := Prod.mk.inj (Option.some.inj hC)
  have X1 := LX.at X (c' := c) (q' := q) ⟨by rw [hM.1]; exact hc0, by rw [hM.2]; exact hq0⟩
  refine zl_aload_n X1 dL_law_426 rfl (lv_at hl 1 rfl) ?_
  refine zl_aload_n X1 dL_law_427 rfl (lv_at hl 0 rfl) ?_
  refine zl_iload_n X1 dL_law_428 rfl (lv_at hl 3 rfl) ?_
  refine zl_iconst (v := 1) X1 dL_law_429 (by decide) ?_
  refine zl_iadd X1 dL_law_430 ?_
  refine zl_sldK X1 (zl_ix hj hL (t := 1) (by decide)) dL_law_431 ?_
  refine zl_callT [.int (xs (6 * j + 1))] X1 hl.1 (RCi.toT hWF (c_X10_writes D cy ad hWF h0 hc1)) h0 rfl lm_C_writes lg_C_writes rfl lp_C_writes ⟨by decide, by decide⟩ (Nat.le_of_ble_eq_true rfl) rfl ⟨by rw [hM.1]; exact hcc, by rw [hM.2]; exact hqq⟩ dL_law_432 (fun ad' hag hWF2 hnn hKg => ?_)
  have X2 := LX.at X1 (c' := _) (q' := _) ⟨Nat.le_trans hcc (Nat.le_of_eq hM.1.symm), Nat.le_trans hqq (Nat.le_of_eq hM.2.symm)⟩
  refine zl_aload_n X2 dL_law_435 rfl (lv_at hl 2 rfl) ?_
  refine zl_aload_n X2 dL_law_436 rfl (lv_at hl 0 rfl) ?_
  refine zl_iload_n X2 dL_law_437 rfl (lv_at hl 3 rfl) ?_
  refine zl_iconst (v := 1) X2 dL_law_438 (by decide) ?_
  refine zl_iadd X2 dL_law_439 ?_
  refine zl_sldK X2 (zl_ix hj hL (t := 1) (by decide)) dL_law_440 ?_
  refine zl_callM [.int (xs (6 * j + 1))] X2 hl.1 (c_writes D cy ad2 hR) rfl lm_M_writes lg_M_writes rfl lp_M_writes ⟨by decide, by decide⟩ (Nat.le_of_ble_eq_true rfl) rfl dL_law_441 ?_
  refine zl_icmp_eq (tgt := 1025) X2 dL_law_444 (by decide) (fun _ => ?_) (fun c_ => absurd rfl c_)
  exact kk _ V' L' ad' hI2 hWF2 (hag 0 h0.1)
set_option maxHeartbeats 4000000 in
set_option maxRecDepth 100000 in
theorem lc_later {I : Nat → zS → zI → zL → Prop} (hI : LI I) : lCase I 9 449 := by
  intro M D cy b0 Lx xs sa sb j S V L ad ad2 ls X hM hL hj hS hWF hl kk
  obtain ⟨v, S', V', L', hC, hR, hI2⟩ := hI.2.1 j 9 (fun t => xs (6 * j + t)) S V L (by omega) (by decide) hS
  obtain ⟨h0, hc0, hq0⟩ := hI.1 _ _ _ _ hS
  obtain ⟨-, hcc, hqq⟩ := hI.1 _ _ _ _ hI2
  obtain ⟨n, c, q, K, N, G, V1, L1⟩ := S
  have hR : f_later (xs (6 * j + 1)) (xs (6 * j + 2)) (xs (6 * j + 3)) (xs (6 * j + 4)) V L = some (v, V', L') := hR
  have hC : (f_X10_later N G 0 (xs (6 * j + 1)) (xs (6 * j + 2)) (xs (6 * j + 3)) (xs (6 * j + 4)) V1 L1).bind (fun r => some (r.1, (n, 0, 0, K, N, G, r.2.1, r.2.2))) = some (v, S') := hC
  obtain ⟨r1, hc1, hC⟩ := z_bind hC
  obtain ⟨rfl, rfl⟩ := Prod.mk.inj (Option.some.inj hC)
  have X1 := LX.at X (c' := c) (q' := q) ⟨by rw [hM.1]; exact hc0, by rw [hM.2]; exact hq0⟩
  refine zl_aload_n X1 dL_law_449 rfl (lv_at hl 1 rfl) ?_
  refine zl_aload_n X1 dL_law_450 rfl (lv_at hl 0 rfl) ?_
  refine zl_iload_n X1 dL_law_451 rfl (lv_at hl 3 rfl) ?_
  refine zl_iconst (v := 1) X1 dL_law_452 (by decide) ?_
  refine zl_iadd X1 dL_law_453 ?_
  refine zl_sldK X1 (zl_ix hj hL (t := 1) (by decide)) dL_law_454 ?_
  refine zl_aload_n X1 dL_law_455 rfl (lv_at hl 0 rfl) ?_
  refine zl_iload_n X1 dL_law_456 rfl (lv_at hl 3 rfl) ?_
  refine zl_iconst (v := 2) X1 dL_law_457 (by decide) ?_
  refine zl_iadd X1 dL_law_458 ?_
  refine zl_sldK X1 (zl_ix hj hL (t := 2) (by decide)) dL_law_459 ?_
  refine zl_aload_n X1 dL_law_460 rfl (lv_at hl 0 rfl) ?_
  refine zl_iload_n X1 dL_law_461 rfl (lv_at hl 3 rfl) ?_
  refine zl_iconst (v := 3) X1 dL_law_462 (by decide) ?_
  refine zl_iadd X1 dL_law_463 ?_
  refine zl_sldK X1 (zl_ix hj hL (t := 3) (by decide)) dL_law_464 ?_
  refine zl_aload_n X1 dL_law_465 rfl (lv_at hl 0 rfl) ?_
  refine zl_iload_n X1 dL_law_466 rfl (lv_at hl 3 rfl) ?_
  refine zl_iconst (v := 4) X1 dL_law_467 (by decide) ?_
  refine zl_iadd X1 dL_law_468 ?_
  refine zl_sldK X1 (zl_ix hj hL (t := 4) (by decide)) dL_law_469 ?_
  refine zl_callT [.int (xs (6 * j + 1)), .int (xs (6 * j + 2)), .int (xs (6 * j + 3)), .int (xs (6 * j + 4))] X1 hl.1 (RCi.toT hWF (c_X10_later D cy ad hWF h0 hc1)) h0 rfl lm_C_later lg_C_later rfl lp_C_later ⟨by decide, by decide⟩ (Nat.le_of_ble_eq_true rfl) rfl ⟨by rw [hM.1]; exact hcc, by rw [hM.2]; exact hqq⟩ dL_law_470 (fun ad' hag hWF2 hnn hKg => ?_)
  have X2 := LX.at X1 (c' := _) (q' := _) ⟨Nat.le_trans hcc (Nat.le_of_eq hM.1.symm), Nat.le_trans hqq (Nat.le_of_eq hM.2.symm)⟩
  refine zl_aload_n X2 dL_law_473 rfl (lv_at hl 2 rfl) ?_
  refine zl_aload_n X2 dL_law_474 rfl (lv_at hl 0 rfl) ?_
  refine zl_iload_n X2 dL_law_475 rfl (lv_at hl 3 rfl) ?_
  refine zl_iconst (v := 1) X2 dL_law_476 (by decide) ?_
  refine zl_iadd X2 dL_law_477 ?_
  refine zl_sldK X2 (zl_ix hj hL (t := 1) (by decide)) dL_law_478 ?_
  refine zl_aload_n X2 dL_law_479 rfl (lv_at hl 0 rfl) ?_
  refine zl_iload_n X2 dL_law_480 rfl (lv_at hl 3 rfl) ?_
  refine zl_iconst (v := 2) X2 dL_law_481 (by decide) ?_
  refine zl_iadd X2 dL_law_482 ?_
  refine zl_sldK X2 (zl_ix hj hL (t := 2) (by decide)) dL_law_483 ?_
  refine zl_aload_n X2 dL_law_484 rfl (lv_at hl 0 rfl) ?_
  refine zl_iload_n X2 dL_law_485 rfl (lv_at hl 3 rfl) ?_
  refine zl_iconst (v := 3) X2 dL_law_486 (by decide) ?_
  refine zl_iadd X2 dL_law_487 ?_
  refine zl_sldK X2 (zl_ix hj hL (t := 3) (by decide)) dL_law_488 ?_
  refine zl_aload_n X2 dL_law_489 rfl (lv_at hl 0 rfl) ?_
  refine zl_iload_n X2 dL_law_490 rfl (lv_at hl 3 rfl) ?_
  refine zl_iconst (v := 4) X2 dL_law_491 (by decide) ?_
  refine zl_iadd X2 dL_law_492 ?_
  refine zl_sldK X2 (zl_ix hj hL (t := 4) (by decide)) dL_law_493 ?_
  refine zl_callM [.int (xs (6 * j + 1)), .int (xs (6 * j + 2)), .int (xs (6 * j + 3)), .int (xs (6 * j + 4))] X2 hl.1 (c_later D cy ad2 hR) rfl lm_M_later lg_M_later rfl lp_M_later ⟨by decide, by decide⟩ (Nat.le_of_ble_eq_true rfl) rfl dL_law_494 ?_
  refine zl_icmp_eq (tgt := 1025) X2 dL_law_497 (by decide) (fun _ => ?_) (fun c_ => absurd rfl c_)
  exact kk _ V' L' ad' hI2 hWF2 (hag 0 h0.1)
set_option maxHeartbeats 4000000 in
set_option maxRecDepth 100000 in
theorem lc_comes {I : Nat → zS → zI → zL → Prop} (hI : LI I) : lCase I 10 502 := by
  intro M D cy b0 Lx xs sa sb j S V L ad ad2 ls X hM hL hj hS hWF hl kk
  obtain ⟨v, S', V', L', hC, hR, hI2⟩ := hI.2.1 j 10 (fun t => xs (6 * j + t)) S V L (by omega) (by decide) hS
  obtain ⟨h0, hc0, hq0⟩ := hI.1 _ _ _ _ hS
  obtain ⟨-, hcc, hqq⟩ := hI.1 _ _ _ _ hI2
  obtain ⟨n, c, q, K, N, G, V1, L1⟩ := S
  have hR : f_comes (xs (6 * j + 1)) (xs (6 * j + 2)) V L = some (v, V', L') := hR
  have hC : (f_X10_comes N G 0 (xs (6 * j + 1)) (xs (6 * j + 2)) V1 L1).bind (fun r => some (r.1, (n, 0, 0, K, N, G, r.2.1, r.2.2))) = some (v, S') := hC
  obtain ⟨r1, hc1, hC⟩ := z_bind hC
  obtain ⟨rfl, rfl⟩ := Prod.mk.inj (Option.some.inj hC)
  have X1 := LX.at X (c' := c) (q' := q) ⟨by rw [hM.1]; exact hc0, by rw [hM.2]; exact hq0⟩
  refine zl_aload_n X1 dL_law_502 rfl (lv_at hl 1 rfl) ?_
  refine zl_aload_n X1 dL_law_503 rfl (lv_at hl 0 rfl) ?_
  refine zl_iload_n X1 dL_law_504 rfl (lv_at hl 3 rfl) ?_
  refine zl_iconst (v := 1) X1 dL_law_505 (by decide) ?_
  refine zl_iadd X1 dL_law_506 ?_
  refine zl_sldK X1 (zl_ix hj hL (t := 1) (by decide)) dL_law_507 ?_
  refine zl_aload_n X1 dL_law_508 rfl (lv_at hl 0 rfl) ?_
  refine zl_iload_n X1 dL_law_509 rfl (lv_at hl 3 rfl) ?_
  refine zl_iconst (v := 2) X1 dL_law_510 (by decide) ?_
  refine zl_iadd X1 dL_law_511 ?_
  refine zl_sldK X1 (zl_ix hj hL (t := 2) (by decide)) dL_law_512 ?_
  refine zl_callT [.int (xs (6 * j + 1)), .int (xs (6 * j + 2))] X1 hl.1 (RCi.toT hWF (c_X10_comes D cy ad hWF h0 hc1)) h0 rfl lm_C_comes lg_C_comes rfl lp_C_comes ⟨by decide, by decide⟩ (Nat.le_of_ble_eq_true rfl) rfl ⟨by rw [hM.1]; exact hcc, by rw [hM.2]; exact hqq⟩ dL_law_513 (fun ad' hag hWF2 hnn hKg => ?_)
  have X2 := LX.at X1 (c' := _) (q' := _) ⟨Nat.le_trans hcc (Nat.le_of_eq hM.1.symm), Nat.le_trans hqq (Nat.le_of_eq hM.2.symm)⟩
  refine zl_aload_n X2 dL_law_516 rfl (lv_at hl 2 rfl) ?_
  refine zl_aload_n X2 dL_law_517 rfl (lv_at hl 0 rfl) ?_
  refine zl_iload_n X2 dL_law_518 rfl (lv_at hl 3 rfl) ?_
  refine zl_iconst (v := 1) X2 dL_law_519 (by decide) ?_
  refine zl_iadd X2 dL_law_520 ?_
  refine zl_sldK X2 (zl_ix hj hL (t := 1) (by decide)) dL_law_521 ?_
  refine zl_aload_n X2 dL_law_522 rfl (lv_at hl 0 rfl) ?_
  refine zl_iload_n X2 dL_law_523 rfl (lv_at hl 3 rfl) ?_
  refine zl_iconst (v := 2) X2 dL_law_524 (by decide) ?_
  refine zl_iadd X2 dL_law_525 ?_
  refine zl_sldK X2 (zl_ix hj hL (t := 2) (by decide)) dL_law_526 ?_
  refine zl_callM [.int (xs (6 * j + 1)), .int (xs (6 * j + 2))] X2 hl.1 (c_comes D cy ad2 hR) rfl lm_M_comes lg_M_comes rfl lp_M_comes ⟨by decide, by decide⟩ (Nat.le_of_ble_eq_true rfl) rfl dL_law_527 ?_
  refine zl_icmp_eq (tgt := 1025) X2 dL_law_530 (by decide) (fun _ => ?_) (fun c_ => absurd rfl c_)
  exact kk _ V' L' ad' hI2 hWF2 (hag 0 h0.1)
