theorem dJ0_length_8abf5_0 : decode cJ0_length_8abf5 0 = .ok (.aload_n 0, 1) := by decide +kernel
theorem dJ0_length_8abf5_1 : decode cJ0_length_8abf5 1 = .ok (.getfield 9, 3) := by decide +kernel
theorem dJ0_length_8abf5_4 : decode cJ0_length_8abf5 4 = .ok (.arraylength, 1) := by decide +kernel
theorem dJ0_length_8abf5_5 : decode cJ0_length_8abf5 5 = .ok (.aload_n 0, 1) := by decide +kernel
theorem dJ0_length_8abf5_6 : decode cJ0_length_8abf5 6 = .ok (.invokevirtual 335, 3) := by decide +kernel
theorem dJ0_length_8abf5_9 : decode cJ0_length_8abf5 9 = .ok (.ishr, 1) := by decide +kernel
theorem dJ0_length_8abf5_10 : decode cJ0_length_8abf5 10 = .ok (.ireturn, 1) := by decide +kernel
theorem dJ0_charAt_5068e_0 : decode cJ0_charAt_5068e 0 = .ok (.aload_n 0, 1) := by decide +kernel
theorem dJ0_charAt_5068e_1 : decode cJ0_charAt_5068e 1 = .ok (.invokevirtual 492, 3) := by decide +kernel
theorem dJ0_charAt_5068e_4 : decode cJ0_charAt_5068e 4 = .ok (.ifCond .eq 12, 3) := by decide +kernel
theorem dJ0_charAt_5068e_7 : decode cJ0_charAt_5068e 7 = .ok (.aload_n 0, 1) := by decide +kernel
theorem dJ0_charAt_5068e_8 : decode cJ0_charAt_5068e 8 = .ok (.getfield 9, 3) := by decide +kernel
theorem dJ0_charAt_5068e_11 : decode cJ0_charAt_5068e 11 = .ok (.iload_n 1, 1) := by decide +kernel
theorem dJ0_charAt_5068e_12 : decode cJ0_charAt_5068e 12 = .ok (.invokestatic 495, 3) := by decide +kernel
theorem dJ0_charAt_5068e_15 : decode cJ0_charAt_5068e 15 = .ok (.ireturn, 1) := by decide +kernel
theorem dJ0_charAt_5068e_16 : decode cJ0_charAt_5068e 16 = .ok (.aload_n 0, 1) := by decide +kernel
theorem dJ0_charAt_5068e_17 : decode cJ0_charAt_5068e 17 = .ok (.getfield 9, 3) := by decide +kernel
theorem dJ0_charAt_5068e_20 : decode cJ0_charAt_5068e 20 = .ok (.iload_n 1, 1) := by decide +kernel
theorem dJ0_charAt_5068e_21 : decode cJ0_charAt_5068e 21 = .ok (.invokestatic 498, 3) := by decide +kernel
theorem dJ0_charAt_5068e_24 : decode cJ0_charAt_5068e 24 = .ok (.ireturn, 1) := by decide +kernel
theorem dJ0_coder_7d493_0 : decode cJ0_coder_7d493 0 = .ok (.getstatic 38, 3) := by decide +kernel
theorem dJ0_coder_7d493_3 : decode cJ0_coder_7d493 3 = .ok (.ifCond .eq 10, 3) := by decide +kernel
theorem dJ0_coder_7d493_6 : decode cJ0_coder_7d493 6 = .ok (.aload_n 0, 1) := by decide +kernel
theorem dJ0_coder_7d493_7 : decode cJ0_coder_7d493 7 = .ok (.getfield 15, 3) := by decide +kernel
theorem dJ0_coder_7d493_10 : decode cJ0_coder_7d493 10 = .ok (.goto 4, 3) := by decide +kernel
theorem dJ0_coder_7d493_13 : decode cJ0_coder_7d493 13 = .ok (.iconst 1, 1) := by decide +kernel
theorem dJ0_coder_7d493_14 : decode cJ0_coder_7d493 14 = .ok (.ireturn, 1) := by decide +kernel
theorem dJ0_isLatin1_aae02_0 : decode cJ0_isLatin1_aae02 0 = .ok (.getstatic 38, 3) := by decide +kernel
theorem dJ0_isLatin1_aae02_3 : decode cJ0_isLatin1_aae02 3 = .ok (.ifCond .eq 14, 3) := by decide +kernel
theorem dJ0_isLatin1_aae02_6 : decode cJ0_isLatin1_aae02 6 = .ok (.aload_n 0, 1) := by decide +kernel
theorem dJ0_isLatin1_aae02_7 : decode cJ0_isLatin1_aae02 7 = .ok (.getfield 15, 3) := by decide +kernel
theorem dJ0_isLatin1_aae02_10 : decode cJ0_isLatin1_aae02 10 = .ok (.ifCond .ne 7, 3) := by decide +kernel
theorem dJ0_isLatin1_aae02_13 : decode cJ0_isLatin1_aae02 13 = .ok (.iconst 1, 1) := by decide +kernel
theorem dJ0_isLatin1_aae02_14 : decode cJ0_isLatin1_aae02 14 = .ok (.goto 4, 3) := by decide +kernel
theorem dJ0_isLatin1_aae02_17 : decode cJ0_isLatin1_aae02 17 = .ok (.iconst 0, 1) := by decide +kernel
theorem dJ0_isLatin1_aae02_18 : decode cJ0_isLatin1_aae02 18 = .ok (.ireturn, 1) := by decide +kernel
theorem dJ0_checkIndex_df160_0 : decode cJ0_checkIndex_df160 0 = .ok (.iload_n 0, 1) := by decide +kernel
theorem dJ0_checkIndex_df160_1 : decode cJ0_checkIndex_df160 1 = .ok (.iload_n 1, 1) := by decide +kernel
theorem dJ0_checkIndex_df160_2 : decode cJ0_checkIndex_df160 2 = .ok (.getstatic 1053, 3) := by decide +kernel
theorem dJ0_checkIndex_df160_5 : decode cJ0_checkIndex_df160 5 = .ok (.invokestatic 1059, 3) := by decide +kernel
theorem dJ0_checkIndex_df160_8 : decode cJ0_checkIndex_df160 8 = .ok (.pop, 1) := by decide +kernel
theorem dJ0_checkIndex_df160_9 : decode cJ0_checkIndex_df160 9 = .ok (.return_, 1) := by decide +kernel
theorem dJ1_charAt_3b067_0 : decode cJ1_charAt_3b067 0 = .ok (.iload_n 1, 1) := by decide +kernel
theorem dJ1_charAt_3b067_1 : decode cJ1_charAt_3b067 1 = .ok (.aload_n 0, 1) := by decide +kernel
theorem dJ1_charAt_3b067_2 : decode cJ1_charAt_3b067 2 = .ok (.arraylength, 1) := by decide +kernel
theorem dJ1_charAt_3b067_3 : decode cJ1_charAt_3b067 3 = .ok (.invokestatic 9, 3) := by decide +kernel
theorem dJ1_charAt_3b067_6 : decode cJ1_charAt_3b067 6 = .ok (.aload_n 0, 1) := by decide +kernel
theorem dJ1_charAt_3b067_7 : decode cJ1_charAt_3b067 7 = .ok (.iload_n 1, 1) := by decide +kernel
theorem dJ1_charAt_3b067_8 : decode cJ1_charAt_3b067 8 = .ok (.baload, 1) := by decide +kernel
theorem dJ1_charAt_3b067_9 : decode cJ1_charAt_3b067 9 = .ok (.sipush 255, 3) := by decide +kernel
theorem dJ1_charAt_3b067_12 : decode cJ1_charAt_3b067 12 = .ok (.iand, 1) := by decide +kernel
theorem dJ1_charAt_3b067_13 : decode cJ1_charAt_3b067 13 = .ok (.i2c, 1) := by decide +kernel
theorem dJ1_charAt_3b067_14 : decode cJ1_charAt_3b067 14 = .ok (.ireturn, 1) := by decide +kernel
theorem dJ3_checkIndex_8e157_0 : decode cJ3_checkIndex_8e157 0 = .ok (.iload_n 0, 1) := by decide +kernel
theorem dJ3_checkIndex_8e157_1 : decode cJ3_checkIndex_8e157 1 = .ok (.ifCond .lt 8, 3) := by decide +kernel
theorem dJ3_checkIndex_8e157_4 : decode cJ3_checkIndex_8e157 4 = .ok (.iload_n 0, 1) := by decide +kernel
theorem dJ3_checkIndex_8e157_5 : decode cJ3_checkIndex_8e157 5 = .ok (.iload_n 1, 1) := by decide +kernel
theorem dJ3_checkIndex_8e157_6 : decode cJ3_checkIndex_8e157 6 = .ok (.if_icmp .lt 10, 3) := by decide +kernel
theorem dJ3_checkIndex_8e157_9 : decode cJ3_checkIndex_8e157 9 = .ok (.aload_n 2, 1) := by decide +kernel
theorem dJ3_checkIndex_8e157_10 : decode cJ3_checkIndex_8e157 10 = .ok (.iload_n 0, 1) := by decide +kernel
theorem dJ3_checkIndex_8e157_11 : decode cJ3_checkIndex_8e157 11 = .ok (.iload_n 1, 1) := by decide +kernel
theorem dJ3_checkIndex_8e157_12 : decode cJ3_checkIndex_8e157 12 = .ok (.invokestatic 95, 3) := by decide +kernel
theorem dJ3_checkIndex_8e157_15 : decode cJ3_checkIndex_8e157 15 = .ok (.athrow, 1) := by decide +kernel
theorem dJ3_checkIndex_8e157_16 : decode cJ3_checkIndex_8e157 16 = .ok (.iload_n 0, 1) := by decide +kernel
theorem dJ3_checkIndex_8e157_17 : decode cJ3_checkIndex_8e157 17 = .ok (.ireturn, 1) := by decide +kernel
def zsb : List Int32 := [116, 111, 119, 110, 32, 99, 97, 114, 116, 32, 116, 111, 32, 100, 97, 121, 115, 32, 104, 111, 108, 100, 115, 32, 111, 102, 32, 119, 114, 105, 116, 101, 115, 32, 108, 105, 107, 101, 115, 32, 119, 111, 114, 116, 104, 32, 101, 110, 99, 108, 32, 108, 111, 115, 116, 32, 104, 101, 108, 100, 32, 102, 97, 114, 32, 100, 97, 121, 32, 115, 101, 110, 116, 32, 103, 111, 116, 32, 105, 102, 32, 111, 114, 32, 97, 110, 100, 32, 110, 111, 116, 32, 97, 108, 108, 32, 109, 105, 110, 32, 109, 97, 120, 32]
def zsx : String := "town cart to days holds of writes likes worth encl lost held far day sent got if or and not all min max "
def zStr (A : Nat → Prop) (sa sb : Nat) (U : State) (H : Heap) : Prop := vk_R RX8 47 zsx sa U ∧ va_O "java/lang/String" sa A U H ∧ va_OF "java/lang/String" "coder" "B" (.int 0) sa A U H ∧ va_OF "java/lang/String" "value" "[B" (.ref sb) sa A U H ∧ va_T .byte sb 104 (fun j => .int (zsb.getD j 0)) A U H ∧ va_Z "java/lang/String" "COMPACT_STRINGS" "Z" (.int 1) A U H ∧ ∃ fm : Value, (fm = .null ∨ ∃ a, fm = .ref a) ∧ va_Z "jdk/internal/util/Preconditions" "SIOOBE_FORMATTER" "Ljava/util/function/BiFunction;" fm A U H
theorem zStr.move {A B : Nat → Prop} {sa sb : Nat} {s U : State} {H H1 : Heap} (h : zStr A sa sb s H) (hW : s.WarmedH U.vm) (hAB : ∀ q, B q → A q) (hq : ∀ a : Nat, a < H.size → ¬ A a → H1[a]? = H[a]?) : zStr B sa sb U H1 := by
  obtain ⟨h1, h2, h3, h4, h5, h6, fm, h7, h8⟩ := h
  exact ⟨h1.warm hW, ((h2.moved hW.alike).kept hq).narrow hAB, ((h3.moved hW.alike).kept hq).narrow hAB, ((h4.moved hW.alike).kept hq).narrow hAB, ((h5.moved hW.alike).kept hq).narrow hAB, ((h6.moved hW.alike).kept hq).narrow hAB, fm, h7, ((h8.moved hW.alike).kept hq).narrow hAB⟩
theorem zStr.same {A : Nat → Prop} {sa sb : Nat} {u U : State} {H : Heap} (h : zStr A sa sb u H) (hv : u.vm = U.vm) : zStr A sa sb U H := by
  have hal : u.vm.Alike U.vm := hv ▸ Vm.Alike.refl _
  obtain ⟨h1, h2, h3, h4, h5, h6, fm, h7, h8⟩ := h
  exact ⟨h1.same hv.symm, h2.moved hal, h3.moved hal, h4.moved hal, h5.moved hal, h6.moved hal, fm, h7, h8.moved hal⟩
abbrev zF0 : Nat → Prop := fun _ => False
def j_Pre (As : List Value) (sa sb : Nat) : Array Value → State → Prop := va_Pc As (fun U => zStr zF0 sa sb U U.heap)
theorem j_blind {As : List Value} {sa sb : Nat} : FrameBlind (j_Pre As sa sb) := fun a U g mk q => ⟨q.1, zStr.same (u := U) (U := U.calling g mk a) q.2 rfl⟩
def JX (p : Program) (s : State) (m : MethodId) (args : Array Value) (c : Code) (cc : ByteArray) (nL : Nat) (own : String) (sa sb : Nat) (meth : Method) (ret : Option FieldType) : Prop := CallFix p m c cc nL s args zTB own ∧ zStr zF0 sa sb s s.heap ∧ meth.sig.returnType = ret ∧ meth.locks = false
theorem j_of {y : MethodName} {cc : ByteArray} {nL fr lo sa sb : Nat} {ret : Option FieldType} {As : List Value} {Qc : Array Value → State → Outcome → State → Prop} (l : Launch) (hy : plainFor y = true) (hlen : (lg_sl As).length ≤ nL)
    (body : ∀ (p : Program) (e : Env) (s : State) (m : MethodId) (below : List Frame) (meth : Method) (c : Code) (ls : Array Slot), JX p s m As.toArray c cc nL y.cls sa sb meth ret → lv_has ls nL (lv_args 0 As) → W p l e (z_rm fr lo) s m As.toArray below meth c s.heap [] 0 0 (MQ below Qc As.toArray s 0 0 zF0) (F0 m 0 ls [])) : Met l y (.code y cc nL ret :: zTB) (z_rm fr lo) (j_Pre As sa sb) Qc 0 0 zF0 := by
  refine va_MetF (cc := cc) (maxL := nL) (ret := ret) hy rfl ?_
  intro p e s m args below meth c s₁ B hml hv
  obtain ⟨rfl, hz⟩ := hv
  have hts := atoms_spec (ws := .code y cc nL ret :: zTB) B.pre
  have hl := lv_entry As (n := nL) hlen
  rw [lg_entry_eq]
  generalize (lg_sl As ++ List.replicate (nL - (lg_sl As).length) Slot.unset).toArray = ls at hl ⊢
  exact body p e s m below meth c ls ⟨⟨B.exec, B.bytes, hml, findClass_of_methodNamed B.named, fun w hw => hts w (List.mem_cons_of_mem _ hw)⟩, hz, B.returns, B.notSynchronized⟩ hl
set_option maxHeartbeats 4000000 in
set_option maxRecDepth 100000 in
theorem j_J0_coder_7d493 (l : Launch) {sa sb : Nat} : Met l yJ0_coder_7d493 (.code yJ0_coder_7d493 cJ0_coder_7d493 1 (some .byte) :: zTB) (z_rm 0 0) (j_Pre [.ref sa] sa sb) (vp_Si (fun r => r = 0)) 0 0 zF0 := by
  refine j_of l (by decide +kernel) (Nat.le_of_ble_eq_true rfl) ?_
  intro p e s m below meth c ls J hl
  obtain ⟨⟨hx, hb, hml, hown, hts⟩, hz, hr, hlk⟩ := J
  obtain ⟨z1, z2, z3, z4, z5, z6, fm, z7, z8⟩ := id hz
  have hS : va_S zF0 s.heap s.heap [] := va_S.rf
  have hl : lv_has ls 1 [(0, .ref sa)] := hl
  refine va_gets hx hb z6 hS hown (hts _ (zmT2 93 (by decide +kernel) rfl)) (fun _ h => h) dJ0_coder_7d493_0 ?_
  refine lv_if_eq (tgt := 13) hx hb dJ0_coder_7d493_3 (by decide) (fun h => absurd h (by decide)) (fun _ => ?_)
  refine lv_aload_n hx hb dJ0_coder_7d493_6 rfl (lv_at hl 0 rfl) ?_
  refine vk_getf hx hb z3 hS hown (hts _ (zmT7 174 (by decide +kernel) rfl)) (fun _ h => h) dJ0_coder_7d493_7 ?_
  refine lv_goto (tgt := 14) hx hb dJ0_coder_7d493_10 (by decide) ?_
  exact W.zret hx hb hr rfl (fun t ht _ => ⟨0, rfl, rfl, ht⟩) (fun _ h => by cases h) dJ0_coder_7d493_14 hlk
set_option maxHeartbeats 4000000 in
set_option maxRecDepth 100000 in
theorem j_J0_isLatin1_aae02 (l : Launch) {sa sb : Nat} : Met l yJ0_isLatin1_aae02 (.code yJ0_isLatin1_aae02 cJ0_isLatin1_aae02 1 (some .boolean) :: zTB) (z_rm 0 0) (j_Pre [.ref sa] sa sb) (vp_Si (fun r => r = 1)) 0 0 zF0 := by
  refine j_of l (by decide +kernel) (Nat.le_of_ble_eq_true rfl) ?_
  intro p e s m below meth c ls J hl
  obtain ⟨⟨hx, hb, hml, hown, hts⟩, hz, hr, hlk⟩ := J
  obtain ⟨z1, z2, z3, z4, z5, z6, fm, z7, z8⟩ := id hz
  have hS : va_S zF0 s.heap s.heap [] := va_S.rf
  have hl : lv_has ls 1 [(0, .ref sa)] := hl
  refine va_gets hx hb z6 hS hown (hts _ (zmT2 93 (by decide +kernel) rfl)) (fun _ h => h) dJ0_isLatin1_aae02_0 ?_
  refine lv_if_eq (tgt := 17) hx hb dJ0_isLatin1_aae02_3 (by decide) (fun h => absurd h (by decide)) (fun _ => ?_)
  refine lv_aload_n hx hb dJ0_isLatin1_aae02_6 rfl (lv_at hl 0 rfl) ?_
  refine vk_getf hx hb z3 hS hown (hts _ (zmT7 174 (by decide +kernel) rfl)) (fun _ h => h) dJ0_isLatin1_aae02_7 ?_
  refine lv_if_ne (tgt := 17) hx hb dJ0_isLatin1_aae02_10 (by decide) (fun h => absurd rfl h) (fun _ => ?_)
  refine lv_iconst (v := 1) hx hb dJ0_isLatin1_aae02_13 (by decide) ?_
  refine lv_goto (tgt := 18) hx hb dJ0_isLatin1_aae02_14 (by decide) ?_
  exact W.zret hx hb hr rfl (fun t ht _ => ⟨1, rfl, rfl, ht⟩) (fun _ h => by cases h) dJ0_isLatin1_aae02_18 hlk
set_option maxHeartbeats 4000000 in
set_option maxRecDepth 100000 in
theorem j_J0_length_8abf5 (l : Launch) {sa sb : Nat} : Met l yJ0_length_8abf5 (.code yJ0_length_8abf5 cJ0_length_8abf5 1 (some .int) :: zTB) (z_rm 1 20) (j_Pre [.ref sa] sa sb) (vp_Si (fun r => r = 104)) 0 0 zF0 := by
  refine j_of l (by decide +kernel) (Nat.le_of_ble_eq_true rfl) ?_
  intro p e s m below meth c ls J hl
  obtain ⟨⟨hx, hb, hml, hown, hts⟩, hz, hr, hlk⟩ := J
  obtain ⟨z1, z2, z3, z4, z5, z6, fm, z7, z8⟩ := id hz
  have hS : va_S zF0 s.heap s.heap [] := va_S.rf
  have hl : lv_has ls 1 [(0, .ref sa)] := hl
  refine lv_aload_n hx hb dJ0_length_8abf5_0 rfl (lv_at hl 0 rfl) ?_
  refine vk_getf hx hb z4 hS hown (hts _ (zmT7 173 (by decide +kernel) rfl)) (fun _ h => h) dJ0_length_8abf5_1 ?_
  refine va_tlen hx hb z5 hS (v := 104) (by decide) dJ0_length_8abf5_4 ?_
  refine lv_aload_n hx hb dJ0_length_8abf5_5 rfl (lv_at hl 0 rfl) ?_
  refine vp_callSi (W.runV (C := "java/lang/String") (As := []) (rest := [.int 104]) ⟨hx, hb, hml, hown, hts⟩ (j_J0_coder_7d493 l (sa := sa) (sb := sb)) ⟨callB_of 0 hts (z_goodC (zmT2 92 (by decide +kernel) rfl)) rfl rfl rfl (hts _ (zmT1 10 (by decide +kernel) rfl)) (hts _ (zmT2 89 (by decide +kernel) rfl)) ⟨by decide, by decide, by decide +kernel⟩ ⟨Nat.le_of_ble_eq_true rfl, Nat.le_of_ble_eq_true rfl⟩, hts _ (zmT2 90 (by decide +kernel) rfl), hts _ (zmT2 91 (by decide +kernel) rfl)⟩ ⟨j_blind, (by obtain ⟨cell, q1, q2, q3, -⟩ := z2; exact ⟨cell, q1, q2, q3⟩), fun U hU hW => ⟨rfl, by show zStr zF0 sa sb U U.heap; rw [hU]; exact hz.move hW (fun _ h => h) (fun _ _ _ => rfl)⟩⟩ rfl rfl hl.1 rfl (lv_room (Nat.le_of_ble_eq_true rfl)) dJ0_length_8abf5_6 ⟨Nat.le_of_ble_eq_true rfl, Nat.le_of_ble_eq_true rfl⟩) (fun r hr0 => ?_)
  subst hr0
  refine lv_ishr hx hb dJ0_length_8abf5_9 ?_
  exact W.iret (v := 104 >>> ((0 : Int32) &&& 31)) hx hb hr (fun t ht _ => ⟨_, rfl, by decide, ht⟩) (fun _ h => by cases h) dJ0_length_8abf5_10 hlk
set_option maxHeartbeats 4000000 in
set_option maxRecDepth 100000 in
theorem j_J3_checkIndex_8e157_N (l : Launch) {sa sb : Nat} {i nn : Int32} (h1 : ¬ i < 0) (h2 : i < nn) : Met l yJ3_checkIndex_8e157 (.code yJ3_checkIndex_8e157 cJ3_checkIndex_8e157 3 (some .int) :: zTB) (z_rm 0 0) (j_Pre [.int i, .int nn, .null] sa sb) (vp_Si (fun r => r = i)) 0 0 zF0 := by
  refine j_of l (by decide +kernel) (Nat.le_of_ble_eq_true rfl) ?_
  intro p e s m below meth c ls J hl
  obtain ⟨⟨hx, hb, hml, hown, hts⟩, hz, hr, hlk⟩ := J
  obtain ⟨z1, z2, z3, z4, z5, z6, fm, z7, z8⟩ := id hz
  have hS : va_S zF0 s.heap s.heap [] := va_S.rf
  have hl : lv_has ls 3 [(0, .int i), (1, .int nn), (2, .null)] := hl
  refine lv_iload_n hx hb dJ3_checkIndex_8e157_0 rfl (lv_at hl 0 rfl) ?_
  refine lv_if_lt (tgt := 9) hx hb dJ3_checkIndex_8e157_1 (by decide) (fun h => absurd h h1) (fun _ => ?_)
  refine lv_iload_n hx hb dJ3_checkIndex_8e157_4 rfl (lv_at hl 0 rfl) ?_
  refine lv_iload_n hx hb dJ3_checkIndex_8e157_5 rfl (lv_at hl 1 rfl) ?_
  refine lv_icmp_lt (tgt := 16) hx hb dJ3_checkIndex_8e157_6 (by decide) (fun _ => ?_) (fun h => absurd h2 h)
  refine lv_iload_n hx hb dJ3_checkIndex_8e157_16 rfl (lv_at hl 0 rfl) ?_
  exact W.iret hx hb hr (fun t ht _ => ⟨i, rfl, rfl, ht⟩) (fun _ h => by cases h) dJ3_checkIndex_8e157_17 hlk
set_option maxHeartbeats 4000000 in
set_option maxRecDepth 100000 in
theorem j_J3_checkIndex_8e157_R (l : Launch) {sa sb : Nat} {i nn : Int32} {fa : Nat} (h1 : ¬ i < 0) (h2 : i < nn) : Met l yJ3_checkIndex_8e157 (.code yJ3_checkIndex_8e157 cJ3_checkIndex_8e157 3 (some .int) :: zTB) (z_rm 0 0) (j_Pre [.int i, .int nn, .ref fa] sa sb) (vp_Si (fun r => r = i)) 0 0 zF0 := by
  refine j_of l (by decide +kernel) (Nat.le_of_ble_eq_true rfl) ?_
  intro p e s m below meth c ls J hl
  obtain ⟨⟨hx, hb, hml, hown, hts⟩, hz, hr, hlk⟩ := J
  obtain ⟨z1, z2, z3, z4, z5, z6, fm, z7, z8⟩ := id hz
  have hS : va_S zF0 s.heap s.heap [] := va_S.rf
  have hl : lv_has ls 3 [(0, .int i), (1, .int nn), (2, .ref fa)] := hl
  refine lv_iload_n hx hb dJ3_checkIndex_8e157_0 rfl (lv_at hl 0 rfl) ?_
  refine lv_if_lt (tgt := 9) hx hb dJ3_checkIndex_8e157_1 (by decide) (fun h => absurd h h1) (fun _ => ?_)
  refine lv_iload_n hx hb dJ3_checkIndex_8e157_4 rfl (lv_at hl 0 rfl) ?_
  refine lv_iload_n hx hb dJ3_checkIndex_8e157_5 rfl (lv_at hl 1 rfl) ?_
  refine lv_icmp_lt (tgt := 16) hx hb dJ3_checkIndex_8e157_6 (by decide) (fun _ => ?_) (fun h => absurd h2 h)
  refine lv_iload_n hx hb dJ3_checkIndex_8e157_16 rfl (lv_at hl 0 rfl) ?_
  exact W.iret hx hb hr (fun t ht _ => ⟨i, rfl, rfl, ht⟩) (fun _ h => by cases h) dJ3_checkIndex_8e157_17 hlk
set_option maxHeartbeats 4000000 in
set_option maxRecDepth 100000 in
theorem j_J0_checkIndex_df160 (l : Launch) {sa sb : Nat} {i nn : Int32} (h1 : ¬ i < 0) (h2 : i < nn) : Met l yJ0_checkIndex_df160 (.code yJ0_checkIndex_df160 cJ0_checkIndex_df160 2 (none) :: zTB) (z_rm 1 22) (j_Pre [.int i, .int nn] sa sb) (va_Sv (fun _ => True)) 0 0 zF0 := by
  refine j_of l (by decide +kernel) (Nat.le_of_ble_eq_true rfl) ?_
  intro p e s m below meth c ls J hl
  obtain ⟨⟨hx, hb, hml, hown, hts⟩, hz, hr, hlk⟩ := J
  obtain ⟨z1, z2, z3, z4, z5, z6, fm, z7, z8⟩ := id hz
  have hS : va_S zF0 s.heap s.heap [] := va_S.rf
  have hl : lv_has ls 2 [(0, .int i), (1, .int nn)] := hl
  refine lv_iload_n hx hb dJ0_checkIndex_df160_0 rfl (lv_at hl 0 rfl) ?_
  refine lv_iload_n hx hb dJ0_checkIndex_df160_1 rfl (lv_at hl 1 rfl) ?_
  refine va_gets hx hb z8 hS hown (hts _ (zmT2 109 (by decide +kernel) rfl)) (fun _ h => h) dJ0_checkIndex_df160_2 ?_
  rcases z7 with rfl | ⟨fa, rfl⟩
  ·
    refine vp_callSi (W.runS (As := [.int i, .int nn, .null]) (rest := []) ⟨hx, hb, hml, hown, hts⟩ (j_J3_checkIndex_8e157_N l (sa := sa) (sb := sb) h1 h2) ⟨callB_of 3 hts (z_goodC (zmT2 113 (by decide +kernel) rfl)) rfl rfl rfl (hts _ (zmT1 12 (by decide +kernel) rfl)) (hts _ (zmT2 111 (by decide +kernel) rfl)) ⟨by decide, by decide, by decide +kernel⟩ ⟨Nat.le_of_ble_eq_true rfl, Nat.le_of_ble_eq_true rfl⟩, hts _ (zmT2 112 (by decide +kernel) rfl)⟩ ⟨j_blind, fun U hU hW => ⟨rfl, by show zStr zF0 sa sb U U.heap; rw [hU]; exact hz.move hW (fun _ h => h) (fun _ _ _ => rfl)⟩⟩ rfl rfl hl.1 rfl (lv_room (Nat.le_of_ble_eq_true rfl)) dJ0_checkIndex_df160_5 ⟨Nat.le_of_ble_eq_true rfl, Nat.le_of_ble_eq_true rfl⟩) (fun r hr0 => ?_)
    refine lv_pop hx hb dJ0_checkIndex_df160_8 rfl ?_
    exact W.vret hx hb hr (fun t ht _ => ⟨rfl, trivial, ht⟩) (fun _ h => by cases h) dJ0_checkIndex_df160_9 hlk
  ·
    refine vp_callSi (W.runS (As := [.int i, .int nn, .ref fa]) (rest := []) ⟨hx, hb, hml, hown, hts⟩ (j_J3_checkIndex_8e157_R l (sa := sa) (sb := sb) h1 h2) ⟨callB_of 3 hts (z_goodC (zmT2 113 (by decide +kernel) rfl)) rfl rfl rfl (hts _ (zmT1 12 (by decide +kernel) rfl)) (hts _ (zmT2 111 (by decide +kernel) rfl)) ⟨by decide, by decide, by decide +kernel⟩ ⟨Nat.le_of_ble_eq_true rfl, Nat.le_of_ble_eq_true rfl⟩, hts _ (zmT2 112 (by decide +kernel) rfl)⟩ ⟨j_blind, fun U hU hW => ⟨rfl, by show zStr zF0 sa sb U U.heap; rw [hU]; exact hz.move hW (fun _ h => h) (fun _ _ _ => rfl)⟩⟩ rfl rfl hl.1 rfl (lv_room (Nat.le_of_ble_eq_true rfl)) dJ0_checkIndex_df160_5 ⟨Nat.le_of_ble_eq_true rfl, Nat.le_of_ble_eq_true rfl⟩) (fun r hr0 => ?_)
    refine lv_pop hx hb dJ0_checkIndex_df160_8 rfl ?_
    exact W.vret hx hb hr (fun t ht _ => ⟨rfl, trivial, ht⟩) (fun _ h => by cases h) dJ0_checkIndex_df160_9 hlk
set_option maxHeartbeats 4000000 in
set_option maxRecDepth 100000 in
theorem j_J1_charAt_3b067 (l : Launch) {sa sb : Nat} {i : Int32} (hi : inB i 104) : Met l yJ1_charAt_3b067 (.code yJ1_charAt_3b067 cJ1_charAt_3b067 2 (some .char) :: zTB) (z_rm 2 43) (j_Pre [.ref sb, .int i] sa sb) (vp_Si (fun r => r = zsb.getD i.toNatClampNeg 0 &&& 255)) 0 0 zF0 := by
  refine j_of l (by decide +kernel) (Nat.le_of_ble_eq_true rfl) ?_
  intro p e s m below meth c ls J hl
  obtain ⟨⟨hx, hb, hml, hown, hts⟩, hz, hr, hlk⟩ := J
  obtain ⟨z1, z2, z3, z4, z5, z6, fm, z7, z8⟩ := id hz
  have hS : va_S zF0 s.heap s.heap [] := va_S.rf
  have hl : lv_has ls 2 [(0, .ref sb), (1, .int i)] := hl
  have h1 : ¬ i < 0 := fun h => hi (Or.inl h)
  have h2 : i < 104 := by
    obtain ⟨j, hj, rfl⟩ := vp_in_of (n := 104) hi (by decide)
    exact nI_lt (b := 104) hj (by decide)
  refine lv_iload_n hx hb dJ1_charAt_3b067_0 rfl (lv_at hl 1 rfl) ?_
  refine lv_aload_n hx hb dJ1_charAt_3b067_1 rfl (lv_at hl 0 rfl) ?_
  refine va_tlen hx hb z5 hS (v := 104) (by decide) dJ1_charAt_3b067_2 ?_
  refine va_csv (W.runS (As := [.int i, .int 104]) (rest := []) ⟨hx, hb, hml, hown, hts⟩ (j_J0_checkIndex_df160 l (sa := sa) (sb := sb) h1 h2) ⟨callB_of 2 hts (z_goodC (zmT2 108 (by decide +kernel) rfl)) rfl rfl rfl (hts _ (zmT1 10 (by decide +kernel) rfl)) (hts _ (zmT2 106 (by decide +kernel) rfl)) ⟨by decide, by decide, by decide +kernel⟩ ⟨Nat.le_of_ble_eq_true rfl, Nat.le_of_ble_eq_true rfl⟩, hts _ (zmT2 107 (by decide +kernel) rfl)⟩ ⟨j_blind, fun U hU hW => ⟨rfl, by show zStr zF0 sa sb U U.heap; rw [hU]; exact hz.move hW (fun _ h => h) (fun _ _ _ => rfl)⟩⟩ rfl rfl hl.1 rfl (lv_room (Nat.le_of_ble_eq_true rfl)) dJ1_charAt_3b067_3 ⟨Nat.le_of_ble_eq_true rfl, Nat.le_of_ble_eq_true rfl⟩) (fun _ => ?_)
  refine lv_aload_n hx hb dJ1_charAt_3b067_6 rfl (lv_at hl 0 rfl) ?_
  refine lv_iload_n hx hb dJ1_charAt_3b067_7 rfl (lv_at hl 1 rfl) ?_
  refine va_tb hx hb z5 hS hi rfl dJ1_charAt_3b067_8 ?_
  refine lv_sipush (v := 255) hx hb dJ1_charAt_3b067_9 (by decide) ?_
  refine lv_iand hx hb dJ1_charAt_3b067_12 ?_
  refine lv_i2c (v := zsb.getD i.toNatClampNeg 0 &&& 255) hx hb dJ1_charAt_3b067_13 (sc_c2 _) ?_
  exact W.zret hx hb hr (sc_nar _) (fun t ht _ => ⟨_, rfl, rfl, ht⟩) (fun _ h => by cases h) dJ1_charAt_3b067_14 hlk
set_option maxHeartbeats 4000000 in
set_option maxRecDepth 100000 in
theorem j_J0_charAt_5068e (l : Launch) {sa sb : Nat} {i : Int32} (hi : inB i 104) : Met l yJ0_charAt_5068e (.code yJ0_charAt_5068e cJ0_charAt_5068e 2 (some .char) :: zTB) (z_rm 3 64) (j_Pre [.ref sa, .int i] sa sb) (vp_Si (fun r => r = zsb.getD i.toNatClampNeg 0 &&& 255)) 0 0 zF0 := by
  refine j_of l (by decide +kernel) (Nat.le_of_ble_eq_true rfl) ?_
  intro p e s m below meth c ls J hl
  obtain ⟨⟨hx, hb, hml, hown, hts⟩, hz, hr, hlk⟩ := J
  obtain ⟨z1, z2, z3, z4, z5, z6, fm, z7, z8⟩ := id hz
  have hS : va_S zF0 s.heap s.heap [] := va_S.rf
  have hl : lv_has ls 2 [(0, .ref sa), (1, .int i)] := hl
  refine lv_aload_n hx hb dJ0_charAt_5068e_0 rfl (lv_at hl 0 rfl) ?_
  refine vp_callSi (W.runV (C := "java/lang/String") (As := []) (rest := []) ⟨hx, hb, hml, hown, hts⟩ (j_J0_isLatin1_aae02 l (sa := sa) (sb := sb)) ⟨callB_of 0 hts (z_goodC (zmT2 102 (by decide +kernel) rfl)) rfl rfl rfl (hts _ (zmT1 10 (by decide +kernel) rfl)) (hts _ (zmT2 99 (by decide +kernel) rfl)) ⟨by decide, by decide, by decide +kernel⟩ ⟨Nat.le_of_ble_eq_true rfl, Nat.le_of_ble_eq_true rfl⟩, hts _ (zmT2 100 (by decide +kernel) rfl), hts _ (zmT2 101 (by decide +kernel) rfl)⟩ ⟨j_blind, (by obtain ⟨cell, q1, q2, q3, -⟩ := z2; exact ⟨cell, q1, q2, q3⟩), fun U hU hW => ⟨rfl, by show zStr zF0 sa sb U U.heap; rw [hU]; exact hz.move hW (fun _ h => h) (fun _ _ _ => rfl)⟩⟩ rfl rfl hl.1 rfl (lv_room (Nat.le_of_ble_eq_true rfl)) dJ0_charAt_5068e_1 ⟨Nat.le_of_ble_eq_true rfl, Nat.le_of_ble_eq_true rfl⟩) (fun r hr0 => ?_)
  subst hr0
  refine lv_if_eq (tgt := 16) hx hb dJ0_charAt_5068e_4 (by decide) (fun h => absurd h (by decide)) (fun _ => ?_)
  refine lv_aload_n hx hb dJ0_charAt_5068e_7 rfl (lv_at hl 0 rfl) ?_
  refine vk_getf hx hb z4 hS hown (hts _ (zmT7 173 (by decide +kernel) rfl)) (fun _ h => h) dJ0_charAt_5068e_8 ?_
  refine lv_iload_n hx hb dJ0_charAt_5068e_11 rfl (lv_at hl 1 rfl) ?_
  refine vp_callSi (W.runS (As := [.ref sb, .int i]) (rest := []) ⟨hx, hb, hml, hown, hts⟩ (j_J1_charAt_3b067 l (sa := sa) (sb := sb) hi) ⟨callB_of 2 hts (z_goodC (zmT2 105 (by decide +kernel) rfl)) rfl rfl rfl (hts _ (zmT1 11 (by decide +kernel) rfl)) (hts _ (zmT2 103 (by decide +kernel) rfl)) ⟨by decide, by decide, by decide +kernel⟩ ⟨Nat.le_of_ble_eq_true rfl, Nat.le_of_ble_eq_true rfl⟩, hts _ (zmT2 104 (by decide +kernel) rfl)⟩ ⟨j_blind, fun U hU hW => ⟨rfl, by show zStr zF0 sa sb U U.heap; rw [hU]; exact hz.move hW (fun _ h => h) (fun _ _ _ => rfl)⟩⟩ rfl rfl hl.1 rfl (lv_room (Nat.le_of_ble_eq_true rfl)) dJ0_charAt_5068e_12 ⟨Nat.le_of_ble_eq_true rfl, Nat.le_of_ble_eq_true rfl⟩) (fun r hr0 => ?_)
  subst hr0
  exact W.zret hx hb hr (sc_nar _) (fun t ht _ => ⟨_, rfl, rfl, ht⟩) (fun _ h => by cases h) dJ0_charAt_5068e_15 hlk
