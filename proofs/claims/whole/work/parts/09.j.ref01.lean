def f_pushes (x1 : Int32) (V : zI) (L : zL) : Option (zI × zL) :=
  if inB (V 0 33) 20 then if inB ((z_uI V 13 (V 0 33).toNatClampNeg x1) 0 33) 20 then if inB ((z_uI (z_uI V 13 (V 0 33).toNatClampNeg x1) 14 ((z_uI V 13 (V 0 33).toNatClampNeg x1) 0 33).toNatClampNeg 0) 0 33) 20 then if inB ((z_uI (z_uI (z_uI V 13 (V 0 33).toNatClampNeg x1) 14 ((z_uI V 13 (V 0 33).toNatClampNeg x1) 0 33).toNatClampNeg 0) 15 ((z_uI (z_uI V 13 (V 0 33).toNatClampNeg x1) 14 ((z_uI V 13 (V 0 33).toNatClampNeg x1) 0 33).toNatClampNeg 0) 0 33).toNatClampNeg (vp_nar .boolean 1)) 0 33) 20 then some (z_uI (z_uI (z_uI (z_uI (z_uI V 13 (V 0 33).toNatClampNeg x1) 14 ((z_uI V 13 (V 0 33).toNatClampNeg x1) 0 33).toNatClampNeg 0) 15 ((z_uI (z_uI V 13 (V 0 33).toNatClampNeg x1) 14 ((z_uI V 13 (V 0 33).toNatClampNeg x1) 0 33).toNatClampNeg 0) 0 33).toNatClampNeg (vp_nar .boolean 1)) 17 ((z_uI (z_uI (z_uI V 13 (V 0 33).toNatClampNeg x1) 14 ((z_uI V 13 (V 0 33).toNatClampNeg x1) 0 33).toNatClampNeg 0) 15 ((z_uI (z_uI V 13 (V 0 33).toNatClampNeg x1) 14 ((z_uI V 13 (V 0 33).toNatClampNeg x1) 0 33).toNatClampNeg 0) 0 33).toNatClampNeg (vp_nar .boolean 1)) 0 33).toNatClampNeg ((z_uI (z_uI (z_uI V 13 (V 0 33).toNatClampNeg x1) 14 ((z_uI V 13 (V 0 33).toNatClampNeg x1) 0 33).toNatClampNeg 0) 15 ((z_uI (z_uI V 13 (V 0 33).toNatClampNeg x1) 14 ((z_uI V 13 (V 0 33).toNatClampNeg x1) 0 33).toNatClampNeg 0) 0 33).toNatClampNeg (vp_nar .boolean 1)) 0 36)) 0 33 (((z_uI (z_uI (z_uI (z_uI V 13 (V 0 33).toNatClampNeg x1) 14 ((z_uI V 13 (V 0 33).toNatClampNeg x1) 0 33).toNatClampNeg 0) 15 ((z_uI (z_uI V 13 (V 0 33).toNatClampNeg x1) 14 ((z_uI V 13 (V 0 33).toNatClampNeg x1) 0 33).toNatClampNeg 0) 0 33).toNatClampNeg (vp_nar .boolean 1)) 17 ((z_uI (z_uI (z_uI V 13 (V 0 33).toNatClampNeg x1) 14 ((z_uI V 13 (V 0 33).toNatClampNeg x1) 0 33).toNatClampNeg 0) 15 ((z_uI (z_uI V 13 (V 0 33).toNatClampNeg x1) 14 ((z_uI V 13 (V 0 33).toNatClampNeg x1) 0 33).toNatClampNeg 0) 0 33).toNatClampNeg (vp_nar .boolean 1)) 0 33).toNatClampNeg ((z_uI (z_uI (z_uI V 13 (V 0 33).toNatClampNeg x1) 14 ((z_uI V 13 (V 0 33).toNatClampNeg x1) 0 33).toNatClampNeg 0) 15 ((z_uI (z_uI V 13 (V 0 33).toNatClampNeg x1) 14 ((z_uI V 13 (V 0 33).toNatClampNeg x1) 0 33).toNatClampNeg 0) 0 33).toNatClampNeg (vp_nar .boolean 1)) 0 36)) 0 33) + 1), L) else none else none else none else none
set_option maxHeartbeats 4000000 in
set_option maxRecDepth 100000 in
theorem w_pushes {M : zM} {D : va_G} {cy : Nat → ClassId} {ad : Nat → Nat} {r' : zI × zL} (X : RX M (zR D cy ad) cX11_pushes 2 RX11 0 0) (Z : RZv M (zR D cy ad) r'.1 r'.2) (x1 : Int32) (V : zI) (L : zL) (ls : Array Slot) (hl : lv_has ls 2 [(0, .ref (ad 0)), (1, .int x1)]) (hf : f_pushes x1 V L = some r') : RG M (zR D cy ad) V L 0 ls [] := by
  unfold f_pushes at hf
  refine z_aload_n X dX11_pushes_0 rfl (lv_at hl 0 rfl) ?_
  refine m_geta X ff_28 dX11_pushes_1 ?_
  refine z_aload_n X dX11_pushes_4 rfl (lv_at hl 0 rfl) ?_
  refine m_geti X ff_33 dX11_pushes_5 ?_
  refine z_iload_n X dX11_pushes_8 rfl (lv_at hl 1 rfl) ?_
  obtain ⟨hb1, hf⟩ := z_ite hf
  refine m_iast X pa_13 hb1 dX11_pushes_9 ?_
  refine z_aload_n X dX11_pushes_10 rfl (lv_at hl 0 rfl) ?_
  refine m_geta X ff_29 dX11_pushes_11 ?_
  refine z_aload_n X dX11_pushes_14 rfl (lv_at hl 0 rfl) ?_
  refine m_geti X ff_33 dX11_pushes_15 ?_
  refine z_iconst (v := 0) X dX11_pushes_18 (by decide) ?_
  obtain ⟨hb2, hf⟩ := z_ite hf
  refine m_iast X pa_14 hb2 dX11_pushes_19 ?_
  refine z_aload_n X dX11_pushes_20 rfl (lv_at hl 0 rfl) ?_
  refine m_geta X ff_30 dX11_pushes_21 ?_
  refine z_aload_n X dX11_pushes_24 rfl (lv_at hl 0 rfl) ?_
  refine m_geti X ff_33 dX11_pushes_25 ?_
  refine z_iconst (v := 1) X dX11_pushes_28 (by decide) ?_
  obtain ⟨hb3, hf⟩ := z_ite hf
  refine m_zast X pa_15 hb3 dX11_pushes_29 ?_
  refine z_aload_n X dX11_pushes_30 rfl (lv_at hl 0 rfl) ?_
  refine m_geta X ff_32 dX11_pushes_31 ?_
  refine z_aload_n X dX11_pushes_34 rfl (lv_at hl 0 rfl) ?_
  refine m_geti X ff_33 dX11_pushes_35 ?_
  refine z_aload_n X dX11_pushes_38 rfl (lv_at hl 0 rfl) ?_
  refine m_geti X ff_36 dX11_pushes_39 ?_
  obtain ⟨hb4, hf⟩ := z_ite hf
  refine m_iast X pa_17 hb4 dX11_pushes_42 ?_
  refine z_aload_n X dX11_pushes_43 rfl (lv_at hl 0 rfl) ?_
  refine z_dup X dX11_pushes_44 rfl ?_
  refine m_geti X ff_33 dX11_pushes_45 ?_
  refine z_iconst (v := 1) X dX11_pushes_48 (by decide) ?_
  refine z_iadd X dX11_pushes_49 ?_
  refine m_puti X fp_33 dX11_pushes_50 ?_
  exact m_vret X Z hf dX11_pushes_53

theorem c_pushes (D : va_G) (cy : Nat → ClassId) (ad : Nat → Nat) {x1 : Int32} {V : zI} {L : zL} {r' : zI × zL} (hf : f_pushes x1 V L = some r') : RMv (zR D cy ad) yX11_pushes cX11_pushes 2 0 0 [.ref (ad 0), .int x1] V L r'.1 r'.2 :=
  RMv.of (by decide) zR_nd (Nat.le_of_ble_eq_true rfl) (fun M X Z ls hl => w_pushes X Z x1 V L ls hl hf)
def f_opens_18 (x1 : Int32) (V : zI) (L : zL) : Option (zI × zL) :=
  (if (V 0 8) ≤ 0 then (f_ahead (z_uI V 0 34 ((V 0 34) + 1)) L).bind fun r1 => (f_pushes x1 r1.1 r1.2).bind fun r2 => some (r2.1, r2.2) else some (V, L))
def f_opens (x1 : Int32) (V : zI) (L : zL) : Option (zI × zL) :=
  (if (V 0 34) = 7 then (f_blame 5 (V 0 4) V L).bind fun r1 => f_opens_18 x1 r1.1 r1.2 else f_opens_18 x1 V L)
set_option maxHeartbeats 4000000 in
set_option maxRecDepth 100000 in
theorem w_opens_18 {M : zM} {D : va_G} {cy : Nat → ClassId} {ad : Nat → Nat} {r' : zI × zL} (X : RX M (zR D cy ad) cX11_opens 2 RX11 2 45) (Z : RZv M (zR D cy ad) r'.1 r'.2) (x1 : Int32) (V : zI) (L : zL) (ls : Array Slot) (hl : lv_has ls 2 [(0, .ref (ad 0)), (1, .int x1)]) (hf : f_opens_18 x1 V L = some r') : RG M (zR D cy ad) V L 18 ls [] := by
  unfold f_opens_18 at hf
  refine z_aload_n X dX11_opens_18 rfl (lv_at hl 0 rfl) ?_
  refine m_geti X ff_8 dX11_opens_19 ?_
  refine z_if_le (tgt := 26) X dX11_opens_22 (by decide) (fun c_ => ?_) (fun c_ => ?_)
  · have hf := (if_pos c_).symm.trans hf
    refine z_aload_n X dX11_opens_26 rfl (lv_at hl 0 rfl) ?_
    refine z_dup X dX11_opens_27 rfl ?_
    refine m_geti X ff_34 dX11_opens_28 ?_
    refine z_iconst (v := 1) X dX11_opens_31 (by decide) ?_
    refine z_iadd X dX11_opens_32 ?_
    refine m_puti X fp_34 dX11_opens_33 ?_
    refine z_aload_n X dX11_opens_36 rfl (lv_at hl 0 rfl) ?_
    obtain ⟨r1, hc1, hf⟩ := z_bind hf
    refine m_callVv [] X hl.1 (c_ahead D cy ad hc1) gm_ahead pd_ahead rfl ⟨by decide, by decide⟩ (Nat.le_of_ble_eq_true rfl) rfl dX11_opens_37 ?_
    refine z_aload_n X dX11_opens_40 rfl (lv_at hl 0 rfl) ?_
    refine z_iload_n X dX11_opens_41 rfl (lv_at hl 1 rfl) ?_
    obtain ⟨r2, hc2, hf⟩ := z_bind hf
    refine m_callVv [.int x1] X hl.1 (c_pushes D cy ad hc2) gm_pushes pd_pushes rfl ⟨by decide, by decide⟩ (Nat.le_of_ble_eq_true rfl) rfl dX11_opens_42 ?_
    exact m_vret X Z hf dX11_opens_45
  · have hf := (if_neg c_).symm.trans hf
    exact m_vret X Z hf dX11_opens_25

set_option maxHeartbeats 4000000 in
set_option maxRecDepth 100000 in
theorem w_opens {M : zM} {D : va_G} {cy : Nat → ClassId} {ad : Nat → Nat} {r' : zI × zL} (X : RX M (zR D cy ad) cX11_opens 2 RX11 2 45) (Z : RZv M (zR D cy ad) r'.1 r'.2) (x1 : Int32) (V : zI) (L : zL) (ls : Array Slot) (hl : lv_has ls 2 [(0, .ref (ad 0)), (1, .int x1)]) (hf : f_opens x1 V L = some r') : RG M (zR D cy ad) V L 0 ls [] := by
  unfold f_opens at hf
  refine z_aload_n X dX11_opens_0 rfl (lv_at hl 0 rfl) ?_
  refine m_geti X ff_34 dX11_opens_1 ?_
  refine z_bipush (v := 7) X dX11_opens_4 (by decide) ?_
  refine z_icmp_ne (tgt := 18) X dX11_opens_6 (by decide) (fun c_ => ?_) (fun c_ => ?_)
  · have hf := (if_neg c_).symm.trans hf
    exact w_opens_18 X Z x1 V L ls (lv_sub hl [0, 1] rfl) hf
  · have hf := (if_pos c_).symm.trans hf
    refine z_aload_n X dX11_opens_9 rfl (lv_at hl 0 rfl) ?_
    refine z_iconst (v := 5) X dX11_opens_10 (by decide) ?_
    refine z_aload_n X dX11_opens_11 rfl (lv_at hl 0 rfl) ?_
    refine m_geti X ff_4 dX11_opens_12 ?_
    obtain ⟨r1, hc1, hf⟩ := z_bind hf
    refine m_callVv [.int 5, .int (V 0 4)] X hl.1 (c_blame D cy ad hc1) gm_blame pd_blame rfl ⟨by decide, by decide⟩ (Nat.le_of_ble_eq_true rfl) rfl dX11_opens_15 ?_
    exact w_opens_18 X Z x1 r1.1 r1.2 ls (lv_sub hl [0, 1] rfl) hf

theorem c_opens (D : va_G) (cy : Nat → ClassId) (ad : Nat → Nat) {x1 : Int32} {V : zI} {L : zL} {r' : zI × zL} (hf : f_opens x1 V L = some r') : RMv (zR D cy ad) yX11_opens cX11_opens 2 2 45 [.ref (ad 0), .int x1] V L r'.1 r'.2 :=
  RMv.of (by decide) zR_nd (Nat.le_of_ble_eq_true rfl) (fun M X Z ls hl => w_opens X Z x1 V L ls hl hf)
def f_isTest (x0 : Int32) : Option (Int32) :=
  (if x0 = 1 then some 1 else (if x0 = 5 then some 1 else (if x0 = 6 then some 1 else some 0)))
set_option maxHeartbeats 4000000 in
set_option maxRecDepth 100000 in
theorem w_isTest {M : zM} {D : va_G} {cy : Nat → ClassId} {ad : Nat → Nat} {V : zI} {L : zL} {r' : Int32} (X : RX M (zR D cy ad) cX11_isTest 1 RX11 0 0) (Z : RZi M (zR D cy ad) .boolean r' V L) (x0 : Int32) (ls : Array Slot) (hl : lv_has ls 1 [(0, .int x0)]) (hf : f_isTest x0 = some r') : RG M (zR D cy ad) V L 0 ls [] := by
  unfold f_isTest at hf
  refine z_iload_n X dX11_isTest_0 rfl (lv_at hl 0 rfl) ?_
  refine z_iconst (v := 1) X dX11_isTest_1 (by decide) ?_
  refine z_icmp_eq (tgt := 16) X dX11_isTest_2 (by decide) (fun c_ => ?_) (fun c_ => ?_)
  · have hf := (if_pos c_).symm.trans hf
    refine z_iconst (v := 1) X dX11_isTest_16 (by decide) ?_
    refine z_goto (tgt := 21) X dX11_isTest_17 (by decide) ?_
    exact m_iretS X Z hf (by decide) dX11_isTest_21
  · have hf := (if_neg c_).symm.trans hf
    refine z_iload_n X dX11_isTest_5 rfl (lv_at hl 0 rfl) ?_
    refine z_iconst (v := 5) X dX11_isTest_6 (by decide) ?_
    refine z_icmp_eq (tgt := 16) X dX11_isTest_7 (by decide) (fun c_ => ?_) (fun c_ => ?_)
    · have hf := (if_pos c_).symm.trans hf
      refine z_iconst (v := 1) X dX11_isTest_16 (by decide) ?_
      refine z_goto (tgt := 21) X dX11_isTest_17 (by decide) ?_
      exact m_iretS X Z hf (by decide) dX11_isTest_21
    · have hf := (if_neg c_).symm.trans hf
      refine z_iload_n X dX11_isTest_10 rfl (lv_at hl 0 rfl) ?_
      refine z_bipush (v := 6) X dX11_isTest_11 (by decide) ?_
      refine z_icmp_ne (tgt := 20) X dX11_isTest_13 (by decide) (fun c_ => ?_) (fun c_ => ?_)
      · have hf := (if_neg c_).symm.trans hf
        refine z_iconst (v := 0) X dX11_isTest_20 (by decide) ?_
        exact m_iretS X Z hf (by decide) dX11_isTest_21
      · have hf := (if_pos c_).symm.trans hf
        refine z_iconst (v := 1) X dX11_isTest_16 (by decide) ?_
        refine z_goto (tgt := 21) X dX11_isTest_17 (by decide) ?_
        exact m_iretS X Z hf (by decide) dX11_isTest_21

theorem c_isTest (D : va_G) (cy : Nat → ClassId) (ad : Nat → Nat) {x0 : Int32} {V : zI} {L : zL} {r' : Int32} (hf : f_isTest x0 = some r') : RMi (zR D cy ad) yX11_isTest cX11_isTest 1 .boolean 0 0 [.int x0] V L r' V L :=
  RMi.of (by decide) zR_nd (Nat.le_of_ble_eq_true rfl) (fun M X Z ls hl => w_isTest X Z x0 ls hl hf)
def f_operand_79 (V : zI) (L : zL) : Option (Int32 × zI × zL) :=
  (if (V 0 8) ≤ 0 then (f_holdsBack 43 (z_uI V 0 34 ((V 0 34) + 1)) L).bind fun r1 => (f_ahead r1.1 r1.2).bind fun r2 => some (0, r2.1, r2.2) else some (1, V, L))
def f_operand_289 (x3 : Int32) (s1 : Int32) (V : zI) (L : zL) : Option (Int32 × zI × zL) :=
  (f_opens s1 V L).bind fun r1 => (if (r1.1 0 8) = 0 then if inB ((r1.1 0 33) - 1) 20 then some (0, z_uI r1.1 16 ((r1.1 0 33) - 1).toNatClampNeg x3, r1.2) else none else some (0, r1.1, r1.2))
def f_operand_276 (x3 : Int32) (V : zI) (L : zL) : Option (Int32 × zI × zL) :=
  (if x3 = 44 then f_operand_289 x3 6 V L else f_operand_289 x3 3 V L)
def f_operand_249 (s0 : Int32) (V : zI) (L : zL) : Option (Int32 × zI × zL) :=
  (f_ahead V L).bind fun r1 => (f_lex r1.1 r1.2).bind fun r2 => (f_isSign 40 r2.1 r2.2).bind fun r3 => (if r3.1 = 0 then (f_blame 1 (r3.2.1 0 4) r3.2.1 r3.2.2).bind fun r4 => f_operand_276 s0 r4.1 r4.2 else f_operand_276 s0 r3.2.1 r3.2.2)
def f_operand_217 (V : zI) (L : zL) : Option (Int32 × zI × zL) :=
  (f_isWord 7170414 V L).bind fun r1 => (if r1.1 = 0 then (f_isWord 7168376 r1.2.1 r1.2.2).bind fun r2 => (if r2.1 = 0 then f_operand_249 44 r2.2.1 r2.2.2 else f_operand_249 37 r2.2.1 r2.2.2) else f_operand_249 36 r1.2.1 r1.2.2)
def f_operand_425 (x3 : Int32) (V : zI) (L : zL) : Option (Int32 × zI × zL) :=
  (if (V 0 8) ≤ 0 then (f_add x3 (V 0 6) V L).bind fun r1 => (f_ahead r1.1 r1.2).bind fun r2 => some (1, r2.1, r2.2) else some (1, V, L))
def f_operand_411 (x3 : Int32) (V : zI) (L : zL) : Option (Int32 × zI × zL) :=
  (if x3 = (-1) then (f_blame 1 (V 0 4) V L).bind fun r1 => f_operand_425 x3 r1.1 r1.2 else f_operand_425 x3 V L)
def f_operand_396 (s0 : Int32) (V : zI) (L : zL) : Option (Int32 × zI × zL) :=
  (if s0 ≤ 3 then f_operand_411 s0 V L else (if (V 0 27) = 0 then f_operand_411 s0 V L else f_operand_411 (-1) V L))
def f_operand_171 (V : zI) (L : zL) : Option (Int32 × zI × zL) :=
  (f_isSign 40 V L).bind fun r1 => (if r1.1 = 0 then (f_isWord 7170414 r1.2.1 r1.2.2).bind fun r2 => (if r2.1 = 0 then (f_isWord 7168376 r2.2.1 r2.2.2).bind fun r3 => (if r3.1 = 0 then (f_isWord 26982 r3.2.1 r3.2.2).bind fun r4 => (if r4.1 = 0 then (if (r4.2.1 0 3) = 2 then f_operand_396 0 r4.2.1 r4.2.2 else (f_isWord 1751477348 r4.2.1 r4.2.2).bind fun r5 => (if r5.1 = 0 then (f_isWord 6709618 r5.2.1 r5.2.2).bind fun r6 => (if r6.1 = 0 then (f_isWord 6578553 r6.2.1 r6.2.2).bind fun r7 => (if r7.1 = 0 then (f_isWord 1936027252 r7.2.1 r7.2.2).bind fun r8 => (if r8.1 = 0 then (f_isWord 6778740 r8.2.1 r8.2.2).bind fun r9 => (if r9.1 = 0 then f_operand_396 (-1) r9.2.1 r9.2.2 else f_operand_396 5 r9.2.1 r9.2.2) else f_operand_396 4 r8.2.1 r8.2.2) else f_operand_396 3 r7.2.1 r7.2.2) else f_operand_396 2 r6.2.1 r6.2.2) else f_operand_396 1 r5.2.1 r5.2.2)) else f_operand_217 r4.2.1 r4.2.2) else f_operand_217 r3.2.1 r3.2.2) else f_operand_217 r2.2.1 r2.2.2) else (f_opens 2 r1.2.1 r1.2.2).bind fun r10 => some (0, r10.1, r10.2))
def f_operand_137 (x1 : Int32) (x2 : Int32) (V : zI) (L : zL) : Option (Int32 × zI × zL) :=
  (if x2 = 0 then f_operand_171 V L else (f_isWord 6384748 V L).bind fun r1 => (if r1.1 = 0 then f_operand_171 r1.2.1 r1.2.2 else (f_add 30 0 r1.2.1 r1.2.2).bind fun r2 => if inB x1 20 then (f_ahead (z_uI r2.1 14 x1.toNatClampNeg 2) r2.2).bind fun r4 => some (1, r4.1, r4.2) else none))
def f_operand_110 (x1 : Int32) (x2 : Int32) (V : zI) (L : zL) : Option (Int32 × zI × zL) :=
  if inB x1 20 then (if x2 = 0 then f_operand_137 x1 x2 (z_uI V 15 x1.toNatClampNeg (vp_nar .boolean 0)) L else (f_isSign 91 (z_uI V 15 x1.toNatClampNeg (vp_nar .boolean 0)) L).bind fun r2 => (if r2.1 = 0 then f_operand_137 x1 x2 r2.2.1 r2.2.2 else (f_opens 5 r2.2.1 r2.2.2).bind fun r3 => some (0, r3.1, r3.2))) else none
def f_operand_46 (x1 : Int32) (s0 : Int32) (V : zI) (L : zL) : Option (Int32 × zI × zL) :=
  (if s0 = 0 then f_operand_110 x1 s0 V L else (f_isWord 7237492 V L).bind fun r1 => (if r1.1 = 0 then f_operand_110 x1 s0 r1.2.1 r1.2.2 else (if (r1.2.1 0 34) = 7 then (f_blame 5 (r1.2.1 0 4) r1.2.1 r1.2.2).bind fun r2 => f_operand_79 r2.1 r2.2 else f_operand_79 r1.2.1 r1.2.2)))
def f_operand_45 (x1 : Int32) (V : zI) (L : zL) : Option (Int32 × zI × zL) :=
  f_operand_46 x1 0 V L
def f_operand (V : zI) (L : zL) : Option (Int32 × zI × zL) :=
  (f_lex V L).bind fun r1 => (if (r1.1 0 8) ≤ 0 then if inB ((r1.1 0 33) - 1) 20 then (f_isTest (r1.1 13 ((r1.1 0 33) - 1).toNatClampNeg)).bind fun r3 => (if r3 = 0 then f_operand_45 ((r1.1 0 33) - 1) r1.1 r1.2 else if inB ((r1.1 0 33) - 1) 20 then (if (r1.1 15 ((r1.1 0 33) - 1).toNatClampNeg) = 0 then f_operand_45 ((r1.1 0 33) - 1) r1.1 r1.2 else f_operand_46 ((r1.1 0 33) - 1) 1 r1.1 r1.2) else none) else none else some (1, r1.1, r1.2))
set_option maxHeartbeats 4000000 in
set_option maxRecDepth 100000 in
theorem w_operand_79 {M : zM} {D : va_G} {cy : Nat → ClassId} {ad : Nat → Nat} {r' : Int32 × zI × zL} (X : RX M (zR D cy ad) cX11_operand 4 RX11 3 66) (Z : RZi M (zR D cy ad) .boolean r'.1 r'.2.1 r'.2.2)  (V : zI) (L : zL) (ls : Array Slot) (hl : lv_has ls 4 [(0, .ref (ad 0))]) (hf : f_operand_79 V L = some r') : RG M (zR D cy ad) V L 79 ls [] := by
  unfold f_operand_79 at hf
  refine z_aload_n X dX11_operand_79 rfl (lv_at hl 0 rfl) ?_
  refine m_geti X ff_8 dX11_operand_80 ?_
  refine z_if_le (tgt := 88) X dX11_operand_83 (by decide) (fun c_ => ?_) (fun c_ => ?_)
  · have hf := (if_pos c_).symm.trans hf
    refine z_aload_n X dX11_operand_88 rfl (lv_at hl 0 rfl) ?_
    refine z_dup X dX11_operand_89 rfl ?_
    refine m_geti X ff_34 dX11_operand_90 ?_
    refine z_iconst (v := 1) X dX11_operand_93 (by decide) ?_
    refine z_iadd X dX11_operand_94 ?_
    refine m_puti X fp_34 dX11_operand_95 ?_
    refine z_aload_n X dX11_operand_98 rfl (lv_at hl 0 rfl) ?_
    refine z_bipush (v := 43) X dX11_operand_99 (by decide) ?_
    obtain ⟨r1, hc1, hf⟩ := z_bind hf
    refine m_callVv [.int 43] X hl.1 (c_holdsBack D cy ad hc1) gm_holdsBack pd_holdsBack rfl ⟨by decide, by decide⟩ (Nat.le_of_ble_eq_true rfl) rfl dX11_operand_101 ?_
    refine z_aload_n X dX11_operand_104 rfl (lv_at hl 0 rfl) ?_
    obtain ⟨r2, hc2, hf⟩ := z_bind hf
    refine m_callVv [] X hl.1 (c_ahead D cy ad hc2) gm_ahead pd_ahead rfl ⟨by decide, by decide⟩ (Nat.le_of_ble_eq_true rfl) rfl dX11_operand_105 ?_
    refine z_iconst (v := 0) X dX11_operand_108 (by decide) ?_
    exact m_iret X Z hf (by decide) dX11_operand_109
  · have hf := (if_neg c_).symm.trans hf
    refine z_iconst (v := 1) X dX11_operand_86 (by decide) ?_
    exact m_iret X Z hf (by decide) dX11_operand_87

set_option maxHeartbeats 4000000 in
set_option maxRecDepth 100000 in
theorem w_operand_289 {M : zM} {D : va_G} {cy : Nat → ClassId} {ad : Nat → Nat} {r' : Int32 × zI × zL} (X : RX M (zR D cy ad) cX11_operand 4 RX11 3 66) (Z : RZi M (zR D cy ad) .boolean r'.1 r'.2.1 r'.2.2) (x3 : Int32) (s1 : Int32) (V : zI) (L : zL) (ls : Array Slot) (hl : lv_has ls 4 [(0, .ref (ad 0)), (3, .int x3)]) (hf : f_operand_289 x3 s1 V L = some r') : RG M (zR D cy ad) V L 289 ls [.int s1, .ref (ad 0)] := by
  unfold f_operand_289 at hf
  obtain ⟨r1, hc1, hf⟩ := z_bind hf
  refine m_callVv [.int s1] X hl.1 (c_opens D cy ad hc1) gm_opens pd_opens rfl ⟨by decide, by decide⟩ (Nat.le_of_ble_eq_true rfl) rfl dX11_operand_289 ?_
  refine z_aload_n X dX11_operand_292 rfl (lv_at hl 0 rfl) ?_
  refine m_geti X ff_8 dX11_operand_293 ?_
  refine z_if_ne (tgt := 311) X dX11_operand_296 (by decide) (fun c_ => ?_) (fun c_ => ?_)
  · have hf := (if_neg c_).symm.trans hf
    refine z_iconst (v := 0) X dX11_operand_311 (by decide) ?_
    exact m_iret X Z hf (by decide) dX11_operand_312
  · have hf := (if_pos c_).symm.trans hf
    refine z_aload_n X dX11_operand_299 rfl (lv_at hl 0 rfl) ?_
    refine m_geta X ff_31 dX11_operand_300 ?_
    refine z_aload_n X dX11_operand_303 rfl (lv_at hl 0 rfl) ?_
    refine m_geti X ff_33 dX11_operand_304 ?_
    refine z_iconst (v := 1) X dX11_operand_307 (by decide) ?_
    refine z_isub X dX11_operand_308 ?_
    refine z_iload_n X dX11_operand_309 rfl (lv_at hl 1 rfl) ?_
    obtain ⟨hb2, hf⟩ := z_ite hf
    refine m_iast X pa_16 hb2 dX11_operand_310 ?_
    refine z_iconst (v := 0) X dX11_operand_311 (by decide) ?_
    exact m_iret X Z hf (by decide) dX11_operand_312

set_option maxHeartbeats 4000000 in
set_option maxRecDepth 100000 in
theorem w_operand_276 {M : zM} {D : va_G} {cy : Nat → ClassId} {ad : Nat → Nat} {r' : Int32 × zI × zL} (X : RX M (zR D cy ad) cX11_operand 4 RX11 3 66) (Z : RZi M (zR D cy ad) .boolean r'.1 r'.2.1 r'.2.2) (x3 : Int32) (V : zI) (L : zL) (ls : Array Slot) (hl : lv_has ls 4 [(0, .ref (ad 0)), (3, .int x3)]) (hf : f_operand_276 x3 V L = some r') : RG M (zR D cy ad) V L 276 ls [] := by
  unfold f_operand_276 at hf
  refine z_aload_n X dX11_operand_276 rfl (lv_at hl 0 rfl) ?_
  refine z_iload_n X dX11_operand_277 rfl (lv_at hl 1 rfl) ?_
  refine z_bipush (v := 44) X dX11_operand_278 (by decide) ?_
  refine z_icmp_ne (tgt := 288) X dX11_operand_280 (by decide) (fun c_ => ?_) (fun c_ => ?_)
  · have hf := (if_neg c_).symm.trans hf
    refine z_iconst (v := 3) X dX11_operand_288 (by decide) ?_
    exact w_operand_289 X Z x3 3 V L ls (lv_sub hl [0, 1] rfl) hf
  · have hf := (if_pos c_).symm.trans hf
    refine z_bipush (v := 6) X dX11_operand_283 (by decide) ?_
    refine z_goto (tgt := 289) X dX11_operand_285 (by decide) ?_
    exact w_operand_289 X Z x3 6 V L ls (lv_sub hl [0, 1] rfl) hf

set_option maxHeartbeats 4000000 in
set_option maxRecDepth 100000 in
theorem w_operand_249 {M : zM} {D : va_G} {cy : Nat → ClassId} {ad : Nat → Nat} {r' : Int32 × zI × zL} (X : RX M (zR D cy ad) cX11_operand 4 RX11 3 66) (Z : RZi M (zR D cy ad) .boolean r'.1 r'.2.1 r'.2.2) (s0 : Int32) (V : zI) (L : zL) (ls : Array Slot) (hl : lv_has ls 4 [(0, .ref (ad 0))]) (hf : f_operand_249 s0 V L = some r') : RG M (zR D cy ad) V L 249 ls [.int s0] := by
  unfold f_operand_249 at hf
  refine z_istore_n (lv' := [(3, .int s0), (0, .ref (ad 0))]) X dX11_operand_249 rfl hl (by decide) rfl (fun ls hl => ?_)
  refine z_aload_n X dX11_operand_250 rfl (lv_at hl 1 rfl) ?_
  obtain ⟨r1, hc1, hf⟩ := z_bind hf
  refine m_callVv [] X hl.1 (c_ahead D cy ad hc1) gm_ahead pd_ahead rfl ⟨by decide, by decide⟩ (Nat.le_of_ble_eq_true rfl) rfl dX11_operand_251 ?_
  refine z_aload_n X dX11_operand_254 rfl (lv_at hl 1 rfl) ?_
  obtain ⟨r2, hc2, hf⟩ := z_bind hf
  refine m_callVv [] X hl.1 (c_lex D cy ad hc2) gm_lex pd_lex rfl ⟨by decide, by decide⟩ (Nat.le_of_ble_eq_true rfl) rfl dX11_operand_255 ?_
  refine z_aload_n X dX11_operand_258 rfl (lv_at hl 1 rfl) ?_
  refine z_bipush (v := 40) X dX11_operand_259 (by decide) ?_
  obtain ⟨r3, hc3, hf⟩ := z_bind hf
  refine m_callVi [.int 40] X hl.1 (c_isSign D cy ad hc3) gm_isSign pd_isSign rfl ⟨by decide, by decide⟩ (Nat.le_of_ble_eq_true rfl) rfl dX11_operand_261 ?_
  refine z_if_ne (tgt := 276) X dX11_operand_264 (by decide) (fun c_ => ?_) (fun c_ => ?_)
  · have hf := (if_neg c_).symm.trans hf
    exact w_operand_276 X Z s0 r3.2.1 r3.2.2 ls (lv_sub hl [1, 0] rfl) hf
  · have hf := (if_pos c_).symm.trans hf
    refine z_aload_n X dX11_operand_267 rfl (lv_at hl 1 rfl) ?_
    refine z_iconst (v := 1) X dX11_operand_268 (by decide) ?_
    refine z_aload_n X dX11_operand_269 rfl (lv_at hl 1 rfl) ?_
    refine m_geti X ff_4 dX11_operand_270 ?_
    obtain ⟨r4, hc4, hf⟩ := z_bind hf
    refine m_callVv [.int 1, .int (r3.2.1 0 4)] X hl.1 (c_blame D cy ad hc4) gm_blame pd_blame rfl ⟨by decide, by decide⟩ (Nat.le_of_ble_eq_true rfl) rfl dX11_operand_273 ?_
    exact w_operand_276 X Z s0 r4.1 r4.2 ls (lv_sub hl [1, 0] rfl) hf

set_option maxHeartbeats 4000000 in
set_option maxRecDepth 100000 in
theorem w_operand_217 {M : zM} {D : va_G} {cy : Nat → ClassId} {ad : Nat → Nat} {r' : Int32 × zI × zL} (X : RX M (zR D cy ad) cX11_operand 4 RX11 3 66) (Z : RZi M (zR D cy ad) .boolean r'.1 r'.2.1 r'.2.2)  (V : zI) (L : zL) (ls : Array Slot) (hl : lv_has ls 4 [(0, .ref (ad 0))]) (hf : f_operand_217 V L = some r') : RG M (zR D cy ad) V L 217 ls [] := by
  unfold f_operand_217 at hf
  refine z_aload_n X dX11_operand_217 rfl (lv_at hl 0 rfl) ?_
  refine z_ldc2 X dX11_operand_218 kc_283 ?_
  obtain ⟨r1, hc1, hf⟩ := z_bind hf
  refine m_callVi [.long 7170414] X hl.1 (c_isWord D cy ad hc1) gm_isWord pd_isWord rfl ⟨by decide, by decide⟩ (Nat.le_of_ble_eq_true rfl) rfl dX11_operand_221 ?_
  refine z_if_eq (tgt := 232) X dX11_operand_224 (by decide) (fun c_ => ?_) (fun c_ => ?_)
  · have hf := (if_pos c_).symm.trans hf
    refine z_aload_n X dX11_operand_232 rfl (lv_at hl 0 rfl) ?_
    refine z_ldc2 X dX11_operand_233 kc_285 ?_
    obtain ⟨r2, hc2, hf⟩ := z_bind hf
    refine m_callVi [.long 7168376] X hl.1 (c_isWord D cy ad hc2) gm_isWord pd_isWord rfl ⟨by decide, by decide⟩ (Nat.le_of_ble_eq_true rfl) rfl dX11_operand_236 ?_
    refine z_if_eq (tgt := 247) X dX11_operand_239 (by decide) (fun c_ => ?_) (fun c_ => ?_)
    · have hf := (if_pos c_).symm.trans hf
      refine z_bipush (v := 44) X dX11_operand_247 (by decide) ?_
      exact w_operand_249 X Z 44 r2.2.1 r2.2.2 ls (lv_sub hl [0] rfl) hf
    · have hf := (if_neg c_).symm.trans hf
      refine z_bipush (v := 37) X dX11_operand_242 (by decide) ?_
      refine z_goto (tgt := 249) X dX11_operand_244 (by decide) ?_
      exact w_operand_249 X Z 37 r2.2.1 r2.2.2 ls (lv_sub hl [0] rfl) hf
  · have hf := (if_neg c_).symm.trans hf
    refine z_bipush (v := 36) X dX11_operand_227 (by decide) ?_
    refine z_goto (tgt := 249) X dX11_operand_229 (by decide) ?_
    exact w_operand_249 X Z 36 r1.2.1 r1.2.2 ls (lv_sub hl [0] rfl) hf

set_option maxHeartbeats 4000000 in
set_option maxRecDepth 100000 in
theorem w_operand_425 {M : zM} {D : va_G} {cy : Nat → ClassId} {ad : Nat → Nat} {r' : Int32 × zI × zL} (X : RX M (zR D cy ad) cX11_operand 4 RX11 3 66) (Z : RZi M (zR D cy ad) .boolean r'.1 r'.2.1 r'.2.2) (x3 : Int32) (V : zI) (L : zL) (ls : Array Slot) (hl : lv_has ls 4 [(0, .ref (ad 0)), (3, .int x3)]) (hf : f_operand_425 x3 V L = some r') : RG M (zR D cy ad) V L 425 ls [] := by
  unfold f_operand_425 at hf
  refine z_aload_n X dX11_operand_425 rfl (lv_at hl 0 rfl) ?_
  refine m_geti X ff_8 dX11_operand_426 ?_
  refine z_if_le (tgt := 434) X dX11_operand_429 (by decide) (fun c_ => ?_) (fun c_ => ?_)
  · have hf := (if_pos c_).symm.trans hf
    refine z_aload_n X dX11_operand_434 rfl (lv_at hl 0 rfl) ?_
    refine z_iload_n X dX11_operand_435 rfl (lv_at hl 1 rfl) ?_
    refine z_aload_n X dX11_operand_436 rfl (lv_at hl 0 rfl) ?_
    refine m_geti X ff_6 dX11_operand_437 ?_
    obtain ⟨r1, hc1, hf⟩ := z_bind hf
    refine m_callVv [.int x3, .int (V 0 6)] X hl.1 (c_add D cy ad hc1) gm_add pd_add rfl ⟨by decide, by decide⟩ (Nat.le_of_ble_eq_true rfl) rfl dX11_operand_440 ?_
    refine z_aload_n X dX11_operand_443 rfl (lv_at hl 0 rfl) ?_
    obtain ⟨r2, hc2, hf⟩ := z_bind hf
    refine m_callVv [] X hl.1 (c_ahead D cy ad hc2) gm_ahead pd_ahead rfl ⟨by decide, by decide⟩ (Nat.le_of_ble_eq_true rfl) rfl dX11_operand_444 ?_
    refine z_iconst (v := 1) X dX11_operand_447 (by decide) ?_
    exact m_iret X Z hf (by decide) dX11_operand_448
  · have hf := (if_neg c_).symm.trans hf
    refine z_iconst (v := 1) X dX11_operand_432 (by decide) ?_
    exact m_iret X Z hf (by decide) dX11_operand_433

set_option maxHeartbeats 4000000 in
set_option maxRecDepth 100000 in
theorem w_operand_411 {M : zM} {D : va_G} {cy : Nat → ClassId} {ad : Nat → Nat} {r' : Int32 × zI × zL} (X : RX M (zR D cy ad) cX11_operand 4 RX11 3 66) (Z : RZi M (zR D cy ad) .boolean r'.1 r'.2.1 r'.2.2) (x3 : Int32) (V : zI) (L : zL) (ls : Array Slot) (hl : lv_has ls 4 [(0, .ref (ad 0)), (3, .int x3)]) (hf : f_operand_411 x3 V L = some r') : RG M (zR D cy ad) V L 411 ls [] := by
  unfold f_operand_411 at hf
  refine z_iload_n X dX11_operand_411 rfl (lv_at hl 1 rfl) ?_
  refine z_iconst (v := -1) X dX11_operand_412 (by decide) ?_
  refine z_icmp_ne (tgt := 425) X dX11_operand_413 (by decide) (fun c_ => ?_) (fun c_ => ?_)
  · have hf := (if_neg c_).symm.trans hf
    exact w_operand_425 X Z x3 V L ls (lv_sub hl [0, 1] rfl) hf
  · have hf := (if_pos c_).symm.trans hf
    refine z_aload_n X dX11_operand_416 rfl (lv_at hl 0 rfl) ?_
    refine z_iconst (v := 1) X dX11_operand_417 (by decide) ?_
    refine z_aload_n X dX11_operand_418 rfl (lv_at hl 0 rfl) ?_
    refine m_geti X ff_4 dX11_operand_419 ?_
    obtain ⟨r1, hc1, hf⟩ := z_bind hf
    refine m_callVv [.int 1, .int (V 0 4)] X hl.1 (c_blame D cy ad hc1) gm_blame pd_blame rfl ⟨by decide, by decide⟩ (Nat.le_of_ble_eq_true rfl) rfl dX11_operand_422 ?_
    exact w_operand_425 X Z x3 r1.1 r1.2 ls (lv_sub hl [0, 1] rfl) hf

set_option maxHeartbeats 4000000 in
set_option maxRecDepth 100000 in
theorem w_operand_396 {M : zM} {D : va_G} {cy : Nat → ClassId} {ad : Nat → Nat} {r' : Int32 × zI × zL} (X : RX M (zR D cy ad) cX11_operand 4 RX11 3 66) (Z : RZi M (zR D cy ad) .boolean r'.1 r'.2.1 r'.2.2) (s0 : Int32) (V : zI) (L : zL) (ls : Array Slot) (hl : lv_has ls 4 [(0, .ref (ad 0))]) (hf : f_operand_396 s0 V L = some r') : RG M (zR D cy ad) V L 396 ls [.int s0] := by
  unfold f_operand_396 at hf
  refine z_istore_n (lv' := [(3, .int s0), (0, .ref (ad 0))]) X dX11_operand_396 rfl hl (by decide) rfl (fun ls hl => ?_)
  refine z_iload_n X dX11_operand_397 rfl (lv_at hl 0 rfl) ?_
  refine z_iconst (v := 3) X dX11_operand_398 (by decide) ?_
  refine z_icmp_le (tgt := 411) X dX11_operand_399 (by decide) (fun c_ => ?_) (fun c_ => ?_)
  · have hf := (if_pos c_).symm.trans hf
    exact w_operand_411 X Z s0 V L ls (lv_sub hl [1, 0] rfl) hf
  · have hf := (if_neg c_).symm.trans hf
    refine z_aload_n X dX11_operand_402 rfl (lv_at hl 1 rfl) ?_
    refine m_geti X ff_27 dX11_operand_403 ?_
    refine z_if_eq (tgt := 411) X dX11_operand_406 (by decide) (fun c_ => ?_) (fun c_ => ?_)
    · have hf := (if_pos c_).symm.trans hf
      exact w_operand_411 X Z s0 V L ls (lv_sub hl [1, 0] rfl) hf
    · have hf := (if_neg c_).symm.trans hf
      refine z_iconst (v := -1) X dX11_operand_409 (by decide) ?_
      refine z_istore_n (lv' := [(3, .int (-1)), (0, .ref (ad 0))]) X dX11_operand_410 rfl hl (by decide) rfl (fun ls hl => ?_)
      exact w_operand_411 X Z (-1) V L ls (lv_sub hl [1, 0] rfl) hf

set_option maxHeartbeats 4000000 in
set_option maxRecDepth 100000 in
theorem w_operand_171 {M : zM} {D : va_G} {cy : Nat → ClassId} {ad : Nat → Nat} {r' : Int32 × zI × zL} (X : RX M (zR D cy ad) cX11_operand 4 RX11 3 66) (Z : RZi M (zR D cy ad) .boolean r'.1 r'.2.1 r'.2.2)  (V : zI) (L : zL) (ls : Array Slot) (hl : lv_has ls 4 [(0, .ref (ad 0))]) (hf : f_operand_171 V L = some r') : RG M (zR D cy ad) V L 171 ls [] := by
  unfold f_operand_171 at hf
  refine z_aload_n X dX11_operand_171 rfl (lv_at hl 0 rfl) ?_
  refine z_bipush (v := 40) X dX11_operand_172 (by decide) ?_
  obtain ⟨r1, hc1, hf⟩ := z_bind hf
  refine m_callVi [.int 40] X hl.1 (c_isSign D cy ad hc1) gm_isSign pd_isSign rfl ⟨by decide, by decide⟩ (Nat.le_of_ble_eq_true rfl) rfl dX11_operand_174 ?_
  refine z_if_eq (tgt := 187) X dX11_operand_177 (by decide) (fun c_ => ?_) (fun c_ => ?_)
  · have hf := (if_pos c_).symm.trans hf
    refine z_aload_n X dX11_operand_187 rfl (lv_at hl 0 rfl) ?_
    refine z_ldc2 X dX11_operand_188 kc_283 ?_
    obtain ⟨r2, hc2, hf⟩ := z_bind hf
    refine m_callVi [.long 7170414] X hl.1 (c_isWord D cy ad hc2) gm_isWord pd_isWord rfl ⟨by decide, by decide⟩ (Nat.le_of_ble_eq_true rfl) rfl dX11_operand_191 ?_
    refine z_if_ne (tgt := 217) X dX11_operand_194 (by decide) (fun c_ => ?_) (fun c_ => ?_)
    · have hf := (if_neg c_).symm.trans hf
      exact w_operand_217 X Z r2.2.1 r2.2.2 ls (lv_sub hl [0] rfl) hf
    · have hf := (if_pos c_).symm.trans hf
      refine z_aload_n X dX11_operand_197 rfl (lv_at hl 0 rfl) ?_
      refine z_ldc2 X dX11_operand_198 kc_285 ?_
      obtain ⟨r3, hc3, hf⟩ := z_bind hf
      refine m_callVi [.long 7168376] X hl.1 (c_isWord D cy ad hc3) gm_isWord pd_isWord rfl ⟨by decide, by decide⟩ (Nat.le_of_ble_eq_true rfl) rfl dX11_operand_201 ?_
      refine z_if_ne (tgt := 217) X dX11_operand_204 (by decide) (fun c_ => ?_) (fun c_ => ?_)
      · have hf := (if_neg c_).symm.trans hf
        exact w_operand_217 X Z r3.2.1 r3.2.2 ls (lv_sub hl [0] rfl) hf
      · have hf := (if_pos c_).symm.trans hf
        refine z_aload_n X dX11_operand_207 rfl (lv_at hl 0 rfl) ?_
        refine z_ldc2 X dX11_operand_208 kc_273 ?_
        obtain ⟨r4, hc4, hf⟩ := z_bind hf
        refine m_callVi [.long 26982] X hl.1 (c_isWord D cy ad hc4) gm_isWord pd_isWord rfl ⟨by decide, by decide⟩ (Nat.le_of_ble_eq_true rfl) rfl dX11_operand_211 ?_
        refine z_if_eq (tgt := 313) X dX11_operand_214 (by decide) (fun c_ => ?_) (fun c_ => ?_)
        · have hf := (if_pos c_).symm.trans hf
          refine z_aload_n X dX11_operand_313 rfl (lv_at hl 0 rfl) ?_
          refine m_geti X ff_3 dX11_operand_314 ?_
          refine z_iconst (v := 2) X dX11_operand_317 (by decide) ?_
          refine z_icmp_ne (tgt := 325) X dX11_operand_318 (by decide) (fun c_ => ?_) (fun c_ => ?_)
          · have hf := (if_neg c_).symm.trans hf
            refine z_aload_n X dX11_operand_325 rfl (lv_at hl 0 rfl) ?_
            refine z_ldc2 X dX11_operand_326 kc_263 ?_
            obtain ⟨r5, hc5, hf⟩ := z_bind hf
            refine m_callVi [.long 1751477348] X hl.1 (c_isWord D cy ad hc5) gm_isWord pd_isWord rfl ⟨by decide, by decide⟩ (Nat.le_of_ble_eq_true rfl) rfl dX11_operand_329 ?_
            refine z_if_eq (tgt := 339) X dX11_operand_332 (by decide) (fun c_ => ?_) (fun c_ => ?_)
            · have hf := (if_pos c_).symm.trans hf
              refine z_aload_n X dX11_operand_339 rfl (lv_at hl 0 rfl) ?_
              refine z_ldc2 X dX11_operand_340 kc_265 ?_
              obtain ⟨r6, hc6, hf⟩ := z_bind hf
              refine m_callVi [.long 6709618] X hl.1 (c_isWord D cy ad hc6) gm_isWord pd_isWord rfl ⟨by decide, by decide⟩ (Nat.le_of_ble_eq_true rfl) rfl dX11_operand_343 ?_
              refine z_if_eq (tgt := 353) X dX11_operand_346 (by decide) (fun c_ => ?_) (fun c_ => ?_)
              · have hf := (if_pos c_).symm.trans hf
                refine z_aload_n X dX11_operand_353 rfl (lv_at hl 0 rfl) ?_
                refine z_ldc2 X dX11_operand_354 kc_267 ?_
                obtain ⟨r7, hc7, hf⟩ := z_bind hf
                refine m_callVi [.long 6578553] X hl.1 (c_isWord D cy ad hc7) gm_isWord pd_isWord rfl ⟨by decide, by decide⟩ (Nat.le_of_ble_eq_true rfl) rfl dX11_operand_357 ?_
                refine z_if_eq (tgt := 367) X dX11_operand_360 (by decide) (fun c_ => ?_) (fun c_ => ?_)
                · have hf := (if_pos c_).symm.trans hf
                  refine z_aload_n X dX11_operand_367 rfl (lv_at hl 0 rfl) ?_
                  refine z_ldc2 X dX11_operand_368 kc_269 ?_
                  obtain ⟨r8, hc8, hf⟩ := z_bind hf
                  refine m_callVi [.long 1936027252] X hl.1 (c_isWord D cy ad hc8) gm_isWord pd_isWord rfl ⟨by decide, by decide⟩ (Nat.le_of_ble_eq_true rfl) rfl dX11_operand_371 ?_
                  refine z_if_eq (tgt := 381) X dX11_operand_374 (by decide) (fun c_ => ?_) (fun c_ => ?_)
                  · have hf := (if_pos c_).symm.trans hf
                    refine z_aload_n X dX11_operand_381 rfl (lv_at hl 0 rfl) ?_
                    refine z_ldc2 X dX11_operand_382 kc_271 ?_
                    obtain ⟨r9, hc9, hf⟩ := z_bind hf
                    refine m_callVi [.long 6778740] X hl.1 (c_isWord D cy ad hc9) gm_isWord pd_isWord rfl ⟨by decide, by decide⟩ (Nat.le_of_ble_eq_true rfl) rfl dX11_operand_385 ?_
                    refine z_if_eq (tgt := 395) X dX11_operand_388 (by decide) (fun c_ => ?_) (fun c_ => ?_)
                    · have hf := (if_pos c_).symm.trans hf
                      refine z_iconst (v := -1) X dX11_operand_395 (by decide) ?_
                      exact w_operand_396 X Z (-1) r9.2.1 r9.2.2 ls (lv_sub hl [0] rfl) hf
                    · have hf := (if_neg c_).symm.trans hf
                      refine z_iconst (v := 5) X dX11_operand_391 (by decide) ?_
                      refine z_goto (tgt := 396) X dX11_operand_392 (by decide) ?_
                      exact w_operand_396 X Z 5 r9.2.1 r9.2.2 ls (lv_sub hl [0] rfl) hf
                  · have hf := (if_neg c_).symm.trans hf
                    refine z_iconst (v := 4) X dX11_operand_377 (by decide) ?_
                    refine z_goto (tgt := 396) X dX11_operand_378 (by decide) ?_
                    exact w_operand_396 X Z 4 r8.2.1 r8.2.2 ls (lv_sub hl [0] rfl) hf
                · have hf := (if_neg c_).symm.trans hf
                  refine z_iconst (v := 3) X dX11_operand_363 (by decide) ?_
                  refine z_goto (tgt := 396) X dX11_operand_364 (by decide) ?_
                  exact w_operand_396 X Z 3 r7.2.1 r7.2.2 ls (lv_sub hl [0] rfl) hf
              · have hf := (if_neg c_).symm.trans hf
                refine z_iconst (v := 2) X dX11_operand_349 (by decide) ?_
                refine z_goto (tgt := 396) X dX11_operand_350 (by decide) ?_
                exact w_operand_396 X Z 2 r6.2.1 r6.2.2 ls (lv_sub hl [0] rfl) hf
            · have hf := (if_neg c_).symm.trans hf
              refine z_iconst (v := 1) X dX11_operand_335 (by decide) ?_
              refine z_goto (tgt := 396) X dX11_operand_336 (by decide) ?_
              exact w_operand_396 X Z 1 r5.2.1 r5.2.2 ls (lv_sub hl [0] rfl) hf
          · have hf := (if_pos c_).symm.trans hf
            refine z_iconst (v := 0) X dX11_operand_321 (by decide) ?_
            refine z_goto (tgt := 396) X dX11_operand_322 (by decide) ?_
            exact w_operand_396 X Z 0 r4.2.1 r4.2.2 ls (lv_sub hl [0] rfl) hf
        · have hf := (if_neg c_).symm.trans hf
          exact w_operand_217 X Z r4.2.1 r4.2.2 ls (lv_sub hl [0] rfl) hf
  · have hf := (if_neg c_).symm.trans hf
    refine z_aload_n X dX11_operand_180 rfl (lv_at hl 0 rfl) ?_
    refine z_iconst (v := 2) X dX11_operand_181 (by decide) ?_
    obtain ⟨r10, hc10, hf⟩ := z_bind hf
    refine m_callVv [.int 2] X hl.1 (c_opens D cy ad hc10) gm_opens pd_opens rfl ⟨by decide, by decide⟩ (Nat.le_of_ble_eq_true rfl) rfl dX11_operand_182 ?_
    refine z_iconst (v := 0) X dX11_operand_185 (by decide) ?_
    exact m_iret X Z hf (by decide) dX11_operand_186

set_option maxHeartbeats 4000000 in
set_option maxRecDepth 100000 in
theorem w_operand_137 {M : zM} {D : va_G} {cy : Nat → ClassId} {ad : Nat → Nat} {r' : Int32 × zI × zL} (X : RX M (zR D cy ad) cX11_operand 4 RX11 3 66) (Z : RZi M (zR D cy ad) .boolean r'.1 r'.2.1 r'.2.2) (x1 : Int32) (x2 : Int32) (V : zI) (L : zL) (ls : Array Slot) (hl : lv_has ls 4 [(0, .ref (ad 0)), (1, .int x1), (2, .int x2)]) (hf : f_operand_137 x1 x2 V L = some r') : RG M (zR D cy ad) V L 137 ls [] := by
  unfold f_operand_137 at hf
  refine z_iload_n X dX11_operand_137 rfl (lv_at hl 2 rfl) ?_
  refine z_if_eq (tgt := 171) X dX11_operand_138 (by decide) (fun c_ => ?_) (fun c_ => ?_)
  · have hf := (if_pos c_).symm.trans hf
    exact w_operand_171 X Z V L ls (lv_sub hl [0] rfl) hf
  · have hf := (if_neg c_).symm.trans hf
    refine z_aload_n X dX11_operand_141 rfl (lv_at hl 0 rfl) ?_
    refine z_ldc2 X dX11_operand_142 kc_281 ?_
    obtain ⟨r1, hc1, hf⟩ := z_bind hf
    refine m_callVi [.long 6384748] X hl.1 (c_isWord D cy ad hc1) gm_isWord pd_isWord rfl ⟨by decide, by decide⟩ (Nat.le_of_ble_eq_true rfl) rfl dX11_operand_145 ?_
    refine z_if_eq (tgt := 171) X dX11_operand_148 (by decide) (fun c_ => ?_) (fun c_ => ?_)
    · have hf := (if_pos c_).symm.trans hf
      exact w_operand_171 X Z r1.2.1 r1.2.2 ls (lv_sub hl [0] rfl) hf
    · have hf := (if_neg c_).symm.trans hf
      refine z_aload_n X dX11_operand_151 rfl (lv_at hl 0 rfl) ?_
      refine z_bipush (v := 30) X dX11_operand_152 (by decide) ?_
      refine z_iconst (v := 0) X dX11_operand_154 (by decide) ?_
      obtain ⟨r2, hc2, hf⟩ := z_bind hf
      refine m_callVv [.int 30, .int 0] X hl.1 (c_add D cy ad hc2) gm_add pd_add rfl ⟨by decide, by decide⟩ (Nat.le_of_ble_eq_true rfl) rfl dX11_operand_155 ?_
      refine z_aload_n X dX11_operand_158 rfl (lv_at hl 0 rfl) ?_
      refine m_geta X ff_29 dX11_operand_159 ?_
      refine z_iload_n X dX11_operand_162 rfl (lv_at hl 1 rfl) ?_
      refine z_iconst (v := 2) X dX11_operand_163 (by decide) ?_
      obtain ⟨hb3, hf⟩ := z_ite hf
      refine m_iast X pa_14 hb3 dX11_operand_164 ?_
      refine z_aload_n X dX11_operand_165 rfl (lv_at hl 0 rfl) ?_
      obtain ⟨r4, hc4, hf⟩ := z_bind hf
      refine m_callVv [] X hl.1 (c_ahead D cy ad hc4) gm_ahead pd_ahead rfl ⟨by decide, by decide⟩ (Nat.le_of_ble_eq_true rfl) rfl dX11_operand_166 ?_
      refine z_iconst (v := 1) X dX11_operand_169 (by decide) ?_
      exact m_iret X Z hf (by decide) dX11_operand_170

set_option maxHeartbeats 4000000 in
set_option maxRecDepth 100000 in
theorem w_operand_110 {M : zM} {D : va_G} {cy : Nat → ClassId} {ad : Nat → Nat} {r' : Int32 × zI × zL} (X : RX M (zR D cy ad) cX11_operand 4 RX11 3 66) (Z : RZi M (zR D cy ad) .boolean r'.1 r'.2.1 r'.2.2) (x1 : Int32) (x2 : Int32) (V : zI) (L : zL) (ls : Array Slot) (hl : lv_has ls 4 [(0, .ref (ad 0)), (1, .int x1), (2, .int x2)]) (hf : f_operand_110 x1 x2 V L = some r') : RG M (zR D cy ad) V L 110 ls [] := by
  unfold f_operand_110 at hf
  refine z_aload_n X dX11_operand_110 rfl (lv_at hl 0 rfl) ?_
  refine m_geta X ff_30 dX11_operand_111 ?_
  refine z_iload_n X dX11_operand_114 rfl (lv_at hl 1 rfl) ?_
  refine z_iconst (v := 0) X dX11_operand_115 (by decide) ?_
  obtain ⟨hb1, hf⟩ := z_ite hf
  refine m_zast X pa_15 hb1 dX11_operand_116 ?_
  refine z_iload_n X dX11_operand_117 rfl (lv_at hl 2 rfl) ?_
  refine z_if_eq (tgt := 137) X dX11_operand_118 (by decide) (fun c_ => ?_) (fun c_ => ?_)
  · have hf := (if_pos c_).symm.trans hf
    exact w_operand_137 X Z x1 x2 (z_uI V 15 x1.toNatClampNeg (vp_nar .boolean 0)) L ls (lv_sub hl [0, 1, 2] rfl) hf
  · have hf := (if_neg c_).symm.trans hf
    refine z_aload_n X dX11_operand_121 rfl (lv_at hl 0 rfl) ?_
    refine z_bipush (v := 91) X dX11_operand_122 (by decide) ?_
    obtain ⟨r2, hc2, hf⟩ := z_bind hf
    refine m_callVi [.int 91] X hl.1 (c_isSign D cy ad hc2) gm_isSign pd_isSign rfl ⟨by decide, by decide⟩ (Nat.le_of_ble_eq_true rfl) rfl dX11_operand_124 ?_
    refine z_if_eq (tgt := 137) X dX11_operand_127 (by decide) (fun c_ => ?_) (fun c_ => ?_)
    · have hf := (if_pos c_).symm.trans hf
      exact w_operand_137 X Z x1 x2 r2.2.1 r2.2.2 ls (lv_sub hl [0, 1, 2] rfl) hf
    · have hf := (if_neg c_).symm.trans hf
      refine z_aload_n X dX11_operand_130 rfl (lv_at hl 0 rfl) ?_
      refine z_iconst (v := 5) X dX11_operand_131 (by decide) ?_
      obtain ⟨r3, hc3, hf⟩ := z_bind hf
      refine m_callVv [.int 5] X hl.1 (c_opens D cy ad hc3) gm_opens pd_opens rfl ⟨by decide, by decide⟩ (Nat.le_of_ble_eq_true rfl) rfl dX11_operand_132 ?_
      refine z_iconst (v := 0) X dX11_operand_135 (by decide) ?_
      exact m_iret X Z hf (by decide) dX11_operand_136

set_option maxHeartbeats 4000000 in
set_option maxRecDepth 100000 in
theorem w_operand_46 {M : zM} {D : va_G} {cy : Nat → ClassId} {ad : Nat → Nat} {r' : Int32 × zI × zL} (X : RX M (zR D cy ad) cX11_operand 4 RX11 3 66) (Z : RZi M (zR D cy ad) .boolean r'.1 r'.2.1 r'.2.2) (x1 : Int32) (s0 : Int32) (V : zI) (L : zL) (ls : Array Slot) (hl : lv_has ls 4 [(0, .ref (ad 0)), (1, .int x1)]) (hf : f_operand_46 x1 s0 V L = some r') : RG M (zR D cy ad) V L 46 ls [.int s0] := by
  unfold f_operand_46 at hf
  refine z_istore_n (lv' := [(2, .int s0), (0, .ref (ad 0)), (1, .int x1)]) X dX11_operand_46 rfl hl (by decide) rfl (fun ls hl => ?_)
  refine z_iload_n X dX11_operand_47 rfl (lv_at hl 0 rfl) ?_
  refine z_if_eq (tgt := 110) X dX11_operand_48 (by decide) (fun c_ => ?_) (fun c_ => ?_)
  · have hf := (if_pos c_).symm.trans hf
    exact w_operand_110 X Z x1 s0 V L ls (lv_sub hl [1, 2, 0] rfl) hf
  · have hf := (if_neg c_).symm.trans hf
    refine z_aload_n X dX11_operand_51 rfl (lv_at hl 1 rfl) ?_
    refine z_ldc2 X dX11_operand_52 kc_279 ?_
    obtain ⟨r1, hc1, hf⟩ := z_bind hf
    refine m_callVi [.long 7237492] X hl.1 (c_isWord D cy ad hc1) gm_isWord pd_isWord rfl ⟨by decide, by decide⟩ (Nat.le_of_ble_eq_true rfl) rfl dX11_operand_55 ?_
    refine z_if_eq (tgt := 110) X dX11_operand_58 (by decide) (fun c_ => ?_) (fun c_ => ?_)
    · have hf := (if_pos c_).symm.trans hf
      exact w_operand_110 X Z x1 s0 r1.2.1 r1.2.2 ls (lv_sub hl [1, 2, 0] rfl) hf
    · have hf := (if_neg c_).symm.trans hf
      refine z_aload_n X dX11_operand_61 rfl (lv_at hl 1 rfl) ?_
      refine m_geti X ff_34 dX11_operand_62 ?_
      refine z_bipush (v := 7) X dX11_operand_65 (by decide) ?_
      refine z_icmp_ne (tgt := 79) X dX11_operand_67 (by decide) (fun c_ => ?_) (fun c_ => ?_)
      · have hf := (if_neg c_).symm.trans hf
        exact w_operand_79 X Z r1.2.1 r1.2.2 ls (lv_sub hl [1] rfl) hf
      · have hf := (if_pos c_).symm.trans hf
        refine z_aload_n X dX11_operand_70 rfl (lv_at hl 1 rfl) ?_
        refine z_iconst (v := 5) X dX11_operand_71 (by decide) ?_
        refine z_aload_n X dX11_operand_72 rfl (lv_at hl 1 rfl) ?_
        refine m_geti X ff_4 dX11_operand_73 ?_
        obtain ⟨r2, hc2, hf⟩ := z_bind hf
        refine m_callVv [.int 5, .int (r1.2.1 0 4)] X hl.1 (c_blame D cy ad hc2) gm_blame pd_blame rfl ⟨by decide, by decide⟩ (Nat.le_of_ble_eq_true rfl) rfl dX11_operand_76 ?_
        exact w_operand_79 X Z r2.1 r2.2 ls (lv_sub hl [1] rfl) hf

set_option maxHeartbeats 4000000 in
set_option maxRecDepth 100000 in
theorem w_operand_45 {M : zM} {D : va_G} {cy : Nat → ClassId} {ad : Nat → Nat} {r' : Int32 × zI × zL} (X : RX M (zR D cy ad) cX11_operand 4 RX11 3 66) (Z : RZi M (zR D cy ad) .boolean r'.1 r'.2.1 r'.2.2) (x1 : Int32) (V : zI) (L : zL) (ls : Array Slot) (hl : lv_has ls 4 [(0, .ref (ad 0)), (1, .int x1)]) (hf : f_operand_45 x1 V L = some r') : RG M (zR D cy ad) V L 45 ls [] := by
  unfold f_operand_45 at hf
  refine z_iconst (v := 0) X dX11_operand_45 (by decide) ?_
  exact w_operand_46 X Z x1 0 V L ls (lv_sub hl [0, 1] rfl) hf

set_option maxHeartbeats 4000000 in
set_option maxRecDepth 100000 in
theorem w_operand {M : zM} {D : va_G} {cy : Nat → ClassId} {ad : Nat → Nat} {r' : Int32 × zI × zL} (X : RX M (zR D cy ad) cX11_operand 4 RX11 3 66) (Z : RZi M (zR D cy ad) .boolean r'.1 r'.2.1 r'.2.2)  (V : zI) (L : zL) (ls : Array Slot) (hl : lv_has ls 4 [(0, .ref (ad 0))]) (hf : f_operand V L = some r') : RG M (zR D cy ad) V L 0 ls [] := by
  unfold f_operand at hf
  refine z_aload_n X dX11_operand_0 rfl (lv_at hl 0 rfl) ?_
  obtain ⟨r1, hc1, hf⟩ := z_bind hf
  refine m_callVv [] X hl.1 (c_lex D cy ad hc1) gm_lex pd_lex rfl ⟨by decide, by decide⟩ (Nat.le_of_ble_eq_true rfl) rfl dX11_operand_1 ?_
  refine z_aload_n X dX11_operand_4 rfl (lv_at hl 0 rfl) ?_
  refine m_geti X ff_8 dX11_operand_5 ?_
  refine z_if_le (tgt := 13) X dX11_operand_8 (by decide) (fun c_ => ?_) (fun c_ => ?_)
  · have hf := (if_pos c_).symm.trans hf
    refine z_aload_n X dX11_operand_13 rfl (lv_at hl 0 rfl) ?_
    refine m_geti X ff_33 dX11_operand_14 ?_
    refine z_iconst (v := 1) X dX11_operand_17 (by decide) ?_
    refine z_isub X dX11_operand_18 ?_
    refine z_istore_n (lv' := [(1, .int ((r1.1 0 33) - 1)), (0, .ref (ad 0))]) X dX11_operand_19 rfl hl (by decide) rfl (fun ls hl => ?_)
    refine z_aload_n X dX11_operand_20 rfl (lv_at hl 1 rfl) ?_
    refine m_geta X ff_28 dX11_operand_21 ?_
    refine z_iload_n X dX11_operand_24 rfl (lv_at hl 0 rfl) ?_
    obtain ⟨hb2, hf⟩ := z_ite hf
    refine m_iald X pa_13 hb2 dX11_operand_25 ?_
    obtain ⟨r3, hc3, hf⟩ := z_bind hf
    refine m_callSi [.int (r1.1 13 ((r1.1 0 33) - 1).toNatClampNeg)] X hl.1 (c_isTest D cy ad hc3) gm_isTest pd_isTest rfl ⟨by decide, by decide⟩ (Nat.le_of_ble_eq_true rfl) rfl dX11_operand_26 ?_
    refine z_if_eq (tgt := 45) X dX11_operand_29 (by decide) (fun c_ => ?_) (fun c_ => ?_)
    · have hf := (if_pos c_).symm.trans hf
      exact w_operand_45 X Z ((r1.1 0 33) - 1) r1.1 r1.2 ls (lv_sub hl [1, 0] rfl) hf
    · have hf := (if_neg c_).symm.trans hf
      refine z_aload_n X dX11_operand_32 rfl (lv_at hl 1 rfl) ?_
      refine m_geta X ff_30 dX11_operand_33 ?_
      refine z_iload_n X dX11_operand_36 rfl (lv_at hl 0 rfl) ?_
      obtain ⟨hb4, hf⟩ := z_ite hf
      refine m_zald X pa_15 hb4 dX11_operand_37 ?_
      refine z_if_eq (tgt := 45) X dX11_operand_38 (by decide) (fun c_ => ?_) (fun c_ => ?_)
      · have hf := (if_pos c_).symm.trans hf
        exact w_operand_45 X Z ((r1.1 0 33) - 1) r1.1 r1.2 ls (lv_sub hl [1, 0] rfl) hf
      · have hf := (if_neg c_).symm.trans hf
        refine z_iconst (v := 1) X dX11_operand_41 (by decide) ?_
        refine z_goto (tgt := 46) X dX11_operand_42 (by decide) ?_
        exact w_operand_46 X Z ((r1.1 0 33) - 1) 1 r1.1 r1.2 ls (lv_sub hl [1, 0] rfl) hf
  · have hf := (if_neg c_).symm.trans hf
    refine z_iconst (v := 1) X dX11_operand_11 (by decide) ?_
    exact m_iret X Z hf (by decide) dX11_operand_12

theorem c_operand (D : va_G) (cy : Nat → ClassId) (ad : Nat → Nat)  {V : zI} {L : zL} {r' : Int32 × zI × zL} (hf : f_operand V L = some r') : RMi (zR D cy ad) yX11_operand cX11_operand 4 .boolean 3 66 [.ref (ad 0)] V L r'.1 r'.2.1 r'.2.2 :=
  RMi.of (by decide) zR_nd (Nat.le_of_ble_eq_true rfl) (fun M X Z ls hl => w_operand X Z V L ls hl hf)
def f_goesOn_174 (s1 : Int32) (V : zI) (L : zL) : Option (Int32 × zI × zL) :=
  (f_holdsBack s1 V L).bind fun r1 => (f_ahead r1.1 r1.2).bind fun r2 => some (1, z_uI r2.1 0 37 0, r2.2)
def f_goesOn_112 (s1 : Int32) (V : zI) (L : zL) : Option (Int32 × zI × zL) :=
  (f_joins s1 V L).bind fun r1 => (f_isSign 43 r1.1 r1.2).bind fun r2 => (if r2.1 = 0 then (f_isSign 45 r2.2.1 r2.2.2).bind fun r3 => (if r3.1 = 0 then (f_isSign 42 r3.2.1 r3.2.2).bind fun r4 => (if r4.1 = 0 then (f_isSign 47 r4.2.1 r4.2.2).bind fun r5 => (if r5.1 = 0 then f_goesOn_174 35 r5.2.1 r5.2.2 else f_goesOn_174 34 r5.2.1 r5.2.2) else f_goesOn_174 33 r4.2.1 r4.2.2) else f_goesOn_174 32 r3.2.1 r3.2.2) else f_goesOn_174 31 r2.2.1 r2.2.2)
def f_goesOn_106 (V : zI) (L : zL) : Option (Int32 × zI × zL) :=
  f_goesOn_112 5 V L
def f_goesOn_87 (V : zI) (L : zL) : Option (Int32 × zI × zL) :=
  (f_isSign 43 V L).bind fun r1 => (if r1.1 = 0 then (f_isSign 45 r1.2.1 r1.2.2).bind fun r2 => (if r2.1 = 0 then f_goesOn_112 6 r2.2.1 r2.2.2 else f_goesOn_106 r2.2.1 r2.2.2) else f_goesOn_106 r1.2.1 r1.2.2)
def f_goesOn_264 (x1 : Int32) (s1 : Int32) (V : zI) (L : zL) : Option (Int32 × zI × zL) :=
  (f_holdsBack s1 V L).bind fun r1 => if inB x1 20 then (f_ahead (z_uI r1.1 14 x1.toNatClampNeg 1) r1.2).bind fun r3 => some (1, z_uI r3.1 0 37 0, r3.2) else none
def f_goesOn_228 (x1 : Int32) (V : zI) (L : zL) : Option (Int32 × zI × zL) :=
  (f_joins 5 V L).bind fun r1 => (f_isSign 60 r1.1 r1.2).bind fun r2 => (if r2.1 = 0 then (f_isSign 62 r2.2.1 r2.2.2).bind fun r3 => (if r3.1 = 0 then f_goesOn_264 x1 40 r3.2.1 r3.2.2 else f_goesOn_264 x1 39 r3.2.1 r3.2.2) else f_goesOn_264 x1 38 r2.2.1 r2.2.2)
def f_goesOn_372 (x1 : Int32) (s1 : Int32) (V : zI) (L : zL) : Option (Int32 × zI × zL) :=
  (f_holdsBack s1 V L).bind fun r1 => if inB x1 20 then if inB x1 20 then (f_ahead (z_uI (z_uI r1.1 14 x1.toNatClampNeg 0) 15 x1.toNatClampNeg (vp_nar .boolean 1)) r1.2).bind fun r4 => some (1, z_uI r4.1 0 37 0, r4.2) else none else none
def f_goesOn_356 (x1 : Int32) (x4 : Int32) (s1 : Int32) (V : zI) (L : zL) : Option (Int32 × zI × zL) :=
  (f_joins s1 V L).bind fun r1 => (if x4 = 0 then f_goesOn_372 x1 42 r1.1 r1.2 else f_goesOn_372 x1 41 r1.1 r1.2)
def f_goesOn_327 (x1 : Int32) (V : zI) (L : zL) : Option (Int32 × zI × zL) :=
  (if (V 0 8) ≤ 0 then (f_isWord 6385252 V L).bind fun r1 => (if r1.1 = 0 then f_goesOn_356 x1 r1.1 1 r1.2.1 r1.2.2 else f_goesOn_356 x1 r1.1 2 r1.2.1 r1.2.2) else some (0, V, L))
def f_goesOn_309 (x1 : Int32) (V : zI) (L : zL) : Option (Int32 × zI × zL) :=
  if inB x1 20 then (if (V 14 x1.toNatClampNeg) = 0 then (f_blame 1 (V 0 4) V L).bind fun r2 => f_goesOn_327 x1 r2.1 r2.2 else f_goesOn_327 x1 V L) else none
def f_goesOn_499 (x1 : Int32) (s1 : Int32) (s2 : Int32) (V : zI) (L : zL) : Option (Int32 × zI × zL) :=
  if inB s1 20 then if inB x1 20 then (f_ahead (z_uI (z_uI V 13 s1.toNatClampNeg s2) 14 x1.toNatClampNeg 0) L).bind fun r3 => some (1, z_uI r3.1 0 37 0, r3.2) else none else none
def f_goesOn_470 (x1 : Int32) (x2 : Int32) (V : zI) (L : zL) : Option (Int32 × zI × zL) :=
  (if (V 0 8) ≤ 0 then (f_joins 1 V L).bind fun r1 => (if x2 = 3 then f_goesOn_499 x1 x1 4 r1.1 r1.2 else f_goesOn_499 x1 x1 3 r1.1 r1.2) else some (0, V, L))
def f_goesOn_452 (x1 : Int32) (x2 : Int32) (V : zI) (L : zL) : Option (Int32 × zI × zL) :=
  (f_isSign 44 V L).bind fun r1 => (if r1.1 = 0 then (f_blame 1 (r1.2.1 0 4) r1.2.1 r1.2.2).bind fun r2 => f_goesOn_470 x1 x2 r2.1 r2.2 else f_goesOn_470 x1 x2 r1.2.1 r1.2.2)
def f_goesOn_613 (V : zI) (L : zL) : Option (Int32 × zI × zL) :=
  (f_ahead V L).bind fun r1 => some (1, r1.1, r1.2)
def f_goesOn_596 (x2 : Int32) (V : zI) (L : zL) : Option (Int32 × zI × zL) :=
  (if x2 = 5 then if inB ((V 0 33) - 1) 20 then f_goesOn_613 (z_uI V 14 ((V 0 33) - 1).toNatClampNeg 2) L else none else f_goesOn_613 V L)
def f_goesOn_546 (x1 : Int32) (x2 : Int32) (V : zI) (L : zL) : Option (Int32 × zI × zL) :=
  (if (V 0 8) ≤ 0 then (f_joins 1 V L).bind fun r1 => (if x2 = 4 then if inB x1 20 then (f_add ((z_uI (z_uI r1.1 0 33 ((r1.1 0 33) - 1)) 0 34 (((z_uI r1.1 0 33 ((r1.1 0 33) - 1)) 0 34) - 1)) 16 x1.toNatClampNeg) 0 (z_uI (z_uI r1.1 0 33 ((r1.1 0 33) - 1)) 0 34 (((z_uI r1.1 0 33 ((r1.1 0 33) - 1)) 0 34) - 1)) r1.2).bind fun r3 => f_goesOn_596 x2 r3.1 r3.2 else none else f_goesOn_596 x2 (z_uI (z_uI r1.1 0 33 ((r1.1 0 33) - 1)) 0 34 (((z_uI r1.1 0 33 ((r1.1 0 33) - 1)) 0 34) - 1)) r1.2) else some (0, V, L))
def f_goesOn_531 (x1 : Int32) (x2 : Int32) (s1 : Int32) (V : zI) (L : zL) : Option (Int32 × zI × zL) :=
  (f_isSign s1 V L).bind fun r1 => (if r1.1 = 0 then (f_blame 1 (r1.2.1 0 4) r1.2.1 r1.2.2).bind fun r2 => f_goesOn_546 x1 x2 r2.1 r2.2 else f_goesOn_546 x1 x2 r1.2.1 r1.2.2)
def f_goesOn_422 (x1 : Int32) (x2 : Int32) (V : zI) (L : zL) : Option (Int32 × zI × zL) :=
  (if 2 ≤ x2 then (if x2 = 3 then f_goesOn_452 x1 x2 V L else (if x2 = 6 then f_goesOn_452 x1 x2 V L else (if x2 = 5 then f_goesOn_531 x1 x2 93 V L else f_goesOn_531 x1 x2 41 V L))) else (if (V 0 8) = 0 then (f_joins 1 V L).bind fun r1 => some (0, r1.1, r1.2) else some (0, V, L)))
def f_goesOn_400 (x1 : Int32) (x2 : Int32) (x3 : Int32) (V : zI) (L : zL) : Option (Int32 × zI × zL) :=
  (if x3 = 0 then f_goesOn_422 x1 x2 V L else if inB x1 20 then (if (V 14 x1.toNatClampNeg) = 0 then (f_blame 1 (V 0 4) V L).bind fun r2 => f_goesOn_422 x1 x2 r2.1 r2.2 else f_goesOn_422 x1 x2 V L) else none)
def f_goesOn_285 (x1 : Int32) (x2 : Int32) (x3 : Int32) (V : zI) (L : zL) : Option (Int32 × zI × zL) :=
  (if x3 = 0 then f_goesOn_400 x1 x2 x3 V L else (f_isWord 6385252 V L).bind fun r1 => (if r1.1 = 0 then (f_isWord 28530 r1.2.1 r1.2.2).bind fun r2 => (if r2.1 = 0 then f_goesOn_400 x1 x2 x3 r2.2.1 r2.2.2 else f_goesOn_309 x1 r2.2.1 r2.2.2) else f_goesOn_309 x1 r1.2.1 r1.2.2))
def f_goesOn_188 (x1 : Int32) (x2 : Int32) (x3 : Int32) (V : zI) (L : zL) : Option (Int32 × zI × zL) :=
  (if x3 = 0 then f_goesOn_285 x1 x2 x3 V L else if inB x1 20 then (if (V 14 x1.toNatClampNeg) = 0 then (f_isSign 60 V L).bind fun r2 => (if r2.1 = 0 then (f_isSign 62 r2.2.1 r2.2.2).bind fun r3 => (if r3.1 = 0 then (f_isSign 61 r3.2.1 r3.2.2).bind fun r4 => (if r4.1 = 0 then f_goesOn_285 x1 x2 x3 r4.2.1 r4.2.2 else f_goesOn_228 x1 r4.2.1 r4.2.2) else f_goesOn_228 x1 r3.2.1 r3.2.2) else f_goesOn_228 x1 r2.2.1 r2.2.2) else f_goesOn_285 x1 x2 x3 V L) else none)
def f_goesOn (V : zI) (L : zL) : Option (Int32 × zI × zL) :=
  (f_lex V L).bind fun r1 => (if (r1.1 0 8) ≤ 0 then if inB ((r1.1 0 33) - 1) 20 then (f_isTest (r1.1 13 ((r1.1 0 33) - 1).toNatClampNeg)).bind fun r3 => if inB ((r1.1 0 33) - 1) 20 then (if 2 ≤ (r1.1 14 ((r1.1 0 33) - 1).toNatClampNeg) then f_goesOn_188 ((r1.1 0 33) - 1) (r1.1 13 ((r1.1 0 33) - 1).toNatClampNeg) r3 r1.1 r1.2 else (f_isSign 43 r1.1 r1.2).bind fun r5 => (if r5.1 = 0 then (f_isSign 45 r5.2.1 r5.2.2).bind fun r6 => (if r6.1 = 0 then (f_isSign 42 r6.2.1 r6.2.2).bind fun r7 => (if r7.1 = 0 then (f_isSign 47 r7.2.1 r7.2.2).bind fun r8 => (if r8.1 = 0 then (f_isSign 37 r8.2.1 r8.2.2).bind fun r9 => (if r9.1 = 0 then f_goesOn_188 ((r1.1 0 33) - 1) (r1.1 13 ((r1.1 0 33) - 1).toNatClampNeg) r3 r9.2.1 r9.2.2 else f_goesOn_87 r9.2.1 r9.2.2) else f_goesOn_87 r8.2.1 r8.2.2) else f_goesOn_87 r7.2.1 r7.2.2) else f_goesOn_87 r6.2.1 r6.2.2) else f_goesOn_87 r5.2.1 r5.2.2)) else none else none else some (0, r1.1, r1.2))
set_option maxHeartbeats 4000000 in
set_option maxRecDepth 100000 in
theorem w_goesOn_174 {M : zM} {D : va_G} {cy : Nat → ClassId} {ad : Nat → Nat} {r' : Int32 × zI × zL} (X : RX M (zR D cy ad) cX11_goesOn 5 RX11 2 45) (Z : RZi M (zR D cy ad) .boolean r'.1 r'.2.1 r'.2.2) (s1 : Int32) (V : zI) (L : zL) (ls : Array Slot) (hl : lv_has ls 5 [(0, .ref (ad 0))]) (hf : f_goesOn_174 s1 V L = some r') : RG M (zR D cy ad) V L 174 ls [.int s1, .ref (ad 0)] := by
  unfold f_goesOn_174 at hf
  obtain ⟨r1, hc1, hf⟩ := z_bind hf
  refine m_callVv [.int s1] X hl.1 (c_holdsBack D cy ad hc1) gm_holdsBack pd_holdsBack rfl ⟨by decide, by decide⟩ (Nat.le_of_ble_eq_true rfl) rfl dX11_goesOn_174 ?_
  refine z_aload_n X dX11_goesOn_177 rfl (lv_at hl 0 rfl) ?_
  obtain ⟨r2, hc2, hf⟩ := z_bind hf
  refine m_callVv [] X hl.1 (c_ahead D cy ad hc2) gm_ahead pd_ahead rfl ⟨by decide, by decide⟩ (Nat.le_of_ble_eq_true rfl) rfl dX11_goesOn_178 ?_
  refine z_aload_n X dX11_goesOn_181 rfl (lv_at hl 0 rfl) ?_
  refine z_iconst (v := 0) X dX11_goesOn_182 (by decide) ?_
  refine m_putz X fp_37 (by decide) dX11_goesOn_183 ?_
  refine z_iconst (v := 1) X dX11_goesOn_186 (by decide) ?_
  exact m_iret X Z hf (by decide) dX11_goesOn_187

set_option maxHeartbeats 4000000 in
set_option maxRecDepth 100000 in
theorem w_goesOn_112 {M : zM} {D : va_G} {cy : Nat → ClassId} {ad : Nat → Nat} {r' : Int32 × zI × zL} (X : RX M (zR D cy ad) cX11_goesOn 5 RX11 2 45) (Z : RZi M (zR D cy ad) .boolean r'.1 r'.2.1 r'.2.2) (s1 : Int32) (V : zI) (L : zL) (ls : Array Slot) (hl : lv_has ls 5 [(0, .ref (ad 0))]) (hf : f_goesOn_112 s1 V L = some r') : RG M (zR D cy ad) V L 112 ls [.int s1, .ref (ad 0)] := by
  unfold f_goesOn_112 at hf
  obtain ⟨r1, hc1, hf⟩ := z_bind hf
  refine m_callVv [.int s1] X hl.1 (c_joins D cy ad hc1) gm_joins pd_joins rfl ⟨by decide, by decide⟩ (Nat.le_of_ble_eq_true rfl) rfl dX11_goesOn_112 ?_
  refine z_aload_n X dX11_goesOn_115 rfl (lv_at hl 0 rfl) ?_
  refine z_aload_n X dX11_goesOn_116 rfl (lv_at hl 0 rfl) ?_
  refine z_bipush (v := 43) X dX11_goesOn_117 (by decide) ?_
  obtain ⟨r2, hc2, hf⟩ := z_bind hf
  refine m_callVi [.int 43] X hl.1 (c_isSign D cy ad hc2) gm_isSign pd_isSign rfl ⟨by decide, by decide⟩ (Nat.le_of_ble_eq_true rfl) rfl dX11_goesOn_119 ?_
  refine z_if_eq (tgt := 130) X dX11_goesOn_122 (by decide) (fun c_ => ?_) (fun c_ => ?_)
  · have hf := (if_pos c_).symm.trans hf
    refine z_aload_n X dX11_goesOn_130 rfl (lv_at hl 0 rfl) ?_
    refine z_bipush (v := 45) X dX11_goesOn_131 (by decide) ?_
    obtain ⟨r3, hc3, hf⟩ := z_bind hf
    refine m_callVi [.int 45] X hl.1 (c_isSign D cy ad hc3) gm_isSign pd_isSign rfl ⟨by decide, by decide⟩ (Nat.le_of_ble_eq_true rfl) rfl dX11_goesOn_133 ?_
    refine z_if_eq (tgt := 144) X dX11_goesOn_136 (by decide) (fun c_ => ?_) (fun c_ => ?_)
    · have hf := (if_pos c_).symm.trans hf
      refine z_aload_n X dX11_goesOn_144 rfl (lv_at hl 0 rfl) ?_
      refine z_bipush (v := 42) X dX11_goesOn_145 (by decide) ?_
      obtain ⟨r4, hc4, hf⟩ := z_bind hf
      refine m_callVi [.int 42] X hl.1 (c_isSign D cy ad hc4) gm_isSign pd_isSign rfl ⟨by decide, by decide⟩ (Nat.le_of_ble_eq_true rfl) rfl dX11_goesOn_147 ?_
      refine z_if_eq (tgt := 158) X dX11_goesOn_150 (by decide) (fun c_ => ?_) (fun c_ => ?_)
      · have hf := (if_pos c_).symm.trans hf
        refine z_aload_n X dX11_goesOn_158 rfl (lv_at hl 0 rfl) ?_
        refine z_bipush (v := 47) X dX11_goesOn_159 (by decide) ?_
        obtain ⟨r5, hc5, hf⟩ := z_bind hf
        refine m_callVi [.int 47] X hl.1 (c_isSign D cy ad hc5) gm_isSign pd_isSign rfl ⟨by decide, by decide⟩ (Nat.le_of_ble_eq_true rfl) rfl dX11_goesOn_161 ?_
        refine z_if_eq (tgt := 172) X dX11_goesOn_164 (by decide) (fun c_ => ?_) (fun c_ => ?_)
        · have hf := (if_pos c_).symm.trans hf
          refine z_bipush (v := 35) X dX11_goesOn_172 (by decide) ?_
          exact w_goesOn_174 X Z 35 r5.2.1 r5.2.2 ls (lv_sub hl [0] rfl) hf
        · have hf := (if_neg c_).symm.trans hf
          refine z_bipush (v := 34) X dX11_goesOn_167 (by decide) ?_
          refine z_goto (tgt := 174) X dX11_goesOn_169 (by decide) ?_
          exact w_goesOn_174 X Z 34 r5.2.1 r5.2.2 ls (lv_sub hl [0] rfl) hf
      · have hf := (if_neg c_).symm.trans hf
        refine z_bipush (v := 33) X dX11_goesOn_153 (by decide) ?_
        refine z_goto (tgt := 174) X dX11_goesOn_155 (by decide) ?_
        exact w_goesOn_174 X Z 33 r4.2.1 r4.2.2 ls (lv_sub hl [0] rfl) hf
    · have hf := (if_neg c_).symm.trans hf
      refine z_bipush (v := 32) X dX11_goesOn_139 (by decide) ?_
      refine z_goto (tgt := 174) X dX11_goesOn_141 (by decide) ?_
      exact w_goesOn_174 X Z 32 r3.2.1 r3.2.2 ls (lv_sub hl [0] rfl) hf
  · have hf := (if_neg c_).symm.trans hf
    refine z_bipush (v := 31) X dX11_goesOn_125 (by decide) ?_
    refine z_goto (tgt := 174) X dX11_goesOn_127 (by decide) ?_
    exact w_goesOn_174 X Z 31 r2.2.1 r2.2.2 ls (lv_sub hl [0] rfl) hf

set_option maxHeartbeats 4000000 in
set_option maxRecDepth 100000 in
theorem w_goesOn_106 {M : zM} {D : va_G} {cy : Nat → ClassId} {ad : Nat → Nat} {r' : Int32 × zI × zL} (X : RX M (zR D cy ad) cX11_goesOn 5 RX11 2 45) (Z : RZi M (zR D cy ad) .boolean r'.1 r'.2.1 r'.2.2)  (V : zI) (L : zL) (ls : Array Slot) (hl : lv_has ls 5 [(0, .ref (ad 0))]) (hf : f_goesOn_106 V L = some r') : RG M (zR D cy ad) V L 106 ls [.ref (ad 0)] := by
  unfold f_goesOn_106 at hf
  refine z_iconst (v := 5) X dX11_goesOn_106 (by decide) ?_
  refine z_goto (tgt := 112) X dX11_goesOn_107 (by decide) ?_
  exact w_goesOn_112 X Z 5 V L ls (lv_sub hl [0] rfl) hf

set_option maxHeartbeats 4000000 in
set_option maxRecDepth 100000 in
theorem w_goesOn_87 {M : zM} {D : va_G} {cy : Nat → ClassId} {ad : Nat → Nat} {r' : Int32 × zI × zL} (X : RX M (zR D cy ad) cX11_goesOn 5 RX11 2 45) (Z : RZi M (zR D cy ad) .boolean r'.1 r'.2.1 r'.2.2)  (V : zI) (L : zL) (ls : Array Slot) (hl : lv_has ls 5 [(0, .ref (ad 0))]) (hf : f_goesOn_87 V L = some r') : RG M (zR D cy ad) V L 87 ls [] := by
  unfold f_goesOn_87 at hf
  refine z_aload_n X dX11_goesOn_87 rfl (lv_at hl 0 rfl) ?_
  refine z_aload_n X dX11_goesOn_88 rfl (lv_at hl 0 rfl) ?_
  refine z_bipush (v := 43) X dX11_goesOn_89 (by decide) ?_
  obtain ⟨r1, hc1, hf⟩ := z_bind hf
  refine m_callVi [.int 43] X hl.1 (c_isSign D cy ad hc1) gm_isSign pd_isSign rfl ⟨by decide, by decide⟩ (Nat.le_of_ble_eq_true rfl) rfl dX11_goesOn_91 ?_
  refine z_if_ne (tgt := 106) X dX11_goesOn_94 (by decide) (fun c_ => ?_) (fun c_ => ?_)
  · have hf := (if_neg c_).symm.trans hf
    exact w_goesOn_106 X Z r1.2.1 r1.2.2 ls (lv_sub hl [0] rfl) hf
  · have hf := (if_pos c_).symm.trans hf
    refine z_aload_n X dX11_goesOn_97 rfl (lv_at hl 0 rfl) ?_
    refine z_bipush (v := 45) X dX11_goesOn_98 (by decide) ?_
    obtain ⟨r2, hc2, hf⟩ := z_bind hf
    refine m_callVi [.int 45] X hl.1 (c_isSign D cy ad hc2) gm_isSign pd_isSign rfl ⟨by decide, by decide⟩ (Nat.le_of_ble_eq_true rfl) rfl dX11_goesOn_100 ?_
    refine z_if_eq (tgt := 110) X dX11_goesOn_103 (by decide) (fun c_ => ?_) (fun c_ => ?_)
    · have hf := (if_pos c_).symm.trans hf
      refine z_bipush (v := 6) X dX11_goesOn_110 (by decide) ?_
      exact w_goesOn_112 X Z 6 r2.2.1 r2.2.2 ls (lv_sub hl [0] rfl) hf
    · have hf := (if_neg c_).symm.trans hf
      exact w_goesOn_106 X Z r2.2.1 r2.2.2 ls (lv_sub hl [0] rfl) hf

set_option maxHeartbeats 4000000 in
set_option maxRecDepth 100000 in
theorem w_goesOn_264 {M : zM} {D : va_G} {cy : Nat → ClassId} {ad : Nat → Nat} {r' : Int32 × zI × zL} (X : RX M (zR D cy ad) cX11_goesOn 5 RX11 2 45) (Z : RZi M (zR D cy ad) .boolean r'.1 r'.2.1 r'.2.2) (x1 : Int32) (s1 : Int32) (V : zI) (L : zL) (ls : Array Slot) (hl : lv_has ls 5 [(0, .ref (ad 0)), (1, .int x1)]) (hf : f_goesOn_264 x1 s1 V L = some r') : RG M (zR D cy ad) V L 264 ls [.int s1, .ref (ad 0)] := by
  unfold f_goesOn_264 at hf
  obtain ⟨r1, hc1, hf⟩ := z_bind hf
  refine m_callVv [.int s1] X hl.1 (c_holdsBack D cy ad hc1) gm_holdsBack pd_holdsBack rfl ⟨by decide, by decide⟩ (Nat.le_of_ble_eq_true rfl) rfl dX11_goesOn_264 ?_
  refine z_aload_n X dX11_goesOn_267 rfl (lv_at hl 0 rfl) ?_
  refine m_geta X ff_29 dX11_goesOn_268 ?_
  refine z_iload_n X dX11_goesOn_271 rfl (lv_at hl 1 rfl) ?_
  refine z_iconst (v := 1) X dX11_goesOn_272 (by decide) ?_
  obtain ⟨hb2, hf⟩ := z_ite hf
  refine m_iast X pa_14 hb2 dX11_goesOn_273 ?_
  refine z_aload_n X dX11_goesOn_274 rfl (lv_at hl 0 rfl) ?_
  obtain ⟨r3, hc3, hf⟩ := z_bind hf
  refine m_callVv [] X hl.1 (c_ahead D cy ad hc3) gm_ahead pd_ahead rfl ⟨by decide, by decide⟩ (Nat.le_of_ble_eq_true rfl) rfl dX11_goesOn_275 ?_
  refine z_aload_n X dX11_goesOn_278 rfl (lv_at hl 0 rfl) ?_
  refine z_iconst (v := 0) X dX11_goesOn_279 (by decide) ?_
  refine m_putz X fp_37 (by decide) dX11_goesOn_280 ?_
  refine z_iconst (v := 1) X dX11_goesOn_283 (by decide) ?_
  exact m_iret X Z hf (by decide) dX11_goesOn_284

set_option maxHeartbeats 4000000 in
set_option maxRecDepth 100000 in
theorem w_goesOn_228 {M : zM} {D : va_G} {cy : Nat → ClassId} {ad : Nat → Nat} {r' : Int32 × zI × zL} (X : RX M (zR D cy ad) cX11_goesOn 5 RX11 2 45) (Z : RZi M (zR D cy ad) .boolean r'.1 r'.2.1 r'.2.2) (x1 : Int32) (V : zI) (L : zL) (ls : Array Slot) (hl : lv_has ls 5 [(0, .ref (ad 0)), (1, .int x1)]) (hf : f_goesOn_228 x1 V L = some r') : RG M (zR D cy ad) V L 228 ls [] := by
  unfold f_goesOn_228 at hf
  refine z_aload_n X dX11_goesOn_228 rfl (lv_at hl 0 rfl) ?_
  refine z_iconst (v := 5) X dX11_goesOn_229 (by decide) ?_
  obtain ⟨r1, hc1, hf⟩ := z_bind hf
  refine m_callVv [.int 5] X hl.1 (c_joins D cy ad hc1) gm_joins pd_joins rfl ⟨by decide, by decide⟩ (Nat.le_of_ble_eq_true rfl) rfl dX11_goesOn_230 ?_
  refine z_aload_n X dX11_goesOn_233 rfl (lv_at hl 0 rfl) ?_
  refine z_aload_n X dX11_goesOn_234 rfl (lv_at hl 0 rfl) ?_
  refine z_bipush (v := 60) X dX11_goesOn_235 (by decide) ?_
  obtain ⟨r2, hc2, hf⟩ := z_bind hf
  refine m_callVi [.int 60] X hl.1 (c_isSign D cy ad hc2) gm_isSign pd_isSign rfl ⟨by decide, by decide⟩ (Nat.le_of_ble_eq_true rfl) rfl dX11_goesOn_237 ?_
  refine z_if_eq (tgt := 248) X dX11_goesOn_240 (by decide) (fun c_ => ?_) (fun c_ => ?_)
  · have hf := (if_pos c_).symm.trans hf
    refine z_aload_n X dX11_goesOn_248 rfl (lv_at hl 0 rfl) ?_
    refine z_bipush (v := 62) X dX11_goesOn_249 (by decide) ?_
    obtain ⟨r3, hc3, hf⟩ := z_bind hf
    refine m_callVi [.int 62] X hl.1 (c_isSign D cy ad hc3) gm_isSign pd_isSign rfl ⟨by decide, by decide⟩ (Nat.le_of_ble_eq_true rfl) rfl dX11_goesOn_251 ?_
    refine z_if_eq (tgt := 262) X dX11_goesOn_254 (by decide) (fun c_ => ?_) (fun c_ => ?_)
    · have hf := (if_pos c_).symm.trans hf
      refine z_bipush (v := 40) X dX11_goesOn_262 (by decide) ?_
      exact w_goesOn_264 X Z x1 40 r3.2.1 r3.2.2 ls (lv_sub hl [0, 1] rfl) hf
    · have hf := (if_neg c_).symm.trans hf
      refine z_bipush (v := 39) X dX11_goesOn_257 (by decide) ?_
      refine z_goto (tgt := 264) X dX11_goesOn_259 (by decide) ?_
      exact w_goesOn_264 X Z x1 39 r3.2.1 r3.2.2 ls (lv_sub hl [0, 1] rfl) hf
  · have hf := (if_neg c_).symm.trans hf
    refine z_bipush (v := 38) X dX11_goesOn_243 (by decide) ?_
    refine z_goto (tgt := 264) X dX11_goesOn_245 (by decide) ?_
    exact w_goesOn_264 X Z x1 38 r2.2.1 r2.2.2 ls (lv_sub hl [0, 1] rfl) hf

set_option maxHeartbeats 4000000 in
set_option maxRecDepth 100000 in
theorem w_goesOn_372 {M : zM} {D : va_G} {cy : Nat → ClassId} {ad : Nat → Nat} {r' : Int32 × zI × zL} (X : RX M (zR D cy ad) cX11_goesOn 5 RX11 2 45) (Z : RZi M (zR D cy ad) .boolean r'.1 r'.2.1 r'.2.2) (x1 : Int32) (s1 : Int32) (V : zI) (L : zL) (ls : Array Slot) (hl : lv_has ls 5 [(0, .ref (ad 0)), (1, .int x1)]) (hf : f_goesOn_372 x1 s1 V L = some r') : RG M (zR D cy ad) V L 372 ls [.int s1, .ref (ad 0)] := by
  unfold f_goesOn_372 at hf
  obtain ⟨r1, hc1, hf⟩ := z_bind hf
  refine m_callVv [.int s1] X hl.1 (c_holdsBack D cy ad hc1) gm_holdsBack pd_holdsBack rfl ⟨by decide, by decide⟩ (Nat.le_of_ble_eq_true rfl) rfl dX11_goesOn_372 ?_
  refine z_aload_n X dX11_goesOn_375 rfl (lv_at hl 0 rfl) ?_
  refine m_geta X ff_29 dX11_goesOn_376 ?_
  refine z_iload_n X dX11_goesOn_379 rfl (lv_at hl 1 rfl) ?_
  refine z_iconst (v := 0) X dX11_goesOn_380 (by decide) ?_
  obtain ⟨hb2, hf⟩ := z_ite hf
  refine m_iast X pa_14 hb2 dX11_goesOn_381 ?_
  refine z_aload_n X dX11_goesOn_382 rfl (lv_at hl 0 rfl) ?_
  refine m_geta X ff_30 dX11_goesOn_383 ?_
  refine z_iload_n X dX11_goesOn_386 rfl (lv_at hl 1 rfl) ?_
  refine z_iconst (v := 1) X dX11_goesOn_387 (by decide) ?_
  obtain ⟨hb3, hf⟩ := z_ite hf
  refine m_zast X pa_15 hb3 dX11_goesOn_388 ?_
  refine z_aload_n X dX11_goesOn_389 rfl (lv_at hl 0 rfl) ?_
  obtain ⟨r4, hc4, hf⟩ := z_bind hf
  refine m_callVv [] X hl.1 (c_ahead D cy ad hc4) gm_ahead pd_ahead rfl ⟨by decide, by decide⟩ (Nat.le_of_ble_eq_true rfl) rfl dX11_goesOn_390 ?_
  refine z_aload_n X dX11_goesOn_393 rfl (lv_at hl 0 rfl) ?_
  refine z_iconst (v := 0) X dX11_goesOn_394 (by decide) ?_
  refine m_putz X fp_37 (by decide) dX11_goesOn_395 ?_
  refine z_iconst (v := 1) X dX11_goesOn_398 (by decide) ?_
  exact m_iret X Z hf (by decide) dX11_goesOn_399

set_option maxHeartbeats 4000000 in
set_option maxRecDepth 100000 in
theorem w_goesOn_356 {M : zM} {D : va_G} {cy : Nat → ClassId} {ad : Nat → Nat} {r' : Int32 × zI × zL} (X : RX M (zR D cy ad) cX11_goesOn 5 RX11 2 45) (Z : RZi M (zR D cy ad) .boolean r'.1 r'.2.1 r'.2.2) (x1 : Int32) (x4 : Int32) (s1 : Int32) (V : zI) (L : zL) (ls : Array Slot) (hl : lv_has ls 5 [(0, .ref (ad 0)), (1, .int x1), (4, .int x4)]) (hf : f_goesOn_356 x1 x4 s1 V L = some r') : RG M (zR D cy ad) V L 356 ls [.int s1, .ref (ad 0)] := by
  unfold f_goesOn_356 at hf
  obtain ⟨r1, hc1, hf⟩ := z_bind hf
  refine m_callVv [.int s1] X hl.1 (c_joins D cy ad hc1) gm_joins pd_joins rfl ⟨by decide, by decide⟩ (Nat.le_of_ble_eq_true rfl) rfl dX11_goesOn_356 ?_
  refine z_aload_n X dX11_goesOn_359 rfl (lv_at hl 0 rfl) ?_
  refine z_iload X dX11_goesOn_360 (lv_at hl 2 rfl) ?_
  refine z_if_eq (tgt := 370) X dX11_goesOn_362 (by decide) (fun c_ => ?_) (fun c_ => ?_)
  · have hf := (if_pos c_).symm.trans hf
    refine z_bipush (v := 42) X dX11_goesOn_370 (by decide) ?_
    exact w_goesOn_372 X Z x1 42 r1.1 r1.2 ls (lv_sub hl [0, 1] rfl) hf
  · have hf := (if_neg c_).symm.trans hf
    refine z_bipush (v := 41) X dX11_goesOn_365 (by decide) ?_
    refine z_goto (tgt := 372) X dX11_goesOn_367 (by decide) ?_
    exact w_goesOn_372 X Z x1 41 r1.1 r1.2 ls (lv_sub hl [0, 1] rfl) hf

set_option maxHeartbeats 4000000 in
set_option maxRecDepth 100000 in
theorem w_goesOn_327 {M : zM} {D : va_G} {cy : Nat → ClassId} {ad : Nat → Nat} {r' : Int32 × zI × zL} (X : RX M (zR D cy ad) cX11_goesOn 5 RX11 2 45) (Z : RZi M (zR D cy ad) .boolean r'.1 r'.2.1 r'.2.2) (x1 : Int32) (V : zI) (L : zL) (ls : Array Slot) (hl : lv_has ls 5 [(0, .ref (ad 0)), (1, .int x1)]) (hf : f_goesOn_327 x1 V L = some r') : RG M (zR D cy ad) V L 327 ls [] := by
  unfold f_goesOn_327 at hf
  refine z_aload_n X dX11_goesOn_327 rfl (lv_at hl 0 rfl) ?_
  refine m_geti X ff_8 dX11_goesOn_328 ?_
  refine z_if_le (tgt := 336) X dX11_goesOn_331 (by decide) (fun c_ => ?_) (fun c_ => ?_)
  · have hf := (if_pos c_).symm.trans hf
    refine z_aload_n X dX11_goesOn_336 rfl (lv_at hl 0 rfl) ?_
    refine z_ldc2 X dX11_goesOn_337 kc_277 ?_
    obtain ⟨r1, hc1, hf⟩ := z_bind hf
    refine m_callVi [.long 6385252] X hl.1 (c_isWord D cy ad hc1) gm_isWord pd_isWord rfl ⟨by decide, by decide⟩ (Nat.le_of_ble_eq_true rfl) rfl dX11_goesOn_340 ?_
    refine z_istore (lv' := [(4, .int r1.1), (0, .ref (ad 0)), (1, .int x1)]) X dX11_goesOn_343 hl (by decide) rfl (fun ls hl => ?_)
    refine z_aload_n X dX11_goesOn_345 rfl (lv_at hl 1 rfl) ?_
    refine z_iload X dX11_goesOn_346 (lv_at hl 0 rfl) ?_
    refine z_if_eq (tgt := 355) X dX11_goesOn_348 (by decide) (fun c_ => ?_) (fun c_ => ?_)
    · have hf := (if_pos c_).symm.trans hf
      refine z_iconst (v := 1) X dX11_goesOn_355 (by decide) ?_
      exact w_goesOn_356 X Z x1 r1.1 1 r1.2.1 r1.2.2 ls (lv_sub hl [1, 2, 0] rfl) hf
    · have hf := (if_neg c_).symm.trans hf
      refine z_iconst (v := 2) X dX11_goesOn_351 (by decide) ?_
      refine z_goto (tgt := 356) X dX11_goesOn_352 (by decide) ?_
      exact w_goesOn_356 X Z x1 r1.1 2 r1.2.1 r1.2.2 ls (lv_sub hl [1, 2, 0] rfl) hf
  · have hf := (if_neg c_).symm.trans hf
    refine z_iconst (v := 0) X dX11_goesOn_334 (by decide) ?_
    exact m_iret X Z hf (by decide) dX11_goesOn_335

set_option maxHeartbeats 4000000 in
set_option maxRecDepth 100000 in
theorem w_goesOn_309 {M : zM} {D : va_G} {cy : Nat → ClassId} {ad : Nat → Nat} {r' : Int32 × zI × zL} (X : RX M (zR D cy ad) cX11_goesOn 5 RX11 2 45) (Z : RZi M (zR D cy ad) .boolean r'.1 r'.2.1 r'.2.2) (x1 : Int32) (V : zI) (L : zL) (ls : Array Slot) (hl : lv_has ls 5 [(0, .ref (ad 0)), (1, .int x1)]) (hf : f_goesOn_309 x1 V L = some r') : RG M (zR D cy ad) V L 309 ls [] := by
  unfold f_goesOn_309 at hf
  refine z_aload_n X dX11_goesOn_309 rfl (lv_at hl 0 rfl) ?_
  refine m_geta X ff_29 dX11_goesOn_310 ?_
  refine z_iload_n X dX11_goesOn_313 rfl (lv_at hl 1 rfl) ?_
  obtain ⟨hb1, hf⟩ := z_ite hf
  refine m_iald X pa_14 hb1 dX11_goesOn_314 ?_
  refine z_if_ne (tgt := 327) X dX11_goesOn_315 (by decide) (fun c_ => ?_) (fun c_ => ?_)
  · have hf := (if_neg c_).symm.trans hf
    exact w_goesOn_327 X Z x1 V L ls (lv_sub hl [0, 1] rfl) hf
  · have hf := (if_pos c_).symm.trans hf
    refine z_aload_n X dX11_goesOn_318 rfl (lv_at hl 0 rfl) ?_
    refine z_iconst (v := 1) X dX11_goesOn_319 (by decide) ?_
    refine z_aload_n X dX11_goesOn_320 rfl (lv_at hl 0 rfl) ?_
    refine m_geti X ff_4 dX11_goesOn_321 ?_
    obtain ⟨r2, hc2, hf⟩ := z_bind hf
    refine m_callVv [.int 1, .int (V 0 4)] X hl.1 (c_blame D cy ad hc2) gm_blame pd_blame rfl ⟨by decide, by decide⟩ (Nat.le_of_ble_eq_true rfl) rfl dX11_goesOn_324 ?_
    exact w_goesOn_327 X Z x1 r2.1 r2.2 ls (lv_sub hl [0, 1] rfl) hf

set_option maxHeartbeats 4000000 in
set_option maxRecDepth 100000 in
theorem w_goesOn_499 {M : zM} {D : va_G} {cy : Nat → ClassId} {ad : Nat → Nat} {r' : Int32 × zI × zL} (X : RX M (zR D cy ad) cX11_goesOn 5 RX11 2 45) (Z : RZi M (zR D cy ad) .boolean r'.1 r'.2.1 r'.2.2) (x1 : Int32) (s1 : Int32) (s2 : Int32) (V : zI) (L : zL) (ls : Array Slot) (hl : lv_has ls 5 [(0, .ref (ad 0)), (1, .int x1)]) (hf : f_goesOn_499 x1 s1 s2 V L = some r') : RG M (zR D cy ad) V L 499 ls [.int s2, .int s1, .ref (ad 13)] := by
  unfold f_goesOn_499 at hf
  obtain ⟨hb1, hf⟩ := z_ite hf
  refine m_iast X pa_13 hb1 dX11_goesOn_499 ?_
  refine z_aload_n X dX11_goesOn_500 rfl (lv_at hl 0 rfl) ?_
  refine m_geta X ff_29 dX11_goesOn_501 ?_
  refine z_iload_n X dX11_goesOn_504 rfl (lv_at hl 1 rfl) ?_
  refine z_iconst (v := 0) X dX11_goesOn_505 (by decide) ?_
  obtain ⟨hb2, hf⟩ := z_ite hf
  refine m_iast X pa_14 hb2 dX11_goesOn_506 ?_
  refine z_aload_n X dX11_goesOn_507 rfl (lv_at hl 0 rfl) ?_
  obtain ⟨r3, hc3, hf⟩ := z_bind hf
  refine m_callVv [] X hl.1 (c_ahead D cy ad hc3) gm_ahead pd_ahead rfl ⟨by decide, by decide⟩ (Nat.le_of_ble_eq_true rfl) rfl dX11_goesOn_508 ?_
  refine z_aload_n X dX11_goesOn_511 rfl (lv_at hl 0 rfl) ?_
  refine z_iconst (v := 0) X dX11_goesOn_512 (by decide) ?_
  refine m_putz X fp_37 (by decide) dX11_goesOn_513 ?_
  refine z_iconst (v := 1) X dX11_goesOn_516 (by decide) ?_
  exact m_iret X Z hf (by decide) dX11_goesOn_517

set_option maxHeartbeats 4000000 in
set_option maxRecDepth 100000 in
theorem w_goesOn_470 {M : zM} {D : va_G} {cy : Nat → ClassId} {ad : Nat → Nat} {r' : Int32 × zI × zL} (X : RX M (zR D cy ad) cX11_goesOn 5 RX11 2 45) (Z : RZi M (zR D cy ad) .boolean r'.1 r'.2.1 r'.2.2) (x1 : Int32) (x2 : Int32) (V : zI) (L : zL) (ls : Array Slot) (hl : lv_has ls 5 [(0, .ref (ad 0)), (1, .int x1), (2, .int x2)]) (hf : f_goesOn_470 x1 x2 V L = some r') : RG M (zR D cy ad) V L 470 ls [] := by
  unfold f_goesOn_470 at hf
  refine z_aload_n X dX11_goesOn_470 rfl (lv_at hl 0 rfl) ?_
  refine m_geti X ff_8 dX11_goesOn_471 ?_
  refine z_if_le (tgt := 479) X dX11_goesOn_474 (by decide) (fun c_ => ?_) (fun c_ => ?_)
  · have hf := (if_pos c_).symm.trans hf
    refine z_aload_n X dX11_goesOn_479 rfl (lv_at hl 0 rfl) ?_
    refine z_iconst (v := 1) X dX11_goesOn_480 (by decide) ?_
    obtain ⟨r1, hc1, hf⟩ := z_bind hf
    refine m_callVv [.int 1] X hl.1 (c_joins D cy ad hc1) gm_joins pd_joins rfl ⟨by decide, by decide⟩ (Nat.le_of_ble_eq_true rfl) rfl dX11_goesOn_481 ?_
    refine z_aload_n X dX11_goesOn_484 rfl (lv_at hl 0 rfl) ?_
    refine m_geta X ff_28 dX11_goesOn_485 ?_
    refine z_iload_n X dX11_goesOn_488 rfl (lv_at hl 1 rfl) ?_
    refine z_iload_n X dX11_goesOn_489 rfl (lv_at hl 2 rfl) ?_
    refine z_iconst (v := 3) X dX11_goesOn_490 (by decide) ?_
    refine z_icmp_ne (tgt := 498) X dX11_goesOn_491 (by decide) (fun c_ => ?_) (fun c_ => ?_)
    · have hf := (if_neg c_).symm.trans hf
      refine z_iconst (v := 3) X dX11_goesOn_498 (by decide) ?_
      exact w_goesOn_499 X Z x1 x1 3 r1.1 r1.2 ls (lv_sub hl [0, 1] rfl) hf
    · have hf := (if_pos c_).symm.trans hf
      refine z_iconst (v := 4) X dX11_goesOn_494 (by decide) ?_
      refine z_goto (tgt := 499) X dX11_goesOn_495 (by decide) ?_
      exact w_goesOn_499 X Z x1 x1 4 r1.1 r1.2 ls (lv_sub hl [0, 1] rfl) hf
  · have hf := (if_neg c_).symm.trans hf
    refine z_iconst (v := 0) X dX11_goesOn_477 (by decide) ?_
    exact m_iret X Z hf (by decide) dX11_goesOn_478

set_option maxHeartbeats 4000000 in
set_option maxRecDepth 100000 in
theorem w_goesOn_452 {M : zM} {D : va_G} {cy : Nat → ClassId} {ad : Nat → Nat} {r' : Int32 × zI × zL} (X : RX M (zR D cy ad) cX11_goesOn 5 RX11 2 45) (Z : RZi M (zR D cy ad) .boolean r'.1 r'.2.1 r'.2.2) (x1 : Int32) (x2 : Int32) (V : zI) (L : zL) (ls : Array Slot) (hl : lv_has ls 5 [(0, .ref (ad 0)), (1, .int x1), (2, .int x2)]) (hf : f_goesOn_452 x1 x2 V L = some r') : RG M (zR D cy ad) V L 452 ls [] := by
  unfold f_goesOn_452 at hf
  refine z_aload_n X dX11_goesOn_452 rfl (lv_at hl 0 rfl) ?_
  refine z_bipush (v := 44) X dX11_goesOn_453 (by decide) ?_
  obtain ⟨r1, hc1, hf⟩ := z_bind hf
  refine m_callVi [.int 44] X hl.1 (c_isSign D cy ad hc1) gm_isSign pd_isSign rfl ⟨by decide, by decide⟩ (Nat.le_of_ble_eq_true rfl) rfl dX11_goesOn_455 ?_
  refine z_if_ne (tgt := 470) X dX11_goesOn_458 (by decide) (fun c_ => ?_) (fun c_ => ?_)
  · have hf := (if_neg c_).symm.trans hf
    exact w_goesOn_470 X Z x1 x2 r1.2.1 r1.2.2 ls (lv_sub hl [0, 1, 2] rfl) hf
  · have hf := (if_pos c_).symm.trans hf
    refine z_aload_n X dX11_goesOn_461 rfl (lv_at hl 0 rfl) ?_
    refine z_iconst (v := 1) X dX11_goesOn_462 (by decide) ?_
    refine z_aload_n X dX11_goesOn_463 rfl (lv_at hl 0 rfl) ?_
    refine m_geti X ff_4 dX11_goesOn_464 ?_
    obtain ⟨r2, hc2, hf⟩ := z_bind hf
    refine m_callVv [.int 1, .int (r1.2.1 0 4)] X hl.1 (c_blame D cy ad hc2) gm_blame pd_blame rfl ⟨by decide, by decide⟩ (Nat.le_of_ble_eq_true rfl) rfl dX11_goesOn_467 ?_
    exact w_goesOn_470 X Z x1 x2 r2.1 r2.2 ls (lv_sub hl [0, 1, 2] rfl) hf

set_option maxHeartbeats 4000000 in
set_option maxRecDepth 100000 in
theorem w_goesOn_613 {M : zM} {D : va_G} {cy : Nat → ClassId} {ad : Nat → Nat} {r' : Int32 × zI × zL} (X : RX M (zR D cy ad) cX11_goesOn 5 RX11 2 45) (Z : RZi M (zR D cy ad) .boolean r'.1 r'.2.1 r'.2.2)  (V : zI) (L : zL) (ls : Array Slot) (hl : lv_has ls 5 [(0, .ref (ad 0))]) (hf : f_goesOn_613 V L = some r') : RG M (zR D cy ad) V L 613 ls [] := by
  unfold f_goesOn_613 at hf
  refine z_aload_n X dX11_goesOn_613 rfl (lv_at hl 0 rfl) ?_
  obtain ⟨r1, hc1, hf⟩ := z_bind hf
  refine m_callVv [] X hl.1 (c_ahead D cy ad hc1) gm_ahead pd_ahead rfl ⟨by decide, by decide⟩ (Nat.le_of_ble_eq_true rfl) rfl dX11_goesOn_614 ?_
  refine z_iconst (v := 1) X dX11_goesOn_617 (by decide) ?_
  exact m_iret X Z hf (by decide) dX11_goesOn_618

set_option maxHeartbeats 4000000 in
set_option maxRecDepth 100000 in
theorem w_goesOn_596 {M : zM} {D : va_G} {cy : Nat → ClassId} {ad : Nat → Nat} {r' : Int32 × zI × zL} (X : RX M (zR D cy ad) cX11_goesOn 5 RX11 2 45) (Z : RZi M (zR D cy ad) .boolean r'.1 r'.2.1 r'.2.2) (x2 : Int32) (V : zI) (L : zL) (ls : Array Slot) (hl : lv_has ls 5 [(0, .ref (ad 0)), (2, .int x2)]) (hf : f_goesOn_596 x2 V L = some r') : RG M (zR D cy ad) V L 596 ls [] := by
  unfold f_goesOn_596 at hf
  refine z_iload_n X dX11_goesOn_596 rfl (lv_at hl 1 rfl) ?_
  refine z_iconst (v := 5) X dX11_goesOn_597 (by decide) ?_
  refine z_icmp_ne (tgt := 613) X dX11_goesOn_598 (by decide) (fun c_ => ?_) (fun c_ => ?_)
  · have hf := (if_neg c_).symm.trans hf
    exact w_goesOn_613 X Z V L ls (lv_sub hl [0] rfl) hf
  · have hf := (if_pos c_).symm.trans hf
    refine z_aload_n X dX11_goesOn_601 rfl (lv_at hl 0 rfl) ?_
    refine m_geta X ff_29 dX11_goesOn_602 ?_
    refine z_aload_n X dX11_goesOn_605 rfl (lv_at hl 0 rfl) ?_
    refine m_geti X ff_33 dX11_goesOn_606 ?_
    refine z_iconst (v := 1) X dX11_goesOn_609 (by decide) ?_
    refine z_isub X dX11_goesOn_610 ?_
    refine z_iconst (v := 2) X dX11_goesOn_611 (by decide) ?_
    obtain ⟨hb1, hf⟩ := z_ite hf
    refine m_iast X pa_14 hb1 dX11_goesOn_612 ?_
    exact w_goesOn_613 X Z (z_uI V 14 ((V 0 33) - 1).toNatClampNeg 2) L ls (lv_sub hl [0] rfl) hf

set_option maxHeartbeats 4000000 in
set_option maxRecDepth 100000 in
theorem w_goesOn_546 {M : zM} {D : va_G} {cy : Nat → ClassId} {ad : Nat → Nat} {r' : Int32 × zI × zL} (X : RX M (zR D cy ad) cX11_goesOn 5 RX11 2 45) (Z : RZi M (zR D cy ad) .boolean r'.1 r'.2.1 r'.2.2) (x1 : Int32) (x2 : Int32) (V : zI) (L : zL) (ls : Array Slot) (hl : lv_has ls 5 [(0, .ref (ad 0)), (1, .int x1), (2, .int x2)]) (hf : f_goesOn_546 x1 x2 V L = some r') : RG M (zR D cy ad) V L 546 ls [] := by
  unfold f_goesOn_546 at hf
  refine z_aload_n X dX11_goesOn_546 rfl (lv_at hl 0 rfl) ?_
  refine m_geti X ff_8 dX11_goesOn_547 ?_
  refine z_if_le (tgt := 555) X dX11_goesOn_550 (by decide) (fun c_ => ?_) (fun c_ => ?_)
  · have hf := (if_pos c_).symm.trans hf
    refine z_aload_n X dX11_goesOn_555 rfl (lv_at hl 0 rfl) ?_
    refine z_iconst (v := 1) X dX11_goesOn_556 (by decide) ?_
    obtain ⟨r1, hc1, hf⟩ := z_bind hf
    refine m_callVv [.int 1] X hl.1 (c_joins D cy ad hc1) gm_joins pd_joins rfl ⟨by decide, by decide⟩ (Nat.le_of_ble_eq_true rfl) rfl dX11_goesOn_557 ?_
    refine z_aload_n X dX11_goesOn_560 rfl (lv_at hl 0 rfl) ?_
    refine z_dup X dX11_goesOn_561 rfl ?_
    refine m_geti X ff_33 dX11_goesOn_562 ?_
    refine z_iconst (v := 1) X dX11_goesOn_565 (by decide) ?_
    refine z_isub X dX11_goesOn_566 ?_
    refine m_puti X fp_33 dX11_goesOn_567 ?_
    refine z_aload_n X dX11_goesOn_570 rfl (lv_at hl 0 rfl) ?_
    refine z_dup X dX11_goesOn_571 rfl ?_
    refine m_geti X ff_34 dX11_goesOn_572 ?_
    refine z_iconst (v := 1) X dX11_goesOn_575 (by decide) ?_
    refine z_isub X dX11_goesOn_576 ?_
    refine m_puti X fp_34 dX11_goesOn_577 ?_
    refine z_iload_n X dX11_goesOn_580 rfl (lv_at hl 2 rfl) ?_
    refine z_iconst (v := 4) X dX11_goesOn_581 (by decide) ?_
    refine z_icmp_ne (tgt := 596) X dX11_goesOn_582 (by decide) (fun c_ => ?_) (fun c_ => ?_)
    · have hf := (if_neg c_).symm.trans hf
      exact w_goesOn_596 X Z x2 (z_uI (z_uI r1.1 0 33 ((r1.1 0 33) - 1)) 0 34 (((z_uI r1.1 0 33 ((r1.1 0 33) - 1)) 0 34) - 1)) r1.2 ls (lv_sub hl [0, 2] rfl) hf
    · have hf := (if_pos c_).symm.trans hf
      refine z_aload_n X dX11_goesOn_585 rfl (lv_at hl 0 rfl) ?_
      refine z_aload_n X dX11_goesOn_586 rfl (lv_at hl 0 rfl) ?_
      refine m_geta X ff_31 dX11_goesOn_587 ?_
      refine z_iload_n X dX11_goesOn_590 rfl (lv_at hl 1 rfl) ?_
      obtain ⟨hb2, hf⟩ := z_ite hf
      refine m_iald X pa_16 hb2 dX11_goesOn_591 ?_
      refine z_iconst (v := 0) X dX11_goesOn_592 (by decide) ?_
      obtain ⟨r3, hc3, hf⟩ := z_bind hf
      refine m_callVv [.int ((z_uI (z_uI r1.1 0 33 ((r1.1 0 33) - 1)) 0 34 (((z_uI r1.1 0 33 ((r1.1 0 33) - 1)) 0 34) - 1)) 16 x1.toNatClampNeg), .int 0] X hl.1 (c_add D cy ad hc3) gm_add pd_add rfl ⟨by decide, by decide⟩ (Nat.le_of_ble_eq_true rfl) rfl dX11_goesOn_593 ?_
      exact w_goesOn_596 X Z x2 r3.1 r3.2 ls (lv_sub hl [0, 2] rfl) hf
  · have hf := (if_neg c_).symm.trans hf
    refine z_iconst (v := 0) X dX11_goesOn_553 (by decide) ?_
    exact m_iret X Z hf (by decide) dX11_goesOn_554

set_option maxHeartbeats 4000000 in
set_option maxRecDepth 100000 in
theorem w_goesOn_531 {M : zM} {D : va_G} {cy : Nat → ClassId} {ad : Nat → Nat} {r' : Int32 × zI × zL} (X : RX M (zR D cy ad) cX11_goesOn 5 RX11 2 45) (Z : RZi M (zR D cy ad) .boolean r'.1 r'.2.1 r'.2.2) (x1 : Int32) (x2 : Int32) (s1 : Int32) (V : zI) (L : zL) (ls : Array Slot) (hl : lv_has ls 5 [(0, .ref (ad 0)), (1, .int x1), (2, .int x2)]) (hf : f_goesOn_531 x1 x2 s1 V L = some r') : RG M (zR D cy ad) V L 531 ls [.int s1, .ref (ad 0)] := by
  unfold f_goesOn_531 at hf
  obtain ⟨r1, hc1, hf⟩ := z_bind hf
  refine m_callVi [.int s1] X hl.1 (c_isSign D cy ad hc1) gm_isSign pd_isSign rfl ⟨by decide, by decide⟩ (Nat.le_of_ble_eq_true rfl) rfl dX11_goesOn_531 ?_
  refine z_if_ne (tgt := 546) X dX11_goesOn_534 (by decide) (fun c_ => ?_) (fun c_ => ?_)
  · have hf := (if_neg c_).symm.trans hf
    exact w_goesOn_546 X Z x1 x2 r1.2.1 r1.2.2 ls (lv_sub hl [0, 1, 2] rfl) hf
  · have hf := (if_pos c_).symm.trans hf
    refine z_aload_n X dX11_goesOn_537 rfl (lv_at hl 0 rfl) ?_
    refine z_iconst (v := 1) X dX11_goesOn_538 (by decide) ?_
    refine z_aload_n X dX11_goesOn_539 rfl (lv_at hl 0 rfl) ?_
    refine m_geti X ff_4 dX11_goesOn_540 ?_
    obtain ⟨r2, hc2, hf⟩ := z_bind hf
    refine m_callVv [.int 1, .int (r1.2.1 0 4)] X hl.1 (c_blame D cy ad hc2) gm_blame pd_blame rfl ⟨by decide, by decide⟩ (Nat.le_of_ble_eq_true rfl) rfl dX11_goesOn_543 ?_
    exact w_goesOn_546 X Z x1 x2 r2.1 r2.2 ls (lv_sub hl [0, 1, 2] rfl) hf

set_option maxHeartbeats 4000000 in
set_option maxRecDepth 100000 in
theorem w_goesOn_422 {M : zM} {D : va_G} {cy : Nat → ClassId} {ad : Nat → Nat} {r' : Int32 × zI × zL} (X : RX M (zR D cy ad) cX11_goesOn 5 RX11 2 45) (Z : RZi M (zR D cy ad) .boolean r'.1 r'.2.1 r'.2.2) (x1 : Int32) (x2 : Int32) (V : zI) (L : zL) (ls : Array Slot) (hl : lv_has ls 5 [(0, .ref (ad 0)), (1, .int x1), (2, .int x2)]) (hf : f_goesOn_422 x1 x2 V L = some r') : RG M (zR D cy ad) V L 422 ls [] := by
  unfold f_goesOn_422 at hf
  refine z_iload_n X dX11_goesOn_422 rfl (lv_at hl 2 rfl) ?_
  refine z_iconst (v := 2) X dX11_goesOn_423 (by decide) ?_
  refine z_icmp_ge (tgt := 441) X dX11_goesOn_424 (by decide) (fun c_ => ?_) (fun c_ => ?_)
  · have hf := (if_pos c_).symm.trans hf
    refine z_iload_n X dX11_goesOn_441 rfl (lv_at hl 2 rfl) ?_
    refine z_iconst (v := 3) X dX11_goesOn_442 (by decide) ?_
    refine z_icmp_eq (tgt := 452) X dX11_goesOn_443 (by decide) (fun c_ => ?_) (fun c_ => ?_)
    · have hf := (if_pos c_).symm.trans hf
      exact w_goesOn_452 X Z x1 x2 V L ls (lv_sub hl [0, 1, 2] rfl) hf
    · have hf := (if_neg c_).symm.trans hf
      refine z_iload_n X dX11_goesOn_446 rfl (lv_at hl 2 rfl) ?_
      refine z_bipush (v := 6) X dX11_goesOn_447 (by decide) ?_
      refine z_icmp_ne (tgt := 518) X dX11_goesOn_449 (by decide) (fun c_ => ?_) (fun c_ => ?_)
      · have hf := (if_neg c_).symm.trans hf
        refine z_aload_n X dX11_goesOn_518 rfl (lv_at hl 0 rfl) ?_
        refine z_iload_n X dX11_goesOn_519 rfl (lv_at hl 2 rfl) ?_
        refine z_iconst (v := 5) X dX11_goesOn_520 (by decide) ?_
        refine z_icmp_ne (tgt := 529) X dX11_goesOn_521 (by decide) (fun c_ => ?_) (fun c_ => ?_)
        · have hf := (if_neg c_).symm.trans hf
          refine z_bipush (v := 41) X dX11_goesOn_529 (by decide) ?_
          exact w_goesOn_531 X Z x1 x2 41 V L ls (lv_sub hl [0, 1, 2] rfl) hf
        · have hf := (if_pos c_).symm.trans hf
          refine z_bipush (v := 93) X dX11_goesOn_524 (by decide) ?_
          refine z_goto (tgt := 531) X dX11_goesOn_526 (by decide) ?_
          exact w_goesOn_531 X Z x1 x2 93 V L ls (lv_sub hl [0, 1, 2] rfl) hf
      · have hf := (if_pos c_).symm.trans hf
        exact w_goesOn_452 X Z x1 x2 V L ls (lv_sub hl [0, 1, 2] rfl) hf
  · have hf := (if_neg c_).symm.trans hf
    refine z_aload_n X dX11_goesOn_427 rfl (lv_at hl 0 rfl) ?_
    refine m_geti X ff_8 dX11_goesOn_428 ?_
    refine z_if_ne (tgt := 439) X dX11_goesOn_431 (by decide) (fun c_ => ?_) (fun c_ => ?_)
    · have hf := (if_neg c_).symm.trans hf
      refine z_iconst (v := 0) X dX11_goesOn_439 (by decide) ?_
      exact m_iret X Z hf (by decide) dX11_goesOn_440
    · have hf := (if_pos c_).symm.trans hf
      refine z_aload_n X dX11_goesOn_434 rfl (lv_at hl 0 rfl) ?_
      refine z_iconst (v := 1) X dX11_goesOn_435 (by decide) ?_
      obtain ⟨r1, hc1, hf⟩ := z_bind hf
      refine m_callVv [.int 1] X hl.1 (c_joins D cy ad hc1) gm_joins pd_joins rfl ⟨by decide, by decide⟩ (Nat.le_of_ble_eq_true rfl) rfl dX11_goesOn_436 ?_
      refine z_iconst (v := 0) X dX11_goesOn_439 (by decide) ?_
      exact m_iret X Z hf (by decide) dX11_goesOn_440

set_option maxHeartbeats 4000000 in
set_option maxRecDepth 100000 in
theorem w_goesOn_400 {M : zM} {D : va_G} {cy : Nat → ClassId} {ad : Nat → Nat} {r' : Int32 × zI × zL} (X : RX M (zR D cy ad) cX11_goesOn 5 RX11 2 45) (Z : RZi M (zR D cy ad) .boolean r'.1 r'.2.1 r'.2.2) (x1 : Int32) (x2 : Int32) (x3 : Int32) (V : zI) (L : zL) (ls : Array Slot) (hl : lv_has ls 5 [(0, .ref (ad 0)), (1, .int x1), (2, .int x2), (3, .int x3)]) (hf : f_goesOn_400 x1 x2 x3 V L = some r') : RG M (zR D cy ad) V L 400 ls [] := by
  unfold f_goesOn_400 at hf
  refine z_iload_n X dX11_goesOn_400 rfl (lv_at hl 3 rfl) ?_
  refine z_if_eq (tgt := 422) X dX11_goesOn_401 (by decide) (fun c_ => ?_) (fun c_ => ?_)
  · have hf := (if_pos c_).symm.trans hf
    exact w_goesOn_422 X Z x1 x2 V L ls (lv_sub hl [0, 1, 2] rfl) hf
  · have hf := (if_neg c_).symm.trans hf
    refine z_aload_n X dX11_goesOn_404 rfl (lv_at hl 0 rfl) ?_
    refine m_geta X ff_29 dX11_goesOn_405 ?_
    refine z_iload_n X dX11_goesOn_408 rfl (lv_at hl 1 rfl) ?_
    obtain ⟨hb1, hf⟩ := z_ite hf
    refine m_iald X pa_14 hb1 dX11_goesOn_409 ?_
    refine z_if_ne (tgt := 422) X dX11_goesOn_410 (by decide) (fun c_ => ?_) (fun c_ => ?_)
    · have hf := (if_neg c_).symm.trans hf
      exact w_goesOn_422 X Z x1 x2 V L ls (lv_sub hl [0, 1, 2] rfl) hf
    · have hf := (if_pos c_).symm.trans hf
      refine z_aload_n X dX11_goesOn_413 rfl (lv_at hl 0 rfl) ?_
      refine z_iconst (v := 1) X dX11_goesOn_414 (by decide) ?_
      refine z_aload_n X dX11_goesOn_415 rfl (lv_at hl 0 rfl) ?_
      refine m_geti X ff_4 dX11_goesOn_416 ?_
      obtain ⟨r2, hc2, hf⟩ := z_bind hf
      refine m_callVv [.int 1, .int (V 0 4)] X hl.1 (c_blame D cy ad hc2) gm_blame pd_blame rfl ⟨by decide, by decide⟩ (Nat.le_of_ble_eq_true rfl) rfl dX11_goesOn_419 ?_
      exact w_goesOn_422 X Z x1 x2 r2.1 r2.2 ls (lv_sub hl [0, 1, 2] rfl) hf

set_option maxHeartbeats 4000000 in
set_option maxRecDepth 100000 in
theorem w_goesOn_285 {M : zM} {D : va_G} {cy : Nat → ClassId} {ad : Nat → Nat} {r' : Int32 × zI × zL} (X : RX M (zR D cy ad) cX11_goesOn 5 RX11 2 45) (Z : RZi M (zR D cy ad) .boolean r'.1 r'.2.1 r'.2.2) (x1 : Int32) (x2 : Int32) (x3 : Int32) (V : zI) (L : zL) (ls : Array Slot) (hl : lv_has ls 5 [(0, .ref (ad 0)), (1, .int x1), (2, .int x2), (3, .int x3)]) (hf : f_goesOn_285 x1 x2 x3 V L = some r') : RG M (zR D cy ad) V L 285 ls [] := by
  unfold f_goesOn_285 at hf
  refine z_iload_n X dX11_goesOn_285 rfl (lv_at hl 3 rfl) ?_
  refine z_if_eq (tgt := 400) X dX11_goesOn_286 (by decide) (fun c_ => ?_) (fun c_ => ?_)
  · have hf := (if_pos c_).symm.trans hf
    exact w_goesOn_400 X Z x1 x2 x3 V L ls (lv_sub hl [0, 1, 2, 3] rfl) hf
  · have hf := (if_neg c_).symm.trans hf
    refine z_aload_n X dX11_goesOn_289 rfl (lv_at hl 0 rfl) ?_
    refine z_ldc2 X dX11_goesOn_290 kc_277 ?_
    obtain ⟨r1, hc1, hf⟩ := z_bind hf
    refine m_callVi [.long 6385252] X hl.1 (c_isWord D cy ad hc1) gm_isWord pd_isWord rfl ⟨by decide, by decide⟩ (Nat.le_of_ble_eq_true rfl) rfl dX11_goesOn_293 ?_
    refine z_if_ne (tgt := 309) X dX11_goesOn_296 (by decide) (fun c_ => ?_) (fun c_ => ?_)
    · have hf := (if_neg c_).symm.trans hf
      exact w_goesOn_309 X Z x1 r1.2.1 r1.2.2 ls (lv_sub hl [0, 1] rfl) hf
    · have hf := (if_pos c_).symm.trans hf
      refine z_aload_n X dX11_goesOn_299 rfl (lv_at hl 0 rfl) ?_
      refine z_ldc2 X dX11_goesOn_300 kc_275 ?_
      obtain ⟨r2, hc2, hf⟩ := z_bind hf
      refine m_callVi [.long 28530] X hl.1 (c_isWord D cy ad hc2) gm_isWord pd_isWord rfl ⟨by decide, by decide⟩ (Nat.le_of_ble_eq_true rfl) rfl dX11_goesOn_303 ?_
      refine z_if_eq (tgt := 400) X dX11_goesOn_306 (by decide) (fun c_ => ?_) (fun c_ => ?_)
      · have hf := (if_pos c_).symm.trans hf
        exact w_goesOn_400 X Z x1 x2 x3 r2.2.1 r2.2.2 ls (lv_sub hl [0, 1, 2, 3] rfl) hf
      · have hf := (if_neg c_).symm.trans hf
        exact w_goesOn_309 X Z x1 r2.2.1 r2.2.2 ls (lv_sub hl [0, 1] rfl) hf

set_option maxHeartbeats 4000000 in
set_option maxRecDepth 100000 in
theorem w_goesOn_188 {M : zM} {D : va_G} {cy : Nat → ClassId} {ad : Nat → Nat} {r' : Int32 × zI × zL} (X : RX M (zR D cy ad) cX11_goesOn 5 RX11 2 45) (Z : RZi M (zR D cy ad) .boolean r'.1 r'.2.1 r'.2.2) (x1 : Int32) (x2 : Int32) (x3 : Int32) (V : zI) (L : zL) (ls : Array Slot) (hl : lv_has ls 5 [(0, .ref (ad 0)), (1, .int x1), (2, .int x2), (3, .int x3)]) (hf : f_goesOn_188 x1 x2 x3 V L = some r') : RG M (zR D cy ad) V L 188 ls [] := by
  unfold f_goesOn_188 at hf
  refine z_iload_n X dX11_goesOn_188 rfl (lv_at hl 3 rfl) ?_
  refine z_if_eq (tgt := 285) X dX11_goesOn_189 (by decide) (fun c_ => ?_) (fun c_ => ?_)
  · have hf := (if_pos c_).symm.trans hf
    exact w_goesOn_285 X Z x1 x2 x3 V L ls (lv_sub hl [0, 1, 2, 3] rfl) hf
  · have hf := (if_neg c_).symm.trans hf
    refine z_aload_n X dX11_goesOn_192 rfl (lv_at hl 0 rfl) ?_
    refine m_geta X ff_29 dX11_goesOn_193 ?_
    refine z_iload_n X dX11_goesOn_196 rfl (lv_at hl 1 rfl) ?_
    obtain ⟨hb1, hf⟩ := z_ite hf
    refine m_iald X pa_14 hb1 dX11_goesOn_197 ?_
    refine z_if_ne (tgt := 285) X dX11_goesOn_198 (by decide) (fun c_ => ?_) (fun c_ => ?_)
    · have hf := (if_neg c_).symm.trans hf
      exact w_goesOn_285 X Z x1 x2 x3 V L ls (lv_sub hl [0, 1, 2, 3] rfl) hf
    · have hf := (if_pos c_).symm.trans hf
      refine z_aload_n X dX11_goesOn_201 rfl (lv_at hl 0 rfl) ?_
      refine z_bipush (v := 60) X dX11_goesOn_202 (by decide) ?_
      obtain ⟨r2, hc2, hf⟩ := z_bind hf
      refine m_callVi [.int 60] X hl.1 (c_isSign D cy ad hc2) gm_isSign pd_isSign rfl ⟨by decide, by decide⟩ (Nat.le_of_ble_eq_true rfl) rfl dX11_goesOn_204 ?_
      refine z_if_ne (tgt := 228) X dX11_goesOn_207 (by decide) (fun c_ => ?_) (fun c_ => ?_)
      · have hf := (if_neg c_).symm.trans hf
        exact w_goesOn_228 X Z x1 r2.2.1 r2.2.2 ls (lv_sub hl [0, 1] rfl) hf
      · have hf := (if_pos c_).symm.trans hf
        refine z_aload_n X dX11_goesOn_210 rfl (lv_at hl 0 rfl) ?_
        refine z_bipush (v := 62) X dX11_goesOn_211 (by decide) ?_
        obtain ⟨r3, hc3, hf⟩ := z_bind hf
        refine m_callVi [.int 62] X hl.1 (c_isSign D cy ad hc3) gm_isSign pd_isSign rfl ⟨by decide, by decide⟩ (Nat.le_of_ble_eq_true rfl) rfl dX11_goesOn_213 ?_
        refine z_if_ne (tgt := 228) X dX11_goesOn_216 (by decide) (fun c_ => ?_) (fun c_ => ?_)
        · have hf := (if_neg c_).symm.trans hf
          exact w_goesOn_228 X Z x1 r3.2.1 r3.2.2 ls (lv_sub hl [0, 1] rfl) hf
        · have hf := (if_pos c_).symm.trans hf
          refine z_aload_n X dX11_goesOn_219 rfl (lv_at hl 0 rfl) ?_
          refine z_bipush (v := 61) X dX11_goesOn_220 (by decide) ?_
          obtain ⟨r4, hc4, hf⟩ := z_bind hf
          refine m_callVi [.int 61] X hl.1 (c_isSign D cy ad hc4) gm_isSign pd_isSign rfl ⟨by decide, by decide⟩ (Nat.le_of_ble_eq_true rfl) rfl dX11_goesOn_222 ?_
          refine z_if_eq (tgt := 285) X dX11_goesOn_225 (by decide) (fun c_ => ?_) (fun c_ => ?_)
          · have hf := (if_pos c_).symm.trans hf
            exact w_goesOn_285 X Z x1 x2 x3 r4.2.1 r4.2.2 ls (lv_sub hl [0, 1, 2, 3] rfl) hf
          · have hf := (if_neg c_).symm.trans hf
            exact w_goesOn_228 X Z x1 r4.2.1 r4.2.2 ls (lv_sub hl [0, 1] rfl) hf

set_option maxHeartbeats 4000000 in
set_option maxRecDepth 100000 in
theorem w_goesOn {M : zM} {D : va_G} {cy : Nat → ClassId} {ad : Nat → Nat} {r' : Int32 × zI × zL} (X : RX M (zR D cy ad) cX11_goesOn 5 RX11 2 45) (Z : RZi M (zR D cy ad) .boolean r'.1 r'.2.1 r'.2.2)  (V : zI) (L : zL) (ls : Array Slot) (hl : lv_has ls 5 [(0, .ref (ad 0))]) (hf : f_goesOn V L = some r') : RG M (zR D cy ad) V L 0 ls [] := by
  unfold f_goesOn at hf
  refine z_aload_n X dX11_goesOn_0 rfl (lv_at hl 0 rfl) ?_
  obtain ⟨r1, hc1, hf⟩ := z_bind hf
  refine m_callVv [] X hl.1 (c_lex D cy ad hc1) gm_lex pd_lex rfl ⟨by decide, by decide⟩ (Nat.le_of_ble_eq_true rfl) rfl dX11_goesOn_1 ?_
  refine z_aload_n X dX11_goesOn_4 rfl (lv_at hl 0 rfl) ?_
  refine m_geti X ff_8 dX11_goesOn_5 ?_
  refine z_if_le (tgt := 13) X dX11_goesOn_8 (by decide) (fun c_ => ?_) (fun c_ => ?_)
  · have hf := (if_pos c_).symm.trans hf
    refine z_aload_n X dX11_goesOn_13 rfl (lv_at hl 0 rfl) ?_
    refine m_geti X ff_33 dX11_goesOn_14 ?_
    refine z_iconst (v := 1) X dX11_goesOn_17 (by decide) ?_
    refine z_isub X dX11_goesOn_18 ?_
    refine z_istore_n (lv' := [(1, .int ((r1.1 0 33) - 1)), (0, .ref (ad 0))]) X dX11_goesOn_19 rfl hl (by decide) rfl (fun ls hl => ?_)
    refine z_aload_n X dX11_goesOn_20 rfl (lv_at hl 1 rfl) ?_
    refine m_geta X ff_28 dX11_goesOn_21 ?_
    refine z_iload_n X dX11_goesOn_24 rfl (lv_at hl 0 rfl) ?_
    obtain ⟨hb2, hf⟩ := z_ite hf
    refine m_iald X pa_13 hb2 dX11_goesOn_25 ?_
    refine z_istore_n (lv' := [(2, .int (r1.1 13 ((r1.1 0 33) - 1).toNatClampNeg)), (1, .int ((r1.1 0 33) - 1)), (0, .ref (ad 0))]) X dX11_goesOn_26 rfl hl (by decide) rfl (fun ls hl => ?_)
    refine z_iload_n X dX11_goesOn_27 rfl (lv_at hl 0 rfl) ?_
    obtain ⟨r3, hc3, hf⟩ := z_bind hf
    refine m_callSi [.int (r1.1 13 ((r1.1 0 33) - 1).toNatClampNeg)] X hl.1 (c_isTest D cy ad hc3) gm_isTest pd_isTest rfl ⟨by decide, by decide⟩ (Nat.le_of_ble_eq_true rfl) rfl dX11_goesOn_28 ?_
    refine z_istore_n (lv' := [(3, .int r3), (2, .int (r1.1 13 ((r1.1 0 33) - 1).toNatClampNeg)), (1, .int ((r1.1 0 33) - 1)), (0, .ref (ad 0))]) X dX11_goesOn_31 rfl hl (by decide) rfl (fun ls hl => ?_)
    refine z_aload_n X dX11_goesOn_32 rfl (lv_at hl 3 rfl) ?_
    refine m_geta X ff_29 dX11_goesOn_33 ?_
    refine z_iload_n X dX11_goesOn_36 rfl (lv_at hl 2 rfl) ?_
    obtain ⟨hb4, hf⟩ := z_ite hf
    refine m_iald X pa_14 hb4 dX11_goesOn_37 ?_
    refine z_iconst (v := 2) X dX11_goesOn_38 (by decide) ?_
    refine z_icmp_ge (tgt := 188) X dX11_goesOn_39 (by decide) (fun c_ => ?_) (fun c_ => ?_)
    · have hf := (if_pos c_).symm.trans hf
      exact w_goesOn_188 X Z ((r1.1 0 33) - 1) (r1.1 13 ((r1.1 0 33) - 1).toNatClampNeg) r3 r1.1 r1.2 ls (lv_sub hl [3, 2, 1, 0] rfl) hf
    · have hf := (if_neg c_).symm.trans hf
      refine z_aload_n X dX11_goesOn_42 rfl (lv_at hl 3 rfl) ?_
      refine z_bipush (v := 43) X dX11_goesOn_43 (by decide) ?_
      obtain ⟨r5, hc5, hf⟩ := z_bind hf
      refine m_callVi [.int 43] X hl.1 (c_isSign D cy ad hc5) gm_isSign pd_isSign rfl ⟨by decide, by decide⟩ (Nat.le_of_ble_eq_true rfl) rfl dX11_goesOn_45 ?_
      refine z_if_ne (tgt := 87) X dX11_goesOn_48 (by decide) (fun c_ => ?_) (fun c_ => ?_)
      · have hf := (if_neg c_).symm.trans hf
        exact w_goesOn_87 X Z r5.2.1 r5.2.2 ls (lv_sub hl [3] rfl) hf
      · have hf := (if_pos c_).symm.trans hf
        refine z_aload_n X dX11_goesOn_51 rfl (lv_at hl 3 rfl) ?_
        refine z_bipush (v := 45) X dX11_goesOn_52 (by decide) ?_
        obtain ⟨r6, hc6, hf⟩ := z_bind hf
        refine m_callVi [.int 45] X hl.1 (c_isSign D cy ad hc6) gm_isSign pd_isSign rfl ⟨by decide, by decide⟩ (Nat.le_of_ble_eq_true rfl) rfl dX11_goesOn_54 ?_
        refine z_if_ne (tgt := 87) X dX11_goesOn_57 (by decide) (fun c_ => ?_) (fun c_ => ?_)
        · have hf := (if_neg c_).symm.trans hf
          exact w_goesOn_87 X Z r6.2.1 r6.2.2 ls (lv_sub hl [3] rfl) hf
        · have hf := (if_pos c_).symm.trans hf
          refine z_aload_n X dX11_goesOn_60 rfl (lv_at hl 3 rfl) ?_
          refine z_bipush (v := 42) X dX11_goesOn_61 (by decide) ?_
          obtain ⟨r7, hc7, hf⟩ := z_bind hf
          refine m_callVi [.int 42] X hl.1 (c_isSign D cy ad hc7) gm_isSign pd_isSign rfl ⟨by decide, by decide⟩ (Nat.le_of_ble_eq_true rfl) rfl dX11_goesOn_63 ?_
          refine z_if_ne (tgt := 87) X dX11_goesOn_66 (by decide) (fun c_ => ?_) (fun c_ => ?_)
          · have hf := (if_neg c_).symm.trans hf
            exact w_goesOn_87 X Z r7.2.1 r7.2.2 ls (lv_sub hl [3] rfl) hf
          · have hf := (if_pos c_).symm.trans hf
            refine z_aload_n X dX11_goesOn_69 rfl (lv_at hl 3 rfl) ?_
            refine z_bipush (v := 47) X dX11_goesOn_70 (by decide) ?_
            obtain ⟨r8, hc8, hf⟩ := z_bind hf
            refine m_callVi [.int 47] X hl.1 (c_isSign D cy ad hc8) gm_isSign pd_isSign rfl ⟨by decide, by decide⟩ (Nat.le_of_ble_eq_true rfl) rfl dX11_goesOn_72 ?_
            refine z_if_ne (tgt := 87) X dX11_goesOn_75 (by decide) (fun c_ => ?_) (fun c_ => ?_)
            · have hf := (if_neg c_).symm.trans hf
              exact w_goesOn_87 X Z r8.2.1 r8.2.2 ls (lv_sub hl [3] rfl) hf
            · have hf := (if_pos c_).symm.trans hf
              refine z_aload_n X dX11_goesOn_78 rfl (lv_at hl 3 rfl) ?_
              refine z_bipush (v := 37) X dX11_goesOn_79 (by decide) ?_
              obtain ⟨r9, hc9, hf⟩ := z_bind hf
              refine m_callVi [.int 37] X hl.1 (c_isSign D cy ad hc9) gm_isSign pd_isSign rfl ⟨by decide, by decide⟩ (Nat.le_of_ble_eq_true rfl) rfl dX11_goesOn_81 ?_
              refine z_if_eq (tgt := 188) X dX11_goesOn_84 (by decide) (fun c_ => ?_) (fun c_ => ?_)
              · have hf := (if_pos c_).symm.trans hf
                exact w_goesOn_188 X Z ((r1.1 0 33) - 1) (r1.1 13 ((r1.1 0 33) - 1).toNatClampNeg) r3 r9.2.1 r9.2.2 ls (lv_sub hl [3, 2, 1, 0] rfl) hf
              · have hf := (if_neg c_).symm.trans hf
                exact w_goesOn_87 X Z r9.2.1 r9.2.2 ls (lv_sub hl [3] rfl) hf
  · have hf := (if_neg c_).symm.trans hf
    refine z_iconst (v := 0) X dX11_goesOn_11 (by decide) ?_
    exact m_iret X Z hf (by decide) dX11_goesOn_12

theorem c_goesOn (D : va_G) (cy : Nat → ClassId) (ad : Nat → Nat)  {V : zI} {L : zL} {r' : Int32 × zI × zL} (hf : f_goesOn V L = some r') : RMi (zR D cy ad) yX11_goesOn cX11_goesOn 5 .boolean 2 45 [.ref (ad 0)] V L r'.1 r'.2.1 r'.2.2 :=
  RMi.of (by decide) zR_nd (Nat.le_of_ble_eq_true rfl) (fun M X Z ls hl => w_goesOn X Z V L ls hl hf)
def f_reads_70 (k43 : Int32 × zI × zL → Option (zI × zL)) (x2 : Int32) (V : zI) (L : zL) : Option (zI × zL) :=
  (if x2 = 0 then k43 (0, V, L) else (if (V 0 8) = 0 then k43 (1, V, L) else k43 (0, V, L)))
def b_reads_43 (k43 : Int32 × zI × zL → Option (zI × zL)) : Int32 × zI × zL → Option (zI × zL) := fun ⟨x2, V, L⟩ =>
  (if x2 = 0 then some (V, L) else (if (V 0 37) = 0 then (f_operand V L).bind fun r2 => if zB r2.1 then f_reads_70 k43 x2 (z_uI r2.2.1 0 37 r2.1) r2.2.2 else none else (f_goesOn V L).bind fun r1 => f_reads_70 k43 r1.1 r1.2.1 r1.2.2))
def f_reads_38 (s1 : Int32) (V : zI) (L : zL) : Option (zI × zL) :=
  (f_pushes s1 V L).bind fun r1 => zfix (b_reads_43) FU (1, r1.1, r1.2)
def f_reads (x1 : Int32) (V : zI) (L : zL) : Option (zI × zL) :=
  (if (V 0 8) ≤ 0 then (if x1 = 0 then f_reads_38 0 (z_uI (z_uI (z_uI (z_uI V 0 33 0) 0 34 0) 0 36 0) 0 37 0) L else f_reads_38 1 (z_uI (z_uI (z_uI (z_uI V 0 33 0) 0 34 0) 0 36 0) 0 37 0) L) else some (V, L))
set_option maxHeartbeats 4000000 in
set_option maxRecDepth 100000 in
theorem w_reads_70 {M : zM} {D : va_G} {cy : Nat → ClassId} {ad : Nat → Nat} {r' : zI × zL} (X : RX M (zR D cy ad) cX11_reads 3 RX11 4 89) (Z : RZv M (zR D cy ad) r'.1 r'.2) {k43 : Int32 × zI × zL → Option (zI × zL)} (hk43 : ∀ (x2 : Int32) (V : zI) (L : zL) (ls : Array Slot), lv_has ls 3 [(0, .ref (ad 0)), (2, .int x2)] → k43 (x2, V, L) = some r' → RG M (zR D cy ad) V L 43 ls []) (x2 : Int32) (V : zI) (L : zL) (ls : Array Slot) (hl : lv_has ls 3 [(0, .ref (ad 0)), (2, .int x2)]) (hf : f_reads_70 k43 x2 V L = some r') : RG M (zR D cy ad) V L 70 ls [] := by
  unfold f_reads_70 at hf
  refine z_iload_n X dX11_reads_70 rfl (lv_at hl 1 rfl) ?_
  refine z_if_eq (tgt := 85) X dX11_reads_71 (by decide) (fun c_ => ?_) (fun c_ => ?_)
  · have hf := (if_pos c_).symm.trans hf
    refine z_iconst (v := 0) X dX11_reads_85 (by decide) ?_
    refine z_istore_n (lv' := [(2, .int 0), (0, .ref (ad 0))]) X dX11_reads_86 rfl hl (by decide) rfl (fun ls hl => ?_)
    refine z_goto (tgt := 43) X dX11_reads_87 (by decide) ?_
    exact hk43 0 V L ls (lv_sub hl [1, 0] rfl) hf
  · have hf := (if_neg c_).symm.trans hf
    refine z_aload_n X dX11_reads_74 rfl (lv_at hl 0 rfl) ?_
    refine m_geti X ff_8 dX11_reads_75 ?_
    refine z_if_ne (tgt := 85) X dX11_reads_78 (by decide) (fun c_ => ?_) (fun c_ => ?_)
    · have hf := (if_neg c_).symm.trans hf
      refine z_iconst (v := 0) X dX11_reads_85 (by decide) ?_
      refine z_istore_n (lv' := [(2, .int 0), (0, .ref (ad 0))]) X dX11_reads_86 rfl hl (by decide) rfl (fun ls hl => ?_)
      refine z_goto (tgt := 43) X dX11_reads_87 (by decide) ?_
      exact hk43 0 V L ls (lv_sub hl [1, 0] rfl) hf
    · have hf := (if_pos c_).symm.trans hf
      refine z_iconst (v := 1) X dX11_reads_81 (by decide) ?_
      refine z_goto (tgt := 86) X dX11_reads_82 (by decide) ?_
      refine z_istore_n (lv' := [(2, .int 1), (0, .ref (ad 0))]) X dX11_reads_86 rfl hl (by decide) rfl (fun ls hl => ?_)
      refine z_goto (tgt := 43) X dX11_reads_87 (by decide) ?_
      exact hk43 1 V L ls (lv_sub hl [1, 0] rfl) hf

set_option maxHeartbeats 4000000 in
set_option maxRecDepth 100000 in
theorem w_reads_43 {M : zM} {D : va_G} {cy : Nat → ClassId} {ad : Nat → Nat} {r' : zI × zL} (X : RX M (zR D cy ad) cX11_reads 3 RX11 4 89) (Z : RZv M (zR D cy ad) r'.1 r'.2) (n : Nat) : ∀ (x2 : Int32) (V : zI) (L : zL) (ls : Array Slot) (hl : lv_has ls 3 [(0, .ref (ad 0)), (2, .int x2)]) (hf : zfix (b_reads_43) n (x2, V, L) = some r'), RG M (zR D cy ad) V L 43 ls [] := by
  induction n with
  | zero => intro x2 V L ls hl hf; cases hf
  | succ n ih =>
  intro x2 V L ls hl hf
  have hk43 : ∀ (x2 : Int32) (V : zI) (L : zL) (ls : Array Slot), lv_has ls 3 [(0, .ref (ad 0)), (2, .int x2)] → zfix (b_reads_43) n (x2, V, L) = some r' → RG M (zR D cy ad) V L 43 ls [] := ih
  have hf : b_reads_43 (zfix (b_reads_43) n) (x2, V, L) = some r' := hf
  generalize zfix (b_reads_43) n = k43 at hk43 hf
  unfold b_reads_43 at hf
  clear ih
  refine z_iload_n X dX11_reads_43 rfl (lv_at hl 1 rfl) ?_
  refine z_if_eq (tgt := 90) X dX11_reads_44 (by decide) (fun c_ => ?_) (fun c_ => ?_)
  · have hf := (if_pos c_).symm.trans hf
    exact m_vret X Z hf dX11_reads_90
  · have hf := (if_neg c_).symm.trans hf
    refine z_aload_n X dX11_reads_47 rfl (lv_at hl 0 rfl) ?_
    refine m_geti X ff_37 dX11_reads_48 ?_
    refine z_if_ne (tgt := 65) X dX11_reads_51 (by decide) (fun c_ => ?_) (fun c_ => ?_)
    · have hf := (if_neg c_).symm.trans hf
      refine z_aload_n X dX11_reads_65 rfl (lv_at hl 0 rfl) ?_
      obtain ⟨r1, hc1, hf⟩ := z_bind hf
      refine m_callVi [] X hl.1 (c_goesOn D cy ad hc1) gm_goesOn pd_goesOn rfl ⟨by decide, by decide⟩ (Nat.le_of_ble_eq_true rfl) rfl dX11_reads_66 ?_
      refine z_istore_n (lv' := [(2, .int r1.1), (0, .ref (ad 0))]) X dX11_reads_69 rfl hl (by decide) rfl (fun ls hl => ?_)
      exact w_reads_70 X Z hk43 r1.1 r1.2.1 r1.2.2 ls (lv_sub hl [1, 0] rfl) hf
    · have hf := (if_pos c_).symm.trans hf
      refine z_aload_n X dX11_reads_54 rfl (lv_at hl 0 rfl) ?_
      refine z_aload_n X dX11_reads_55 rfl (lv_at hl 0 rfl) ?_
      obtain ⟨r2, hc2, hf⟩ := z_bind hf
      refine m_callVi [] X hl.1 (c_operand D cy ad hc2) gm_operand pd_operand rfl ⟨by decide, by decide⟩ (Nat.le_of_ble_eq_true rfl) rfl dX11_reads_56 ?_
      obtain ⟨hb3, hf⟩ := z_ite hf
      refine m_putz X fp_37 hb3 dX11_reads_59 ?_
      refine z_goto (tgt := 70) X dX11_reads_62 (by decide) ?_
      exact w_reads_70 X Z hk43 x2 (z_uI r2.2.1 0 37 r2.1) r2.2.2 ls (lv_sub hl [0, 1] rfl) hf

set_option maxHeartbeats 4000000 in
set_option maxRecDepth 100000 in
theorem w_reads_38 {M : zM} {D : va_G} {cy : Nat → ClassId} {ad : Nat → Nat} {r' : zI × zL} (X : RX M (zR D cy ad) cX11_reads 3 RX11 4 89) (Z : RZv M (zR D cy ad) r'.1 r'.2) (s1 : Int32) (V : zI) (L : zL) (ls : Array Slot) (hl : lv_has ls 3 [(0, .ref (ad 0))]) (hf : f_reads_38 s1 V L = some r') : RG M (zR D cy ad) V L 38 ls [.int s1, .ref (ad 0)] := by
  unfold f_reads_38 at hf
  obtain ⟨r1, hc1, hf⟩ := z_bind hf
  refine m_callVv [.int s1] X hl.1 (c_pushes D cy ad hc1) gm_pushes pd_pushes rfl ⟨by decide, by decide⟩ (Nat.le_of_ble_eq_true rfl) rfl dX11_reads_38 ?_
  refine z_iconst (v := 1) X dX11_reads_41 (by decide) ?_
  refine z_istore_n (lv' := [(2, .int 1), (0, .ref (ad 0))]) X dX11_reads_42 rfl hl (by decide) rfl (fun ls hl => ?_)
  exact w_reads_43 X Z FU 1 r1.1 r1.2 ls (lv_sub hl [1, 0] rfl) hf

set_option maxHeartbeats 4000000 in
set_option maxRecDepth 100000 in
theorem w_reads {M : zM} {D : va_G} {cy : Nat → ClassId} {ad : Nat → Nat} {r' : zI × zL} (X : RX M (zR D cy ad) cX11_reads 3 RX11 4 89) (Z : RZv M (zR D cy ad) r'.1 r'.2) (x1 : Int32) (V : zI) (L : zL) (ls : Array Slot) (hl : lv_has ls 3 [(0, .ref (ad 0)), (1, .int x1)]) (hf : f_reads x1 V L = some r') : RG M (zR D cy ad) V L 0 ls [] := by
  unfold f_reads at hf
  refine z_aload_n X dX11_reads_0 rfl (lv_at hl 0 rfl) ?_
  refine m_geti X ff_8 dX11_reads_1 ?_
  refine z_if_le (tgt := 8) X dX11_reads_4 (by decide) (fun c_ => ?_) (fun c_ => ?_)
  · have hf := (if_pos c_).symm.trans hf
    refine z_aload_n X dX11_reads_8 rfl (lv_at hl 0 rfl) ?_
    refine z_iconst (v := 0) X dX11_reads_9 (by decide) ?_
    refine m_puti X fp_33 dX11_reads_10 ?_
    refine z_aload_n X dX11_reads_13 rfl (lv_at hl 0 rfl) ?_
    refine z_iconst (v := 0) X dX11_reads_14 (by decide) ?_
    refine m_puti X fp_34 dX11_reads_15 ?_
    refine z_aload_n X dX11_reads_18 rfl (lv_at hl 0 rfl) ?_
    refine z_iconst (v := 0) X dX11_reads_19 (by decide) ?_
    refine m_puti X fp_36 dX11_reads_20 ?_
    refine z_aload_n X dX11_reads_23 rfl (lv_at hl 0 rfl) ?_
    refine z_iconst (v := 0) X dX11_reads_24 (by decide) ?_
    refine m_putz X fp_37 (by decide) dX11_reads_25 ?_
    refine z_aload_n X dX11_reads_28 rfl (lv_at hl 0 rfl) ?_
    refine z_iload_n X dX11_reads_29 rfl (lv_at hl 1 rfl) ?_
    refine z_if_eq (tgt := 37) X dX11_reads_30 (by decide) (fun c_ => ?_) (fun c_ => ?_)
    · have hf := (if_pos c_).symm.trans hf
      refine z_iconst (v := 0) X dX11_reads_37 (by decide) ?_
      exact w_reads_38 X Z 0 (z_uI (z_uI (z_uI (z_uI V 0 33 0) 0 34 0) 0 36 0) 0 37 0) L ls (lv_sub hl [0] rfl) hf
    · have hf := (if_neg c_).symm.trans hf
      refine z_iconst (v := 1) X dX11_reads_33 (by decide) ?_
      refine z_goto (tgt := 38) X dX11_reads_34 (by decide) ?_
      exact w_reads_38 X Z 1 (z_uI (z_uI (z_uI (z_uI V 0 33 0) 0 34 0) 0 36 0) 0 37 0) L ls (lv_sub hl [0] rfl) hf
  · have hf := (if_neg c_).symm.trans hf
    exact m_vret X Z hf dX11_reads_7

theorem c_reads (D : va_G) (cy : Nat → ClassId) (ad : Nat → Nat) {x1 : Int32} {V : zI} {L : zL} {r' : zI × zL} (hf : f_reads x1 V L = some r') : RMv (zR D cy ad) yX11_reads cX11_reads 3 4 89 [.ref (ad 0), .int x1] V L r'.1 r'.2 :=
  RMv.of (by decide) zR_nd (Nat.le_of_ble_eq_true rfl) (fun M X Z ls hl => w_reads X Z x1 V L ls hl hf)
def f_counts_32 (V : zI) (L : zL) : Option (Int32 × zI × zL) :=
  (if (V 0 8) = 0 then some (1, V, L) else some (0, V, L))
def f_counts_21 (V : zI) (L : zL) : Option (Int32 × zI × zL) :=
  (if (V 0 8) = 0 then (f_ahead V L).bind fun r1 => f_counts_32 r1.1 r1.2 else f_counts_32 V L)
def f_counts (x1 : Int32) (V : zI) (L : zL) : Option (Int32 × zI × zL) :=
  (if (V 0 8) = 0 then (if x1 = 0 then f_counts_21 V L else (f_blame 6 (V 0 4) V L).bind fun r1 => f_counts_21 r1.1 r1.2) else f_counts_21 V L)
set_option maxHeartbeats 4000000 in
set_option maxRecDepth 100000 in
theorem w_counts_32 {M : zM} {D : va_G} {cy : Nat → ClassId} {ad : Nat → Nat} {r' : Int32 × zI × zL} (X : RX M (zR D cy ad) cX11_counts 2 RX11 2 45) (Z : RZi M (zR D cy ad) .boolean r'.1 r'.2.1 r'.2.2)  (V : zI) (L : zL) (ls : Array Slot) (hl : lv_has ls 2 [(0, .ref (ad 0))]) (hf : f_counts_32 V L = some r') : RG M (zR D cy ad) V L 32 ls [] := by
  unfold f_counts_32 at hf
  refine z_aload_n X dX11_counts_32 rfl (lv_at hl 0 rfl) ?_
  refine m_geti X ff_8 dX11_counts_33 ?_
  refine z_if_ne (tgt := 43) X dX11_counts_36 (by decide) (fun c_ => ?_) (fun c_ => ?_)
  · have hf := (if_neg c_).symm.trans hf
    refine z_iconst (v := 0) X dX11_counts_43 (by decide) ?_
    exact m_iret X Z hf (by decide) dX11_counts_44
  · have hf := (if_pos c_).symm.trans hf
    refine z_iconst (v := 1) X dX11_counts_39 (by decide) ?_
    refine z_goto (tgt := 44) X dX11_counts_40 (by decide) ?_
    exact m_iret X Z hf (by decide) dX11_counts_44

set_option maxHeartbeats 4000000 in
set_option maxRecDepth 100000 in
theorem w_counts_21 {M : zM} {D : va_G} {cy : Nat → ClassId} {ad : Nat → Nat} {r' : Int32 × zI × zL} (X : RX M (zR D cy ad) cX11_counts 2 RX11 2 45) (Z : RZi M (zR D cy ad) .boolean r'.1 r'.2.1 r'.2.2)  (V : zI) (L : zL) (ls : Array Slot) (hl : lv_has ls 2 [(0, .ref (ad 0))]) (hf : f_counts_21 V L = some r') : RG M (zR D cy ad) V L 21 ls [] := by
  unfold f_counts_21 at hf
  refine z_aload_n X dX11_counts_21 rfl (lv_at hl 0 rfl) ?_
  refine m_geti X ff_8 dX11_counts_22 ?_
  refine z_if_ne (tgt := 32) X dX11_counts_25 (by decide) (fun c_ => ?_) (fun c_ => ?_)
  · have hf := (if_neg c_).symm.trans hf
    exact w_counts_32 X Z V L ls (lv_sub hl [0] rfl) hf
  · have hf := (if_pos c_).symm.trans hf
    refine z_aload_n X dX11_counts_28 rfl (lv_at hl 0 rfl) ?_
    obtain ⟨r1, hc1, hf⟩ := z_bind hf
    refine m_callVv [] X hl.1 (c_ahead D cy ad hc1) gm_ahead pd_ahead rfl ⟨by decide, by decide⟩ (Nat.le_of_ble_eq_true rfl) rfl dX11_counts_29 ?_
    exact w_counts_32 X Z r1.1 r1.2 ls (lv_sub hl [0] rfl) hf

set_option maxHeartbeats 4000000 in
set_option maxRecDepth 100000 in
theorem w_counts {M : zM} {D : va_G} {cy : Nat → ClassId} {ad : Nat → Nat} {r' : Int32 × zI × zL} (X : RX M (zR D cy ad) cX11_counts 2 RX11 2 45) (Z : RZi M (zR D cy ad) .boolean r'.1 r'.2.1 r'.2.2) (x1 : Int32) (V : zI) (L : zL) (ls : Array Slot) (hl : lv_has ls 2 [(0, .ref (ad 0)), (1, .int x1)]) (hf : f_counts x1 V L = some r') : RG M (zR D cy ad) V L 0 ls [] := by
  unfold f_counts at hf
  refine z_aload_n X dX11_counts_0 rfl (lv_at hl 0 rfl) ?_
  refine m_geti X ff_8 dX11_counts_1 ?_
  refine z_if_ne (tgt := 21) X dX11_counts_4 (by decide) (fun c_ => ?_) (fun c_ => ?_)
  · have hf := (if_neg c_).symm.trans hf
    exact w_counts_21 X Z V L ls (lv_sub hl [0] rfl) hf
  · have hf := (if_pos c_).symm.trans hf
    refine z_iload_n X dX11_counts_7 rfl (lv_at hl 1 rfl) ?_
    refine z_if_eq (tgt := 21) X dX11_counts_8 (by decide) (fun c_ => ?_) (fun c_ => ?_)
    · have hf := (if_pos c_).symm.trans hf
      exact w_counts_21 X Z V L ls (lv_sub hl [0] rfl) hf
    · have hf := (if_neg c_).symm.trans hf
      refine z_aload_n X dX11_counts_11 rfl (lv_at hl 0 rfl) ?_
      refine z_bipush (v := 6) X dX11_counts_12 (by decide) ?_
      refine z_aload_n X dX11_counts_14 rfl (lv_at hl 0 rfl) ?_
      refine m_geti X ff_4 dX11_counts_15 ?_
      obtain ⟨r1, hc1, hf⟩ := z_bind hf
      refine m_callVv [.int 6, .int (V 0 4)] X hl.1 (c_blame D cy ad hc1) gm_blame pd_blame rfl ⟨by decide, by decide⟩ (Nat.le_of_ble_eq_true rfl) rfl dX11_counts_18 ?_
      exact w_counts_21 X Z r1.1 r1.2 ls (lv_sub hl [0] rfl) hf

theorem c_counts (D : va_G) (cy : Nat → ClassId) (ad : Nat → Nat) {x1 : Int32} {V : zI} {L : zL} {r' : Int32 × zI × zL} (hf : f_counts x1 V L = some r') : RMi (zR D cy ad) yX11_counts cX11_counts 2 .boolean 2 45 [.ref (ad 0), .int x1] V L r'.1 r'.2.1 r'.2.2 :=
  RMi.of (by decide) zR_nd (Nat.le_of_ble_eq_true rfl) (fun M X Z ls hl => w_counts X Z x1 V L ls hl hf)
