def f_upTo (x1 : Int32) (V : zI) (L : zL) : Option (Int32 × zI × zL) :=
  (if x1 ≤ 99 then some (x1, V, L) else some (99, V, L))
set_option maxHeartbeats 4000000 in
set_option maxRecDepth 100000 in
theorem w_upTo {M : zM} {D : va_G} {cy : Nat → ClassId} {ad : Nat → Nat} {r' : Int32 × zI × zL} (X : RX M (zR D cy ad) cX11_upTo 2 RX11 0 0) (Z : RZi M (zR D cy ad) .int r'.1 r'.2.1 r'.2.2) (x1 : Int32) (V : zI) (L : zL) (ls : Array Slot) (hl : lv_has ls 2 [(0, .ref (ad 0)), (1, .int x1)]) (hf : f_upTo x1 V L = some r') : RG M (zR D cy ad) V L 0 ls [] := by
  unfold f_upTo at hf
  refine z_iload_n X dX11_upTo_0 rfl (lv_at hl 1 rfl) ?_
  refine z_bipush (v := 99) X dX11_upTo_1 (by decide) ?_
  refine z_icmp_le (tgt := 11) X dX11_upTo_3 (by decide) (fun c_ => ?_) (fun c_ => ?_)
  · have hf := (if_pos c_).symm.trans hf
    refine z_iload_n X dX11_upTo_11 rfl (lv_at hl 1 rfl) ?_
    exact m_iret X Z hf rfl dX11_upTo_12
  · have hf := (if_neg c_).symm.trans hf
    refine z_bipush (v := 99) X dX11_upTo_6 (by decide) ?_
    refine z_goto (tgt := 12) X dX11_upTo_8 (by decide) ?_
    exact m_iret X Z hf rfl dX11_upTo_12

theorem c_upTo (D : va_G) (cy : Nat → ClassId) (ad : Nat → Nat) {x1 : Int32} {V : zI} {L : zL} {r' : Int32 × zI × zL} (hf : f_upTo x1 V L = some r') : RMi (zR D cy ad) yX11_upTo cX11_upTo 2 .int 0 0 [.ref (ad 0), .int x1] V L r'.1 r'.2.1 r'.2.2 :=
  RMi.of (by decide) zR_nd (Nat.le_of_ble_eq_true rfl) (fun M X Z ls hl => w_upTo X Z x1 V L ls hl hf)
def f_draw (x1 : Int32) (V : zI) (L : zL) : Option (Int32 × zI × zL) :=
  if ¬ ((x1 : Int32).toInt64) = 0 then some (((((z_uL L 0 49 ((((1103515245 : Int64) * (L 0 49)) + 12345) - (((1103515245 : Int64) * (L 0 49)) + 12345) / 2147483648 * 2147483648)) 0 49) / 64) - (((z_uL L 0 49 ((((1103515245 : Int64) * (L 0 49)) + 12345) - (((1103515245 : Int64) * (L 0 49)) + 12345) / 2147483648 * 2147483648)) 0 49) / 64) / ((x1 : Int32).toInt64) * ((x1 : Int32).toInt64)).toInt32, V, z_uL L 0 49 ((((1103515245 : Int64) * (L 0 49)) + 12345) - (((1103515245 : Int64) * (L 0 49)) + 12345) / 2147483648 * 2147483648)) else none
set_option maxHeartbeats 4000000 in
set_option maxRecDepth 100000 in
theorem w_draw {M : zM} {D : va_G} {cy : Nat → ClassId} {ad : Nat → Nat} {r' : Int32 × zI × zL} (X : RX M (zR D cy ad) cX11_draw 2 RX11 0 0) (Z : RZi M (zR D cy ad) .int r'.1 r'.2.1 r'.2.2) (x1 : Int32) (V : zI) (L : zL) (ls : Array Slot) (hl : lv_has ls 2 [(0, .ref (ad 0)), (1, .int x1)]) (hf : f_draw x1 V L = some r') : RG M (zR D cy ad) V L 0 ls [] := by
  unfold f_draw at hf
  refine z_aload_n X dX11_draw_0 rfl (lv_at hl 0 rfl) ?_
  refine z_ldc2 X dX11_draw_1 kc_502 ?_
  refine z_aload_n X dX11_draw_4 rfl (lv_at hl 0 rfl) ?_
  refine m_getl X ff_49 dX11_draw_5 ?_
  refine z_lmul X dX11_draw_8 ?_
  refine z_ldc2 X dX11_draw_9 kc_504 ?_
  refine z_ladd X dX11_draw_12 ?_
  refine z_ldc2 X dX11_draw_13 kc_506 ?_
  refine z_lrem X dX11_draw_16 (by decide) ?_
  refine m_putl X fp_49 dX11_draw_17 ?_
  refine z_aload_n X dX11_draw_20 rfl (lv_at hl 0 rfl) ?_
  refine m_getl X ff_49 dX11_draw_21 ?_
  refine z_ldc2 X dX11_draw_24 kc_508 ?_
  refine z_ldiv X dX11_draw_27 (by decide) ?_
  refine z_iload_n X dX11_draw_28 rfl (lv_at hl 1 rfl) ?_
  refine z_i2l X dX11_draw_29 ?_
  obtain ⟨hb1, hf⟩ := z_ite hf
  refine z_lrem X dX11_draw_30 hb1 ?_
  refine z_l2i X dX11_draw_31 ?_
  exact m_iret X Z hf rfl dX11_draw_32

theorem c_draw (D : va_G) (cy : Nat → ClassId) (ad : Nat → Nat) {x1 : Int32} {V : zI} {L : zL} {r' : Int32 × zI × zL} (hf : f_draw x1 V L = some r') : RMi (zR D cy ad) yX11_draw cX11_draw 2 .int 0 0 [.ref (ad 0), .int x1] V L r'.1 r'.2.1 r'.2.2 :=
  RMi.of (by decide) zR_nd (Nat.le_of_ble_eq_true rfl) (fun M X Z ls hl => w_draw X Z x1 V L ls hl hf)
def f_arrives_40 (x1 : Int32) (x2 : Int32) (x3 : Int32) (x5 : Int32) (s1 : Int32) (s2 : Int32) (s3 : Int32) (s4 : Int32) (V : zI) (L : zL) : Option (zI × zL) :=
  (f_writesDown s1 s2 s3 s4 V L).bind fun r1 => (if x5 = 0 then (f_at x1 x3 x2 (z_uI r1.1 0 52 ((r1.1 0 52) + 1)) (z_uL r1.2 0 54 ((r1.2 0 54) ||| ((1 : Int64) <<< ((((6 : Int32) * x2) + x3).toInt64 &&& 63))))).bind fun r2 => if inB r2.1 792 then (f_toldOf 0 r2.2.1 r2.2.2).bind fun r4 => (f_upTo ((r2.2.1 21 r2.1.toNatClampNeg) + r4.1) r4.2.1 r4.2.2).bind fun r5 => if inB r2.1 792 then if inB r2.1 792 then (f_upTo (((z_uI r5.2.1 21 r2.1.toNatClampNeg r5.1) 23 r2.1.toNatClampNeg) + 1) (z_uI r5.2.1 21 r2.1.toNatClampNeg r5.1) r5.2.2).bind fun r8 => if inB r2.1 792 then some (z_uI r8.2.1 23 r2.1.toNatClampNeg r8.1, r8.2.2) else none else none else none else none else some (z_uI r1.1 0 53 ((r1.1 0 53) + 1), r1.2))
def f_arrives_24 (x1 : Int32) (x2 : Int32) (x3 : Int32) (s0 : Int32) (V : zI) (L : zL) : Option (zI × zL) :=
  (if s0 = 0 then f_arrives_40 x1 x2 x3 s0 x1 x2 x3 0 V L else f_arrives_40 x1 x2 x3 s0 x1 x2 x3 1 V L)
def f_arrives_23 (x1 : Int32) (x2 : Int32) (x3 : Int32) (V : zI) (L : zL) : Option (zI × zL) :=
  f_arrives_24 x1 x2 x3 0 V L
def f_arrives (x1 : Int32) (x2 : Int32) (x3 : Int32) (x4 : Int32) (V : zI) (L : zL) : Option (zI × zL) :=
  (if x4 = 0 then f_arrives_23 x1 x2 x3 V L else (f_draw 100 V L).bind fun r1 => (f_toldOf 1 r1.2.1 r1.2.2).bind fun r2 => (if r2.1 ≤ r1.1 then f_arrives_23 x1 x2 x3 r2.2.1 r2.2.2 else f_arrives_24 x1 x2 x3 1 r2.2.1 r2.2.2))
set_option maxHeartbeats 4000000 in
set_option maxRecDepth 100000 in
theorem w_arrives_40 {M : zM} {D : va_G} {cy : Nat → ClassId} {ad : Nat → Nat} {r' : zI × zL} (X : RX M (zR D cy ad) cX11_arrives 7 RX11 1 25) (Z : RZv M (zR D cy ad) r'.1 r'.2) (x1 : Int32) (x2 : Int32) (x3 : Int32) (x5 : Int32) (s1 : Int32) (s2 : Int32) (s3 : Int32) (s4 : Int32) (V : zI) (L : zL) (ls : Array Slot) (hl : lv_has ls 7 [(0, .ref (ad 0)), (1, .int x1), (2, .int x2), (3, .int x3), (5, .int x5)]) (hf : f_arrives_40 x1 x2 x3 x5 s1 s2 s3 s4 V L = some r') : RG M (zR D cy ad) V L 40 ls [.int s4, .int s3, .int s2, .int s1, .ref (ad 0)] := by
  unfold f_arrives_40 at hf
  obtain ⟨r1, hc1, hf⟩ := z_bind hf
  refine m_callVv [.int s1, .int s2, .int s3, .int s4] X hl.1 (c_writesDown D cy ad hc1) gm_writesDown pd_writesDown rfl ⟨by decide, by decide⟩ (Nat.le_of_ble_eq_true rfl) rfl dX11_arrives_40 ?_
  refine z_iload X dX11_arrives_43 (lv_at hl 4 rfl) ?_
  refine z_if_eq (tgt := 59) X dX11_arrives_45 (by decide) (fun c_ => ?_) (fun c_ => ?_)
  · have hf := (if_pos c_).symm.trans hf
    refine z_aload_n X dX11_arrives_59 rfl (lv_at hl 0 rfl) ?_
    refine z_dup X dX11_arrives_60 rfl ?_
    refine m_geti X ff_52 dX11_arrives_61 ?_
    refine z_iconst (v := 1) X dX11_arrives_64 (by decide) ?_
    refine z_iadd X dX11_arrives_65 ?_
    refine m_puti X fp_52 dX11_arrives_66 ?_
    refine z_aload_n X dX11_arrives_69 rfl (lv_at hl 0 rfl) ?_
    refine z_dup X dX11_arrives_70 rfl ?_
    refine m_getl X ff_54 dX11_arrives_71 ?_
    refine z_lconst (v := 1) X dX11_arrives_74 (by decide) ?_
    refine z_bipush (v := 6) X dX11_arrives_75 (by decide) ?_
    refine z_iload_n X dX11_arrives_77 rfl (lv_at hl 2 rfl) ?_
    refine z_imul X dX11_arrives_78 ?_
    refine z_iload_n X dX11_arrives_79 rfl (lv_at hl 3 rfl) ?_
    refine z_iadd X dX11_arrives_80 ?_
    refine z_lshl X dX11_arrives_81 ?_
    refine z_lor X dX11_arrives_82 ?_
    refine m_putl X fp_54 dX11_arrives_83 ?_
    refine z_aload_n X dX11_arrives_86 rfl (lv_at hl 0 rfl) ?_
    refine z_iload_n X dX11_arrives_87 rfl (lv_at hl 1 rfl) ?_
    refine z_iload_n X dX11_arrives_88 rfl (lv_at hl 3 rfl) ?_
    refine z_iload_n X dX11_arrives_89 rfl (lv_at hl 2 rfl) ?_
    obtain ⟨r2, hc2, hf⟩ := z_bind hf
    refine m_callVi [.int x1, .int x3, .int x2] X hl.1 (c_at D cy ad hc2) gm_at pd_at rfl ⟨by decide, by decide⟩ (Nat.le_of_ble_eq_true rfl) rfl dX11_arrives_90 ?_
    refine z_istore (lv' := [(6, .int r2.1), (0, .ref (ad 0)), (1, .int x1), (2, .int x2), (3, .int x3), (5, .int x5)]) X dX11_arrives_93 hl (by decide) rfl (fun ls hl => ?_)
    refine z_aload_n X dX11_arrives_95 rfl (lv_at hl 1 rfl) ?_
    refine m_geta X ff_40 dX11_arrives_96 ?_
    refine z_iload X dX11_arrives_99 (lv_at hl 0 rfl) ?_
    refine z_aload_n X dX11_arrives_101 rfl (lv_at hl 1 rfl) ?_
    refine z_aload_n X dX11_arrives_102 rfl (lv_at hl 1 rfl) ?_
    refine m_geta X ff_40 dX11_arrives_103 ?_
    refine z_iload X dX11_arrives_106 (lv_at hl 0 rfl) ?_
    obtain ⟨hb3, hf⟩ := z_ite hf
    refine m_iald X pa_21 hb3 dX11_arrives_108 ?_
    refine z_aload_n X dX11_arrives_109 rfl (lv_at hl 1 rfl) ?_
    refine z_iconst (v := 0) X dX11_arrives_110 (by decide) ?_
    obtain ⟨r4, hc4, hf⟩ := z_bind hf
    refine m_callVi [.int 0] X hl.1 (c_toldOf D cy ad hc4) gm_toldOf pd_toldOf rfl ⟨by decide, by decide⟩ (Nat.le_of_ble_eq_true rfl) rfl dX11_arrives_111 ?_
    refine z_iadd X dX11_arrives_114 ?_
    obtain ⟨r5, hc5, hf⟩ := z_bind hf
    refine m_callVi [.int ((r2.2.1 21 r2.1.toNatClampNeg) + r4.1)] X hl.1 (c_upTo D cy ad hc5) gm_upTo pd_upTo rfl ⟨by decide, by decide⟩ (Nat.le_of_ble_eq_true rfl) rfl dX11_arrives_115 ?_
    obtain ⟨hb6, hf⟩ := z_ite hf
    refine m_iast X pa_21 hb6 dX11_arrives_118 ?_
    refine z_aload_n X dX11_arrives_119 rfl (lv_at hl 1 rfl) ?_
    refine m_geta X ff_42 dX11_arrives_120 ?_
    refine z_iload X dX11_arrives_123 (lv_at hl 0 rfl) ?_
    refine z_aload_n X dX11_arrives_125 rfl (lv_at hl 1 rfl) ?_
    refine z_aload_n X dX11_arrives_126 rfl (lv_at hl 1 rfl) ?_
    refine m_geta X ff_42 dX11_arrives_127 ?_
    refine z_iload X dX11_arrives_130 (lv_at hl 0 rfl) ?_
    obtain ⟨hb7, hf⟩ := z_ite hf
    refine m_iald X pa_23 hb7 dX11_arrives_132 ?_
    refine z_iconst (v := 1) X dX11_arrives_133 (by decide) ?_
    refine z_iadd X dX11_arrives_134 ?_
    obtain ⟨r8, hc8, hf⟩ := z_bind hf
    refine m_callVi [.int (((z_uI r5.2.1 21 r2.1.toNatClampNeg r5.1) 23 r2.1.toNatClampNeg) + 1)] X hl.1 (c_upTo D cy ad hc8) gm_upTo pd_upTo rfl ⟨by decide, by decide⟩ (Nat.le_of_ble_eq_true rfl) rfl dX11_arrives_135 ?_
    obtain ⟨hb9, hf⟩ := z_ite hf
    refine m_iast X pa_23 hb9 dX11_arrives_138 ?_
    exact m_vret X Z hf dX11_arrives_139
  · have hf := (if_neg c_).symm.trans hf
    refine z_aload_n X dX11_arrives_48 rfl (lv_at hl 0 rfl) ?_
    refine z_dup X dX11_arrives_49 rfl ?_
    refine m_geti X ff_53 dX11_arrives_50 ?_
    refine z_iconst (v := 1) X dX11_arrives_53 (by decide) ?_
    refine z_iadd X dX11_arrives_54 ?_
    refine m_puti X fp_53 dX11_arrives_55 ?_
    exact m_vret X Z hf dX11_arrives_58

set_option maxHeartbeats 4000000 in
set_option maxRecDepth 100000 in
theorem w_arrives_24 {M : zM} {D : va_G} {cy : Nat → ClassId} {ad : Nat → Nat} {r' : zI × zL} (X : RX M (zR D cy ad) cX11_arrives 7 RX11 1 25) (Z : RZv M (zR D cy ad) r'.1 r'.2) (x1 : Int32) (x2 : Int32) (x3 : Int32) (s0 : Int32) (V : zI) (L : zL) (ls : Array Slot) (hl : lv_has ls 7 [(0, .ref (ad 0)), (1, .int x1), (2, .int x2), (3, .int x3)]) (hf : f_arrives_24 x1 x2 x3 s0 V L = some r') : RG M (zR D cy ad) V L 24 ls [.int s0] := by
  unfold f_arrives_24 at hf
  refine z_istore (lv' := [(5, .int s0), (0, .ref (ad 0)), (1, .int x1), (2, .int x2), (3, .int x3)]) X dX11_arrives_24 hl (by decide) rfl (fun ls hl => ?_)
  refine z_aload_n X dX11_arrives_26 rfl (lv_at hl 1 rfl) ?_
  refine z_iload_n X dX11_arrives_27 rfl (lv_at hl 2 rfl) ?_
  refine z_iload_n X dX11_arrives_28 rfl (lv_at hl 3 rfl) ?_
  refine z_iload_n X dX11_arrives_29 rfl (lv_at hl 4 rfl) ?_
  refine z_iload X dX11_arrives_30 (lv_at hl 0 rfl) ?_
  refine z_if_eq (tgt := 39) X dX11_arrives_32 (by decide) (fun c_ => ?_) (fun c_ => ?_)
  · have hf := (if_pos c_).symm.trans hf
    refine z_iconst (v := 0) X dX11_arrives_39 (by decide) ?_
    exact w_arrives_40 X Z x1 x2 x3 s0 x1 x2 x3 0 V L ls (lv_sub hl [1, 2, 3, 4, 0] rfl) hf
  · have hf := (if_neg c_).symm.trans hf
    refine z_iconst (v := 1) X dX11_arrives_35 (by decide) ?_
    refine z_goto (tgt := 40) X dX11_arrives_36 (by decide) ?_
    exact w_arrives_40 X Z x1 x2 x3 s0 x1 x2 x3 1 V L ls (lv_sub hl [1, 2, 3, 4, 0] rfl) hf

set_option maxHeartbeats 4000000 in
set_option maxRecDepth 100000 in
theorem w_arrives_23 {M : zM} {D : va_G} {cy : Nat → ClassId} {ad : Nat → Nat} {r' : zI × zL} (X : RX M (zR D cy ad) cX11_arrives 7 RX11 1 25) (Z : RZv M (zR D cy ad) r'.1 r'.2) (x1 : Int32) (x2 : Int32) (x3 : Int32) (V : zI) (L : zL) (ls : Array Slot) (hl : lv_has ls 7 [(0, .ref (ad 0)), (1, .int x1), (2, .int x2), (3, .int x3)]) (hf : f_arrives_23 x1 x2 x3 V L = some r') : RG M (zR D cy ad) V L 23 ls [] := by
  unfold f_arrives_23 at hf
  refine z_iconst (v := 0) X dX11_arrives_23 (by decide) ?_
  exact w_arrives_24 X Z x1 x2 x3 0 V L ls (lv_sub hl [0, 1, 2, 3] rfl) hf

set_option maxHeartbeats 4000000 in
set_option maxRecDepth 100000 in
theorem w_arrives {M : zM} {D : va_G} {cy : Nat → ClassId} {ad : Nat → Nat} {r' : zI × zL} (X : RX M (zR D cy ad) cX11_arrives 7 RX11 1 25) (Z : RZv M (zR D cy ad) r'.1 r'.2) (x1 : Int32) (x2 : Int32) (x3 : Int32) (x4 : Int32) (V : zI) (L : zL) (ls : Array Slot) (hl : lv_has ls 7 [(0, .ref (ad 0)), (1, .int x1), (2, .int x2), (3, .int x3), (4, .int x4)]) (hf : f_arrives x1 x2 x3 x4 V L = some r') : RG M (zR D cy ad) V L 0 ls [] := by
  unfold f_arrives at hf
  refine z_iload X dX11_arrives_0 (lv_at hl 4 rfl) ?_
  refine z_if_eq (tgt := 23) X dX11_arrives_2 (by decide) (fun c_ => ?_) (fun c_ => ?_)
  · have hf := (if_pos c_).symm.trans hf
    exact w_arrives_23 X Z x1 x2 x3 V L ls (lv_sub hl [0, 1, 2, 3] rfl) hf
  · have hf := (if_neg c_).symm.trans hf
    refine z_aload_n X dX11_arrives_5 rfl (lv_at hl 0 rfl) ?_
    refine z_bipush (v := 100) X dX11_arrives_6 (by decide) ?_
    obtain ⟨r1, hc1, hf⟩ := z_bind hf
    refine m_callVi [.int 100] X hl.1 (c_draw D cy ad hc1) gm_draw pd_draw rfl ⟨by decide, by decide⟩ (Nat.le_of_ble_eq_true rfl) rfl dX11_arrives_8 ?_
    refine z_aload_n X dX11_arrives_11 rfl (lv_at hl 0 rfl) ?_
    refine z_iconst (v := 1) X dX11_arrives_12 (by decide) ?_
    obtain ⟨r2, hc2, hf⟩ := z_bind hf
    refine m_callVi [.int 1] X hl.1 (c_toldOf D cy ad hc2) gm_toldOf pd_toldOf rfl ⟨by decide, by decide⟩ (Nat.le_of_ble_eq_true rfl) rfl dX11_arrives_13 ?_
    refine z_icmp_ge (tgt := 23) X dX11_arrives_16 (by decide) (fun c_ => ?_) (fun c_ => ?_)
    · have hf := (if_pos c_).symm.trans hf
      exact w_arrives_23 X Z x1 x2 x3 r2.2.1 r2.2.2 ls (lv_sub hl [0, 1, 2, 3] rfl) hf
    · have hf := (if_neg c_).symm.trans hf
      refine z_iconst (v := 1) X dX11_arrives_19 (by decide) ?_
      refine z_goto (tgt := 24) X dX11_arrives_20 (by decide) ?_
      exact w_arrives_24 X Z x1 x2 x3 1 r2.2.1 r2.2.2 ls (lv_sub hl [0, 1, 2, 3] rfl) hf

theorem c_arrives (D : va_G) (cy : Nat → ClassId) (ad : Nat → Nat) {x1 : Int32} {x2 : Int32} {x3 : Int32} {x4 : Int32} {V : zI} {L : zL} {r' : zI × zL} (hf : f_arrives x1 x2 x3 x4 V L = some r') : RMv (zR D cy ad) yX11_arrives cX11_arrives 7 1 25 [.ref (ad 0), .int x1, .int x2, .int x3, .int x4] V L r'.1 r'.2 :=
  RMv.of (by decide) zR_nd (Nat.le_of_ble_eq_true rfl) (fun M X Z ls hl => w_arrives X Z x1 x2 x3 x4 V L ls hl hf)
def b_passes_105 (k20 : Int32 × Int32 × Int32 × Int32 × zI × zL → Option (zI × zL)) (k105 : Int32 × Int32 × Int32 × Int32 × Int32 × Int32 × Int32 × zI × zL → Option (zI × zL)) : Int32 × Int32 × Int32 × Int32 × Int32 × Int32 × Int32 × zI × zL → Option (zI × zL) := fun ⟨x1, x2, x3, x4, x5, x6, x7, V, L⟩ =>
  (if 3 ≤ x7 then k20 (x1, x2, (x3 + 1), (x4 + 1), V, L) else if inB (x5 + x7) 3960 then if inB (x6 + x7) 3960 then k105 (x1, x2, x3, x4, x5, x6, (x7 + 1), z_uI V 25 (x6 + x7).toNatClampNeg (V 25 (x5 + x7).toNatClampNeg), L) else none else none)
def b_passes_156 (k156 : Int32 × Int32 × zI × zL → Option (zI × zL)) : Int32 × Int32 × zI × zL → Option (zI × zL) := fun ⟨x1, x4, V, L⟩ =>
  if inB (V 0 13) 2 then (if (V 2 (V 0 13).toNatClampNeg) ≤ x4 then if inB x1 22 then if inB x1 22 then some (z_uI V 20 x1.toNatClampNeg ((V 20 x1.toNatClampNeg) + 1), L) else none else none else (f_nextOf x1 x4 V L).bind fun r4 => (if r4.1 = (-1) then k156 (x1, (x4 + 1), r4.2.1, r4.2.2) else (f_at x1 x4 r4.1 r4.2.1 r4.2.2).bind fun r5 => if inB r5.1 792 then if inB r5.1 792 then if inB r5.1 792 then (f_upTo (((z_uI r5.2.1 21 r5.1.toNatClampNeg ((r5.2.1 21 r5.1.toNatClampNeg) - 1)) 22 r5.1.toNatClampNeg) + 1) (z_uI r5.2.1 21 r5.1.toNatClampNeg ((r5.2.1 21 r5.1.toNatClampNeg) - 1)) r5.2.2).bind fun r9 => if inB r5.1 792 then if inB x1 22 then if inB ((3 : Int32) * (((60 : Int32) * x1) + ((z_uI r9.2.1 22 r5.1.toNatClampNeg r9.1) 24 x1.toNatClampNeg))) 3960 then if inB (((3 : Int32) * (((60 : Int32) * x1) + ((z_uI r9.2.1 22 r5.1.toNatClampNeg r9.1) 24 x1.toNatClampNeg))) + 1) 3960 then (f_wayBy x4 r4.1 (z_uI (z_uI (z_uI r9.2.1 22 r5.1.toNatClampNeg r9.1) 25 ((3 : Int32) * (((60 : Int32) * x1) + ((z_uI r9.2.1 22 r5.1.toNatClampNeg r9.1) 24 x1.toNatClampNeg))).toNatClampNeg x4) 25 (((3 : Int32) * (((60 : Int32) * x1) + ((z_uI r9.2.1 22 r5.1.toNatClampNeg r9.1) 24 x1.toNatClampNeg))) + 1).toNatClampNeg r4.1) r9.2.2).bind fun r14 => if inB (((3 : Int32) * (((60 : Int32) * x1) + ((z_uI r9.2.1 22 r5.1.toNatClampNeg r9.1) 24 x1.toNatClampNeg))) + 2) 3960 then if inB x1 22 then if inB x1 22 then k156 (x1, (x4 + 1), z_uI (z_uI r14.2.1 25 (((3 : Int32) * (((60 : Int32) * x1) + ((z_uI r9.2.1 22 r5.1.toNatClampNeg r9.1) 24 x1.toNatClampNeg))) + 2).toNatClampNeg r14.1) 24 x1.toNatClampNeg (((z_uI r14.2.1 25 (((3 : Int32) * (((60 : Int32) * x1) + ((z_uI r9.2.1 22 r5.1.toNatClampNeg r9.1) 24 x1.toNatClampNeg))) + 2).toNatClampNeg r14.1) 24 x1.toNatClampNeg) + 1), r14.2.2) else none else none else none else none else none else none else none else none else none else none)) else none
def b_passes_20 (k20 : Int32 × Int32 × Int32 × Int32 × zI × zL → Option (zI × zL)) : Int32 × Int32 × Int32 × Int32 × zI × zL → Option (zI × zL) := fun ⟨x1, x2, x3, x4, V, L⟩ =>
  if inB x1 22 then (if (V 24 x1.toNatClampNeg) ≤ x4 then if inB x1 22 then zfix (b_passes_156) FU (x1, 0, z_uI V 24 x1.toNatClampNeg x3, L) else none else if inB (((3 : Int32) * (((60 : Int32) * x1) + x4)) + 2) 3960 then if inB (((3 : Int32) * (((60 : Int32) * x1) + x4)) + 2) 3960 then if inB (((3 : Int32) * (((60 : Int32) * x1) + x4)) + 2) 3960 then (if ((z_uI V 25 (((3 : Int32) * (((60 : Int32) * x1) + x4)) + 2).toNatClampNeg ((V 25 (((3 : Int32) * (((60 : Int32) * x1) + x4)) + 2).toNatClampNeg) - 1)) 25 (((3 : Int32) * (((60 : Int32) * x1) + x4)) + 2).toNatClampNeg) = 0 then if inB ((3 : Int32) * (((60 : Int32) * x1) + x4)) 3960 then if inB (((3 : Int32) * (((60 : Int32) * x1) + x4)) + 1) 3960 then (f_arrives x1 ((z_uI V 25 (((3 : Int32) * (((60 : Int32) * x1) + x4)) + 2).toNatClampNeg ((V 25 (((3 : Int32) * (((60 : Int32) * x1) + x4)) + 2).toNatClampNeg) - 1)) 25 ((3 : Int32) * (((60 : Int32) * x1) + x4)).toNatClampNeg) ((z_uI V 25 (((3 : Int32) * (((60 : Int32) * x1) + x4)) + 2).toNatClampNeg ((V 25 (((3 : Int32) * (((60 : Int32) * x1) + x4)) + 2).toNatClampNeg) - 1)) 25 (((3 : Int32) * (((60 : Int32) * x1) + x4)) + 1).toNatClampNeg) x2 (z_uI V 25 (((3 : Int32) * (((60 : Int32) * x1) + x4)) + 2).toNatClampNeg ((V 25 (((3 : Int32) * (((60 : Int32) * x1) + x4)) + 2).toNatClampNeg) - 1)) L).bind fun r8 => k20 (x1, x2, x3, (x4 + 1), r8.1, r8.2) else none else none else zfix (b_passes_105 k20) FU (x1, x2, x3, x4, ((3 : Int32) * (((60 : Int32) * x1) + x4)), ((3 : Int32) * (((60 : Int32) * x1) + x3)), 0, z_uI V 25 (((3 : Int32) * (((60 : Int32) * x1) + x4)) + 2).toNatClampNeg ((V 25 (((3 : Int32) * (((60 : Int32) * x1) + x4)) + 2).toNatClampNeg) - 1), L)) else none else none else none) else none
def f_passes (x1 : Int32) (x2 : Int32) (V : zI) (L : zL) : Option (zI × zL) :=
  zfix (b_passes_20) FU (x1, x2, 0, 0, z_uI (z_uI V 0 52 0) 0 53 0, z_uL L 0 54 0)
set_option maxHeartbeats 4000000 in
set_option maxRecDepth 100000 in
theorem w_passes_105 {M : zM} {D : va_G} {cy : Nat → ClassId} {ad : Nat → Nat} {r' : zI × zL} (X : RX M (zR D cy ad) cX11_passes 8 RX11 5 119) (Z : RZv M (zR D cy ad) r'.1 r'.2) {k20 : Int32 × Int32 × Int32 × Int32 × zI × zL → Option (zI × zL)} (hk20 : ∀ (x1 : Int32) (x2 : Int32) (x3 : Int32) (x4 : Int32) (V : zI) (L : zL) (ls : Array Slot), lv_has ls 8 [(0, .ref (ad 0)), (1, .int x1), (2, .int x2), (3, .int x3), (4, .int x4)] → k20 (x1, x2, x3, x4, V, L) = some r' → RG M (zR D cy ad) V L 20 ls []) (n : Nat) : ∀ (x1 : Int32) (x2 : Int32) (x3 : Int32) (x4 : Int32) (x5 : Int32) (x6 : Int32) (x7 : Int32) (V : zI) (L : zL) (ls : Array Slot) (hl : lv_has ls 8 [(0, .ref (ad 0)), (1, .int x1), (2, .int x2), (3, .int x3), (4, .int x4), (5, .int x5), (6, .int x6), (7, .int x7)]) (hf : zfix (b_passes_105 k20) n (x1, x2, x3, x4, x5, x6, x7, V, L) = some r'), RG M (zR D cy ad) V L 105 ls [] := by
  induction n with
  | zero => intro x1 x2 x3 x4 x5 x6 x7 V L ls hl hf; cases hf
  | succ n ih =>
  intro x1 x2 x3 x4 x5 x6 x7 V L ls hl hf
  have hk105 : ∀ (x1 : Int32) (x2 : Int32) (x3 : Int32) (x4 : Int32) (x5 : Int32) (x6 : Int32) (x7 : Int32) (V : zI) (L : zL) (ls : Array Slot), lv_has ls 8 [(0, .ref (ad 0)), (1, .int x1), (2, .int x2), (3, .int x3), (4, .int x4), (5, .int x5), (6, .int x6), (7, .int x7)] → zfix (b_passes_105 k20) n (x1, x2, x3, x4, x5, x6, x7, V, L) = some r' → RG M (zR D cy ad) V L 105 ls [] := ih
  have hf : b_passes_105 k20 (zfix (b_passes_105 k20) n) (x1, x2, x3, x4, x5, x6, x7, V, L) = some r' := hf
  generalize zfix (b_passes_105 k20) n = k105 at hk105 hf
  unfold b_passes_105 at hf
  clear ih
  refine z_iload X dX11_passes_105 (lv_at hl 7 rfl) ?_
  refine z_iconst (v := 3) X dX11_passes_107 (by decide) ?_
  refine z_icmp_ge (tgt := 137) X dX11_passes_108 (by decide) (fun c_ => ?_) (fun c_ => ?_)
  · have hf := (if_pos c_).symm.trans hf
    refine z_iinc (v := x3 + 1) (k0 := 3) (lv' := [(3, .int (x3 + 1)), (0, .ref (ad 0)), (1, .int x1), (2, .int x2), (4, .int x4), (5, .int x5), (6, .int x6), (7, .int x7)]) X dX11_passes_137 hl rfl rfl (by decide) rfl (fun ls hl => ?_)
    refine z_iinc (v := x4 + 1) (k0 := 4) (lv' := [(4, .int (x4 + 1)), (3, .int (x3 + 1)), (0, .ref (ad 0)), (1, .int x1), (2, .int x2), (5, .int x5), (6, .int x6), (7, .int x7)]) X dX11_passes_140 hl rfl rfl (by decide) rfl (fun ls hl => ?_)
    refine z_goto (tgt := 20) X dX11_passes_143 (by decide) ?_
    exact hk20 x1 x2 (x3 + 1) (x4 + 1) V L ls (lv_sub hl [2, 3, 4, 1, 0] rfl) hf
  · have hf := (if_neg c_).symm.trans hf
    refine z_aload_n X dX11_passes_111 rfl (lv_at hl 0 rfl) ?_
    refine m_geta X ff_44 dX11_passes_112 ?_
    refine z_iload X dX11_passes_115 (lv_at hl 6 rfl) ?_
    refine z_iload X dX11_passes_117 (lv_at hl 7 rfl) ?_
    refine z_iadd X dX11_passes_119 ?_
    refine z_aload_n X dX11_passes_120 rfl (lv_at hl 0 rfl) ?_
    refine m_geta X ff_44 dX11_passes_121 ?_
    refine z_iload X dX11_passes_124 (lv_at hl 5 rfl) ?_
    refine z_iload X dX11_passes_126 (lv_at hl 7 rfl) ?_
    refine z_iadd X dX11_passes_128 ?_
    obtain ⟨hb1, hf⟩ := z_ite hf
    refine m_iald X pa_25 hb1 dX11_passes_129 ?_
    obtain ⟨hb2, hf⟩ := z_ite hf
    refine m_iast X pa_25 hb2 dX11_passes_130 ?_
    refine z_iinc (v := x7 + 1) (k0 := 7) (lv' := [(7, .int (x7 + 1)), (0, .ref (ad 0)), (1, .int x1), (2, .int x2), (3, .int x3), (4, .int x4), (5, .int x5), (6, .int x6)]) X dX11_passes_131 hl rfl rfl (by decide) rfl (fun ls hl => ?_)
    refine z_goto (tgt := 105) X dX11_passes_134 (by decide) ?_
    exact hk105 x1 x2 x3 x4 x5 x6 (x7 + 1) (z_uI V 25 (x6 + x7).toNatClampNeg (V 25 (x5 + x7).toNatClampNeg)) L ls (lv_sub hl [1, 2, 3, 4, 5, 6, 7, 0] rfl) hf

set_option maxHeartbeats 4000000 in
set_option maxRecDepth 100000 in
theorem w_passes_156 {M : zM} {D : va_G} {cy : Nat → ClassId} {ad : Nat → Nat} {r' : zI × zL} (X : RX M (zR D cy ad) cX11_passes 8 RX11 5 119) (Z : RZv M (zR D cy ad) r'.1 r'.2) (n : Nat) : ∀ (x1 : Int32) (x4 : Int32) (V : zI) (L : zL) (ls : Array Slot) (hl : lv_has ls 8 [(0, .ref (ad 0)), (1, .int x1), (4, .int x4)]) (hf : zfix (b_passes_156) n (x1, x4, V, L) = some r'), RG M (zR D cy ad) V L 156 ls [] := by
  induction n with
  | zero => intro x1 x4 V L ls hl hf; cases hf
  | succ n ih =>
  intro x1 x4 V L ls hl hf
  have hk156 : ∀ (x1 : Int32) (x4 : Int32) (V : zI) (L : zL) (ls : Array Slot), lv_has ls 8 [(0, .ref (ad 0)), (1, .int x1), (4, .int x4)] → zfix (b_passes_156) n (x1, x4, V, L) = some r' → RG M (zR D cy ad) V L 156 ls [] := ih
  have hf : b_passes_156 (zfix (b_passes_156) n) (x1, x4, V, L) = some r' := hf
  generalize zfix (b_passes_156) n = k156 at hk156 hf
  unfold b_passes_156 at hf
  clear ih
  refine z_iload X dX11_passes_156 (lv_at hl 2 rfl) ?_
  refine z_aload_n X dX11_passes_158 rfl (lv_at hl 0 rfl) ?_
  refine m_geta X ff_14 dX11_passes_159 ?_
  refine z_aload_n X dX11_passes_162 rfl (lv_at hl 0 rfl) ?_
  refine m_geti X ff_13 dX11_passes_163 ?_
  obtain ⟨hb1, hf⟩ := z_ite hf
  refine m_iald X pa_2 hb1 dX11_passes_166 ?_
  refine z_icmp_ge (tgt := 298) X dX11_passes_167 (by decide) (fun c_ => ?_) (fun c_ => ?_)
  · have hf := (if_pos c_).symm.trans hf
    refine z_aload_n X dX11_passes_298 rfl (lv_at hl 0 rfl) ?_
    refine m_geta X ff_39 dX11_passes_299 ?_
    refine z_iload_n X dX11_passes_302 rfl (lv_at hl 1 rfl) ?_
    refine z_dup2 X dX11_passes_303 rfl rfl ?_
    obtain ⟨hb2, hf⟩ := z_ite hf
    refine m_iald X pa_20 hb2 dX11_passes_304 ?_
    refine z_iconst (v := 1) X dX11_passes_305 (by decide) ?_
    refine z_iadd X dX11_passes_306 ?_
    obtain ⟨hb3, hf⟩ := z_ite hf
    refine m_iast X pa_20 hb3 dX11_passes_307 ?_
    exact m_vret X Z hf dX11_passes_308
  · have hf := (if_neg c_).symm.trans hf
    refine z_aload_n X dX11_passes_170 rfl (lv_at hl 0 rfl) ?_
    refine z_iload_n X dX11_passes_171 rfl (lv_at hl 1 rfl) ?_
    refine z_iload X dX11_passes_172 (lv_at hl 2 rfl) ?_
    obtain ⟨r4, hc4, hf⟩ := z_bind hf
    refine m_callVi [.int x1, .int x4] X hl.1 (c_nextOf D cy ad hc4) gm_nextOf pd_nextOf rfl ⟨by decide, by decide⟩ (Nat.le_of_ble_eq_true rfl) rfl dX11_passes_174 ?_
    refine z_istore (lv' := [(5, .int r4.1), (0, .ref (ad 0)), (1, .int x1), (4, .int x4)]) X dX11_passes_177 hl (by decide) rfl (fun ls hl => ?_)
    refine z_iload X dX11_passes_179 (lv_at hl 0 rfl) ?_
    refine z_iconst (v := -1) X dX11_passes_181 (by decide) ?_
    refine z_icmp_ne (tgt := 188) X dX11_passes_182 (by decide) (fun c_ => ?_) (fun c_ => ?_)
    · have hf := (if_neg c_).symm.trans hf
      refine z_aload_n X dX11_passes_188 rfl (lv_at hl 1 rfl) ?_
      refine z_iload_n X dX11_passes_189 rfl (lv_at hl 2 rfl) ?_
      refine z_iload X dX11_passes_190 (lv_at hl 3 rfl) ?_
      refine z_iload X dX11_passes_192 (lv_at hl 0 rfl) ?_
      obtain ⟨r5, hc5, hf⟩ := z_bind hf
      refine m_callVi [.int x1, .int x4, .int r4.1] X hl.1 (c_at D cy ad hc5) gm_at pd_at rfl ⟨by decide, by decide⟩ (Nat.le_of_ble_eq_true rfl) rfl dX11_passes_194 ?_
      refine z_istore (lv' := [(6, .int r5.1), (5, .int r4.1), (0, .ref (ad 0)), (1, .int x1), (4, .int x4)]) X dX11_passes_197 hl (by decide) rfl (fun ls hl => ?_)
      refine z_aload_n X dX11_passes_199 rfl (lv_at hl 2 rfl) ?_
      refine m_geta X ff_40 dX11_passes_200 ?_
      refine z_iload X dX11_passes_203 (lv_at hl 0 rfl) ?_
      refine z_dup2 X dX11_passes_205 rfl rfl ?_
      obtain ⟨hb6, hf⟩ := z_ite hf
      refine m_iald X pa_21 hb6 dX11_passes_206 ?_
      refine z_iconst (v := 1) X dX11_passes_207 (by decide) ?_
      refine z_isub X dX11_passes_208 ?_
      obtain ⟨hb7, hf⟩ := z_ite hf
      refine m_iast X pa_21 hb7 dX11_passes_209 ?_
      refine z_aload_n X dX11_passes_210 rfl (lv_at hl 2 rfl) ?_
      refine m_geta X ff_41 dX11_passes_211 ?_
      refine z_iload X dX11_passes_214 (lv_at hl 0 rfl) ?_
      refine z_aload_n X dX11_passes_216 rfl (lv_at hl 2 rfl) ?_
      refine z_aload_n X dX11_passes_217 rfl (lv_at hl 2 rfl) ?_
      refine m_geta X ff_41 dX11_passes_218 ?_
      refine z_iload X dX11_passes_221 (lv_at hl 0 rfl) ?_
      obtain ⟨hb8, hf⟩ := z_ite hf
      refine m_iald X pa_22 hb8 dX11_passes_223 ?_
      refine z_iconst (v := 1) X dX11_passes_224 (by decide) ?_
      refine z_iadd X dX11_passes_225 ?_
      obtain ⟨r9, hc9, hf⟩ := z_bind hf
      refine m_callVi [.int (((z_uI r5.2.1 21 r5.1.toNatClampNeg ((r5.2.1 21 r5.1.toNatClampNeg) - 1)) 22 r5.1.toNatClampNeg) + 1)] X hl.1 (c_upTo D cy ad hc9) gm_upTo pd_upTo rfl ⟨by decide, by decide⟩ (Nat.le_of_ble_eq_true rfl) rfl dX11_passes_226 ?_
      obtain ⟨hb10, hf⟩ := z_ite hf
      refine m_iast X pa_22 hb10 dX11_passes_229 ?_
      refine z_iconst (v := 3) X dX11_passes_230 (by decide) ?_
      refine z_bipush (v := 60) X dX11_passes_231 (by decide) ?_
      refine z_iload_n X dX11_passes_233 rfl (lv_at hl 3 rfl) ?_
      refine z_imul X dX11_passes_234 ?_
      refine z_aload_n X dX11_passes_235 rfl (lv_at hl 2 rfl) ?_
      refine m_geta X ff_43 dX11_passes_236 ?_
      refine z_iload_n X dX11_passes_239 rfl (lv_at hl 3 rfl) ?_
      obtain ⟨hb11, hf⟩ := z_ite hf
      refine m_iald X pa_24 hb11 dX11_passes_240 ?_
      refine z_iadd X dX11_passes_241 ?_
      refine z_imul X dX11_passes_242 ?_
      refine z_istore (lv' := [(7, .int ((3 : Int32) * (((60 : Int32) * x1) + ((z_uI r9.2.1 22 r5.1.toNatClampNeg r9.1) 24 x1.toNatClampNeg)))), (6, .int r5.1), (5, .int r4.1), (0, .ref (ad 0)), (1, .int x1), (4, .int x4)]) X dX11_passes_243 hl (by decide) rfl (fun ls hl => ?_)
      refine z_aload_n X dX11_passes_245 rfl (lv_at hl 3 rfl) ?_
      refine m_geta X ff_44 dX11_passes_246 ?_
      refine z_iload X dX11_passes_249 (lv_at hl 0 rfl) ?_
      refine z_iload X dX11_passes_251 (lv_at hl 5 rfl) ?_
      obtain ⟨hb12, hf⟩ := z_ite hf
      refine m_iast X pa_25 hb12 dX11_passes_253 ?_
      refine z_aload_n X dX11_passes_254 rfl (lv_at hl 3 rfl) ?_
      refine m_geta X ff_44 dX11_passes_255 ?_
      refine z_iload X dX11_passes_258 (lv_at hl 0 rfl) ?_
      refine z_iconst (v := 1) X dX11_passes_260 (by decide) ?_
      refine z_iadd X dX11_passes_261 ?_
      refine z_iload X dX11_passes_262 (lv_at hl 2 rfl) ?_
      obtain ⟨hb13, hf⟩ := z_ite hf
      refine m_iast X pa_25 hb13 dX11_passes_264 ?_
      refine z_aload_n X dX11_passes_265 rfl (lv_at hl 3 rfl) ?_
      refine m_geta X ff_44 dX11_passes_266 ?_
      refine z_iload X dX11_passes_269 (lv_at hl 0 rfl) ?_
      refine z_iconst (v := 2) X dX11_passes_271 (by decide) ?_
      refine z_iadd X dX11_passes_272 ?_
      refine z_aload_n X dX11_passes_273 rfl (lv_at hl 3 rfl) ?_
      refine z_iload X dX11_passes_274 (lv_at hl 5 rfl) ?_
      refine z_iload X dX11_passes_276 (lv_at hl 2 rfl) ?_
      obtain ⟨r14, hc14, hf⟩ := z_bind hf
      refine m_callVi [.int x4, .int r4.1] X hl.1 (c_wayBy D cy ad hc14) gm_wayBy pd_wayBy rfl ⟨by decide, by decide⟩ (Nat.le_of_ble_eq_true rfl) rfl dX11_passes_278 ?_
      obtain ⟨hb15, hf⟩ := z_ite hf
      refine m_iast X pa_25 hb15 dX11_passes_281 ?_
      refine z_aload_n X dX11_passes_282 rfl (lv_at hl 3 rfl) ?_
      refine m_geta X ff_43 dX11_passes_283 ?_
      refine z_iload_n X dX11_passes_286 rfl (lv_at hl 4 rfl) ?_
      refine z_dup2 X dX11_passes_287 rfl rfl ?_
      obtain ⟨hb16, hf⟩ := z_ite hf
      refine m_iald X pa_24 hb16 dX11_passes_288 ?_
      refine z_iconst (v := 1) X dX11_passes_289 (by decide) ?_
      refine z_iadd X dX11_passes_290 ?_
      obtain ⟨hb17, hf⟩ := z_ite hf
      refine m_iast X pa_24 hb17 dX11_passes_291 ?_
      refine z_iinc (v := x4 + 1) (k0 := 5) (lv' := [(4, .int (x4 + 1)), (7, .int ((3 : Int32) * (((60 : Int32) * x1) + ((z_uI r9.2.1 22 r5.1.toNatClampNeg r9.1) 24 x1.toNatClampNeg)))), (6, .int r5.1), (5, .int r4.1), (0, .ref (ad 0)), (1, .int x1)]) X dX11_passes_292 hl rfl rfl (by decide) rfl (fun ls hl => ?_)
      refine z_goto (tgt := 156) X dX11_passes_295 (by decide) ?_
      exact hk156 x1 (x4 + 1) (z_uI (z_uI r14.2.1 25 (((3 : Int32) * (((60 : Int32) * x1) + ((z_uI r9.2.1 22 r5.1.toNatClampNeg r9.1) 24 x1.toNatClampNeg))) + 2).toNatClampNeg r14.1) 24 x1.toNatClampNeg (((z_uI r14.2.1 25 (((3 : Int32) * (((60 : Int32) * x1) + ((z_uI r9.2.1 22 r5.1.toNatClampNeg r9.1) 24 x1.toNatClampNeg))) + 2).toNatClampNeg r14.1) 24 x1.toNatClampNeg) + 1)) r14.2.2 ls (lv_sub hl [4, 5, 0] rfl) hf
    · have hf := (if_pos c_).symm.trans hf
      refine z_goto (tgt := 292) X dX11_passes_185 (by decide) ?_
      refine z_iinc (v := x4 + 1) (k0 := 3) (lv' := [(4, .int (x4 + 1)), (5, .int r4.1), (0, .ref (ad 0)), (1, .int x1)]) X dX11_passes_292 hl rfl rfl (by decide) rfl (fun ls hl => ?_)
      refine z_goto (tgt := 156) X dX11_passes_295 (by decide) ?_
      exact hk156 x1 (x4 + 1) r4.2.1 r4.2.2 ls (lv_sub hl [2, 3, 0] rfl) hf

set_option maxHeartbeats 4000000 in
set_option maxRecDepth 100000 in
theorem w_passes_20 {M : zM} {D : va_G} {cy : Nat → ClassId} {ad : Nat → Nat} {r' : zI × zL} (X : RX M (zR D cy ad) cX11_passes 8 RX11 5 119) (Z : RZv M (zR D cy ad) r'.1 r'.2) (n : Nat) : ∀ (x1 : Int32) (x2 : Int32) (x3 : Int32) (x4 : Int32) (V : zI) (L : zL) (ls : Array Slot) (hl : lv_has ls 8 [(0, .ref (ad 0)), (1, .int x1), (2, .int x2), (3, .int x3), (4, .int x4)]) (hf : zfix (b_passes_20) n (x1, x2, x3, x4, V, L) = some r'), RG M (zR D cy ad) V L 20 ls [] := by
  induction n with
  | zero => intro x1 x2 x3 x4 V L ls hl hf; cases hf
  | succ n ih =>
  intro x1 x2 x3 x4 V L ls hl hf
  have hk20 : ∀ (x1 : Int32) (x2 : Int32) (x3 : Int32) (x4 : Int32) (V : zI) (L : zL) (ls : Array Slot), lv_has ls 8 [(0, .ref (ad 0)), (1, .int x1), (2, .int x2), (3, .int x3), (4, .int x4)] → zfix (b_passes_20) n (x1, x2, x3, x4, V, L) = some r' → RG M (zR D cy ad) V L 20 ls [] := ih
  have hf : b_passes_20 (zfix (b_passes_20) n) (x1, x2, x3, x4, V, L) = some r' := hf
  generalize zfix (b_passes_20) n = k20 at hk20 hf
  unfold b_passes_20 at hf
  clear ih
  refine z_iload X dX11_passes_20 (lv_at hl 4 rfl) ?_
  refine z_aload_n X dX11_passes_22 rfl (lv_at hl 0 rfl) ?_
  refine m_geta X ff_43 dX11_passes_23 ?_
  refine z_iload_n X dX11_passes_26 rfl (lv_at hl 1 rfl) ?_
  obtain ⟨hb1, hf⟩ := z_ite hf
  refine m_iald X pa_24 hb1 dX11_passes_27 ?_
  refine z_icmp_ge (tgt := 146) X dX11_passes_28 (by decide) (fun c_ => ?_) (fun c_ => ?_)
  · have hf := (if_pos c_).symm.trans hf
    refine z_aload_n X dX11_passes_146 rfl (lv_at hl 0 rfl) ?_
    refine m_geta X ff_43 dX11_passes_147 ?_
    refine z_iload_n X dX11_passes_150 rfl (lv_at hl 1 rfl) ?_
    refine z_iload_n X dX11_passes_151 rfl (lv_at hl 3 rfl) ?_
    obtain ⟨hb2, hf⟩ := z_ite hf
    refine m_iast X pa_24 hb2 dX11_passes_152 ?_
    refine z_iconst (v := 0) X dX11_passes_153 (by decide) ?_
    refine z_istore (lv' := [(4, .int 0), (0, .ref (ad 0)), (1, .int x1), (2, .int x2), (3, .int x3)]) X dX11_passes_154 hl (by decide) rfl (fun ls hl => ?_)
    exact w_passes_156 X Z FU x1 0 (z_uI V 24 x1.toNatClampNeg x3) L ls (lv_sub hl [1, 2, 0] rfl) hf
  · have hf := (if_neg c_).symm.trans hf
    refine z_iconst (v := 3) X dX11_passes_31 (by decide) ?_
    refine z_bipush (v := 60) X dX11_passes_32 (by decide) ?_
    refine z_iload_n X dX11_passes_34 rfl (lv_at hl 1 rfl) ?_
    refine z_imul X dX11_passes_35 ?_
    refine z_iload X dX11_passes_36 (lv_at hl 4 rfl) ?_
    refine z_iadd X dX11_passes_38 ?_
    refine z_imul X dX11_passes_39 ?_
    refine z_istore (lv' := [(5, .int ((3 : Int32) * (((60 : Int32) * x1) + x4))), (0, .ref (ad 0)), (1, .int x1), (2, .int x2), (3, .int x3), (4, .int x4)]) X dX11_passes_40 hl (by decide) rfl (fun ls hl => ?_)
    refine z_iconst (v := 3) X dX11_passes_42 (by decide) ?_
    refine z_bipush (v := 60) X dX11_passes_43 (by decide) ?_
    refine z_iload_n X dX11_passes_45 rfl (lv_at hl 2 rfl) ?_
    refine z_imul X dX11_passes_46 ?_
    refine z_iload_n X dX11_passes_47 rfl (lv_at hl 4 rfl) ?_
    refine z_iadd X dX11_passes_48 ?_
    refine z_imul X dX11_passes_49 ?_
    refine z_istore (lv' := [(6, .int ((3 : Int32) * (((60 : Int32) * x1) + x3))), (5, .int ((3 : Int32) * (((60 : Int32) * x1) + x4))), (0, .ref (ad 0)), (1, .int x1), (2, .int x2), (3, .int x3), (4, .int x4)]) X dX11_passes_50 hl (by decide) rfl (fun ls hl => ?_)
    refine z_aload_n X dX11_passes_52 rfl (lv_at hl 2 rfl) ?_
    refine m_geta X ff_44 dX11_passes_53 ?_
    refine z_iload X dX11_passes_56 (lv_at hl 1 rfl) ?_
    refine z_iconst (v := 2) X dX11_passes_58 (by decide) ?_
    refine z_iadd X dX11_passes_59 ?_
    refine z_dup2 X dX11_passes_60 rfl rfl ?_
    obtain ⟨hb3, hf⟩ := z_ite hf
    refine m_iald X pa_25 hb3 dX11_passes_61 ?_
    refine z_iconst (v := 1) X dX11_passes_62 (by decide) ?_
    refine z_isub X dX11_passes_63 ?_
    obtain ⟨hb4, hf⟩ := z_ite hf
    refine m_iast X pa_25 hb4 dX11_passes_64 ?_
    refine z_aload_n X dX11_passes_65 rfl (lv_at hl 2 rfl) ?_
    refine m_geta X ff_44 dX11_passes_66 ?_
    refine z_iload X dX11_passes_69 (lv_at hl 1 rfl) ?_
    refine z_iconst (v := 2) X dX11_passes_71 (by decide) ?_
    refine z_iadd X dX11_passes_72 ?_
    obtain ⟨hb5, hf⟩ := z_ite hf
    refine m_iald X pa_25 hb5 dX11_passes_73 ?_
    refine z_if_ne (tgt := 102) X dX11_passes_74 (by decide) (fun c_ => ?_) (fun c_ => ?_)
    · have hf := (if_neg c_).symm.trans hf
      refine z_iconst (v := 0) X dX11_passes_102 (by decide) ?_
      refine z_istore (lv' := [(7, .int 0), (6, .int ((3 : Int32) * (((60 : Int32) * x1) + x3))), (5, .int ((3 : Int32) * (((60 : Int32) * x1) + x4))), (0, .ref (ad 0)), (1, .int x1), (2, .int x2), (3, .int x3), (4, .int x4)]) X dX11_passes_103 hl (by decide) rfl (fun ls hl => ?_)
      exact w_passes_105 X Z hk20 FU x1 x2 x3 x4 ((3 : Int32) * (((60 : Int32) * x1) + x4)) ((3 : Int32) * (((60 : Int32) * x1) + x3)) 0 (z_uI V 25 (((3 : Int32) * (((60 : Int32) * x1) + x4)) + 2).toNatClampNeg ((V 25 (((3 : Int32) * (((60 : Int32) * x1) + x4)) + 2).toNatClampNeg) - 1)) L ls (lv_sub hl [3, 4, 5, 6, 7, 2, 1, 0] rfl) hf
    · have hf := (if_pos c_).symm.trans hf
      refine z_aload_n X dX11_passes_77 rfl (lv_at hl 2 rfl) ?_
      refine z_iload_n X dX11_passes_78 rfl (lv_at hl 3 rfl) ?_
      refine z_aload_n X dX11_passes_79 rfl (lv_at hl 2 rfl) ?_
      refine m_geta X ff_44 dX11_passes_80 ?_
      refine z_iload X dX11_passes_83 (lv_at hl 1 rfl) ?_
      obtain ⟨hb6, hf⟩ := z_ite hf
      refine m_iald X pa_25 hb6 dX11_passes_85 ?_
      refine z_aload_n X dX11_passes_86 rfl (lv_at hl 2 rfl) ?_
      refine m_geta X ff_44 dX11_passes_87 ?_
      refine z_iload X dX11_passes_90 (lv_at hl 1 rfl) ?_
      refine z_iconst (v := 1) X dX11_passes_92 (by decide) ?_
      refine z_iadd X dX11_passes_93 ?_
      obtain ⟨hb7, hf⟩ := z_ite hf
      refine m_iald X pa_25 hb7 dX11_passes_94 ?_
      refine z_iload_n X dX11_passes_95 rfl (lv_at hl 4 rfl) ?_
      obtain ⟨r8, hc8, hf⟩ := z_bind hf
      refine m_callVv [.int x1, .int ((z_uI V 25 (((3 : Int32) * (((60 : Int32) * x1) + x4)) + 2).toNatClampNeg ((V 25 (((3 : Int32) * (((60 : Int32) * x1) + x4)) + 2).toNatClampNeg) - 1)) 25 ((3 : Int32) * (((60 : Int32) * x1) + x4)).toNatClampNeg), .int ((z_uI V 25 (((3 : Int32) * (((60 : Int32) * x1) + x4)) + 2).toNatClampNeg ((V 25 (((3 : Int32) * (((60 : Int32) * x1) + x4)) + 2).toNatClampNeg) - 1)) 25 (((3 : Int32) * (((60 : Int32) * x1) + x4)) + 1).toNatClampNeg), .int x2] X hl.1 (c_arrives D cy ad hc8) gm_arrives pd_arrives rfl ⟨by decide, by decide⟩ (Nat.le_of_ble_eq_true rfl) rfl dX11_passes_96 ?_
      refine z_goto (tgt := 140) X dX11_passes_99 (by decide) ?_
      refine z_iinc (v := x4 + 1) (k0 := 6) (lv' := [(4, .int (x4 + 1)), (6, .int ((3 : Int32) * (((60 : Int32) * x1) + x3))), (5, .int ((3 : Int32) * (((60 : Int32) * x1) + x4))), (0, .ref (ad 0)), (1, .int x1), (2, .int x2), (3, .int x3)]) X dX11_passes_140 hl rfl rfl (by decide) rfl (fun ls hl => ?_)
      refine z_goto (tgt := 20) X dX11_passes_143 (by decide) ?_
      exact hk20 x1 x2 x3 (x4 + 1) r8.1 r8.2 ls (lv_sub hl [3, 4, 5, 6, 0] rfl) hf

set_option maxHeartbeats 4000000 in
set_option maxRecDepth 100000 in
theorem w_passes {M : zM} {D : va_G} {cy : Nat → ClassId} {ad : Nat → Nat} {r' : zI × zL} (X : RX M (zR D cy ad) cX11_passes 8 RX11 5 119) (Z : RZv M (zR D cy ad) r'.1 r'.2) (x1 : Int32) (x2 : Int32) (V : zI) (L : zL) (ls : Array Slot) (hl : lv_has ls 8 [(0, .ref (ad 0)), (1, .int x1), (2, .int x2)]) (hf : f_passes x1 x2 V L = some r') : RG M (zR D cy ad) V L 0 ls [] := by
  unfold f_passes at hf
  refine z_aload_n X dX11_passes_0 rfl (lv_at hl 0 rfl) ?_
  refine z_iconst (v := 0) X dX11_passes_1 (by decide) ?_
  refine m_puti X fp_52 dX11_passes_2 ?_
  refine z_aload_n X dX11_passes_5 rfl (lv_at hl 0 rfl) ?_
  refine z_iconst (v := 0) X dX11_passes_6 (by decide) ?_
  refine m_puti X fp_53 dX11_passes_7 ?_
  refine z_aload_n X dX11_passes_10 rfl (lv_at hl 0 rfl) ?_
  refine z_lconst (v := 0) X dX11_passes_11 (by decide) ?_
  refine m_putl X fp_54 dX11_passes_12 ?_
  refine z_iconst (v := 0) X dX11_passes_15 (by decide) ?_
  refine z_istore_n (lv' := [(3, .int 0), (0, .ref (ad 0)), (1, .int x1), (2, .int x2)]) X dX11_passes_16 rfl hl (by decide) rfl (fun ls hl => ?_)
  refine z_iconst (v := 0) X dX11_passes_17 (by decide) ?_
  refine z_istore (lv' := [(4, .int 0), (3, .int 0), (0, .ref (ad 0)), (1, .int x1), (2, .int x2)]) X dX11_passes_18 hl (by decide) rfl (fun ls hl => ?_)
  exact w_passes_20 X Z FU x1 x2 0 0 (z_uI (z_uI V 0 52 0) 0 53 0) (z_uL L 0 54 0) ls (lv_sub hl [2, 3, 4, 1, 0] rfl) hf

theorem c_passes (D : va_G) (cy : Nat → ClassId) (ad : Nat → Nat) {x1 : Int32} {x2 : Int32} {V : zI} {L : zL} {r' : zI × zL} (hf : f_passes x1 x2 V L = some r') : RMv (zR D cy ad) yX11_passes cX11_passes 8 5 119 [.ref (ad 0), .int x1, .int x2] V L r'.1 r'.2 :=
  RMv.of (by decide) zR_nd (Nat.le_of_ble_eq_true rfl) (fun M X Z ls hl => w_passes X Z x1 x2 V L ls hl hf)
def f_isTown (x1 : Int32) (V : zI) (L : zL) : Option (Int32 × zI × zL) :=
  (if x1 < 0 then some (0, V, L) else if inB (V 0 13) 2 then (if (V 2 (V 0 13).toNatClampNeg) ≤ x1 then some (0, V, L) else some (1, V, L)) else none)
set_option maxHeartbeats 4000000 in
set_option maxRecDepth 100000 in
theorem w_isTown {M : zM} {D : va_G} {cy : Nat → ClassId} {ad : Nat → Nat} {r' : Int32 × zI × zL} (X : RX M (zR D cy ad) cX11_isTown 2 RX11 0 0) (Z : RZi M (zR D cy ad) .boolean r'.1 r'.2.1 r'.2.2) (x1 : Int32) (V : zI) (L : zL) (ls : Array Slot) (hl : lv_has ls 2 [(0, .ref (ad 0)), (1, .int x1)]) (hf : f_isTown x1 V L = some r') : RG M (zR D cy ad) V L 0 ls [] := by
  unfold f_isTown at hf
  refine z_iload_n X dX11_isTown_0 rfl (lv_at hl 1 rfl) ?_
  refine z_if_lt (tgt := 21) X dX11_isTown_1 (by decide) (fun c_ => ?_) (fun c_ => ?_)
  · have hf := (if_pos c_).symm.trans hf
    refine z_iconst (v := 0) X dX11_isTown_21 (by decide) ?_
    exact m_iret X Z hf (by decide) dX11_isTown_22
  · have hf := (if_neg c_).symm.trans hf
    refine z_iload_n X dX11_isTown_4 rfl (lv_at hl 1 rfl) ?_
    refine z_aload_n X dX11_isTown_5 rfl (lv_at hl 0 rfl) ?_
    refine m_geta X ff_14 dX11_isTown_6 ?_
    refine z_aload_n X dX11_isTown_9 rfl (lv_at hl 0 rfl) ?_
    refine m_geti X ff_13 dX11_isTown_10 ?_
    obtain ⟨hb1, hf⟩ := z_ite hf
    refine m_iald X pa_2 hb1 dX11_isTown_13 ?_
    refine z_icmp_ge (tgt := 21) X dX11_isTown_14 (by decide) (fun c_ => ?_) (fun c_ => ?_)
    · have hf := (if_pos c_).symm.trans hf
      refine z_iconst (v := 0) X dX11_isTown_21 (by decide) ?_
      exact m_iret X Z hf (by decide) dX11_isTown_22
    · have hf := (if_neg c_).symm.trans hf
      refine z_iconst (v := 1) X dX11_isTown_17 (by decide) ?_
      refine z_goto (tgt := 22) X dX11_isTown_18 (by decide) ?_
      exact m_iret X Z hf (by decide) dX11_isTown_22

theorem c_isTown (D : va_G) (cy : Nat → ClassId) (ad : Nat → Nat) {x1 : Int32} {V : zI} {L : zL} {r' : Int32 × zI × zL} (hf : f_isTown x1 V L = some r') : RMi (zR D cy ad) yX11_isTown cX11_isTown 2 .boolean 0 0 [.ref (ad 0), .int x1] V L r'.1 r'.2.1 r'.2.2 :=
  RMi.of (by decide) zR_nd (Nat.le_of_ble_eq_true rfl) (fun M X Z ls hl => w_isTown X Z x1 V L ls hl hf)
def f_isPair (x1 : Int32) (x2 : Int32) (V : zI) (L : zL) : Option (Int32 × zI × zL) :=
  (f_isTown x1 V L).bind fun r1 => (if r1.1 = 0 then some (0, r1.2.1, r1.2.2) else (f_isTown x2 r1.2.1 r1.2.2).bind fun r2 => (if r2.1 = 0 then some (0, r2.2.1, r2.2.2) else (if x1 = x2 then some (0, r2.2.1, r2.2.2) else some (1, r2.2.1, r2.2.2))))
set_option maxHeartbeats 4000000 in
set_option maxRecDepth 100000 in
theorem w_isPair {M : zM} {D : va_G} {cy : Nat → ClassId} {ad : Nat → Nat} {r' : Int32 × zI × zL} (X : RX M (zR D cy ad) cX11_isPair 3 RX11 1 21) (Z : RZi M (zR D cy ad) .boolean r'.1 r'.2.1 r'.2.2) (x1 : Int32) (x2 : Int32) (V : zI) (L : zL) (ls : Array Slot) (hl : lv_has ls 3 [(0, .ref (ad 0)), (1, .int x1), (2, .int x2)]) (hf : f_isPair x1 x2 V L = some r') : RG M (zR D cy ad) V L 0 ls [] := by
  unfold f_isPair at hf
  refine z_aload_n X dX11_isPair_0 rfl (lv_at hl 0 rfl) ?_
  refine z_iload_n X dX11_isPair_1 rfl (lv_at hl 1 rfl) ?_
  obtain ⟨r1, hc1, hf⟩ := z_bind hf
  refine m_callVi [.int x1] X hl.1 (c_isTown D cy ad hc1) gm_isTown pd_isTown rfl ⟨by decide, by decide⟩ (Nat.le_of_ble_eq_true rfl) rfl dX11_isPair_2 ?_
  refine z_if_eq (tgt := 25) X dX11_isPair_5 (by decide) (fun c_ => ?_) (fun c_ => ?_)
  · have hf := (if_pos c_).symm.trans hf
    refine z_iconst (v := 0) X dX11_isPair_25 (by decide) ?_
    exact m_iret X Z hf (by decide) dX11_isPair_26
  · have hf := (if_neg c_).symm.trans hf
    refine z_aload_n X dX11_isPair_8 rfl (lv_at hl 0 rfl) ?_
    refine z_iload_n X dX11_isPair_9 rfl (lv_at hl 2 rfl) ?_
    obtain ⟨r2, hc2, hf⟩ := z_bind hf
    refine m_callVi [.int x2] X hl.1 (c_isTown D cy ad hc2) gm_isTown pd_isTown rfl ⟨by decide, by decide⟩ (Nat.le_of_ble_eq_true rfl) rfl dX11_isPair_10 ?_
    refine z_if_eq (tgt := 25) X dX11_isPair_13 (by decide) (fun c_ => ?_) (fun c_ => ?_)
    · have hf := (if_pos c_).symm.trans hf
      refine z_iconst (v := 0) X dX11_isPair_25 (by decide) ?_
      exact m_iret X Z hf (by decide) dX11_isPair_26
    · have hf := (if_neg c_).symm.trans hf
      refine z_iload_n X dX11_isPair_16 rfl (lv_at hl 1 rfl) ?_
      refine z_iload_n X dX11_isPair_17 rfl (lv_at hl 2 rfl) ?_
      refine z_icmp_eq (tgt := 25) X dX11_isPair_18 (by decide) (fun c_ => ?_) (fun c_ => ?_)
      · have hf := (if_pos c_).symm.trans hf
        refine z_iconst (v := 0) X dX11_isPair_25 (by decide) ?_
        exact m_iret X Z hf (by decide) dX11_isPair_26
      · have hf := (if_neg c_).symm.trans hf
        refine z_iconst (v := 1) X dX11_isPair_21 (by decide) ?_
        refine z_goto (tgt := 26) X dX11_isPair_22 (by decide) ?_
        exact m_iret X Z hf (by decide) dX11_isPair_26

theorem c_isPair (D : va_G) (cy : Nat → ClassId) (ad : Nat → Nat) {x1 : Int32} {x2 : Int32} {V : zI} {L : zL} {r' : Int32 × zI × zL} (hf : f_isPair x1 x2 V L = some r') : RMi (zR D cy ad) yX11_isPair cX11_isPair 3 .boolean 1 21 [.ref (ad 0), .int x1, .int x2] V L r'.1 r'.2.1 r'.2.2 :=
  RMi.of (by decide) zR_nd (Nat.le_of_ble_eq_true rfl) (fun M X Z ls hl => w_isPair X Z x1 x2 V L ls hl hf)
def b_has_89 (k89 : Int32 × Int32 × zI × zL → Option (Int32 × zI × zL)) : Int32 × Int32 × zI × zL → Option (Int32 × zI × zL) := fun ⟨x2, x3, V, L⟩ =>
  (if 36 ≤ x3 then some (x2, V, L) else if inB x3 792 then k89 ((x2 + (V 21 x3.toNatClampNeg)), (x3 + 1), V, L) else none)
def b_has_121 (k121 : Int32 × Int32 × zI × zL → Option (Int32 × zI × zL)) : Int32 × Int32 × zI × zL → Option (Int32 × zI × zL) := fun ⟨x2, x3, V, L⟩ =>
  (if 36 ≤ x3 then some (x2, V, L) else if inB x3 792 then k121 ((x2 + (V 22 x3.toNatClampNeg)), (x3 + 1), V, L) else none)
def b_has_146 (k146 : Int32 × Int32 × zI × zL → Option (Int32 × zI × zL)) : Int32 × Int32 × zI × zL → Option (Int32 × zI × zL) := fun ⟨x2, x3, V, L⟩ =>
  (if 36 ≤ x3 then some (x2, V, L) else if inB x3 792 then k146 ((x2 + (V 23 x3.toNatClampNeg)), (x3 + 1), V, L) else none)
def f_has (x1 : Int32) (V : zI) (L : zL) : Option (Int32 × zI × zL) :=
  (if x1 = 0 then if inB (V 0 13) 2 then some (V 2 (V 0 13).toNatClampNeg, V, L) else none else (if x1 = 1 then if inB (V 0 13) 2 then some (V 3 (V 0 13).toNatClampNeg, V, L) else none else (if x1 = 2 then some (V 20 ((0) : Int32).toNatClampNeg, V, L) else (if x1 = 3 then zfix (b_has_89) FU (0, 0, V, L) else (if x1 = 4 then some (V 24 ((0) : Int32).toNatClampNeg, V, L) else (if x1 = 5 then zfix (b_has_121) FU (0, 0, V, L) else (if x1 = 6 then zfix (b_has_146) FU (0, 0, V, L) else (if x1 = 7 then some (V 26 ((0) : Int32).toNatClampNeg, V, L) else (if x1 = 8 then some (V 0 60, V, L) else (if x1 = 9 then some (V 0 48, V, L) else (if x1 = 10 then some ((L 0 49).toInt32, V, L) else some ((-1), V, L))))))))))))
set_option maxHeartbeats 4000000 in
set_option maxRecDepth 100000 in
theorem w_has_89 {M : zM} {D : va_G} {cy : Nat → ClassId} {ad : Nat → Nat} {r' : Int32 × zI × zL} (X : RX M (zR D cy ad) cX11_has 4 RX11 0 0) (Z : RZi M (zR D cy ad) .int r'.1 r'.2.1 r'.2.2) (n : Nat) : ∀ (x2 : Int32) (x3 : Int32) (V : zI) (L : zL) (ls : Array Slot) (hl : lv_has ls 4 [(0, .ref (ad 0)), (2, .int x2), (3, .int x3)]) (hf : zfix (b_has_89) n (x2, x3, V, L) = some r'), RG M (zR D cy ad) V L 89 ls [] := by
  induction n with
  | zero => intro x2 x3 V L ls hl hf; cases hf
  | succ n ih =>
  intro x2 x3 V L ls hl hf
  have hk89 : ∀ (x2 : Int32) (x3 : Int32) (V : zI) (L : zL) (ls : Array Slot), lv_has ls 4 [(0, .ref (ad 0)), (2, .int x2), (3, .int x3)] → zfix (b_has_89) n (x2, x3, V, L) = some r' → RG M (zR D cy ad) V L 89 ls [] := ih
  have hf : b_has_89 (zfix (b_has_89) n) (x2, x3, V, L) = some r' := hf
  generalize zfix (b_has_89) n = k89 at hk89 hf
  unfold b_has_89 at hf
  clear ih
  refine z_iload_n X dX11_has_89 rfl (lv_at hl 2 rfl) ?_
  refine z_bipush (v := 36) X dX11_has_90 (by decide) ?_
  refine z_icmp_ge (tgt := 110) X dX11_has_92 (by decide) (fun c_ => ?_) (fun c_ => ?_)
  · have hf := (if_pos c_).symm.trans hf
    refine z_iload_n X dX11_has_110 rfl (lv_at hl 1 rfl) ?_
    exact m_iret X Z hf rfl dX11_has_111
  · have hf := (if_neg c_).symm.trans hf
    refine z_iload_n X dX11_has_95 rfl (lv_at hl 1 rfl) ?_
    refine z_aload_n X dX11_has_96 rfl (lv_at hl 0 rfl) ?_
    refine m_geta X ff_40 dX11_has_97 ?_
    refine z_iload_n X dX11_has_100 rfl (lv_at hl 2 rfl) ?_
    obtain ⟨hb1, hf⟩ := z_ite hf
    refine m_iald X pa_21 hb1 dX11_has_101 ?_
    refine z_iadd X dX11_has_102 ?_
    refine z_istore_n (lv' := [(2, .int (x2 + (V 21 x3.toNatClampNeg))), (0, .ref (ad 0)), (3, .int x3)]) X dX11_has_103 rfl hl (by decide) rfl (fun ls hl => ?_)
    refine z_iinc (v := x3 + 1) (k0 := 2) (lv' := [(3, .int (x3 + 1)), (2, .int (x2 + (V 21 x3.toNatClampNeg))), (0, .ref (ad 0))]) X dX11_has_104 hl rfl rfl (by decide) rfl (fun ls hl => ?_)
    refine z_goto (tgt := 89) X dX11_has_107 (by decide) ?_
    exact hk89 (x2 + (V 21 x3.toNatClampNeg)) (x3 + 1) V L ls (lv_sub hl [2, 1, 0] rfl) hf

set_option maxHeartbeats 4000000 in
set_option maxRecDepth 100000 in
theorem w_has_121 {M : zM} {D : va_G} {cy : Nat → ClassId} {ad : Nat → Nat} {r' : Int32 × zI × zL} (X : RX M (zR D cy ad) cX11_has 4 RX11 0 0) (Z : RZi M (zR D cy ad) .int r'.1 r'.2.1 r'.2.2) (n : Nat) : ∀ (x2 : Int32) (x3 : Int32) (V : zI) (L : zL) (ls : Array Slot) (hl : lv_has ls 4 [(0, .ref (ad 0)), (2, .int x2), (3, .int x3)]) (hf : zfix (b_has_121) n (x2, x3, V, L) = some r'), RG M (zR D cy ad) V L 121 ls [] := by
  induction n with
  | zero => intro x2 x3 V L ls hl hf; cases hf
  | succ n ih =>
  intro x2 x3 V L ls hl hf
  have hk121 : ∀ (x2 : Int32) (x3 : Int32) (V : zI) (L : zL) (ls : Array Slot), lv_has ls 4 [(0, .ref (ad 0)), (2, .int x2), (3, .int x3)] → zfix (b_has_121) n (x2, x3, V, L) = some r' → RG M (zR D cy ad) V L 121 ls [] := ih
  have hf : b_has_121 (zfix (b_has_121) n) (x2, x3, V, L) = some r' := hf
  generalize zfix (b_has_121) n = k121 at hk121 hf
  unfold b_has_121 at hf
  clear ih
  refine z_iload_n X dX11_has_121 rfl (lv_at hl 2 rfl) ?_
  refine z_bipush (v := 36) X dX11_has_122 (by decide) ?_
  refine z_icmp_ge (tgt := 142) X dX11_has_124 (by decide) (fun c_ => ?_) (fun c_ => ?_)
  · have hf := (if_pos c_).symm.trans hf
    refine z_iload_n X dX11_has_142 rfl (lv_at hl 1 rfl) ?_
    exact m_iret X Z hf rfl dX11_has_143
  · have hf := (if_neg c_).symm.trans hf
    refine z_iload_n X dX11_has_127 rfl (lv_at hl 1 rfl) ?_
    refine z_aload_n X dX11_has_128 rfl (lv_at hl 0 rfl) ?_
    refine m_geta X ff_41 dX11_has_129 ?_
    refine z_iload_n X dX11_has_132 rfl (lv_at hl 2 rfl) ?_
    obtain ⟨hb1, hf⟩ := z_ite hf
    refine m_iald X pa_22 hb1 dX11_has_133 ?_
    refine z_iadd X dX11_has_134 ?_
    refine z_istore_n (lv' := [(2, .int (x2 + (V 22 x3.toNatClampNeg))), (0, .ref (ad 0)), (3, .int x3)]) X dX11_has_135 rfl hl (by decide) rfl (fun ls hl => ?_)
    refine z_iinc (v := x3 + 1) (k0 := 2) (lv' := [(3, .int (x3 + 1)), (2, .int (x2 + (V 22 x3.toNatClampNeg))), (0, .ref (ad 0))]) X dX11_has_136 hl rfl rfl (by decide) rfl (fun ls hl => ?_)
    refine z_goto (tgt := 121) X dX11_has_139 (by decide) ?_
    exact hk121 (x2 + (V 22 x3.toNatClampNeg)) (x3 + 1) V L ls (lv_sub hl [2, 1, 0] rfl) hf

set_option maxHeartbeats 4000000 in
set_option maxRecDepth 100000 in
theorem w_has_146 {M : zM} {D : va_G} {cy : Nat → ClassId} {ad : Nat → Nat} {r' : Int32 × zI × zL} (X : RX M (zR D cy ad) cX11_has 4 RX11 0 0) (Z : RZi M (zR D cy ad) .int r'.1 r'.2.1 r'.2.2) (n : Nat) : ∀ (x2 : Int32) (x3 : Int32) (V : zI) (L : zL) (ls : Array Slot) (hl : lv_has ls 4 [(0, .ref (ad 0)), (2, .int x2), (3, .int x3)]) (hf : zfix (b_has_146) n (x2, x3, V, L) = some r'), RG M (zR D cy ad) V L 146 ls [] := by
  induction n with
  | zero => intro x2 x3 V L ls hl hf; cases hf
  | succ n ih =>
  intro x2 x3 V L ls hl hf
  have hk146 : ∀ (x2 : Int32) (x3 : Int32) (V : zI) (L : zL) (ls : Array Slot), lv_has ls 4 [(0, .ref (ad 0)), (2, .int x2), (3, .int x3)] → zfix (b_has_146) n (x2, x3, V, L) = some r' → RG M (zR D cy ad) V L 146 ls [] := ih
  have hf : b_has_146 (zfix (b_has_146) n) (x2, x3, V, L) = some r' := hf
  generalize zfix (b_has_146) n = k146 at hk146 hf
  unfold b_has_146 at hf
  clear ih
  refine z_iload_n X dX11_has_146 rfl (lv_at hl 2 rfl) ?_
  refine z_bipush (v := 36) X dX11_has_147 (by decide) ?_
  refine z_icmp_ge (tgt := 167) X dX11_has_149 (by decide) (fun c_ => ?_) (fun c_ => ?_)
  · have hf := (if_pos c_).symm.trans hf
    refine z_iload_n X dX11_has_167 rfl (lv_at hl 1 rfl) ?_
    exact m_iret X Z hf rfl dX11_has_168
  · have hf := (if_neg c_).symm.trans hf
    refine z_iload_n X dX11_has_152 rfl (lv_at hl 1 rfl) ?_
    refine z_aload_n X dX11_has_153 rfl (lv_at hl 0 rfl) ?_
    refine m_geta X ff_42 dX11_has_154 ?_
    refine z_iload_n X dX11_has_157 rfl (lv_at hl 2 rfl) ?_
    obtain ⟨hb1, hf⟩ := z_ite hf
    refine m_iald X pa_23 hb1 dX11_has_158 ?_
    refine z_iadd X dX11_has_159 ?_
    refine z_istore_n (lv' := [(2, .int (x2 + (V 23 x3.toNatClampNeg))), (0, .ref (ad 0)), (3, .int x3)]) X dX11_has_160 rfl hl (by decide) rfl (fun ls hl => ?_)
    refine z_iinc (v := x3 + 1) (k0 := 2) (lv' := [(3, .int (x3 + 1)), (2, .int (x2 + (V 23 x3.toNatClampNeg))), (0, .ref (ad 0))]) X dX11_has_161 hl rfl rfl (by decide) rfl (fun ls hl => ?_)
    refine z_goto (tgt := 146) X dX11_has_164 (by decide) ?_
    exact hk146 (x2 + (V 23 x3.toNatClampNeg)) (x3 + 1) V L ls (lv_sub hl [2, 1, 0] rfl) hf

set_option maxHeartbeats 4000000 in
set_option maxRecDepth 100000 in
theorem w_has {M : zM} {D : va_G} {cy : Nat → ClassId} {ad : Nat → Nat} {r' : Int32 × zI × zL} (X : RX M (zR D cy ad) cX11_has 4 RX11 0 0) (Z : RZi M (zR D cy ad) .int r'.1 r'.2.1 r'.2.2) (x1 : Int32) (V : zI) (L : zL) (ls : Array Slot) (hl : lv_has ls 4 [(0, .ref (ad 0)), (1, .int x1)]) (hf : f_has x1 V L = some r') : RG M (zR D cy ad) V L 0 ls [] := by
  unfold f_has at hf
  refine z_iconst (v := 0) X dX11_has_0 (by decide) ?_
  refine z_istore_n (lv' := [(2, .int 0), (0, .ref (ad 0)), (1, .int x1)]) X dX11_has_1 rfl hl (by decide) rfl (fun ls hl => ?_)
  refine z_iload_n X dX11_has_2 rfl (lv_at hl 2 rfl) ?_
  by_cases c0_ : x1 = 0
  · have hf := (if_pos c0_).symm.trans hf
    refine z_tabIn (tgt := 60) (off := 57) X dX11_has_3 (by rw [c0_]; decide) (by rw [c0_]; decide) (by rw [c0_]; rfl) (by decide) ?_
    refine z_aload_n X dX11_has_60 rfl (lv_at hl 1 rfl) ?_
    refine m_geta X ff_14 dX11_has_61 ?_
    refine z_aload_n X dX11_has_64 rfl (lv_at hl 1 rfl) ?_
    refine m_geti X ff_13 dX11_has_65 ?_
    obtain ⟨hb1, hf⟩ := z_ite hf
    refine m_iald X pa_2 hb1 dX11_has_68 ?_
    exact m_iret X Z hf rfl dX11_has_69
  have hf := (if_neg c0_).symm.trans hf
  have d0_ := lv_neT (a := 0) c0_ (by decide)
  by_cases c1_ : x1 = 1
  · have hf := (if_pos c1_).symm.trans hf
    refine z_tabIn (tgt := 70) (off := 67) X dX11_has_3 (by rw [c1_]; decide) (by rw [c1_]; decide) (by rw [c1_]; rfl) (by decide) ?_
    refine z_aload_n X dX11_has_70 rfl (lv_at hl 1 rfl) ?_
    refine m_geta X ff_15 dX11_has_71 ?_
    refine z_aload_n X dX11_has_74 rfl (lv_at hl 1 rfl) ?_
    refine m_geti X ff_13 dX11_has_75 ?_
    obtain ⟨hb2, hf⟩ := z_ite hf
    refine m_iald X pa_3 hb2 dX11_has_78 ?_
    exact m_iret X Z hf rfl dX11_has_79
  have hf := (if_neg c1_).symm.trans hf
  have d1_ := lv_neT (a := 1) c1_ (by decide)
  by_cases c2_ : x1 = 2
  · have hf := (if_pos c2_).symm.trans hf
    refine z_tabIn (tgt := 80) (off := 77) X dX11_has_3 (by rw [c2_]; decide) (by rw [c2_]; decide) (by rw [c2_]; rfl) (by decide) ?_
    refine z_aload_n X dX11_has_80 rfl (lv_at hl 1 rfl) ?_
    refine m_geta X ff_39 dX11_has_81 ?_
    refine z_iconst (v := 0) X dX11_has_84 (by decide) ?_
    refine m_iald X pa_20 (show inB 0 22 by decide) dX11_has_85 ?_
    exact m_iret X Z hf rfl dX11_has_86
  have hf := (if_neg c2_).symm.trans hf
  have d2_ := lv_neT (a := 2) c2_ (by decide)
  by_cases c3_ : x1 = 3
  · have hf := (if_pos c3_).symm.trans hf
    refine z_tabIn (tgt := 87) (off := 84) X dX11_has_3 (by rw [c3_]; decide) (by rw [c3_]; decide) (by rw [c3_]; rfl) (by decide) ?_
    refine z_iconst (v := 0) X dX11_has_87 (by decide) ?_
    refine z_istore_n (lv' := [(3, .int 0), (2, .int 0), (0, .ref (ad 0)), (1, .int x1)]) X dX11_has_88 rfl hl (by decide) rfl (fun ls hl => ?_)
    exact w_has_89 X Z FU 0 0 V L ls (lv_sub hl [2, 1, 0] rfl) hf
  have hf := (if_neg c3_).symm.trans hf
  have d3_ := lv_neT (a := 3) c3_ (by decide)
  by_cases c4_ : x1 = 4
  · have hf := (if_pos c4_).symm.trans hf
    refine z_tabIn (tgt := 112) (off := 109) X dX11_has_3 (by rw [c4_]; decide) (by rw [c4_]; decide) (by rw [c4_]; rfl) (by decide) ?_
    refine z_aload_n X dX11_has_112 rfl (lv_at hl 1 rfl) ?_
    refine m_geta X ff_43 dX11_has_113 ?_
    refine z_iconst (v := 0) X dX11_has_116 (by decide) ?_
    refine m_iald X pa_24 (show inB 0 22 by decide) dX11_has_117 ?_
    exact m_iret X Z hf rfl dX11_has_118
  have hf := (if_neg c4_).symm.trans hf
  have d4_ := lv_neT (a := 4) c4_ (by decide)
  by_cases c5_ : x1 = 5
  · have hf := (if_pos c5_).symm.trans hf
    refine z_tabIn (tgt := 119) (off := 116) X dX11_has_3 (by rw [c5_]; decide) (by rw [c5_]; decide) (by rw [c5_]; rfl) (by decide) ?_
    refine z_iconst (v := 0) X dX11_has_119 (by decide) ?_
    refine z_istore_n (lv' := [(3, .int 0), (2, .int 0), (0, .ref (ad 0)), (1, .int x1)]) X dX11_has_120 rfl hl (by decide) rfl (fun ls hl => ?_)
    exact w_has_121 X Z FU 0 0 V L ls (lv_sub hl [2, 1, 0] rfl) hf
  have hf := (if_neg c5_).symm.trans hf
  have d5_ := lv_neT (a := 5) c5_ (by decide)
  by_cases c6_ : x1 = 6
  · have hf := (if_pos c6_).symm.trans hf
    refine z_tabIn (tgt := 144) (off := 141) X dX11_has_3 (by rw [c6_]; decide) (by rw [c6_]; decide) (by rw [c6_]; rfl) (by decide) ?_
    refine z_iconst (v := 0) X dX11_has_144 (by decide) ?_
    refine z_istore_n (lv' := [(3, .int 0), (2, .int 0), (0, .ref (ad 0)), (1, .int x1)]) X dX11_has_145 rfl hl (by decide) rfl (fun ls hl => ?_)
    exact w_has_146 X Z FU 0 0 V L ls (lv_sub hl [2, 1, 0] rfl) hf
  have hf := (if_neg c6_).symm.trans hf
  have d6_ := lv_neT (a := 6) c6_ (by decide)
  by_cases c7_ : x1 = 7
  · have hf := (if_pos c7_).symm.trans hf
    refine z_tabIn (tgt := 169) (off := 166) X dX11_has_3 (by rw [c7_]; decide) (by rw [c7_]; decide) (by rw [c7_]; rfl) (by decide) ?_
    refine z_aload_n X dX11_has_169 rfl (lv_at hl 1 rfl) ?_
    refine m_geta X ff_45 dX11_has_170 ?_
    refine z_iconst (v := 0) X dX11_has_173 (by decide) ?_
    refine m_iald X pa_26 (show inB 0 22 by decide) dX11_has_174 ?_
    exact m_iret X Z hf rfl dX11_has_175
  have hf := (if_neg c7_).symm.trans hf
  have d7_ := lv_neT (a := 7) c7_ (by decide)
  by_cases c8_ : x1 = 8
  · have hf := (if_pos c8_).symm.trans hf
    refine z_tabIn (tgt := 176) (off := 173) X dX11_has_3 (by rw [c8_]; decide) (by rw [c8_]; decide) (by rw [c8_]; rfl) (by decide) ?_
    refine z_aload_n X dX11_has_176 rfl (lv_at hl 1 rfl) ?_
    refine m_geti X ff_60 dX11_has_177 ?_
    exact m_iret X Z hf rfl dX11_has_180
  have hf := (if_neg c8_).symm.trans hf
  have d8_ := lv_neT (a := 8) c8_ (by decide)
  by_cases c9_ : x1 = 9
  · have hf := (if_pos c9_).symm.trans hf
    refine z_tabIn (tgt := 181) (off := 178) X dX11_has_3 (by rw [c9_]; decide) (by rw [c9_]; decide) (by rw [c9_]; rfl) (by decide) ?_
    refine z_aload_n X dX11_has_181 rfl (lv_at hl 1 rfl) ?_
    refine m_geti X ff_48 dX11_has_182 ?_
    exact m_iret X Z hf rfl dX11_has_185
  have hf := (if_neg c9_).symm.trans hf
  have d9_ := lv_neT (a := 9) c9_ (by decide)
  by_cases c10_ : x1 = 10
  · have hf := (if_pos c10_).symm.trans hf
    refine z_tabIn (tgt := 186) (off := 183) X dX11_has_3 (by rw [c10_]; decide) (by rw [c10_]; decide) (by rw [c10_]; rfl) (by decide) ?_
    refine z_aload_n X dX11_has_186 rfl (lv_at hl 1 rfl) ?_
    refine m_getl X ff_49 dX11_has_187 ?_
    refine z_l2i X dX11_has_190 ?_
    exact m_iret X Z hf rfl dX11_has_191
  have hf := (if_neg c10_).symm.trans hf
  have d10_ := lv_neT (a := 10) c10_ (by decide)
  refine z_tabOut (tgt := 192) X dX11_has_3 (by omega) (by decide) ?_
  refine z_iconst (v := -1) X dX11_has_192 (by decide) ?_
  exact m_iret X Z hf rfl dX11_has_193

theorem c_has (D : va_G) (cy : Nat → ClassId) (ad : Nat → Nat) {x1 : Int32} {V : zI} {L : zL} {r' : Int32 × zI × zL} (hf : f_has x1 V L = some r') : RMi (zR D cy ad) yX11_has cX11_has 4 .int 0 0 [.ref (ad 0), .int x1] V L r'.1 r'.2.1 r'.2.2 :=
  RMi.of (by decide) zR_nd (Nat.le_of_ble_eq_true rfl) (fun M X Z ls hl => w_has X Z x1 V L ls hl hf)
def b_letter_40 (k40 : Int32 × Int64 × Int32 × Int64 × zI × zL → Option (Int32 × zI × zL)) : Int32 × Int64 × Int32 × Int64 × zI × zL → Option (Int32 × zI × zL) := fun ⟨x2, x3, x5, x6, V, L⟩ =>
  (if (lg_cmp x6 0) ≤ 0 then (if x2 < x5 then some (((((x3 >>> (((8 : Int32) * ((x5 - 1) - x2)).toInt64 &&& 63)) &&& 255).toInt32) - 97) + 1, V, L) else some (0, V, L)) else k40 (x2, x3, (x5 + 1), (x6 >>> ((8 : Int32).toInt64 &&& 63)), V, L))
def f_letter (x1 : Int32) (x2 : Int32) (V : zI) (L : zL) : Option (Int32 × zI × zL) :=
  (f_isTown x1 V L).bind fun r1 => (if r1.1 = 0 then some ((-1), r1.2.1, r1.2.2) else (f_is x2 0 5).bind fun r2 => (if r2 = 0 then some ((-1), r1.2.1, r1.2.2) else if inB (((6 : Int32) * (r1.2.1 0 13)) + x1) 12 then zfix (b_letter_40) FU (x2, (r1.2.2 12 (((6 : Int32) * (r1.2.1 0 13)) + x1).toNatClampNeg), 0, (r1.2.2 12 (((6 : Int32) * (r1.2.1 0 13)) + x1).toNatClampNeg), r1.2.1, r1.2.2) else none))
set_option maxHeartbeats 4000000 in
set_option maxRecDepth 100000 in
theorem w_letter_40 {M : zM} {D : va_G} {cy : Nat → ClassId} {ad : Nat → Nat} {r' : Int32 × zI × zL} (X : RX M (zR D cy ad) cX11_letter 8 RX11 1 22) (Z : RZi M (zR D cy ad) .int r'.1 r'.2.1 r'.2.2) (n : Nat) : ∀ (x2 : Int32) (x3 : Int64) (x5 : Int32) (x6 : Int64) (V : zI) (L : zL) (ls : Array Slot) (hl : lv_has ls 8 [(0, .ref (ad 0)), (2, .int x2), (3, .long x3), (5, .int x5), (6, .long x6)]) (hf : zfix (b_letter_40) n (x2, x3, x5, x6, V, L) = some r'), RG M (zR D cy ad) V L 40 ls [] := by
  induction n with
  | zero => intro x2 x3 x5 x6 V L ls hl hf; cases hf
  | succ n ih =>
  intro x2 x3 x5 x6 V L ls hl hf
  have hk40 : ∀ (x2 : Int32) (x3 : Int64) (x5 : Int32) (x6 : Int64) (V : zI) (L : zL) (ls : Array Slot), lv_has ls 8 [(0, .ref (ad 0)), (2, .int x2), (3, .long x3), (5, .int x5), (6, .long x6)] → zfix (b_letter_40) n (x2, x3, x5, x6, V, L) = some r' → RG M (zR D cy ad) V L 40 ls [] := ih
  have hf : b_letter_40 (zfix (b_letter_40) n) (x2, x3, x5, x6, V, L) = some r' := hf
  generalize zfix (b_letter_40) n = k40 at hk40 hf
  unfold b_letter_40 at hf
  clear ih
  refine z_lload X dX11_letter_40 (lv_at hl 4 rfl) ?_
  refine z_lconst (v := 0) X dX11_letter_42 (by decide) ?_
  refine z_lcmp X dX11_letter_43 ?_
  refine z_if_le (tgt := 60) X dX11_letter_44 (by decide) (fun c_ => ?_) (fun c_ => ?_)
  · have hf := (if_pos c_).symm.trans hf
    refine z_iload_n X dX11_letter_60 rfl (lv_at hl 1 rfl) ?_
    refine z_iload X dX11_letter_61 (lv_at hl 3 rfl) ?_
    refine z_icmp_lt (tgt := 70) X dX11_letter_63 (by decide) (fun c_ => ?_) (fun c_ => ?_)
    · have hf := (if_pos c_).symm.trans hf
      refine z_lload_n X dX11_letter_70 rfl (lv_at hl 2 rfl) ?_
      refine z_bipush (v := 8) X dX11_letter_71 (by decide) ?_
      refine z_iload X dX11_letter_73 (lv_at hl 3 rfl) ?_
      refine z_iconst (v := 1) X dX11_letter_75 (by decide) ?_
      refine z_isub X dX11_letter_76 ?_
      refine z_iload_n X dX11_letter_77 rfl (lv_at hl 1 rfl) ?_
      refine z_isub X dX11_letter_78 ?_
      refine z_imul X dX11_letter_79 ?_
      refine z_lshr X dX11_letter_80 ?_
      refine z_ldc2 X dX11_letter_81 kc_448 ?_
      refine z_land X dX11_letter_84 ?_
      refine z_l2i X dX11_letter_85 ?_
      refine z_bipush (v := 97) X dX11_letter_86 (by decide) ?_
      refine z_isub X dX11_letter_88 ?_
      refine z_iconst (v := 1) X dX11_letter_89 (by decide) ?_
      refine z_iadd X dX11_letter_90 ?_
      exact m_iret X Z hf rfl dX11_letter_91
    · have hf := (if_neg c_).symm.trans hf
      refine z_iconst (v := 0) X dX11_letter_66 (by decide) ?_
      refine z_goto (tgt := 91) X dX11_letter_67 (by decide) ?_
      exact m_iret X Z hf rfl dX11_letter_91
  · have hf := (if_neg c_).symm.trans hf
    refine z_iinc (v := x5 + 1) (k0 := 3) (lv' := [(5, .int (x5 + 1)), (0, .ref (ad 0)), (2, .int x2), (3, .long x3), (6, .long x6)]) X dX11_letter_47 hl rfl rfl (by decide) rfl (fun ls hl => ?_)
    refine z_lload X dX11_letter_50 (lv_at hl 4 rfl) ?_
    refine z_bipush (v := 8) X dX11_letter_52 (by decide) ?_
    refine z_lshr X dX11_letter_54 ?_
    refine z_lstore (lv' := [(6, .long (x6 >>> ((8 : Int32).toInt64 &&& 63))), (5, .int (x5 + 1)), (0, .ref (ad 0)), (2, .int x2), (3, .long x3)]) X dX11_letter_55 hl (by decide) rfl (fun ls hl => ?_)
    refine z_goto (tgt := 40) X dX11_letter_57 (by decide) ?_
    exact hk40 x2 x3 (x5 + 1) (x6 >>> ((8 : Int32).toInt64 &&& 63)) V L ls (lv_sub hl [2, 3, 4, 1, 0] rfl) hf

set_option maxHeartbeats 4000000 in
set_option maxRecDepth 100000 in
theorem w_letter {M : zM} {D : va_G} {cy : Nat → ClassId} {ad : Nat → Nat} {r' : Int32 × zI × zL} (X : RX M (zR D cy ad) cX11_letter 8 RX11 1 22) (Z : RZi M (zR D cy ad) .int r'.1 r'.2.1 r'.2.2) (x1 : Int32) (x2 : Int32) (V : zI) (L : zL) (ls : Array Slot) (hl : lv_has ls 8 [(0, .ref (ad 0)), (1, .int x1), (2, .int x2)]) (hf : f_letter x1 x2 V L = some r') : RG M (zR D cy ad) V L 0 ls [] := by
  unfold f_letter at hf
  refine z_aload_n X dX11_letter_0 rfl (lv_at hl 0 rfl) ?_
  refine z_iload_n X dX11_letter_1 rfl (lv_at hl 1 rfl) ?_
  obtain ⟨r1, hc1, hf⟩ := z_bind hf
  refine m_callVi [.int x1] X hl.1 (c_isTown D cy ad hc1) gm_isTown pd_isTown rfl ⟨by decide, by decide⟩ (Nat.le_of_ble_eq_true rfl) rfl dX11_letter_2 ?_
  refine z_if_eq (tgt := 17) X dX11_letter_5 (by decide) (fun c_ => ?_) (fun c_ => ?_)
  · have hf := (if_pos c_).symm.trans hf
    refine z_iconst (v := -1) X dX11_letter_17 (by decide) ?_
    exact m_iret X Z hf rfl dX11_letter_18
  · have hf := (if_neg c_).symm.trans hf
    refine z_iload_n X dX11_letter_8 rfl (lv_at hl 2 rfl) ?_
    refine z_iconst (v := 0) X dX11_letter_9 (by decide) ?_
    refine z_iconst (v := 5) X dX11_letter_10 (by decide) ?_
    obtain ⟨r2, hc2, hf⟩ := z_bind hf
    refine m_callSi [.int x2, .int 0, .int 5] X hl.1 (c_is D cy ad hc2) gm_is pd_is rfl ⟨by decide, by decide⟩ (Nat.le_of_ble_eq_true rfl) rfl dX11_letter_11 ?_
    refine z_if_ne (tgt := 19) X dX11_letter_14 (by decide) (fun c_ => ?_) (fun c_ => ?_)
    · have hf := (if_neg c_).symm.trans hf
      refine z_aload_n X dX11_letter_19 rfl (lv_at hl 0 rfl) ?_
      refine m_geta X ff_24 dX11_letter_20 ?_
      refine z_bipush (v := 6) X dX11_letter_23 (by decide) ?_
      refine z_aload_n X dX11_letter_25 rfl (lv_at hl 0 rfl) ?_
      refine m_geti X ff_13 dX11_letter_26 ?_
      refine z_imul X dX11_letter_29 ?_
      refine z_iload_n X dX11_letter_30 rfl (lv_at hl 1 rfl) ?_
      refine z_iadd X dX11_letter_31 ?_
      obtain ⟨hb3, hf⟩ := z_ite hf
      refine m_lald X pa_12 hb3 dX11_letter_32 ?_
      refine z_lstore_n (lv' := [(3, .long (r1.2.2 12 (((6 : Int32) * (r1.2.1 0 13)) + x1).toNatClampNeg)), (0, .ref (ad 0)), (1, .int x1), (2, .int x2)]) X dX11_letter_33 rfl hl (by decide) rfl (fun ls hl => ?_)
      refine z_iconst (v := 0) X dX11_letter_34 (by decide) ?_
      refine z_istore (lv' := [(5, .int 0), (3, .long (r1.2.2 12 (((6 : Int32) * (r1.2.1 0 13)) + x1).toNatClampNeg)), (0, .ref (ad 0)), (1, .int x1), (2, .int x2)]) X dX11_letter_35 hl (by decide) rfl (fun ls hl => ?_)
      refine z_lload_n X dX11_letter_37 rfl (lv_at hl 1 rfl) ?_
      refine z_lstore (lv' := [(6, .long (r1.2.2 12 (((6 : Int32) * (r1.2.1 0 13)) + x1).toNatClampNeg)), (5, .int 0), (3, .long (r1.2.2 12 (((6 : Int32) * (r1.2.1 0 13)) + x1).toNatClampNeg)), (0, .ref (ad 0)), (1, .int x1), (2, .int x2)]) X dX11_letter_38 hl (by decide) rfl (fun ls hl => ?_)
      exact w_letter_40 X Z FU x2 (r1.2.2 12 (((6 : Int32) * (r1.2.1 0 13)) + x1).toNatClampNeg) 0 (r1.2.2 12 (((6 : Int32) * (r1.2.1 0 13)) + x1).toNatClampNeg) r1.2.1 r1.2.2 ls (lv_sub hl [3, 5, 2, 1, 0] rfl) hf
    · have hf := (if_pos c_).symm.trans hf
      refine z_iconst (v := -1) X dX11_letter_17 (by decide) ?_
      exact m_iret X Z hf rfl dX11_letter_18

theorem c_letter (D : va_G) (cy : Nat → ClassId) (ad : Nat → Nat) {x1 : Int32} {x2 : Int32} {V : zI} {L : zL} {r' : Int32 × zI × zL} (hf : f_letter x1 x2 V L = some r') : RMi (zR D cy ad) yX11_letter cX11_letter 8 .int 1 22 [.ref (ad 0), .int x1, .int x2] V L r'.1 r'.2.1 r'.2.2 :=
  RMi.of (by decide) zR_nd (Nat.le_of_ble_eq_true rfl) (fun M X Z ls hl => w_letter X Z x1 x2 V L ls hl hf)
def f_pair (x1 : Int32) (x2 : Int32) (x3 : Int32) (V : zI) (L : zL) : Option (Int32 × zI × zL) :=
  (f_isPair x1 x2 V L).bind fun r1 => (if r1.1 = 0 then some ((-1), r1.2.1, r1.2.2) else (f_at 0 x1 x2 r1.2.1 r1.2.2).bind fun r2 => (if x3 = 0 then if inB r2.1 792 then some (r2.2.1 21 r2.1.toNatClampNeg, r2.2.1, r2.2.2) else none else (if x3 = 1 then if inB r2.1 792 then some (r2.2.1 22 r2.1.toNatClampNeg, r2.2.1, r2.2.2) else none else (if x3 = 2 then if inB r2.1 792 then some (r2.2.1 23 r2.1.toNatClampNeg, r2.2.1, r2.2.2) else none else (if x3 = 3 then (f_isWay x1 x2 r2.2.1 r2.2.2).bind fun r3 => (if r3.1 = 0 then some ((-1), r3.2.1, r3.2.2) else (f_wayBy x1 x2 r3.2.1 r3.2.2).bind fun r4 => some (r4.1, r4.2.1, r4.2.2)) else some ((-1), r2.2.1, r2.2.2))))))
set_option maxHeartbeats 4000000 in
set_option maxRecDepth 100000 in
theorem w_pair {M : zM} {D : va_G} {cy : Nat → ClassId} {ad : Nat → Nat} {r' : Int32 × zI × zL} (X : RX M (zR D cy ad) cX11_pair 5 RX11 3 67) (Z : RZi M (zR D cy ad) .int r'.1 r'.2.1 r'.2.2) (x1 : Int32) (x2 : Int32) (x3 : Int32) (V : zI) (L : zL) (ls : Array Slot) (hl : lv_has ls 5 [(0, .ref (ad 0)), (1, .int x1), (2, .int x2), (3, .int x3)]) (hf : f_pair x1 x2 x3 V L = some r') : RG M (zR D cy ad) V L 0 ls [] := by
  unfold f_pair at hf
  refine z_aload_n X dX11_pair_0 rfl (lv_at hl 0 rfl) ?_
  refine z_iload_n X dX11_pair_1 rfl (lv_at hl 1 rfl) ?_
  refine z_iload_n X dX11_pair_2 rfl (lv_at hl 2 rfl) ?_
  obtain ⟨r1, hc1, hf⟩ := z_bind hf
  refine m_callVi [.int x1, .int x2] X hl.1 (c_isPair D cy ad hc1) gm_isPair pd_isPair rfl ⟨by decide, by decide⟩ (Nat.le_of_ble_eq_true rfl) rfl dX11_pair_3 ?_
  refine z_if_ne (tgt := 11) X dX11_pair_6 (by decide) (fun c_ => ?_) (fun c_ => ?_)
  · have hf := (if_neg c_).symm.trans hf
    refine z_aload_n X dX11_pair_11 rfl (lv_at hl 0 rfl) ?_
    refine z_iconst (v := 0) X dX11_pair_12 (by decide) ?_
    refine z_iload_n X dX11_pair_13 rfl (lv_at hl 1 rfl) ?_
    refine z_iload_n X dX11_pair_14 rfl (lv_at hl 2 rfl) ?_
    obtain ⟨r2, hc2, hf⟩ := z_bind hf
    refine m_callVi [.int 0, .int x1, .int x2] X hl.1 (c_at D cy ad hc2) gm_at pd_at rfl ⟨by decide, by decide⟩ (Nat.le_of_ble_eq_true rfl) rfl dX11_pair_15 ?_
    refine z_istore (lv' := [(4, .int r2.1), (0, .ref (ad 0)), (1, .int x1), (2, .int x2), (3, .int x3)]) X dX11_pair_18 hl (by decide) rfl (fun ls hl => ?_)
    refine z_iload_n X dX11_pair_20 rfl (lv_at hl 4 rfl) ?_
    refine z_if_ne (tgt := 34) X dX11_pair_21 (by decide) (fun c_ => ?_) (fun c_ => ?_)
    · have hf := (if_neg c_).symm.trans hf
      refine z_iload_n X dX11_pair_34 rfl (lv_at hl 4 rfl) ?_
      refine z_iconst (v := 1) X dX11_pair_35 (by decide) ?_
      refine z_icmp_ne (tgt := 49) X dX11_pair_36 (by decide) (fun c_ => ?_) (fun c_ => ?_)
      · have hf := (if_neg c_).symm.trans hf
        refine z_iload_n X dX11_pair_49 rfl (lv_at hl 4 rfl) ?_
        refine z_iconst (v := 2) X dX11_pair_50 (by decide) ?_
        refine z_icmp_ne (tgt := 64) X dX11_pair_51 (by decide) (fun c_ => ?_) (fun c_ => ?_)
        · have hf := (if_neg c_).symm.trans hf
          refine z_iload_n X dX11_pair_64 rfl (lv_at hl 4 rfl) ?_
          refine z_iconst (v := 3) X dX11_pair_65 (by decide) ?_
          refine z_icmp_ne (tgt := 87) X dX11_pair_66 (by decide) (fun c_ => ?_) (fun c_ => ?_)
          · have hf := (if_neg c_).symm.trans hf
            refine z_iconst (v := -1) X dX11_pair_87 (by decide) ?_
            exact m_iret X Z hf rfl dX11_pair_88
          · have hf := (if_pos c_).symm.trans hf
            refine z_aload_n X dX11_pair_69 rfl (lv_at hl 1 rfl) ?_
            refine z_iload_n X dX11_pair_70 rfl (lv_at hl 2 rfl) ?_
            refine z_iload_n X dX11_pair_71 rfl (lv_at hl 3 rfl) ?_
            obtain ⟨r3, hc3, hf⟩ := z_bind hf
            refine m_callVi [.int x1, .int x2] X hl.1 (c_isWay D cy ad hc3) gm_isWay pd_isWay rfl ⟨by decide, by decide⟩ (Nat.le_of_ble_eq_true rfl) rfl dX11_pair_72 ?_
            refine z_if_eq (tgt := 87) X dX11_pair_75 (by decide) (fun c_ => ?_) (fun c_ => ?_)
            · have hf := (if_pos c_).symm.trans hf
              refine z_iconst (v := -1) X dX11_pair_87 (by decide) ?_
              exact m_iret X Z hf rfl dX11_pair_88
            · have hf := (if_neg c_).symm.trans hf
              refine z_aload_n X dX11_pair_78 rfl (lv_at hl 1 rfl) ?_
              refine z_iload_n X dX11_pair_79 rfl (lv_at hl 2 rfl) ?_
              refine z_iload_n X dX11_pair_80 rfl (lv_at hl 3 rfl) ?_
              obtain ⟨r4, hc4, hf⟩ := z_bind hf
              refine m_callVi [.int x1, .int x2] X hl.1 (c_wayBy D cy ad hc4) gm_wayBy pd_wayBy rfl ⟨by decide, by decide⟩ (Nat.le_of_ble_eq_true rfl) rfl dX11_pair_81 ?_
              refine z_goto (tgt := 88) X dX11_pair_84 (by decide) ?_
              exact m_iret X Z hf rfl dX11_pair_88
        · have hf := (if_pos c_).symm.trans hf
          refine z_aload_n X dX11_pair_54 rfl (lv_at hl 1 rfl) ?_
          refine m_geta X ff_42 dX11_pair_55 ?_
          refine z_iload X dX11_pair_58 (lv_at hl 0 rfl) ?_
          obtain ⟨hb5, hf⟩ := z_ite hf
          refine m_iald X pa_23 hb5 dX11_pair_60 ?_
          refine z_goto (tgt := 88) X dX11_pair_61 (by decide) ?_
          exact m_iret X Z hf rfl dX11_pair_88
      · have hf := (if_pos c_).symm.trans hf
        refine z_aload_n X dX11_pair_39 rfl (lv_at hl 1 rfl) ?_
        refine m_geta X ff_41 dX11_pair_40 ?_
        refine z_iload X dX11_pair_43 (lv_at hl 0 rfl) ?_
        obtain ⟨hb6, hf⟩ := z_ite hf
        refine m_iald X pa_22 hb6 dX11_pair_45 ?_
        refine z_goto (tgt := 88) X dX11_pair_46 (by decide) ?_
        exact m_iret X Z hf rfl dX11_pair_88
    · have hf := (if_pos c_).symm.trans hf
      refine z_aload_n X dX11_pair_24 rfl (lv_at hl 1 rfl) ?_
      refine m_geta X ff_40 dX11_pair_25 ?_
      refine z_iload X dX11_pair_28 (lv_at hl 0 rfl) ?_
      obtain ⟨hb7, hf⟩ := z_ite hf
      refine m_iald X pa_21 hb7 dX11_pair_30 ?_
      refine z_goto (tgt := 88) X dX11_pair_31 (by decide) ?_
      exact m_iret X Z hf rfl dX11_pair_88
  · have hf := (if_pos c_).symm.trans hf
    refine z_iconst (v := -1) X dX11_pair_9 (by decide) ?_
    exact m_iret X Z hf rfl dX11_pair_10

theorem c_pair (D : va_G) (cy : Nat → ClassId) (ad : Nat → Nat) {x1 : Int32} {x2 : Int32} {x3 : Int32} {V : zI} {L : zL} {r' : Int32 × zI × zL} (hf : f_pair x1 x2 x3 V L = some r') : RMi (zR D cy ad) yX11_pair cX11_pair 5 .int 3 67 [.ref (ad 0), .int x1, .int x2, .int x3] V L r'.1 r'.2.1 r'.2.2 :=
  RMi.of (by decide) zR_nd (Nat.le_of_ble_eq_true rfl) (fun M X Z ls hl => w_pair X Z x1 x2 x3 V L ls hl hf)
def f_mail (x1 : Int32) (x2 : Int32) (V : zI) (L : zL) : Option (Int32 × zI × zL) :=
  (f_is x1 0 ((V 24 ((0) : Int32).toNatClampNeg) - 1)).bind fun r2 => (if r2 = 0 then some ((-1), V, L) else (f_is x2 0 2).bind fun r3 => (if r3 = 0 then some ((-1), V, L) else if inB (((3 : Int32) * x1) + x2) 3960 then some (V 25 (((3 : Int32) * x1) + x2).toNatClampNeg, V, L) else none))
set_option maxHeartbeats 4000000 in
set_option maxRecDepth 100000 in
theorem w_mail {M : zM} {D : va_G} {cy : Nat → ClassId} {ad : Nat → Nat} {r' : Int32 × zI × zL} (X : RX M (zR D cy ad) cX11_mail 3 RX11 1 22) (Z : RZi M (zR D cy ad) .int r'.1 r'.2.1 r'.2.2) (x1 : Int32) (x2 : Int32) (V : zI) (L : zL) (ls : Array Slot) (hl : lv_has ls 3 [(0, .ref (ad 0)), (1, .int x1), (2, .int x2)]) (hf : f_mail x1 x2 V L = some r') : RG M (zR D cy ad) V L 0 ls [] := by
  unfold f_mail at hf
  refine z_iload_n X dX11_mail_0 rfl (lv_at hl 1 rfl) ?_
  refine z_iconst (v := 0) X dX11_mail_1 (by decide) ?_
  refine z_aload_n X dX11_mail_2 rfl (lv_at hl 0 rfl) ?_
  refine m_geta X ff_43 dX11_mail_3 ?_
  refine z_iconst (v := 0) X dX11_mail_6 (by decide) ?_
  refine m_iald X pa_24 (show inB 0 22 by decide) dX11_mail_7 ?_
  refine z_iconst (v := 1) X dX11_mail_8 (by decide) ?_
  refine z_isub X dX11_mail_9 ?_
  obtain ⟨r2, hc2, hf⟩ := z_bind hf
  refine m_callSi [.int x1, .int 0, .int ((V 24 ((0) : Int32).toNatClampNeg) - 1)] X hl.1 (c_is D cy ad hc2) gm_is pd_is rfl ⟨by decide, by decide⟩ (Nat.le_of_ble_eq_true rfl) rfl dX11_mail_10 ?_
  refine z_if_eq (tgt := 38) X dX11_mail_13 (by decide) (fun c_ => ?_) (fun c_ => ?_)
  · have hf := (if_pos c_).symm.trans hf
    refine z_iconst (v := -1) X dX11_mail_38 (by decide) ?_
    exact m_iret X Z hf rfl dX11_mail_39
  · have hf := (if_neg c_).symm.trans hf
    refine z_iload_n X dX11_mail_16 rfl (lv_at hl 2 rfl) ?_
    refine z_iconst (v := 0) X dX11_mail_17 (by decide) ?_
    refine z_iconst (v := 2) X dX11_mail_18 (by decide) ?_
    obtain ⟨r3, hc3, hf⟩ := z_bind hf
    refine m_callSi [.int x2, .int 0, .int 2] X hl.1 (c_is D cy ad hc3) gm_is pd_is rfl ⟨by decide, by decide⟩ (Nat.le_of_ble_eq_true rfl) rfl dX11_mail_19 ?_
    refine z_if_eq (tgt := 38) X dX11_mail_22 (by decide) (fun c_ => ?_) (fun c_ => ?_)
    · have hf := (if_pos c_).symm.trans hf
      refine z_iconst (v := -1) X dX11_mail_38 (by decide) ?_
      exact m_iret X Z hf rfl dX11_mail_39
    · have hf := (if_neg c_).symm.trans hf
      refine z_aload_n X dX11_mail_25 rfl (lv_at hl 0 rfl) ?_
      refine m_geta X ff_44 dX11_mail_26 ?_
      refine z_iconst (v := 3) X dX11_mail_29 (by decide) ?_
      refine z_iload_n X dX11_mail_30 rfl (lv_at hl 1 rfl) ?_
      refine z_imul X dX11_mail_31 ?_
      refine z_iload_n X dX11_mail_32 rfl (lv_at hl 2 rfl) ?_
      refine z_iadd X dX11_mail_33 ?_
      obtain ⟨hb4, hf⟩ := z_ite hf
      refine m_iald X pa_25 hb4 dX11_mail_34 ?_
      refine z_goto (tgt := 39) X dX11_mail_35 (by decide) ?_
      exact m_iret X Z hf rfl dX11_mail_39

theorem c_mail (D : va_G) (cy : Nat → ClassId) (ad : Nat → Nat) {x1 : Int32} {x2 : Int32} {V : zI} {L : zL} {r' : Int32 × zI × zL} (hf : f_mail x1 x2 V L = some r') : RMi (zR D cy ad) yX11_mail cX11_mail 3 .int 1 22 [.ref (ad 0), .int x1, .int x2] V L r'.1 r'.2.1 r'.2.2 :=
  RMi.of (by decide) zR_nd (Nat.le_of_ble_eq_true rfl) (fun M X Z ls hl => w_mail X Z x1 x2 V L ls hl hf)
def f_writes (x1 : Int32) (V : zI) (L : zL) : Option (Int32 × zI × zL) :=
  (f_isTown x1 V L).bind fun r1 => (if r1.1 = 0 then some ((-1), r1.2.1, r1.2.2) else (f_nextOf 0 x1 r1.2.1 r1.2.2).bind fun r2 => some (r2.1, r2.2.1, r2.2.2))
set_option maxHeartbeats 4000000 in
set_option maxRecDepth 100000 in
theorem w_writes {M : zM} {D : va_G} {cy : Nat → ClassId} {ad : Nat → Nat} {r' : Int32 × zI × zL} (X : RX M (zR D cy ad) cX11_writes 2 RX11 5 119) (Z : RZi M (zR D cy ad) .int r'.1 r'.2.1 r'.2.2) (x1 : Int32) (V : zI) (L : zL) (ls : Array Slot) (hl : lv_has ls 2 [(0, .ref (ad 0)), (1, .int x1)]) (hf : f_writes x1 V L = some r') : RG M (zR D cy ad) V L 0 ls [] := by
  unfold f_writes at hf
  refine z_aload_n X dX11_writes_0 rfl (lv_at hl 0 rfl) ?_
  refine z_iload_n X dX11_writes_1 rfl (lv_at hl 1 rfl) ?_
  obtain ⟨r1, hc1, hf⟩ := z_bind hf
  refine m_callVi [.int x1] X hl.1 (c_isTown D cy ad hc1) gm_isTown pd_isTown rfl ⟨by decide, by decide⟩ (Nat.le_of_ble_eq_true rfl) rfl dX11_writes_2 ?_
  refine z_if_eq (tgt := 17) X dX11_writes_5 (by decide) (fun c_ => ?_) (fun c_ => ?_)
  · have hf := (if_pos c_).symm.trans hf
    refine z_iconst (v := -1) X dX11_writes_17 (by decide) ?_
    exact m_iret X Z hf rfl dX11_writes_18
  · have hf := (if_neg c_).symm.trans hf
    refine z_aload_n X dX11_writes_8 rfl (lv_at hl 0 rfl) ?_
    refine z_iconst (v := 0) X dX11_writes_9 (by decide) ?_
    refine z_iload_n X dX11_writes_10 rfl (lv_at hl 1 rfl) ?_
    obtain ⟨r2, hc2, hf⟩ := z_bind hf
    refine m_callVi [.int 0, .int x1] X hl.1 (c_nextOf D cy ad hc2) gm_nextOf pd_nextOf rfl ⟨by decide, by decide⟩ (Nat.le_of_ble_eq_true rfl) rfl dX11_writes_11 ?_
    refine z_goto (tgt := 18) X dX11_writes_14 (by decide) ?_
    exact m_iret X Z hf rfl dX11_writes_18

theorem c_writes (D : va_G) (cy : Nat → ClassId) (ad : Nat → Nat) {x1 : Int32} {V : zI} {L : zL} {r' : Int32 × zI × zL} (hf : f_writes x1 V L = some r') : RMi (zR D cy ad) yX11_writes cX11_writes 2 .int 5 119 [.ref (ad 0), .int x1] V L r'.1 r'.2.1 r'.2.2 :=
  RMi.of (by decide) zR_nd (Nat.le_of_ble_eq_true rfl) (fun M X Z ls hl => w_writes X Z x1 V L ls hl hf)
def f_isAhead (x1 : Int32) (x2 : Int32) (x3 : Int32) (V : zI) (L : zL) : Option (Int32 × zI × zL) :=
  (f_is x1 x2 x3).bind fun r1 => (if r1 = 0 then some (0, V, L) else (if ((999 : Int32) - x1) < (V 20 ((0) : Int32).toNatClampNeg) then some (0, V, L) else some (1, V, L)))
set_option maxHeartbeats 4000000 in
set_option maxRecDepth 100000 in
theorem w_isAhead {M : zM} {D : va_G} {cy : Nat → ClassId} {ad : Nat → Nat} {r' : Int32 × zI × zL} (X : RX M (zR D cy ad) cX11_isAhead 4 RX11 1 22) (Z : RZi M (zR D cy ad) .boolean r'.1 r'.2.1 r'.2.2) (x1 : Int32) (x2 : Int32) (x3 : Int32) (V : zI) (L : zL) (ls : Array Slot) (hl : lv_has ls 4 [(0, .ref (ad 0)), (1, .int x1), (2, .int x2), (3, .int x3)]) (hf : f_isAhead x1 x2 x3 V L = some r') : RG M (zR D cy ad) V L 0 ls [] := by
  unfold f_isAhead at hf
  refine z_iload_n X dX11_isAhead_0 rfl (lv_at hl 1 rfl) ?_
  refine z_iload_n X dX11_isAhead_1 rfl (lv_at hl 2 rfl) ?_
  refine z_iload_n X dX11_isAhead_2 rfl (lv_at hl 3 rfl) ?_
  obtain ⟨r1, hc1, hf⟩ := z_bind hf
  refine m_callSi [.int x1, .int x2, .int x3] X hl.1 (c_is D cy ad hc1) gm_is pd_is rfl ⟨by decide, by decide⟩ (Nat.le_of_ble_eq_true rfl) rfl dX11_isAhead_3 ?_
  refine z_if_eq (tgt := 27) X dX11_isAhead_6 (by decide) (fun c_ => ?_) (fun c_ => ?_)
  · have hf := (if_pos c_).symm.trans hf
    refine z_iconst (v := 0) X dX11_isAhead_27 (by decide) ?_
    exact m_iret X Z hf (by decide) dX11_isAhead_28
  · have hf := (if_neg c_).symm.trans hf
    refine z_aload_n X dX11_isAhead_9 rfl (lv_at hl 0 rfl) ?_
    refine m_geta X ff_39 dX11_isAhead_10 ?_
    refine z_iconst (v := 0) X dX11_isAhead_13 (by decide) ?_
    refine m_iald X pa_20 (show inB 0 22 by decide) dX11_isAhead_14 ?_
    refine z_sipush (v := 999) X dX11_isAhead_15 (by decide) ?_
    refine z_iload_n X dX11_isAhead_18 rfl (lv_at hl 1 rfl) ?_
    refine z_isub X dX11_isAhead_19 ?_
    refine z_icmp_gt (tgt := 27) X dX11_isAhead_20 (by decide) (fun c_ => ?_) (fun c_ => ?_)
    · have hf := (if_pos c_).symm.trans hf
      refine z_iconst (v := 0) X dX11_isAhead_27 (by decide) ?_
      exact m_iret X Z hf (by decide) dX11_isAhead_28
    · have hf := (if_neg c_).symm.trans hf
      refine z_iconst (v := 1) X dX11_isAhead_23 (by decide) ?_
      refine z_goto (tgt := 28) X dX11_isAhead_24 (by decide) ?_
      exact m_iret X Z hf (by decide) dX11_isAhead_28

theorem c_isAhead (D : va_G) (cy : Nat → ClassId) (ad : Nat → Nat) {x1 : Int32} {x2 : Int32} {x3 : Int32} {V : zI} {L : zL} {r' : Int32 × zI × zL} (hf : f_isAhead x1 x2 x3 V L = some r') : RMi (zR D cy ad) yX11_isAhead cX11_isAhead 4 .boolean 1 22 [.ref (ad 0), .int x1, .int x2, .int x3] V L r'.1 r'.2.1 r'.2.2 :=
  RMi.of (by decide) zR_nd (Nat.le_of_ble_eq_true rfl) (fun M X Z ls hl => w_isAhead X Z x1 x2 x3 V L ls hl hf)
def b_later_41 (k41 : Int32 × Int32 × Int32 × Int32 × Int32 × zI × zL → Option (Int32 × zI × zL)) : Int32 × Int32 × Int32 × Int32 × Int32 × zI × zL → Option (Int32 × zI × zL) := fun ⟨x1, x2, x3, x4, x5, V, L⟩ =>
  (if x3 ≤ x5 then (f_at 1 x1 x2 V L).bind fun r1 => (if x4 = 0 then if inB r1.1 792 then some (r1.2.1 21 r1.1.toNatClampNeg, r1.2.1, r1.2.2) else none else (if x4 = 1 then if inB r1.1 792 then some (r1.2.1 22 r1.1.toNatClampNeg, r1.2.1, r1.2.2) else none else if inB r1.1 792 then some (r1.2.1 23 r1.1.toNatClampNeg, r1.2.1, r1.2.2) else none)) else (f_passes 1 0 V L).bind fun r5 => k41 (x1, x2, x3, x4, (x5 + 1), r5.1, r5.2))
def f_later (x1 : Int32) (x2 : Int32) (x3 : Int32) (x4 : Int32) (V : zI) (L : zL) : Option (Int32 × zI × zL) :=
  (f_isPair x1 x2 V L).bind fun r1 => (if r1.1 = 0 then some ((-1), r1.2.1, r1.2.2) else (f_isAhead x3 0 60 r1.2.1 r1.2.2).bind fun r2 => (if r2.1 = 0 then some ((-1), r2.2.1, r2.2.2) else (f_is x4 0 2).bind fun r3 => (if r3 = 0 then some ((-1), r2.2.1, r2.2.2) else (f_copies 1 0 r2.2.1 r2.2.2).bind fun r4 => zfix (b_later_41) FU (x1, x2, x3, x4, 0, r4.1, r4.2))))
set_option maxHeartbeats 4000000 in
set_option maxRecDepth 100000 in
theorem w_later_41 {M : zM} {D : va_G} {cy : Nat → ClassId} {ad : Nat → Nat} {r' : Int32 × zI × zL} (X : RX M (zR D cy ad) cX11_later 6 RX11 6 146) (Z : RZi M (zR D cy ad) .int r'.1 r'.2.1 r'.2.2) (n : Nat) : ∀ (x1 : Int32) (x2 : Int32) (x3 : Int32) (x4 : Int32) (x5 : Int32) (V : zI) (L : zL) (ls : Array Slot) (hl : lv_has ls 6 [(0, .ref (ad 0)), (1, .int x1), (2, .int x2), (3, .int x3), (4, .int x4), (5, .int x5)]) (hf : zfix (b_later_41) n (x1, x2, x3, x4, x5, V, L) = some r'), RG M (zR D cy ad) V L 41 ls [] := by
  induction n with
  | zero => intro x1 x2 x3 x4 x5 V L ls hl hf; cases hf
  | succ n ih =>
  intro x1 x2 x3 x4 x5 V L ls hl hf
  have hk41 : ∀ (x1 : Int32) (x2 : Int32) (x3 : Int32) (x4 : Int32) (x5 : Int32) (V : zI) (L : zL) (ls : Array Slot), lv_has ls 6 [(0, .ref (ad 0)), (1, .int x1), (2, .int x2), (3, .int x3), (4, .int x4), (5, .int x5)] → zfix (b_later_41) n (x1, x2, x3, x4, x5, V, L) = some r' → RG M (zR D cy ad) V L 41 ls [] := ih
  have hf : b_later_41 (zfix (b_later_41) n) (x1, x2, x3, x4, x5, V, L) = some r' := hf
  generalize zfix (b_later_41) n = k41 at hk41 hf
  unfold b_later_41 at hf
  clear ih
  refine z_iload X dX11_later_41 (lv_at hl 5 rfl) ?_
  refine z_iload_n X dX11_later_43 rfl (lv_at hl 3 rfl) ?_
  refine z_icmp_ge (tgt := 59) X dX11_later_44 (by decide) (fun c_ => ?_) (fun c_ => ?_)
  · have hf := (if_pos c_).symm.trans hf
    refine z_aload_n X dX11_later_59 rfl (lv_at hl 0 rfl) ?_
    refine z_iconst (v := 1) X dX11_later_60 (by decide) ?_
    refine z_iload_n X dX11_later_61 rfl (lv_at hl 1 rfl) ?_
    refine z_iload_n X dX11_later_62 rfl (lv_at hl 2 rfl) ?_
    obtain ⟨r1, hc1, hf⟩ := z_bind hf
    refine m_callVi [.int 1, .int x1, .int x2] X hl.1 (c_at D cy ad hc1) gm_at pd_at rfl ⟨by decide, by decide⟩ (Nat.le_of_ble_eq_true rfl) rfl dX11_later_63 ?_
    refine z_istore (lv' := [(5, .int r1.1), (0, .ref (ad 0)), (1, .int x1), (2, .int x2), (3, .int x3), (4, .int x4)]) X dX11_later_66 hl (by decide) rfl (fun ls hl => ?_)
    refine z_iload X dX11_later_68 (lv_at hl 5 rfl) ?_
    refine z_if_ne (tgt := 83) X dX11_later_70 (by decide) (fun c_ => ?_) (fun c_ => ?_)
    · have hf := (if_neg c_).symm.trans hf
      refine z_iload X dX11_later_83 (lv_at hl 5 rfl) ?_
      refine z_iconst (v := 1) X dX11_later_85 (by decide) ?_
      refine z_icmp_ne (tgt := 99) X dX11_later_86 (by decide) (fun c_ => ?_) (fun c_ => ?_)
      · have hf := (if_neg c_).symm.trans hf
        refine z_aload_n X dX11_later_99 rfl (lv_at hl 1 rfl) ?_
        refine m_geta X ff_42 dX11_later_100 ?_
        refine z_iload X dX11_later_103 (lv_at hl 0 rfl) ?_
        obtain ⟨hb2, hf⟩ := z_ite hf
        refine m_iald X pa_23 hb2 dX11_later_105 ?_
        exact m_iret X Z hf rfl dX11_later_106
      · have hf := (if_pos c_).symm.trans hf
        refine z_aload_n X dX11_later_89 rfl (lv_at hl 1 rfl) ?_
        refine m_geta X ff_41 dX11_later_90 ?_
        refine z_iload X dX11_later_93 (lv_at hl 0 rfl) ?_
        obtain ⟨hb3, hf⟩ := z_ite hf
        refine m_iald X pa_22 hb3 dX11_later_95 ?_
        refine z_goto (tgt := 106) X dX11_later_96 (by decide) ?_
        exact m_iret X Z hf rfl dX11_later_106
    · have hf := (if_pos c_).symm.trans hf
      refine z_aload_n X dX11_later_73 rfl (lv_at hl 1 rfl) ?_
      refine m_geta X ff_40 dX11_later_74 ?_
      refine z_iload X dX11_later_77 (lv_at hl 0 rfl) ?_
      obtain ⟨hb4, hf⟩ := z_ite hf
      refine m_iald X pa_21 hb4 dX11_later_79 ?_
      refine z_goto (tgt := 106) X dX11_later_80 (by decide) ?_
      exact m_iret X Z hf rfl dX11_later_106
  · have hf := (if_neg c_).symm.trans hf
    refine z_aload_n X dX11_later_47 rfl (lv_at hl 0 rfl) ?_
    refine z_iconst (v := 1) X dX11_later_48 (by decide) ?_
    refine z_iconst (v := 0) X dX11_later_49 (by decide) ?_
    obtain ⟨r5, hc5, hf⟩ := z_bind hf
    refine m_callVv [.int 1, .int 0] X hl.1 (c_passes D cy ad hc5) gm_passes pd_passes rfl ⟨by decide, by decide⟩ (Nat.le_of_ble_eq_true rfl) rfl dX11_later_50 ?_
    refine z_iinc (v := x5 + 1) (k0 := 5) (lv' := [(5, .int (x5 + 1)), (0, .ref (ad 0)), (1, .int x1), (2, .int x2), (3, .int x3), (4, .int x4)]) X dX11_later_53 hl rfl rfl (by decide) rfl (fun ls hl => ?_)
    refine z_goto (tgt := 41) X dX11_later_56 (by decide) ?_
    exact hk41 x1 x2 x3 x4 (x5 + 1) r5.1 r5.2 ls (lv_sub hl [1, 2, 3, 4, 5, 0] rfl) hf

set_option maxHeartbeats 4000000 in
set_option maxRecDepth 100000 in
theorem w_later {M : zM} {D : va_G} {cy : Nat → ClassId} {ad : Nat → Nat} {r' : Int32 × zI × zL} (X : RX M (zR D cy ad) cX11_later 6 RX11 6 146) (Z : RZi M (zR D cy ad) .int r'.1 r'.2.1 r'.2.2) (x1 : Int32) (x2 : Int32) (x3 : Int32) (x4 : Int32) (V : zI) (L : zL) (ls : Array Slot) (hl : lv_has ls 6 [(0, .ref (ad 0)), (1, .int x1), (2, .int x2), (3, .int x3), (4, .int x4)]) (hf : f_later x1 x2 x3 x4 V L = some r') : RG M (zR D cy ad) V L 0 ls [] := by
  unfold f_later at hf
  refine z_aload_n X dX11_later_0 rfl (lv_at hl 0 rfl) ?_
  refine z_iload_n X dX11_later_1 rfl (lv_at hl 1 rfl) ?_
  refine z_iload_n X dX11_later_2 rfl (lv_at hl 2 rfl) ?_
  obtain ⟨r1, hc1, hf⟩ := z_bind hf
  refine m_callVi [.int x1, .int x2] X hl.1 (c_isPair D cy ad hc1) gm_isPair pd_isPair rfl ⟨by decide, by decide⟩ (Nat.le_of_ble_eq_true rfl) rfl dX11_later_3 ?_
  refine z_if_eq (tgt := 30) X dX11_later_6 (by decide) (fun c_ => ?_) (fun c_ => ?_)
  · have hf := (if_pos c_).symm.trans hf
    refine z_iconst (v := -1) X dX11_later_30 (by decide) ?_
    exact m_iret X Z hf rfl dX11_later_31
  · have hf := (if_neg c_).symm.trans hf
    refine z_aload_n X dX11_later_9 rfl (lv_at hl 0 rfl) ?_
    refine z_iload_n X dX11_later_10 rfl (lv_at hl 3 rfl) ?_
    refine z_iconst (v := 0) X dX11_later_11 (by decide) ?_
    refine z_bipush (v := 60) X dX11_later_12 (by decide) ?_
    obtain ⟨r2, hc2, hf⟩ := z_bind hf
    refine m_callVi [.int x3, .int 0, .int 60] X hl.1 (c_isAhead D cy ad hc2) gm_isAhead pd_isAhead rfl ⟨by decide, by decide⟩ (Nat.le_of_ble_eq_true rfl) rfl dX11_later_14 ?_
    refine z_if_eq (tgt := 30) X dX11_later_17 (by decide) (fun c_ => ?_) (fun c_ => ?_)
    · have hf := (if_pos c_).symm.trans hf
      refine z_iconst (v := -1) X dX11_later_30 (by decide) ?_
      exact m_iret X Z hf rfl dX11_later_31
    · have hf := (if_neg c_).symm.trans hf
      refine z_iload X dX11_later_20 (lv_at hl 4 rfl) ?_
      refine z_iconst (v := 0) X dX11_later_22 (by decide) ?_
      refine z_iconst (v := 2) X dX11_later_23 (by decide) ?_
      obtain ⟨r3, hc3, hf⟩ := z_bind hf
      refine m_callSi [.int x4, .int 0, .int 2] X hl.1 (c_is D cy ad hc3) gm_is pd_is rfl ⟨by decide, by decide⟩ (Nat.le_of_ble_eq_true rfl) rfl dX11_later_24 ?_
      refine z_if_ne (tgt := 32) X dX11_later_27 (by decide) (fun c_ => ?_) (fun c_ => ?_)
      · have hf := (if_neg c_).symm.trans hf
        refine z_aload_n X dX11_later_32 rfl (lv_at hl 0 rfl) ?_
        refine z_iconst (v := 1) X dX11_later_33 (by decide) ?_
        refine z_iconst (v := 0) X dX11_later_34 (by decide) ?_
        obtain ⟨r4, hc4, hf⟩ := z_bind hf
        refine m_callVv [.int 1, .int 0] X hl.1 (c_copies D cy ad hc4) gm_copies pd_copies rfl ⟨by decide, by decide⟩ (Nat.le_of_ble_eq_true rfl) rfl dX11_later_35 ?_
        refine z_iconst (v := 0) X dX11_later_38 (by decide) ?_
        refine z_istore (lv' := [(5, .int 0), (0, .ref (ad 0)), (1, .int x1), (2, .int x2), (3, .int x3), (4, .int x4)]) X dX11_later_39 hl (by decide) rfl (fun ls hl => ?_)
        exact w_later_41 X Z FU x1 x2 x3 x4 0 r4.1 r4.2 ls (lv_sub hl [1, 2, 3, 4, 5, 0] rfl) hf
      · have hf := (if_pos c_).symm.trans hf
        refine z_iconst (v := -1) X dX11_later_30 (by decide) ?_
        exact m_iret X Z hf rfl dX11_later_31

theorem c_later (D : va_G) (cy : Nat → ClassId) (ad : Nat → Nat) {x1 : Int32} {x2 : Int32} {x3 : Int32} {x4 : Int32} {V : zI} {L : zL} {r' : Int32 × zI × zL} (hf : f_later x1 x2 x3 x4 V L = some r') : RMi (zR D cy ad) yX11_later cX11_later 6 .int 6 146 [.ref (ad 0), .int x1, .int x2, .int x3, .int x4] V L r'.1 r'.2.1 r'.2.2 :=
  RMi.of (by decide) zR_nd (Nat.le_of_ble_eq_true rfl) (fun M X Z ls hl => w_later X Z x1 x2 x3 x4 V L ls hl hf)
def b_comes_19 (k19 : Int32 × Int32 × Int32 × zI × zL → Option (Int32 × zI × zL)) : Int32 × Int32 × Int32 × zI × zL → Option (Int32 × zI × zL) := fun ⟨x1, x2, x3, V, L⟩ =>
  (f_isAhead x3 1 60 V L).bind fun r1 => (if r1.1 = 0 then some ((-1), r1.2.1, r1.2.2) else (f_passes 1 0 r1.2.1 r1.2.2).bind fun r2 => (if (lg_cmp (((r2.2 0 54) >>> ((((6 : Int32) * x1) + x2).toInt64 &&& 63)) &&& 1) 1) = 0 then some (x3, r2.1, r2.2) else k19 (x1, x2, (x3 + 1), r2.1, r2.2)))
def f_comes (x1 : Int32) (x2 : Int32) (V : zI) (L : zL) : Option (Int32 × zI × zL) :=
  (f_isPair x1 x2 V L).bind fun r1 => (if r1.1 = 0 then some ((-1), r1.2.1, r1.2.2) else (f_copies 1 0 r1.2.1 r1.2.2).bind fun r2 => zfix (b_comes_19) FU (x1, x2, 1, r2.1, r2.2))
set_option maxHeartbeats 4000000 in
set_option maxRecDepth 100000 in
theorem w_comes_19 {M : zM} {D : va_G} {cy : Nat → ClassId} {ad : Nat → Nat} {r' : Int32 × zI × zL} (X : RX M (zR D cy ad) cX11_comes 4 RX11 6 146) (Z : RZi M (zR D cy ad) .int r'.1 r'.2.1 r'.2.2) (n : Nat) : ∀ (x1 : Int32) (x2 : Int32) (x3 : Int32) (V : zI) (L : zL) (ls : Array Slot) (hl : lv_has ls 4 [(0, .ref (ad 0)), (1, .int x1), (2, .int x2), (3, .int x3)]) (hf : zfix (b_comes_19) n (x1, x2, x3, V, L) = some r'), RG M (zR D cy ad) V L 19 ls [] := by
  induction n with
  | zero => intro x1 x2 x3 V L ls hl hf; cases hf
  | succ n ih =>
  intro x1 x2 x3 V L ls hl hf
  have hk19 : ∀ (x1 : Int32) (x2 : Int32) (x3 : Int32) (V : zI) (L : zL) (ls : Array Slot), lv_has ls 4 [(0, .ref (ad 0)), (1, .int x1), (2, .int x2), (3, .int x3)] → zfix (b_comes_19) n (x1, x2, x3, V, L) = some r' → RG M (zR D cy ad) V L 19 ls [] := ih
  have hf : b_comes_19 (zfix (b_comes_19) n) (x1, x2, x3, V, L) = some r' := hf
  generalize zfix (b_comes_19) n = k19 at hk19 hf
  unfold b_comes_19 at hf
  clear ih
  refine z_aload_n X dX11_comes_19 rfl (lv_at hl 0 rfl) ?_
  refine z_iload_n X dX11_comes_20 rfl (lv_at hl 3 rfl) ?_
  refine z_iconst (v := 1) X dX11_comes_21 (by decide) ?_
  refine z_bipush (v := 60) X dX11_comes_22 (by decide) ?_
  obtain ⟨r1, hc1, hf⟩ := z_bind hf
  refine m_callVi [.int x3, .int 1, .int 60] X hl.1 (c_isAhead D cy ad hc1) gm_isAhead pd_isAhead rfl ⟨by decide, by decide⟩ (Nat.le_of_ble_eq_true rfl) rfl dX11_comes_24 ?_
  refine z_if_eq (tgt := 62) X dX11_comes_27 (by decide) (fun c_ => ?_) (fun c_ => ?_)
  · have hf := (if_pos c_).symm.trans hf
    refine z_iconst (v := -1) X dX11_comes_62 (by decide) ?_
    exact m_iret X Z hf rfl dX11_comes_63
  · have hf := (if_neg c_).symm.trans hf
    refine z_aload_n X dX11_comes_30 rfl (lv_at hl 0 rfl) ?_
    refine z_iconst (v := 1) X dX11_comes_31 (by decide) ?_
    refine z_iconst (v := 0) X dX11_comes_32 (by decide) ?_
    obtain ⟨r2, hc2, hf⟩ := z_bind hf
    refine m_callVv [.int 1, .int 0] X hl.1 (c_passes D cy ad hc2) gm_passes pd_passes rfl ⟨by decide, by decide⟩ (Nat.le_of_ble_eq_true rfl) rfl dX11_comes_33 ?_
    refine z_aload_n X dX11_comes_36 rfl (lv_at hl 0 rfl) ?_
    refine m_getl X ff_54 dX11_comes_37 ?_
    refine z_bipush (v := 6) X dX11_comes_40 (by decide) ?_
    refine z_iload_n X dX11_comes_42 rfl (lv_at hl 1 rfl) ?_
    refine z_imul X dX11_comes_43 ?_
    refine z_iload_n X dX11_comes_44 rfl (lv_at hl 2 rfl) ?_
    refine z_iadd X dX11_comes_45 ?_
    refine z_lshr X dX11_comes_46 ?_
    refine z_lconst (v := 1) X dX11_comes_47 (by decide) ?_
    refine z_land X dX11_comes_48 ?_
    refine z_lconst (v := 1) X dX11_comes_49 (by decide) ?_
    refine z_lcmp X dX11_comes_50 ?_
    refine z_if_ne (tgt := 56) X dX11_comes_51 (by decide) (fun c_ => ?_) (fun c_ => ?_)
    · have hf := (if_neg c_).symm.trans hf
      refine z_iinc (v := x3 + 1) (k0 := 3) (lv' := [(3, .int (x3 + 1)), (0, .ref (ad 0)), (1, .int x1), (2, .int x2)]) X dX11_comes_56 hl rfl rfl (by decide) rfl (fun ls hl => ?_)
      refine z_goto (tgt := 19) X dX11_comes_59 (by decide) ?_
      exact hk19 x1 x2 (x3 + 1) r2.1 r2.2 ls (lv_sub hl [1, 2, 3, 0] rfl) hf
    · have hf := (if_pos c_).symm.trans hf
      refine z_iload_n X dX11_comes_54 rfl (lv_at hl 3 rfl) ?_
      exact m_iret X Z hf rfl dX11_comes_55

set_option maxHeartbeats 4000000 in
set_option maxRecDepth 100000 in
theorem w_comes {M : zM} {D : va_G} {cy : Nat → ClassId} {ad : Nat → Nat} {r' : Int32 × zI × zL} (X : RX M (zR D cy ad) cX11_comes 4 RX11 6 146) (Z : RZi M (zR D cy ad) .int r'.1 r'.2.1 r'.2.2) (x1 : Int32) (x2 : Int32) (V : zI) (L : zL) (ls : Array Slot) (hl : lv_has ls 4 [(0, .ref (ad 0)), (1, .int x1), (2, .int x2)]) (hf : f_comes x1 x2 V L = some r') : RG M (zR D cy ad) V L 0 ls [] := by
  unfold f_comes at hf
  refine z_aload_n X dX11_comes_0 rfl (lv_at hl 0 rfl) ?_
  refine z_iload_n X dX11_comes_1 rfl (lv_at hl 1 rfl) ?_
  refine z_iload_n X dX11_comes_2 rfl (lv_at hl 2 rfl) ?_
  obtain ⟨r1, hc1, hf⟩ := z_bind hf
  refine m_callVi [.int x1, .int x2] X hl.1 (c_isPair D cy ad hc1) gm_isPair pd_isPair rfl ⟨by decide, by decide⟩ (Nat.le_of_ble_eq_true rfl) rfl dX11_comes_3 ?_
  refine z_if_ne (tgt := 11) X dX11_comes_6 (by decide) (fun c_ => ?_) (fun c_ => ?_)
  · have hf := (if_neg c_).symm.trans hf
    refine z_aload_n X dX11_comes_11 rfl (lv_at hl 0 rfl) ?_
    refine z_iconst (v := 1) X dX11_comes_12 (by decide) ?_
    refine z_iconst (v := 0) X dX11_comes_13 (by decide) ?_
    obtain ⟨r2, hc2, hf⟩ := z_bind hf
    refine m_callVv [.int 1, .int 0] X hl.1 (c_copies D cy ad hc2) gm_copies pd_copies rfl ⟨by decide, by decide⟩ (Nat.le_of_ble_eq_true rfl) rfl dX11_comes_14 ?_
    refine z_iconst (v := 1) X dX11_comes_17 (by decide) ?_
    refine z_istore_n (lv' := [(3, .int 1), (0, .ref (ad 0)), (1, .int x1), (2, .int x2)]) X dX11_comes_18 rfl hl (by decide) rfl (fun ls hl => ?_)
    exact w_comes_19 X Z FU x1 x2 1 r2.1 r2.2 ls (lv_sub hl [1, 2, 3, 0] rfl) hf
  · have hf := (if_pos c_).symm.trans hf
    refine z_iconst (v := -1) X dX11_comes_9 (by decide) ?_
    exact m_iret X Z hf rfl dX11_comes_10

theorem c_comes (D : va_G) (cy : Nat → ClassId) (ad : Nat → Nat) {x1 : Int32} {x2 : Int32} {V : zI} {L : zL} {r' : Int32 × zI × zL} (hf : f_comes x1 x2 V L = some r') : RMi (zR D cy ad) yX11_comes cX11_comes 4 .int 6 146 [.ref (ad 0), .int x1, .int x2] V L r'.1 r'.2.1 r'.2.2 :=
  RMi.of (by decide) zR_nd (Nat.le_of_ble_eq_true rfl) (fun M X Z ls hl => w_comes X Z x1 x2 V L ls hl hf)
def b_isSilent_2 (k2 : Int32 × Int32 × zI × zL → Option (Int32 × zI × zL)) : Int32 × Int32 × zI × zL → Option (Int32 × zI × zL) := fun ⟨x1, x2, V, L⟩ =>
  if inB (V 0 13) 2 then (if (V 2 (V 0 13).toNatClampNeg) ≤ x2 then if inB x1 22 then (if (V 24 x1.toNatClampNeg) = 0 then some (1, V, L) else some (0, V, L)) else none else (f_nextOf x1 x2 V L).bind fun r3 => (if r3.1 = (-1) then k2 (x1, (x2 + 1), r3.2.1, r3.2.2) else some (0, r3.2.1, r3.2.2))) else none
def f_isSilent (x1 : Int32) (V : zI) (L : zL) : Option (Int32 × zI × zL) :=
  zfix (b_isSilent_2) FU (x1, 0, V, L)
set_option maxHeartbeats 4000000 in
set_option maxRecDepth 100000 in
theorem w_isSilent_2 {M : zM} {D : va_G} {cy : Nat → ClassId} {ad : Nat → Nat} {r' : Int32 × zI × zL} (X : RX M (zR D cy ad) cX11_isSilent 3 RX11 5 119) (Z : RZi M (zR D cy ad) .boolean r'.1 r'.2.1 r'.2.2) (n : Nat) : ∀ (x1 : Int32) (x2 : Int32) (V : zI) (L : zL) (ls : Array Slot) (hl : lv_has ls 3 [(0, .ref (ad 0)), (1, .int x1), (2, .int x2)]) (hf : zfix (b_isSilent_2) n (x1, x2, V, L) = some r'), RG M (zR D cy ad) V L 2 ls [] := by
  induction n with
  | zero => intro x1 x2 V L ls hl hf; cases hf
  | succ n ih =>
  intro x1 x2 V L ls hl hf
  have hk2 : ∀ (x1 : Int32) (x2 : Int32) (V : zI) (L : zL) (ls : Array Slot), lv_has ls 3 [(0, .ref (ad 0)), (1, .int x1), (2, .int x2)] → zfix (b_isSilent_2) n (x1, x2, V, L) = some r' → RG M (zR D cy ad) V L 2 ls [] := ih
  have hf : b_isSilent_2 (zfix (b_isSilent_2) n) (x1, x2, V, L) = some r' := hf
  generalize zfix (b_isSilent_2) n = k2 at hk2 hf
  unfold b_isSilent_2 at hf
  clear ih
  refine z_iload_n X dX11_isSilent_2 rfl (lv_at hl 2 rfl) ?_
  refine z_aload_n X dX11_isSilent_3 rfl (lv_at hl 0 rfl) ?_
  refine m_geta X ff_14 dX11_isSilent_4 ?_
  refine z_aload_n X dX11_isSilent_7 rfl (lv_at hl 0 rfl) ?_
  refine m_geti X ff_13 dX11_isSilent_8 ?_
  obtain ⟨hb1, hf⟩ := z_ite hf
  refine m_iald X pa_2 hb1 dX11_isSilent_11 ?_
  refine z_icmp_ge (tgt := 33) X dX11_isSilent_12 (by decide) (fun c_ => ?_) (fun c_ => ?_)
  · have hf := (if_pos c_).symm.trans hf
    refine z_aload_n X dX11_isSilent_33 rfl (lv_at hl 0 rfl) ?_
    refine m_geta X ff_43 dX11_isSilent_34 ?_
    refine z_iload_n X dX11_isSilent_37 rfl (lv_at hl 1 rfl) ?_
    obtain ⟨hb2, hf⟩ := z_ite hf
    refine m_iald X pa_24 hb2 dX11_isSilent_38 ?_
    refine z_if_ne (tgt := 46) X dX11_isSilent_39 (by decide) (fun c_ => ?_) (fun c_ => ?_)
    · have hf := (if_neg c_).symm.trans hf
      refine z_iconst (v := 0) X dX11_isSilent_46 (by decide) ?_
      exact m_iret X Z hf (by decide) dX11_isSilent_47
    · have hf := (if_pos c_).symm.trans hf
      refine z_iconst (v := 1) X dX11_isSilent_42 (by decide) ?_
      refine z_goto (tgt := 47) X dX11_isSilent_43 (by decide) ?_
      exact m_iret X Z hf (by decide) dX11_isSilent_47
  · have hf := (if_neg c_).symm.trans hf
    refine z_aload_n X dX11_isSilent_15 rfl (lv_at hl 0 rfl) ?_
    refine z_iload_n X dX11_isSilent_16 rfl (lv_at hl 1 rfl) ?_
    refine z_iload_n X dX11_isSilent_17 rfl (lv_at hl 2 rfl) ?_
    obtain ⟨r3, hc3, hf⟩ := z_bind hf
    refine m_callVi [.int x1, .int x2] X hl.1 (c_nextOf D cy ad hc3) gm_nextOf pd_nextOf rfl ⟨by decide, by decide⟩ (Nat.le_of_ble_eq_true rfl) rfl dX11_isSilent_18 ?_
    refine z_iconst (v := -1) X dX11_isSilent_21 (by decide) ?_
    refine z_icmp_eq (tgt := 27) X dX11_isSilent_22 (by decide) (fun c_ => ?_) (fun c_ => ?_)
    · have hf := (if_pos c_).symm.trans hf
      refine z_iinc (v := x2 + 1) (k0 := 2) (lv' := [(2, .int (x2 + 1)), (0, .ref (ad 0)), (1, .int x1)]) X dX11_isSilent_27 hl rfl rfl (by decide) rfl (fun ls hl => ?_)
      refine z_goto (tgt := 2) X dX11_isSilent_30 (by decide) ?_
      exact hk2 x1 (x2 + 1) r3.2.1 r3.2.2 ls (lv_sub hl [1, 2, 0] rfl) hf
    · have hf := (if_neg c_).symm.trans hf
      refine z_iconst (v := 0) X dX11_isSilent_25 (by decide) ?_
      exact m_iret X Z hf (by decide) dX11_isSilent_26

set_option maxHeartbeats 4000000 in
set_option maxRecDepth 100000 in
theorem w_isSilent {M : zM} {D : va_G} {cy : Nat → ClassId} {ad : Nat → Nat} {r' : Int32 × zI × zL} (X : RX M (zR D cy ad) cX11_isSilent 3 RX11 5 119) (Z : RZi M (zR D cy ad) .boolean r'.1 r'.2.1 r'.2.2) (x1 : Int32) (V : zI) (L : zL) (ls : Array Slot) (hl : lv_has ls 3 [(0, .ref (ad 0)), (1, .int x1)]) (hf : f_isSilent x1 V L = some r') : RG M (zR D cy ad) V L 0 ls [] := by
  unfold f_isSilent at hf
  refine z_iconst (v := 0) X dX11_isSilent_0 (by decide) ?_
  refine z_istore_n (lv' := [(2, .int 0), (0, .ref (ad 0)), (1, .int x1)]) X dX11_isSilent_1 rfl hl (by decide) rfl (fun ls hl => ?_)
  exact w_isSilent_2 X Z FU x1 0 V L ls (lv_sub hl [1, 2, 0] rfl) hf

theorem c_isSilent (D : va_G) (cy : Nat → ClassId) (ad : Nat → Nat) {x1 : Int32} {V : zI} {L : zL} {r' : Int32 × zI × zL} (hf : f_isSilent x1 V L = some r') : RMi (zR D cy ad) yX11_isSilent cX11_isSilent 3 .boolean 5 119 [.ref (ad 0), .int x1] V L r'.1 r'.2.1 r'.2.2 :=
  RMi.of (by decide) zR_nd (Nat.le_of_ble_eq_true rfl) (fun M X Z ls hl => w_isSilent X Z x1 V L ls hl hf)
