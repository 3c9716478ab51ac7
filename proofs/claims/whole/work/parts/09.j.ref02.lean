def f_must__29 (V : zI) (L : zL) : Option (zI × zL) :=
  (if (V 0 8) = 0 then (f_ahead V L).bind fun r1 => some (r1.1, r1.2) else some (V, L))
def f_must_ (x1 : Int64) (V : zI) (L : zL) : Option (zI × zL) :=
  (f_lex V L).bind fun r1 => (if (r1.1 0 8) ≤ 0 then (f_isWord x1 r1.1 r1.2).bind fun r2 => (if r2.1 = 0 then (f_blame 1 (r2.2.1 0 4) r2.2.1 r2.2.2).bind fun r3 => f_must__29 r3.1 r3.2 else f_must__29 r2.2.1 r2.2.2) else some (r1.1, r1.2))
set_option maxHeartbeats 4000000 in
set_option maxRecDepth 100000 in
theorem w_must__29 {M : zM} {D : va_G} {cy : Nat → ClassId} {ad : Nat → Nat} {r' : zI × zL} (X : RX M (zR D cy ad) cX11_must_ 3 RX11 2 45) (Z : RZv M (zR D cy ad) r'.1 r'.2)  (V : zI) (L : zL) (ls : Array Slot) (hl : lv_has ls 3 [(0, .ref (ad 0))]) (hf : f_must__29 V L = some r') : RG M (zR D cy ad) V L 29 ls [] := by
  unfold f_must__29 at hf
  refine z_aload_n X dX11_must__29 rfl (lv_at hl 0 rfl) ?_
  refine m_geti X ff_8 dX11_must__30 ?_
  refine z_if_ne (tgt := 40) X dX11_must__33 (by decide) (fun c_ => ?_) (fun c_ => ?_)
  · have hf := (if_neg c_).symm.trans hf
    exact m_vret X Z hf dX11_must__40
  · have hf := (if_pos c_).symm.trans hf
    refine z_aload_n X dX11_must__36 rfl (lv_at hl 0 rfl) ?_
    obtain ⟨r1, hc1, hf⟩ := z_bind hf
    refine m_callVv [] X hl.1 (c_ahead D cy ad hc1) gm_ahead pd_ahead rfl ⟨by decide, by decide⟩ (Nat.le_of_ble_eq_true rfl) rfl dX11_must__37 ?_
    exact m_vret X Z hf dX11_must__40

set_option maxHeartbeats 4000000 in
set_option maxRecDepth 100000 in
theorem w_must_ {M : zM} {D : va_G} {cy : Nat → ClassId} {ad : Nat → Nat} {r' : zI × zL} (X : RX M (zR D cy ad) cX11_must_ 3 RX11 2 45) (Z : RZv M (zR D cy ad) r'.1 r'.2) (x1 : Int64) (V : zI) (L : zL) (ls : Array Slot) (hl : lv_has ls 3 [(0, .ref (ad 0)), (1, .long x1)]) (hf : f_must_ x1 V L = some r') : RG M (zR D cy ad) V L 0 ls [] := by
  unfold f_must_ at hf
  refine z_aload_n X dX11_must__0 rfl (lv_at hl 0 rfl) ?_
  obtain ⟨r1, hc1, hf⟩ := z_bind hf
  refine m_callVv [] X hl.1 (c_lex D cy ad hc1) gm_lex pd_lex rfl ⟨by decide, by decide⟩ (Nat.le_of_ble_eq_true rfl) rfl dX11_must__1 ?_
  refine z_aload_n X dX11_must__4 rfl (lv_at hl 0 rfl) ?_
  refine m_geti X ff_8 dX11_must__5 ?_
  refine z_if_le (tgt := 12) X dX11_must__8 (by decide) (fun c_ => ?_) (fun c_ => ?_)
  · have hf := (if_pos c_).symm.trans hf
    refine z_aload_n X dX11_must__12 rfl (lv_at hl 0 rfl) ?_
    refine z_lload_n X dX11_must__13 rfl (lv_at hl 1 rfl) ?_
    obtain ⟨r2, hc2, hf⟩ := z_bind hf
    refine m_callVi [.long x1] X hl.1 (c_isWord D cy ad hc2) gm_isWord pd_isWord rfl ⟨by decide, by decide⟩ (Nat.le_of_ble_eq_true rfl) rfl dX11_must__14 ?_
    refine z_if_ne (tgt := 29) X dX11_must__17 (by decide) (fun c_ => ?_) (fun c_ => ?_)
    · have hf := (if_neg c_).symm.trans hf
      exact w_must__29 X Z r2.2.1 r2.2.2 ls (lv_sub hl [0] rfl) hf
    · have hf := (if_pos c_).symm.trans hf
      refine z_aload_n X dX11_must__20 rfl (lv_at hl 0 rfl) ?_
      refine z_iconst (v := 1) X dX11_must__21 (by decide) ?_
      refine z_aload_n X dX11_must__22 rfl (lv_at hl 0 rfl) ?_
      refine m_geti X ff_4 dX11_must__23 ?_
      obtain ⟨r3, hc3, hf⟩ := z_bind hf
      refine m_callVv [.int 1, .int (r2.2.1 0 4)] X hl.1 (c_blame D cy ad hc3) gm_blame pd_blame rfl ⟨by decide, by decide⟩ (Nat.le_of_ble_eq_true rfl) rfl dX11_must__26 ?_
      exact w_must__29 X Z r3.1 r3.2 ls (lv_sub hl [0] rfl) hf
  · have hf := (if_neg c_).symm.trans hf
    exact m_vret X Z hf dX11_must__11

theorem c_must_ (D : va_G) (cy : Nat → ClassId) (ad : Nat → Nat) {x1 : Int64} {V : zI} {L : zL} {r' : zI × zL} (hf : f_must_ x1 V L = some r') : RMv (zR D cy ad) yX11_must_ cX11_must_ 3 2 45 [.ref (ad 0), .long x1] V L r'.1 r'.2 :=
  RMv.of (by decide) zR_nd (Nat.le_of_ble_eq_true rfl) (fun M X Z ls hl => w_must_ X Z x1 V L ls hl hf)
def f_has2 (x0 : Int32) (x1 : Int32) : Option (Int32) :=
  (if ((x0 >>> (x1 &&& 31)) &&& 1) = 1 then some 1 else some 0)
set_option maxHeartbeats 4000000 in
set_option maxRecDepth 100000 in
theorem w_has2 {M : zM} {D : va_G} {cy : Nat → ClassId} {ad : Nat → Nat} {V : zI} {L : zL} {r' : Int32} (X : RX M (zR D cy ad) cX11_has2 2 RX11 0 0) (Z : RZi M (zR D cy ad) .boolean r' V L) (x0 : Int32) (x1 : Int32) (ls : Array Slot) (hl : lv_has ls 2 [(0, .int x0), (1, .int x1)]) (hf : f_has2 x0 x1 = some r') : RG M (zR D cy ad) V L 0 ls [] := by
  unfold f_has2 at hf
  refine z_iload_n X dX11_has2_0 rfl (lv_at hl 0 rfl) ?_
  refine z_iload_n X dX11_has2_1 rfl (lv_at hl 1 rfl) ?_
  refine z_ishr X dX11_has2_2 ?_
  refine z_iconst (v := 1) X dX11_has2_3 (by decide) ?_
  refine z_iand X dX11_has2_4 ?_
  refine z_iconst (v := 1) X dX11_has2_5 (by decide) ?_
  refine z_icmp_ne (tgt := 13) X dX11_has2_6 (by decide) (fun c_ => ?_) (fun c_ => ?_)
  · have hf := (if_neg c_).symm.trans hf
    refine z_iconst (v := 0) X dX11_has2_13 (by decide) ?_
    exact m_iretS X Z hf (by decide) dX11_has2_14
  · have hf := (if_pos c_).symm.trans hf
    refine z_iconst (v := 1) X dX11_has2_9 (by decide) ?_
    refine z_goto (tgt := 14) X dX11_has2_10 (by decide) ?_
    exact m_iretS X Z hf (by decide) dX11_has2_14

theorem c_has2 (D : va_G) (cy : Nat → ClassId) (ad : Nat → Nat) {x0 : Int32} {x1 : Int32} {V : zI} {L : zL} {r' : Int32} (hf : f_has2 x0 x1 = some r') : RMi (zR D cy ad) yX11_has2 cX11_has2 2 .boolean 0 0 [.int x0, .int x1] V L r' V L :=
  RMi.of (by decide) zR_nd (Nat.le_of_ble_eq_true rfl) (fun M X Z ls hl => w_has2 X Z x0 x1 ls hl hf)
def f_knownBut_101 (x2 : Int32) (V : zI) (L : zL) : Option (Int32 × zI × zL) :=
  (if (V 0 8) ≤ 0 then some (x2, V, L) else some (0, V, L))
def f_knownBut_90 (x2 : Int32) (V : zI) (L : zL) : Option (Int32 × zI × zL) :=
  (if (V 0 8) = 0 then (f_ahead V L).bind fun r1 => f_knownBut_101 x2 r1.1 r1.2 else f_knownBut_101 x2 V L)
def f_knownBut_81 (x2 : Int32) (V : zI) (L : zL) : Option (Int32 × zI × zL) :=
  (f_blame 3 (V 0 4) V L).bind fun r1 => f_knownBut_90 x2 r1.1 r1.2
def f_knownBut_60 (x1 : Int32) (s0 : Int32) (V : zI) (L : zL) : Option (Int32 × zI × zL) :=
  (if (V 0 8) = 0 then (if s0 = (-1) then f_knownBut_81 s0 V L else (f_has2 x1 s0).bind fun r1 => (if r1 = 0 then f_knownBut_90 s0 V L else f_knownBut_81 s0 V L)) else f_knownBut_90 s0 V L)
def f_knownBut_41 (x1 : Int32) (V : zI) (L : zL) : Option (Int32 × zI × zL) :=
  (if (V 0 8) ≤ 0 then (f_named (L 0 7) V L).bind fun r1 => f_knownBut_60 x1 r1.1 r1.2.1 r1.2.2 else f_knownBut_60 x1 0 V L)
def f_knownBut_32 (x1 : Int32) (V : zI) (L : zL) : Option (Int32 × zI × zL) :=
  (f_blame 1 (V 0 4) V L).bind fun r1 => f_knownBut_41 x1 r1.1 r1.2
def f_knownBut (x1 : Int32) (V : zI) (L : zL) : Option (Int32 × zI × zL) :=
  (f_lex V L).bind fun r1 => (if (r1.1 0 8) ≤ 0 then (if (r1.1 0 3) = 1 then (f_isOwn (r1.2 0 7) r1.1 r1.2).bind fun r2 => (if r2.1 = 0 then f_knownBut_41 x1 r2.2.1 r2.2.2 else f_knownBut_32 x1 r2.2.1 r2.2.2) else f_knownBut_32 x1 r1.1 r1.2) else some (0, r1.1, r1.2))
set_option maxHeartbeats 4000000 in
set_option maxRecDepth 100000 in
theorem w_knownBut_101 {M : zM} {D : va_G} {cy : Nat → ClassId} {ad : Nat → Nat} {r' : Int32 × zI × zL} (X : RX M (zR D cy ad) cX11_knownBut 3 RX11 2 45) (Z : RZi M (zR D cy ad) .int r'.1 r'.2.1 r'.2.2) (x2 : Int32) (V : zI) (L : zL) (ls : Array Slot) (hl : lv_has ls 3 [(0, .ref (ad 0)), (2, .int x2)]) (hf : f_knownBut_101 x2 V L = some r') : RG M (zR D cy ad) V L 101 ls [] := by
  unfold f_knownBut_101 at hf
  refine z_aload_n X dX11_knownBut_101 rfl (lv_at hl 0 rfl) ?_
  refine m_geti X ff_8 dX11_knownBut_102 ?_
  refine z_if_le (tgt := 112) X dX11_knownBut_105 (by decide) (fun c_ => ?_) (fun c_ => ?_)
  · have hf := (if_pos c_).symm.trans hf
    refine z_iload_n X dX11_knownBut_112 rfl (lv_at hl 1 rfl) ?_
    exact m_iret X Z hf rfl dX11_knownBut_113
  · have hf := (if_neg c_).symm.trans hf
    refine z_iconst (v := 0) X dX11_knownBut_108 (by decide) ?_
    refine z_goto (tgt := 113) X dX11_knownBut_109 (by decide) ?_
    exact m_iret X Z hf rfl dX11_knownBut_113

set_option maxHeartbeats 4000000 in
set_option maxRecDepth 100000 in
theorem w_knownBut_90 {M : zM} {D : va_G} {cy : Nat → ClassId} {ad : Nat → Nat} {r' : Int32 × zI × zL} (X : RX M (zR D cy ad) cX11_knownBut 3 RX11 2 45) (Z : RZi M (zR D cy ad) .int r'.1 r'.2.1 r'.2.2) (x2 : Int32) (V : zI) (L : zL) (ls : Array Slot) (hl : lv_has ls 3 [(0, .ref (ad 0)), (2, .int x2)]) (hf : f_knownBut_90 x2 V L = some r') : RG M (zR D cy ad) V L 90 ls [] := by
  unfold f_knownBut_90 at hf
  refine z_aload_n X dX11_knownBut_90 rfl (lv_at hl 0 rfl) ?_
  refine m_geti X ff_8 dX11_knownBut_91 ?_
  refine z_if_ne (tgt := 101) X dX11_knownBut_94 (by decide) (fun c_ => ?_) (fun c_ => ?_)
  · have hf := (if_neg c_).symm.trans hf
    exact w_knownBut_101 X Z x2 V L ls (lv_sub hl [0, 1] rfl) hf
  · have hf := (if_pos c_).symm.trans hf
    refine z_aload_n X dX11_knownBut_97 rfl (lv_at hl 0 rfl) ?_
    obtain ⟨r1, hc1, hf⟩ := z_bind hf
    refine m_callVv [] X hl.1 (c_ahead D cy ad hc1) gm_ahead pd_ahead rfl ⟨by decide, by decide⟩ (Nat.le_of_ble_eq_true rfl) rfl dX11_knownBut_98 ?_
    exact w_knownBut_101 X Z x2 r1.1 r1.2 ls (lv_sub hl [0, 1] rfl) hf

set_option maxHeartbeats 4000000 in
set_option maxRecDepth 100000 in
theorem w_knownBut_81 {M : zM} {D : va_G} {cy : Nat → ClassId} {ad : Nat → Nat} {r' : Int32 × zI × zL} (X : RX M (zR D cy ad) cX11_knownBut 3 RX11 2 45) (Z : RZi M (zR D cy ad) .int r'.1 r'.2.1 r'.2.2) (x2 : Int32) (V : zI) (L : zL) (ls : Array Slot) (hl : lv_has ls 3 [(0, .ref (ad 0)), (2, .int x2)]) (hf : f_knownBut_81 x2 V L = some r') : RG M (zR D cy ad) V L 81 ls [] := by
  unfold f_knownBut_81 at hf
  refine z_aload_n X dX11_knownBut_81 rfl (lv_at hl 0 rfl) ?_
  refine z_iconst (v := 3) X dX11_knownBut_82 (by decide) ?_
  refine z_aload_n X dX11_knownBut_83 rfl (lv_at hl 0 rfl) ?_
  refine m_geti X ff_4 dX11_knownBut_84 ?_
  obtain ⟨r1, hc1, hf⟩ := z_bind hf
  refine m_callVv [.int 3, .int (V 0 4)] X hl.1 (c_blame D cy ad hc1) gm_blame pd_blame rfl ⟨by decide, by decide⟩ (Nat.le_of_ble_eq_true rfl) rfl dX11_knownBut_87 ?_
  exact w_knownBut_90 X Z x2 r1.1 r1.2 ls (lv_sub hl [0, 1] rfl) hf

set_option maxHeartbeats 4000000 in
set_option maxRecDepth 100000 in
theorem w_knownBut_60 {M : zM} {D : va_G} {cy : Nat → ClassId} {ad : Nat → Nat} {r' : Int32 × zI × zL} (X : RX M (zR D cy ad) cX11_knownBut 3 RX11 2 45) (Z : RZi M (zR D cy ad) .int r'.1 r'.2.1 r'.2.2) (x1 : Int32) (s0 : Int32) (V : zI) (L : zL) (ls : Array Slot) (hl : lv_has ls 3 [(0, .ref (ad 0)), (1, .int x1)]) (hf : f_knownBut_60 x1 s0 V L = some r') : RG M (zR D cy ad) V L 60 ls [.int s0] := by
  unfold f_knownBut_60 at hf
  refine z_istore_n (lv' := [(2, .int s0), (0, .ref (ad 0)), (1, .int x1)]) X dX11_knownBut_60 rfl hl (by decide) rfl (fun ls hl => ?_)
  refine z_aload_n X dX11_knownBut_61 rfl (lv_at hl 1 rfl) ?_
  refine m_geti X ff_8 dX11_knownBut_62 ?_
  refine z_if_ne (tgt := 90) X dX11_knownBut_65 (by decide) (fun c_ => ?_) (fun c_ => ?_)
  · have hf := (if_neg c_).symm.trans hf
    exact w_knownBut_90 X Z s0 V L ls (lv_sub hl [1, 0] rfl) hf
  · have hf := (if_pos c_).symm.trans hf
    refine z_iload_n X dX11_knownBut_68 rfl (lv_at hl 0 rfl) ?_
    refine z_iconst (v := -1) X dX11_knownBut_69 (by decide) ?_
    refine z_icmp_eq (tgt := 81) X dX11_knownBut_70 (by decide) (fun c_ => ?_) (fun c_ => ?_)
    · have hf := (if_pos c_).symm.trans hf
      exact w_knownBut_81 X Z s0 V L ls (lv_sub hl [1, 0] rfl) hf
    · have hf := (if_neg c_).symm.trans hf
      refine z_iload_n X dX11_knownBut_73 rfl (lv_at hl 2 rfl) ?_
      refine z_iload_n X dX11_knownBut_74 rfl (lv_at hl 0 rfl) ?_
      obtain ⟨r1, hc1, hf⟩ := z_bind hf
      refine m_callSi [.int x1, .int s0] X hl.1 (c_has2 D cy ad hc1) gm_has2 pd_has2 rfl ⟨by decide, by decide⟩ (Nat.le_of_ble_eq_true rfl) rfl dX11_knownBut_75 ?_
      refine z_if_eq (tgt := 90) X dX11_knownBut_78 (by decide) (fun c_ => ?_) (fun c_ => ?_)
      · have hf := (if_pos c_).symm.trans hf
        exact w_knownBut_90 X Z s0 V L ls (lv_sub hl [1, 0] rfl) hf
      · have hf := (if_neg c_).symm.trans hf
        exact w_knownBut_81 X Z s0 V L ls (lv_sub hl [1, 0] rfl) hf

set_option maxHeartbeats 4000000 in
set_option maxRecDepth 100000 in
theorem w_knownBut_41 {M : zM} {D : va_G} {cy : Nat → ClassId} {ad : Nat → Nat} {r' : Int32 × zI × zL} (X : RX M (zR D cy ad) cX11_knownBut 3 RX11 2 45) (Z : RZi M (zR D cy ad) .int r'.1 r'.2.1 r'.2.2) (x1 : Int32) (V : zI) (L : zL) (ls : Array Slot) (hl : lv_has ls 3 [(0, .ref (ad 0)), (1, .int x1)]) (hf : f_knownBut_41 x1 V L = some r') : RG M (zR D cy ad) V L 41 ls [] := by
  unfold f_knownBut_41 at hf
  refine z_aload_n X dX11_knownBut_41 rfl (lv_at hl 0 rfl) ?_
  refine m_geti X ff_8 dX11_knownBut_42 ?_
  refine z_if_le (tgt := 52) X dX11_knownBut_45 (by decide) (fun c_ => ?_) (fun c_ => ?_)
  · have hf := (if_pos c_).symm.trans hf
    refine z_aload_n X dX11_knownBut_52 rfl (lv_at hl 0 rfl) ?_
    refine z_aload_n X dX11_knownBut_53 rfl (lv_at hl 0 rfl) ?_
    refine m_getl X ff_7 dX11_knownBut_54 ?_
    obtain ⟨r1, hc1, hf⟩ := z_bind hf
    refine m_callVi [.long (L 0 7)] X hl.1 (c_named D cy ad hc1) gm_named pd_named rfl ⟨by decide, by decide⟩ (Nat.le_of_ble_eq_true rfl) rfl dX11_knownBut_57 ?_
    exact w_knownBut_60 X Z x1 r1.1 r1.2.1 r1.2.2 ls (lv_sub hl [0, 1] rfl) hf
  · have hf := (if_neg c_).symm.trans hf
    refine z_iconst (v := 0) X dX11_knownBut_48 (by decide) ?_
    refine z_goto (tgt := 60) X dX11_knownBut_49 (by decide) ?_
    exact w_knownBut_60 X Z x1 0 V L ls (lv_sub hl [0, 1] rfl) hf

set_option maxHeartbeats 4000000 in
set_option maxRecDepth 100000 in
theorem w_knownBut_32 {M : zM} {D : va_G} {cy : Nat → ClassId} {ad : Nat → Nat} {r' : Int32 × zI × zL} (X : RX M (zR D cy ad) cX11_knownBut 3 RX11 2 45) (Z : RZi M (zR D cy ad) .int r'.1 r'.2.1 r'.2.2) (x1 : Int32) (V : zI) (L : zL) (ls : Array Slot) (hl : lv_has ls 3 [(0, .ref (ad 0)), (1, .int x1)]) (hf : f_knownBut_32 x1 V L = some r') : RG M (zR D cy ad) V L 32 ls [] := by
  unfold f_knownBut_32 at hf
  refine z_aload_n X dX11_knownBut_32 rfl (lv_at hl 0 rfl) ?_
  refine z_iconst (v := 1) X dX11_knownBut_33 (by decide) ?_
  refine z_aload_n X dX11_knownBut_34 rfl (lv_at hl 0 rfl) ?_
  refine m_geti X ff_4 dX11_knownBut_35 ?_
  obtain ⟨r1, hc1, hf⟩ := z_bind hf
  refine m_callVv [.int 1, .int (V 0 4)] X hl.1 (c_blame D cy ad hc1) gm_blame pd_blame rfl ⟨by decide, by decide⟩ (Nat.le_of_ble_eq_true rfl) rfl dX11_knownBut_38 ?_
  exact w_knownBut_41 X Z x1 r1.1 r1.2 ls (lv_sub hl [0, 1] rfl) hf

set_option maxHeartbeats 4000000 in
set_option maxRecDepth 100000 in
theorem w_knownBut {M : zM} {D : va_G} {cy : Nat → ClassId} {ad : Nat → Nat} {r' : Int32 × zI × zL} (X : RX M (zR D cy ad) cX11_knownBut 3 RX11 2 45) (Z : RZi M (zR D cy ad) .int r'.1 r'.2.1 r'.2.2) (x1 : Int32) (V : zI) (L : zL) (ls : Array Slot) (hl : lv_has ls 3 [(0, .ref (ad 0)), (1, .int x1)]) (hf : f_knownBut x1 V L = some r') : RG M (zR D cy ad) V L 0 ls [] := by
  unfold f_knownBut at hf
  refine z_aload_n X dX11_knownBut_0 rfl (lv_at hl 0 rfl) ?_
  obtain ⟨r1, hc1, hf⟩ := z_bind hf
  refine m_callVv [] X hl.1 (c_lex D cy ad hc1) gm_lex pd_lex rfl ⟨by decide, by decide⟩ (Nat.le_of_ble_eq_true rfl) rfl dX11_knownBut_1 ?_
  refine z_aload_n X dX11_knownBut_4 rfl (lv_at hl 0 rfl) ?_
  refine m_geti X ff_8 dX11_knownBut_5 ?_
  refine z_if_le (tgt := 13) X dX11_knownBut_8 (by decide) (fun c_ => ?_) (fun c_ => ?_)
  · have hf := (if_pos c_).symm.trans hf
    refine z_aload_n X dX11_knownBut_13 rfl (lv_at hl 0 rfl) ?_
    refine m_geti X ff_3 dX11_knownBut_14 ?_
    refine z_iconst (v := 1) X dX11_knownBut_17 (by decide) ?_
    refine z_icmp_ne (tgt := 32) X dX11_knownBut_18 (by decide) (fun c_ => ?_) (fun c_ => ?_)
    · have hf := (if_neg c_).symm.trans hf
      exact w_knownBut_32 X Z x1 r1.1 r1.2 ls (lv_sub hl [0, 1] rfl) hf
    · have hf := (if_pos c_).symm.trans hf
      refine z_aload_n X dX11_knownBut_21 rfl (lv_at hl 0 rfl) ?_
      refine z_aload_n X dX11_knownBut_22 rfl (lv_at hl 0 rfl) ?_
      refine m_getl X ff_7 dX11_knownBut_23 ?_
      obtain ⟨r2, hc2, hf⟩ := z_bind hf
      refine m_callVi [.long (r1.2 0 7)] X hl.1 (c_isOwn D cy ad hc2) gm_isOwn pd_isOwn rfl ⟨by decide, by decide⟩ (Nat.le_of_ble_eq_true rfl) rfl dX11_knownBut_26 ?_
      refine z_if_eq (tgt := 41) X dX11_knownBut_29 (by decide) (fun c_ => ?_) (fun c_ => ?_)
      · have hf := (if_pos c_).symm.trans hf
        exact w_knownBut_41 X Z x1 r2.2.1 r2.2.2 ls (lv_sub hl [0, 1] rfl) hf
      · have hf := (if_neg c_).symm.trans hf
        exact w_knownBut_32 X Z x1 r2.2.1 r2.2.2 ls (lv_sub hl [0, 1] rfl) hf
  · have hf := (if_neg c_).symm.trans hf
    refine z_iconst (v := 0) X dX11_knownBut_11 (by decide) ?_
    exact m_iret X Z hf rfl dX11_knownBut_12

theorem c_knownBut (D : va_G) (cy : Nat → ClassId) (ad : Nat → Nat) {x1 : Int32} {V : zI} {L : zL} {r' : Int32 × zI × zL} (hf : f_knownBut x1 V L = some r') : RMi (zR D cy ad) yX11_knownBut cX11_knownBut 3 .int 2 45 [.ref (ad 0), .int x1] V L r'.1 r'.2.1 r'.2.2 :=
  RMi.of (by decide) zR_nd (Nat.le_of_ble_eq_true rfl) (fun M X Z ls hl => w_knownBut X Z x1 V L ls hl hf)
def f_towning_95 (V : zI) (L : zL) : Option (zI × zL) :=
  (if (V 0 8) ≤ 0 then if inB (V 0 26) 2 then if inB (((6 : Int32) * (V 0 26)) + (V 2 (V 0 26).toNatClampNeg)) 12 then (f_ahead V (z_uL L 12 (((6 : Int32) * (V 0 26)) + (V 2 (V 0 26).toNatClampNeg)).toNatClampNeg (L 0 7))).bind fun r3 => if inB (r3.1 0 26) 2 then if inB (r3.1 0 26) 2 then some (z_uI r3.1 2 (r3.1 0 26).toNatClampNeg ((r3.1 2 (r3.1 0 26).toNatClampNeg) + 1), r3.2) else none else none else none else none else some (V, L))
def f_towning_67 (V : zI) (L : zL) : Option (zI × zL) :=
  (if (V 0 8) = 0 then (f_named (L 0 7) V L).bind fun r1 => (if r1.1 = (-1) then f_towning_95 r1.2.1 r1.2.2 else (f_blame 2 (r1.2.1 0 4) r1.2.1 r1.2.2).bind fun r2 => f_towning_95 r2.1 r2.2) else f_towning_95 V L)
def f_towning_58 (V : zI) (L : zL) : Option (zI × zL) :=
  (f_blame 1 (V 0 4) V L).bind fun r1 => f_towning_67 r1.1 r1.2
def f_towning_20 (s1 : Int32) (V : zI) (L : zL) : Option (zI × zL) :=
  (f_counts s1 V L).bind fun r1 => (if r1.1 = 0 then some (r1.2.1, r1.2.2) else (f_lex r1.2.1 r1.2.2).bind fun r2 => (if (r2.1 0 8) ≤ 0 then (if (r2.1 0 3) = 1 then (f_isOwn (r2.2 0 7) r2.1 r2.2).bind fun r3 => (if r3.1 = 0 then f_towning_67 r3.2.1 r3.2.2 else f_towning_58 r3.2.1 r3.2.2) else f_towning_58 r2.1 r2.2) else some (r2.1, r2.2)))
def f_towning (V : zI) (L : zL) : Option (zI × zL) :=
  if inB (V 0 26) 2 then (if (V 2 (V 0 26).toNatClampNeg) = 6 then f_towning_20 1 V L else f_towning_20 0 V L) else none
set_option maxHeartbeats 4000000 in
set_option maxRecDepth 100000 in
theorem w_towning_95 {M : zM} {D : va_G} {cy : Nat → ClassId} {ad : Nat → Nat} {r' : zI × zL} (X : RX M (zR D cy ad) cX11_towning 1 RX11 3 66) (Z : RZv M (zR D cy ad) r'.1 r'.2)  (V : zI) (L : zL) (ls : Array Slot) (hl : lv_has ls 1 [(0, .ref (ad 0))]) (hf : f_towning_95 V L = some r') : RG M (zR D cy ad) V L 95 ls [] := by
  unfold f_towning_95 at hf
  refine z_aload_n X dX11_towning_95 rfl (lv_at hl 0 rfl) ?_
  refine m_geti X ff_8 dX11_towning_96 ?_
  refine z_if_le (tgt := 103) X dX11_towning_99 (by decide) (fun c_ => ?_) (fun c_ => ?_)
  · have hf := (if_pos c_).symm.trans hf
    refine z_aload_n X dX11_towning_103 rfl (lv_at hl 0 rfl) ?_
    refine m_geta X ff_24 dX11_towning_104 ?_
    refine z_bipush (v := 6) X dX11_towning_107 (by decide) ?_
    refine z_aload_n X dX11_towning_109 rfl (lv_at hl 0 rfl) ?_
    refine m_geti X ff_26 dX11_towning_110 ?_
    refine z_imul X dX11_towning_113 ?_
    refine z_aload_n X dX11_towning_114 rfl (lv_at hl 0 rfl) ?_
    refine m_geta X ff_14 dX11_towning_115 ?_
    refine z_aload_n X dX11_towning_118 rfl (lv_at hl 0 rfl) ?_
    refine m_geti X ff_26 dX11_towning_119 ?_
    obtain ⟨hb1, hf⟩ := z_ite hf
    refine m_iald X pa_2 hb1 dX11_towning_122 ?_
    refine z_iadd X dX11_towning_123 ?_
    refine z_aload_n X dX11_towning_124 rfl (lv_at hl 0 rfl) ?_
    refine m_getl X ff_7 dX11_towning_125 ?_
    obtain ⟨hb2, hf⟩ := z_ite hf
    refine m_last X pa_12 hb2 dX11_towning_128 ?_
    refine z_aload_n X dX11_towning_129 rfl (lv_at hl 0 rfl) ?_
    obtain ⟨r3, hc3, hf⟩ := z_bind hf
    refine m_callVv [] X hl.1 (c_ahead D cy ad hc3) gm_ahead pd_ahead rfl ⟨by decide, by decide⟩ (Nat.le_of_ble_eq_true rfl) rfl dX11_towning_130 ?_
    refine z_aload_n X dX11_towning_133 rfl (lv_at hl 0 rfl) ?_
    refine m_geta X ff_14 dX11_towning_134 ?_
    refine z_aload_n X dX11_towning_137 rfl (lv_at hl 0 rfl) ?_
    refine m_geti X ff_26 dX11_towning_138 ?_
    refine z_dup2 X dX11_towning_141 rfl rfl ?_
    obtain ⟨hb4, hf⟩ := z_ite hf
    refine m_iald X pa_2 hb4 dX11_towning_142 ?_
    refine z_iconst (v := 1) X dX11_towning_143 (by decide) ?_
    refine z_iadd X dX11_towning_144 ?_
    obtain ⟨hb5, hf⟩ := z_ite hf
    refine m_iast X pa_2 hb5 dX11_towning_145 ?_
    exact m_vret X Z hf dX11_towning_146
  · have hf := (if_neg c_).symm.trans hf
    exact m_vret X Z hf dX11_towning_102

set_option maxHeartbeats 4000000 in
set_option maxRecDepth 100000 in
theorem w_towning_67 {M : zM} {D : va_G} {cy : Nat → ClassId} {ad : Nat → Nat} {r' : zI × zL} (X : RX M (zR D cy ad) cX11_towning 1 RX11 3 66) (Z : RZv M (zR D cy ad) r'.1 r'.2)  (V : zI) (L : zL) (ls : Array Slot) (hl : lv_has ls 1 [(0, .ref (ad 0))]) (hf : f_towning_67 V L = some r') : RG M (zR D cy ad) V L 67 ls [] := by
  unfold f_towning_67 at hf
  refine z_aload_n X dX11_towning_67 rfl (lv_at hl 0 rfl) ?_
  refine m_geti X ff_8 dX11_towning_68 ?_
  refine z_if_ne (tgt := 95) X dX11_towning_71 (by decide) (fun c_ => ?_) (fun c_ => ?_)
  · have hf := (if_neg c_).symm.trans hf
    exact w_towning_95 X Z V L ls (lv_sub hl [0] rfl) hf
  · have hf := (if_pos c_).symm.trans hf
    refine z_aload_n X dX11_towning_74 rfl (lv_at hl 0 rfl) ?_
    refine z_aload_n X dX11_towning_75 rfl (lv_at hl 0 rfl) ?_
    refine m_getl X ff_7 dX11_towning_76 ?_
    obtain ⟨r1, hc1, hf⟩ := z_bind hf
    refine m_callVi [.long (L 0 7)] X hl.1 (c_named D cy ad hc1) gm_named pd_named rfl ⟨by decide, by decide⟩ (Nat.le_of_ble_eq_true rfl) rfl dX11_towning_79 ?_
    refine z_iconst (v := -1) X dX11_towning_82 (by decide) ?_
    refine z_icmp_eq (tgt := 95) X dX11_towning_83 (by decide) (fun c_ => ?_) (fun c_ => ?_)
    · have hf := (if_pos c_).symm.trans hf
      exact w_towning_95 X Z r1.2.1 r1.2.2 ls (lv_sub hl [0] rfl) hf
    · have hf := (if_neg c_).symm.trans hf
      refine z_aload_n X dX11_towning_86 rfl (lv_at hl 0 rfl) ?_
      refine z_iconst (v := 2) X dX11_towning_87 (by decide) ?_
      refine z_aload_n X dX11_towning_88 rfl (lv_at hl 0 rfl) ?_
      refine m_geti X ff_4 dX11_towning_89 ?_
      obtain ⟨r2, hc2, hf⟩ := z_bind hf
      refine m_callVv [.int 2, .int (r1.2.1 0 4)] X hl.1 (c_blame D cy ad hc2) gm_blame pd_blame rfl ⟨by decide, by decide⟩ (Nat.le_of_ble_eq_true rfl) rfl dX11_towning_92 ?_
      exact w_towning_95 X Z r2.1 r2.2 ls (lv_sub hl [0] rfl) hf

set_option maxHeartbeats 4000000 in
set_option maxRecDepth 100000 in
theorem w_towning_58 {M : zM} {D : va_G} {cy : Nat → ClassId} {ad : Nat → Nat} {r' : zI × zL} (X : RX M (zR D cy ad) cX11_towning 1 RX11 3 66) (Z : RZv M (zR D cy ad) r'.1 r'.2)  (V : zI) (L : zL) (ls : Array Slot) (hl : lv_has ls 1 [(0, .ref (ad 0))]) (hf : f_towning_58 V L = some r') : RG M (zR D cy ad) V L 58 ls [] := by
  unfold f_towning_58 at hf
  refine z_aload_n X dX11_towning_58 rfl (lv_at hl 0 rfl) ?_
  refine z_iconst (v := 1) X dX11_towning_59 (by decide) ?_
  refine z_aload_n X dX11_towning_60 rfl (lv_at hl 0 rfl) ?_
  refine m_geti X ff_4 dX11_towning_61 ?_
  obtain ⟨r1, hc1, hf⟩ := z_bind hf
  refine m_callVv [.int 1, .int (V 0 4)] X hl.1 (c_blame D cy ad hc1) gm_blame pd_blame rfl ⟨by decide, by decide⟩ (Nat.le_of_ble_eq_true rfl) rfl dX11_towning_64 ?_
  exact w_towning_67 X Z r1.1 r1.2 ls (lv_sub hl [0] rfl) hf

set_option maxHeartbeats 4000000 in
set_option maxRecDepth 100000 in
theorem w_towning_20 {M : zM} {D : va_G} {cy : Nat → ClassId} {ad : Nat → Nat} {r' : zI × zL} (X : RX M (zR D cy ad) cX11_towning 1 RX11 3 66) (Z : RZv M (zR D cy ad) r'.1 r'.2) (s1 : Int32) (V : zI) (L : zL) (ls : Array Slot) (hl : lv_has ls 1 [(0, .ref (ad 0))]) (hf : f_towning_20 s1 V L = some r') : RG M (zR D cy ad) V L 20 ls [.int s1, .ref (ad 0)] := by
  unfold f_towning_20 at hf
  obtain ⟨r1, hc1, hf⟩ := z_bind hf
  refine m_callVi [.int s1] X hl.1 (c_counts D cy ad hc1) gm_counts pd_counts rfl ⟨by decide, by decide⟩ (Nat.le_of_ble_eq_true rfl) rfl dX11_towning_20 ?_
  refine z_if_ne (tgt := 27) X dX11_towning_23 (by decide) (fun c_ => ?_) (fun c_ => ?_)
  · have hf := (if_neg c_).symm.trans hf
    refine z_aload_n X dX11_towning_27 rfl (lv_at hl 0 rfl) ?_
    obtain ⟨r2, hc2, hf⟩ := z_bind hf
    refine m_callVv [] X hl.1 (c_lex D cy ad hc2) gm_lex pd_lex rfl ⟨by decide, by decide⟩ (Nat.le_of_ble_eq_true rfl) rfl dX11_towning_28 ?_
    refine z_aload_n X dX11_towning_31 rfl (lv_at hl 0 rfl) ?_
    refine m_geti X ff_8 dX11_towning_32 ?_
    refine z_if_le (tgt := 39) X dX11_towning_35 (by decide) (fun c_ => ?_) (fun c_ => ?_)
    · have hf := (if_pos c_).symm.trans hf
      refine z_aload_n X dX11_towning_39 rfl (lv_at hl 0 rfl) ?_
      refine m_geti X ff_3 dX11_towning_40 ?_
      refine z_iconst (v := 1) X dX11_towning_43 (by decide) ?_
      refine z_icmp_ne (tgt := 58) X dX11_towning_44 (by decide) (fun c_ => ?_) (fun c_ => ?_)
      · have hf := (if_neg c_).symm.trans hf
        exact w_towning_58 X Z r2.1 r2.2 ls (lv_sub hl [0] rfl) hf
      · have hf := (if_pos c_).symm.trans hf
        refine z_aload_n X dX11_towning_47 rfl (lv_at hl 0 rfl) ?_
        refine z_aload_n X dX11_towning_48 rfl (lv_at hl 0 rfl) ?_
        refine m_getl X ff_7 dX11_towning_49 ?_
        obtain ⟨r3, hc3, hf⟩ := z_bind hf
        refine m_callVi [.long (r2.2 0 7)] X hl.1 (c_isOwn D cy ad hc3) gm_isOwn pd_isOwn rfl ⟨by decide, by decide⟩ (Nat.le_of_ble_eq_true rfl) rfl dX11_towning_52 ?_
        refine z_if_eq (tgt := 67) X dX11_towning_55 (by decide) (fun c_ => ?_) (fun c_ => ?_)
        · have hf := (if_pos c_).symm.trans hf
          exact w_towning_67 X Z r3.2.1 r3.2.2 ls (lv_sub hl [0] rfl) hf
        · have hf := (if_neg c_).symm.trans hf
          exact w_towning_58 X Z r3.2.1 r3.2.2 ls (lv_sub hl [0] rfl) hf
    · have hf := (if_neg c_).symm.trans hf
      exact m_vret X Z hf dX11_towning_38
  · have hf := (if_pos c_).symm.trans hf
    exact m_vret X Z hf dX11_towning_26

set_option maxHeartbeats 4000000 in
set_option maxRecDepth 100000 in
theorem w_towning {M : zM} {D : va_G} {cy : Nat → ClassId} {ad : Nat → Nat} {r' : zI × zL} (X : RX M (zR D cy ad) cX11_towning 1 RX11 3 66) (Z : RZv M (zR D cy ad) r'.1 r'.2)  (V : zI) (L : zL) (ls : Array Slot) (hl : lv_has ls 1 [(0, .ref (ad 0))]) (hf : f_towning V L = some r') : RG M (zR D cy ad) V L 0 ls [] := by
  unfold f_towning at hf
  refine z_aload_n X dX11_towning_0 rfl (lv_at hl 0 rfl) ?_
  refine z_aload_n X dX11_towning_1 rfl (lv_at hl 0 rfl) ?_
  refine m_geta X ff_14 dX11_towning_2 ?_
  refine z_aload_n X dX11_towning_5 rfl (lv_at hl 0 rfl) ?_
  refine m_geti X ff_26 dX11_towning_6 ?_
  obtain ⟨hb1, hf⟩ := z_ite hf
  refine m_iald X pa_2 hb1 dX11_towning_9 ?_
  refine z_bipush (v := 6) X dX11_towning_10 (by decide) ?_
  refine z_icmp_ne (tgt := 19) X dX11_towning_12 (by decide) (fun c_ => ?_) (fun c_ => ?_)
  · have hf := (if_neg c_).symm.trans hf
    refine z_iconst (v := 0) X dX11_towning_19 (by decide) ?_
    exact w_towning_20 X Z 0 V L ls (lv_sub hl [0] rfl) hf
  · have hf := (if_pos c_).symm.trans hf
    refine z_iconst (v := 1) X dX11_towning_15 (by decide) ?_
    refine z_goto (tgt := 20) X dX11_towning_16 (by decide) ?_
    exact w_towning_20 X Z 1 V L ls (lv_sub hl [0] rfl) hf

theorem c_towning (D : va_G) (cy : Nat → ClassId) (ad : Nat → Nat)  {V : zI} {L : zL} {r' : zI × zL} (hf : f_towning V L = some r') : RMv (zR D cy ad) yX11_towning cX11_towning 1 3 66 [.ref (ad 0)] V L r'.1 r'.2 :=
  RMv.of (by decide) zR_nd (Nat.le_of_ble_eq_true rfl) (fun M X Z ls hl => w_towning X Z V L ls hl hf)
def f_at (x1 : Int32) (x2 : Int32) (x3 : Int32) (V : zI) (L : zL) : Option (Int32 × zI × zL) :=
  some ((((36 : Int32) * x1) + ((6 : Int32) * x2)) + x3, V, L)
set_option maxHeartbeats 4000000 in
set_option maxRecDepth 100000 in
theorem w_at {M : zM} {D : va_G} {cy : Nat → ClassId} {ad : Nat → Nat} {r' : Int32 × zI × zL} (X : RX M (zR D cy ad) cX11_at 4 RX11 0 0) (Z : RZi M (zR D cy ad) .int r'.1 r'.2.1 r'.2.2) (x1 : Int32) (x2 : Int32) (x3 : Int32) (V : zI) (L : zL) (ls : Array Slot) (hl : lv_has ls 4 [(0, .ref (ad 0)), (1, .int x1), (2, .int x2), (3, .int x3)]) (hf : f_at x1 x2 x3 V L = some r') : RG M (zR D cy ad) V L 0 ls [] := by
  unfold f_at at hf
  refine z_bipush (v := 36) X dX11_at_0 (by decide) ?_
  refine z_iload_n X dX11_at_2 rfl (lv_at hl 1 rfl) ?_
  refine z_imul X dX11_at_3 ?_
  refine z_bipush (v := 6) X dX11_at_4 (by decide) ?_
  refine z_iload_n X dX11_at_6 rfl (lv_at hl 2 rfl) ?_
  refine z_imul X dX11_at_7 ?_
  refine z_iadd X dX11_at_8 ?_
  refine z_iload_n X dX11_at_9 rfl (lv_at hl 3 rfl) ?_
  refine z_iadd X dX11_at_10 ?_
  exact m_iret X Z hf rfl dX11_at_11

theorem c_at (D : va_G) (cy : Nat → ClassId) (ad : Nat → Nat) {x1 : Int32} {x2 : Int32} {x3 : Int32} {V : zI} {L : zL} {r' : Int32 × zI × zL} (hf : f_at x1 x2 x3 V L = some r') : RMi (zR D cy ad) yX11_at cX11_at 4 .int 0 0 [.ref (ad 0), .int x1, .int x2, .int x3] V L r'.1 r'.2.1 r'.2.2 :=
  RMi.of (by decide) zR_nd (Nat.le_of_ble_eq_true rfl) (fun M X Z ls hl => w_at X Z x1 x2 x3 V L ls hl hf)
def b_carting_46 (k46 : Int32 × Int32 × Int32 × zI × zL → Option (zI × zL)) : Int32 × Int32 × Int32 × zI × zL → Option (zI × zL) := fun ⟨x1, x2, x3, V, L⟩ =>
  (if 6 ≤ x3 then (f_knownBut x2 V L).bind fun r1 => (f_must_ 1684109683 r1.2.1 r1.2.2).bind fun r2 => (f_number 1 9 r2.1 r2.2).bind fun r3 => (if (r3.2.1 0 8) ≤ 0 then (f_at (r3.2.1 0 26) x1 r1.1 r3.2.1 r3.2.2).bind fun r4 => if inB r4.1 72 then (f_at ((z_uI r4.2.1 4 r4.1.toNatClampNeg r3.1) 0 26) r1.1 x1 (z_uI r4.2.1 4 r4.1.toNatClampNeg r3.1) r4.2.2).bind fun r6 => if inB r6.1 72 then if inB ((z_uI r6.2.1 4 r6.1.toNatClampNeg r3.1) 0 26) 2 then if inB ((z_uI r6.2.1 4 r6.1.toNatClampNeg r3.1) 0 26) 2 then some (z_uI (z_uI r6.2.1 4 r6.1.toNatClampNeg r3.1) 3 ((z_uI r6.2.1 4 r6.1.toNatClampNeg r3.1) 0 26).toNatClampNeg (((z_uI r6.2.1 4 r6.1.toNatClampNeg r3.1) 3 ((z_uI r6.2.1 4 r6.1.toNatClampNeg r3.1) 0 26).toNatClampNeg) + 1), r6.2.2) else none else none else none else none else some (r3.2.1, r3.2.2)) else (f_at (V 0 26) x1 x3 V L).bind fun r10 => if inB r10.1 72 then (if (r10.2.1 4 r10.1.toNatClampNeg) ≤ 0 then k46 (x1, (x2 ||| 0), (x3 + 1), r10.2.1, r10.2.2) else k46 (x1, (x2 ||| ((1 : Int32) <<< (x3 &&& 31))), (x3 + 1), r10.2.1, r10.2.2)) else none)
def f_carting_20 (s1 : Int32) (V : zI) (L : zL) : Option (zI × zL) :=
  (f_counts s1 V L).bind fun r1 => (if r1.1 = 0 then some (r1.2.1, r1.2.2) else (f_knownBut 0 r1.2.1 r1.2.2).bind fun r2 => (f_must_ 29807 r2.2.1 r2.2.2).bind fun r3 => zfix (b_carting_46) FU (r2.1, ((1 : Int32) <<< (r2.1 &&& 31)), 0, r3.1, r3.2))
def f_carting (V : zI) (L : zL) : Option (zI × zL) :=
  if inB (V 0 26) 2 then (if (V 3 (V 0 26).toNatClampNeg) = 12 then f_carting_20 1 V L else f_carting_20 0 V L) else none
set_option maxHeartbeats 4000000 in
set_option maxRecDepth 100000 in
theorem w_carting_46 {M : zM} {D : va_G} {cy : Nat → ClassId} {ad : Nat → Nat} {r' : zI × zL} (X : RX M (zR D cy ad) cX11_carting 5 RX11 3 68) (Z : RZv M (zR D cy ad) r'.1 r'.2) (n : Nat) : ∀ (x1 : Int32) (x2 : Int32) (x3 : Int32) (V : zI) (L : zL) (ls : Array Slot) (hl : lv_has ls 5 [(0, .ref (ad 0)), (1, .int x1), (2, .int x2), (3, .int x3)]) (hf : zfix (b_carting_46) n (x1, x2, x3, V, L) = some r'), RG M (zR D cy ad) V L 46 ls [] := by
  induction n with
  | zero => intro x1 x2 x3 V L ls hl hf; cases hf
  | succ n ih =>
  intro x1 x2 x3 V L ls hl hf
  have hk46 : ∀ (x1 : Int32) (x2 : Int32) (x3 : Int32) (V : zI) (L : zL) (ls : Array Slot), lv_has ls 5 [(0, .ref (ad 0)), (1, .int x1), (2, .int x2), (3, .int x3)] → zfix (b_carting_46) n (x1, x2, x3, V, L) = some r' → RG M (zR D cy ad) V L 46 ls [] := ih
  have hf : b_carting_46 (zfix (b_carting_46) n) (x1, x2, x3, V, L) = some r' := hf
  generalize zfix (b_carting_46) n = k46 at hk46 hf
  unfold b_carting_46 at hf
  clear ih
  refine z_iload_n X dX11_carting_46 rfl (lv_at hl 3 rfl) ?_
  refine z_bipush (v := 6) X dX11_carting_47 (by decide) ?_
  refine z_icmp_ge (tgt := 86) X dX11_carting_49 (by decide) (fun c_ => ?_) (fun c_ => ?_)
  · have hf := (if_pos c_).symm.trans hf
    refine z_aload_n X dX11_carting_86 rfl (lv_at hl 0 rfl) ?_
    refine z_iload_n X dX11_carting_87 rfl (lv_at hl 2 rfl) ?_
    obtain ⟨r1, hc1, hf⟩ := z_bind hf
    refine m_callVi [.int x2] X hl.1 (c_knownBut D cy ad hc1) gm_knownBut pd_knownBut rfl ⟨by decide, by decide⟩ (Nat.le_of_ble_eq_true rfl) rfl dX11_carting_88 ?_
    refine z_istore_n (lv' := [(3, .int r1.1), (0, .ref (ad 0)), (1, .int x1), (2, .int x2)]) X dX11_carting_91 rfl hl (by decide) rfl (fun ls hl => ?_)
    refine z_aload_n X dX11_carting_92 rfl (lv_at hl 1 rfl) ?_
    refine z_ldc2 X dX11_carting_93 kc_247 ?_
    obtain ⟨r2, hc2, hf⟩ := z_bind hf
    refine m_callVv [.long 1684109683] X hl.1 (c_must_ D cy ad hc2) gm_must_ pd_must_ rfl ⟨by decide, by decide⟩ (Nat.le_of_ble_eq_true rfl) rfl dX11_carting_96 ?_
    refine z_aload_n X dX11_carting_99 rfl (lv_at hl 1 rfl) ?_
    refine z_iconst (v := 1) X dX11_carting_100 (by decide) ?_
    refine z_bipush (v := 9) X dX11_carting_101 (by decide) ?_
    obtain ⟨r3, hc3, hf⟩ := z_bind hf
    refine m_callVi [.int 1, .int 9] X hl.1 (c_number D cy ad hc3) gm_number pd_number rfl ⟨by decide, by decide⟩ (Nat.le_of_ble_eq_true rfl) rfl dX11_carting_103 ?_
    refine z_istore (lv' := [(4, .int r3.1), (3, .int r1.1), (0, .ref (ad 0)), (1, .int x1), (2, .int x2)]) X dX11_carting_106 hl (by decide) rfl (fun ls hl => ?_)
    refine z_aload_n X dX11_carting_108 rfl (lv_at hl 2 rfl) ?_
    refine m_geti X ff_8 dX11_carting_109 ?_
    refine z_if_le (tgt := 116) X dX11_carting_112 (by decide) (fun c_ => ?_) (fun c_ => ?_)
    · have hf := (if_pos c_).symm.trans hf
      refine z_aload_n X dX11_carting_116 rfl (lv_at hl 2 rfl) ?_
      refine m_geta X ff_16 dX11_carting_117 ?_
      refine z_aload_n X dX11_carting_120 rfl (lv_at hl 2 rfl) ?_
      refine z_aload_n X dX11_carting_121 rfl (lv_at hl 2 rfl) ?_
      refine m_geti X ff_26 dX11_carting_122 ?_
      refine z_iload_n X dX11_carting_125 rfl (lv_at hl 3 rfl) ?_
      refine z_iload_n X dX11_carting_126 rfl (lv_at hl 1 rfl) ?_
      obtain ⟨r4, hc4, hf⟩ := z_bind hf
      refine m_callVi [.int (r3.2.1 0 26), .int x1, .int r1.1] X hl.1 (c_at D cy ad hc4) gm_at pd_at rfl ⟨by decide, by decide⟩ (Nat.le_of_ble_eq_true rfl) rfl dX11_carting_127 ?_
      refine z_iload X dX11_carting_130 (lv_at hl 0 rfl) ?_
      obtain ⟨hb5, hf⟩ := z_ite hf
      refine m_iast X pa_4 hb5 dX11_carting_132 ?_
      refine z_aload_n X dX11_carting_133 rfl (lv_at hl 2 rfl) ?_
      refine m_geta X ff_16 dX11_carting_134 ?_
      refine z_aload_n X dX11_carting_137 rfl (lv_at hl 2 rfl) ?_
      refine z_aload_n X dX11_carting_138 rfl (lv_at hl 2 rfl) ?_
      refine m_geti X ff_26 dX11_carting_139 ?_
      refine z_iload_n X dX11_carting_142 rfl (lv_at hl 1 rfl) ?_
      refine z_iload_n X dX11_carting_143 rfl (lv_at hl 3 rfl) ?_
      obtain ⟨r6, hc6, hf⟩ := z_bind hf
      refine m_callVi [.int ((z_uI r4.2.1 4 r4.1.toNatClampNeg r3.1) 0 26), .int r1.1, .int x1] X hl.1 (c_at D cy ad hc6) gm_at pd_at rfl ⟨by decide, by decide⟩ (Nat.le_of_ble_eq_true rfl) rfl dX11_carting_144 ?_
      refine z_iload X dX11_carting_147 (lv_at hl 0 rfl) ?_
      obtain ⟨hb7, hf⟩ := z_ite hf
      refine m_iast X pa_4 hb7 dX11_carting_149 ?_
      refine z_aload_n X dX11_carting_150 rfl (lv_at hl 2 rfl) ?_
      refine m_geta X ff_15 dX11_carting_151 ?_
      refine z_aload_n X dX11_carting_154 rfl (lv_at hl 2 rfl) ?_
      refine m_geti X ff_26 dX11_carting_155 ?_
      refine z_dup2 X dX11_carting_158 rfl rfl ?_
      obtain ⟨hb8, hf⟩ := z_ite hf
      refine m_iald X pa_3 hb8 dX11_carting_159 ?_
      refine z_iconst (v := 1) X dX11_carting_160 (by decide) ?_
      refine z_iadd X dX11_carting_161 ?_
      obtain ⟨hb9, hf⟩ := z_ite hf
      refine m_iast X pa_3 hb9 dX11_carting_162 ?_
      exact m_vret X Z hf dX11_carting_163
    · have hf := (if_neg c_).symm.trans hf
      exact m_vret X Z hf dX11_carting_115
  · have hf := (if_neg c_).symm.trans hf
    refine z_iload_n X dX11_carting_52 rfl (lv_at hl 2 rfl) ?_
    refine z_aload_n X dX11_carting_53 rfl (lv_at hl 0 rfl) ?_
    refine m_geta X ff_16 dX11_carting_54 ?_
    refine z_aload_n X dX11_carting_57 rfl (lv_at hl 0 rfl) ?_
    refine z_aload_n X dX11_carting_58 rfl (lv_at hl 0 rfl) ?_
    refine m_geti X ff_26 dX11_carting_59 ?_
    refine z_iload_n X dX11_carting_62 rfl (lv_at hl 1 rfl) ?_
    refine z_iload_n X dX11_carting_63 rfl (lv_at hl 3 rfl) ?_
    obtain ⟨r10, hc10, hf⟩ := z_bind hf
    refine m_callVi [.int (V 0 26), .int x1, .int x3] X hl.1 (c_at D cy ad hc10) gm_at pd_at rfl ⟨by decide, by decide⟩ (Nat.le_of_ble_eq_true rfl) rfl dX11_carting_64 ?_
    obtain ⟨hb11, hf⟩ := z_ite hf
    refine m_iald X pa_4 hb11 dX11_carting_67 ?_
    refine z_if_le (tgt := 77) X dX11_carting_68 (by decide) (fun c_ => ?_) (fun c_ => ?_)
    · have hf := (if_pos c_).symm.trans hf
      refine z_iconst (v := 0) X dX11_carting_77 (by decide) ?_
      refine z_ior X dX11_carting_78 ?_
      refine z_istore_n (lv' := [(2, .int (x2 ||| 0)), (0, .ref (ad 0)), (1, .int x1), (3, .int x3)]) X dX11_carting_79 rfl hl (by decide) rfl (fun ls hl => ?_)
      refine z_iinc (v := x3 + 1) (k0 := 3) (lv' := [(3, .int (x3 + 1)), (2, .int (x2 ||| 0)), (0, .ref (ad 0)), (1, .int x1)]) X dX11_carting_80 hl rfl rfl (by decide) rfl (fun ls hl => ?_)
      refine z_goto (tgt := 46) X dX11_carting_83 (by decide) ?_
      exact hk46 x1 (x2 ||| 0) (x3 + 1) r10.2.1 r10.2.2 ls (lv_sub hl [2, 3, 1, 0] rfl) hf
    · have hf := (if_neg c_).symm.trans hf
      refine z_iconst (v := 1) X dX11_carting_71 (by decide) ?_
      refine z_iload_n X dX11_carting_72 rfl (lv_at hl 3 rfl) ?_
      refine z_ishl X dX11_carting_73 ?_
      refine z_goto (tgt := 78) X dX11_carting_74 (by decide) ?_
      refine z_ior X dX11_carting_78 ?_
      refine z_istore_n (lv' := [(2, .int (x2 ||| ((1 : Int32) <<< (x3 &&& 31)))), (0, .ref (ad 0)), (1, .int x1), (3, .int x3)]) X dX11_carting_79 rfl hl (by decide) rfl (fun ls hl => ?_)
      refine z_iinc (v := x3 + 1) (k0 := 3) (lv' := [(3, .int (x3 + 1)), (2, .int (x2 ||| ((1 : Int32) <<< (x3 &&& 31)))), (0, .ref (ad 0)), (1, .int x1)]) X dX11_carting_80 hl rfl rfl (by decide) rfl (fun ls hl => ?_)
      refine z_goto (tgt := 46) X dX11_carting_83 (by decide) ?_
      exact hk46 x1 (x2 ||| ((1 : Int32) <<< (x3 &&& 31))) (x3 + 1) r10.2.1 r10.2.2 ls (lv_sub hl [2, 3, 1, 0] rfl) hf

set_option maxHeartbeats 4000000 in
set_option maxRecDepth 100000 in
theorem w_carting_20 {M : zM} {D : va_G} {cy : Nat → ClassId} {ad : Nat → Nat} {r' : zI × zL} (X : RX M (zR D cy ad) cX11_carting 5 RX11 3 68) (Z : RZv M (zR D cy ad) r'.1 r'.2) (s1 : Int32) (V : zI) (L : zL) (ls : Array Slot) (hl : lv_has ls 5 [(0, .ref (ad 0))]) (hf : f_carting_20 s1 V L = some r') : RG M (zR D cy ad) V L 20 ls [.int s1, .ref (ad 0)] := by
  unfold f_carting_20 at hf
  obtain ⟨r1, hc1, hf⟩ := z_bind hf
  refine m_callVi [.int s1] X hl.1 (c_counts D cy ad hc1) gm_counts pd_counts rfl ⟨by decide, by decide⟩ (Nat.le_of_ble_eq_true rfl) rfl dX11_carting_20 ?_
  refine z_if_ne (tgt := 27) X dX11_carting_23 (by decide) (fun c_ => ?_) (fun c_ => ?_)
  · have hf := (if_neg c_).symm.trans hf
    refine z_aload_n X dX11_carting_27 rfl (lv_at hl 0 rfl) ?_
    refine z_iconst (v := 0) X dX11_carting_28 (by decide) ?_
    obtain ⟨r2, hc2, hf⟩ := z_bind hf
    refine m_callVi [.int 0] X hl.1 (c_knownBut D cy ad hc2) gm_knownBut pd_knownBut rfl ⟨by decide, by decide⟩ (Nat.le_of_ble_eq_true rfl) rfl dX11_carting_29 ?_
    refine z_istore_n (lv' := [(1, .int r2.1), (0, .ref (ad 0))]) X dX11_carting_32 rfl hl (by decide) rfl (fun ls hl => ?_)
    refine z_aload_n X dX11_carting_33 rfl (lv_at hl 1 rfl) ?_
    refine z_ldc2 X dX11_carting_34 kc_245 ?_
    obtain ⟨r3, hc3, hf⟩ := z_bind hf
    refine m_callVv [.long 29807] X hl.1 (c_must_ D cy ad hc3) gm_must_ pd_must_ rfl ⟨by decide, by decide⟩ (Nat.le_of_ble_eq_true rfl) rfl dX11_carting_37 ?_
    refine z_iconst (v := 1) X dX11_carting_40 (by decide) ?_
    refine z_iload_n X dX11_carting_41 rfl (lv_at hl 0 rfl) ?_
    refine z_ishl X dX11_carting_42 ?_
    refine z_istore_n (lv' := [(2, .int ((1 : Int32) <<< (r2.1 &&& 31))), (1, .int r2.1), (0, .ref (ad 0))]) X dX11_carting_43 rfl hl (by decide) rfl (fun ls hl => ?_)
    refine z_iconst (v := 0) X dX11_carting_44 (by decide) ?_
    refine z_istore_n (lv' := [(3, .int 0), (2, .int ((1 : Int32) <<< (r2.1 &&& 31))), (1, .int r2.1), (0, .ref (ad 0))]) X dX11_carting_45 rfl hl (by decide) rfl (fun ls hl => ?_)
    exact w_carting_46 X Z FU r2.1 ((1 : Int32) <<< (r2.1 &&& 31)) 0 r3.1 r3.2 ls (lv_sub hl [3, 2, 1, 0] rfl) hf
  · have hf := (if_pos c_).symm.trans hf
    exact m_vret X Z hf dX11_carting_26

set_option maxHeartbeats 4000000 in
set_option maxRecDepth 100000 in
theorem w_carting {M : zM} {D : va_G} {cy : Nat → ClassId} {ad : Nat → Nat} {r' : zI × zL} (X : RX M (zR D cy ad) cX11_carting 5 RX11 3 68) (Z : RZv M (zR D cy ad) r'.1 r'.2)  (V : zI) (L : zL) (ls : Array Slot) (hl : lv_has ls 5 [(0, .ref (ad 0))]) (hf : f_carting V L = some r') : RG M (zR D cy ad) V L 0 ls [] := by
  unfold f_carting at hf
  refine z_aload_n X dX11_carting_0 rfl (lv_at hl 0 rfl) ?_
  refine z_aload_n X dX11_carting_1 rfl (lv_at hl 0 rfl) ?_
  refine m_geta X ff_15 dX11_carting_2 ?_
  refine z_aload_n X dX11_carting_5 rfl (lv_at hl 0 rfl) ?_
  refine m_geti X ff_26 dX11_carting_6 ?_
  obtain ⟨hb1, hf⟩ := z_ite hf
  refine m_iald X pa_3 hb1 dX11_carting_9 ?_
  refine z_bipush (v := 12) X dX11_carting_10 (by decide) ?_
  refine z_icmp_ne (tgt := 19) X dX11_carting_12 (by decide) (fun c_ => ?_) (fun c_ => ?_)
  · have hf := (if_neg c_).symm.trans hf
    refine z_iconst (v := 0) X dX11_carting_19 (by decide) ?_
    exact w_carting_20 X Z 0 V L ls (lv_sub hl [0] rfl) hf
  · have hf := (if_pos c_).symm.trans hf
    refine z_iconst (v := 1) X dX11_carting_15 (by decide) ?_
    refine z_goto (tgt := 20) X dX11_carting_16 (by decide) ?_
    exact w_carting_20 X Z 1 V L ls (lv_sub hl [0] rfl) hf

theorem c_carting (D : va_G) (cy : Nat → ClassId) (ad : Nat → Nat)  {V : zI} {L : zL} {r' : zI × zL} (hf : f_carting V L = some r') : RMv (zR D cy ad) yX11_carting cX11_carting 5 3 68 [.ref (ad 0)] V L r'.1 r'.2 :=
  RMv.of (by decide) zR_nd (Nat.le_of_ble_eq_true rfl) (fun M X Z ls hl => w_carting X Z V L ls hl hf)
def f_holding (V : zI) (L : zL) : Option (zI × zL) :=
  (f_counts 0 V L).bind fun r1 => (if r1.1 = 0 then some (r1.2.1, r1.2.2) else (f_knownBut 0 r1.2.1 r1.2.2).bind fun r2 => (f_must_ 28518 r2.2.1 r2.2.2).bind fun r3 => (f_knownBut ((1 : Int32) <<< (r2.1 &&& 31)) r3.1 r3.2).bind fun r4 => (f_number 0 20 r4.2.1 r4.2.2).bind fun r5 => (if (r5.2.1 0 8) = 0 then (f_at (r5.2.1 0 26) r2.1 r4.1 r5.2.1 r5.2.2).bind fun r6 => if inB r6.1 72 then some (z_uI r6.2.1 6 r6.1.toNatClampNeg r5.1, r6.2.2) else none else some (r5.2.1, r5.2.2)))
set_option maxHeartbeats 4000000 in
set_option maxRecDepth 100000 in
theorem w_holding {M : zM} {D : va_G} {cy : Nat → ClassId} {ad : Nat → Nat} {r' : zI × zL} (X : RX M (zR D cy ad) cX11_holding 4 RX11 3 68) (Z : RZv M (zR D cy ad) r'.1 r'.2)  (V : zI) (L : zL) (ls : Array Slot) (hl : lv_has ls 4 [(0, .ref (ad 0))]) (hf : f_holding V L = some r') : RG M (zR D cy ad) V L 0 ls [] := by
  unfold f_holding at hf
  refine z_aload_n X dX11_holding_0 rfl (lv_at hl 0 rfl) ?_
  refine z_iconst (v := 0) X dX11_holding_1 (by decide) ?_
  obtain ⟨r1, hc1, hf⟩ := z_bind hf
  refine m_callVi [.int 0] X hl.1 (c_counts D cy ad hc1) gm_counts pd_counts rfl ⟨by decide, by decide⟩ (Nat.le_of_ble_eq_true rfl) rfl dX11_holding_2 ?_
  refine z_if_ne (tgt := 9) X dX11_holding_5 (by decide) (fun c_ => ?_) (fun c_ => ?_)
  · have hf := (if_neg c_).symm.trans hf
    refine z_aload_n X dX11_holding_9 rfl (lv_at hl 0 rfl) ?_
    refine z_iconst (v := 0) X dX11_holding_10 (by decide) ?_
    obtain ⟨r2, hc2, hf⟩ := z_bind hf
    refine m_callVi [.int 0] X hl.1 (c_knownBut D cy ad hc2) gm_knownBut pd_knownBut rfl ⟨by decide, by decide⟩ (Nat.le_of_ble_eq_true rfl) rfl dX11_holding_11 ?_
    refine z_istore_n (lv' := [(1, .int r2.1), (0, .ref (ad 0))]) X dX11_holding_14 rfl hl (by decide) rfl (fun ls hl => ?_)
    refine z_aload_n X dX11_holding_15 rfl (lv_at hl 1 rfl) ?_
    refine z_ldc2 X dX11_holding_16 kc_251 ?_
    obtain ⟨r3, hc3, hf⟩ := z_bind hf
    refine m_callVv [.long 28518] X hl.1 (c_must_ D cy ad hc3) gm_must_ pd_must_ rfl ⟨by decide, by decide⟩ (Nat.le_of_ble_eq_true rfl) rfl dX11_holding_19 ?_
    refine z_aload_n X dX11_holding_22 rfl (lv_at hl 1 rfl) ?_
    refine z_iconst (v := 1) X dX11_holding_23 (by decide) ?_
    refine z_iload_n X dX11_holding_24 rfl (lv_at hl 0 rfl) ?_
    refine z_ishl X dX11_holding_25 ?_
    obtain ⟨r4, hc4, hf⟩ := z_bind hf
    refine m_callVi [.int ((1 : Int32) <<< (r2.1 &&& 31))] X hl.1 (c_knownBut D cy ad hc4) gm_knownBut pd_knownBut rfl ⟨by decide, by decide⟩ (Nat.le_of_ble_eq_true rfl) rfl dX11_holding_26 ?_
    refine z_istore_n (lv' := [(2, .int r4.1), (1, .int r2.1), (0, .ref (ad 0))]) X dX11_holding_29 rfl hl (by decide) rfl (fun ls hl => ?_)
    refine z_aload_n X dX11_holding_30 rfl (lv_at hl 2 rfl) ?_
    refine z_iconst (v := 0) X dX11_holding_31 (by decide) ?_
    refine z_bipush (v := 20) X dX11_holding_32 (by decide) ?_
    obtain ⟨r5, hc5, hf⟩ := z_bind hf
    refine m_callVi [.int 0, .int 20] X hl.1 (c_number D cy ad hc5) gm_number pd_number rfl ⟨by decide, by decide⟩ (Nat.le_of_ble_eq_true rfl) rfl dX11_holding_34 ?_
    refine z_istore_n (lv' := [(3, .int r5.1), (2, .int r4.1), (1, .int r2.1), (0, .ref (ad 0))]) X dX11_holding_37 rfl hl (by decide) rfl (fun ls hl => ?_)
    refine z_aload_n X dX11_holding_38 rfl (lv_at hl 3 rfl) ?_
    refine m_geti X ff_8 dX11_holding_39 ?_
    refine z_if_ne (tgt := 61) X dX11_holding_42 (by decide) (fun c_ => ?_) (fun c_ => ?_)
    · have hf := (if_neg c_).symm.trans hf
      exact m_vret X Z hf dX11_holding_61
    · have hf := (if_pos c_).symm.trans hf
      refine z_aload_n X dX11_holding_45 rfl (lv_at hl 3 rfl) ?_
      refine m_geta X ff_18 dX11_holding_46 ?_
      refine z_aload_n X dX11_holding_49 rfl (lv_at hl 3 rfl) ?_
      refine z_aload_n X dX11_holding_50 rfl (lv_at hl 3 rfl) ?_
      refine m_geti X ff_26 dX11_holding_51 ?_
      refine z_iload_n X dX11_holding_54 rfl (lv_at hl 2 rfl) ?_
      refine z_iload_n X dX11_holding_55 rfl (lv_at hl 1 rfl) ?_
      obtain ⟨r6, hc6, hf⟩ := z_bind hf
      refine m_callVi [.int (r5.2.1 0 26), .int r2.1, .int r4.1] X hl.1 (c_at D cy ad hc6) gm_at pd_at rfl ⟨by decide, by decide⟩ (Nat.le_of_ble_eq_true rfl) rfl dX11_holding_56 ?_
      refine z_iload_n X dX11_holding_59 rfl (lv_at hl 0 rfl) ?_
      obtain ⟨hb7, hf⟩ := z_ite hf
      refine m_iast X pa_6 hb7 dX11_holding_60 ?_
      exact m_vret X Z hf dX11_holding_61
  · have hf := (if_pos c_).symm.trans hf
    exact m_vret X Z hf dX11_holding_8

theorem c_holding (D : va_G) (cy : Nat → ClassId) (ad : Nat → Nat)  {V : zI} {L : zL} {r' : zI × zL} (hf : f_holding V L = some r') : RMv (zR D cy ad) yX11_holding cX11_holding 4 3 68 [.ref (ad 0)] V L r'.1 r'.2 :=
  RMv.of (by decide) zR_nd (Nat.le_of_ble_eq_true rfl) (fun M X Z ls hl => w_holding X Z V L ls hl hf)
def f_reading_66 (x2 : Int32) (s1 : Int32) (V : zI) (L : zL) : Option (zI × zL) :=
  (f_reads s1 V L).bind fun r1 => if inB x2 6 then some (z_uI r1.1 9 x2.toNatClampNeg (r1.1 0 25), r1.2) else none
def f_reading_43 (x1 : Int32) (x2 : Int32) (s1 : Int32) (V : zI) (L : zL) : Option (zI × zL) :=
  if zB s1 then if inB x2 6 then (if x1 = 0 then f_reading_66 x2 1 (z_uI (z_uI V 0 27 s1) 8 x2.toNatClampNeg ((z_uI V 0 27 s1) 0 25)) L else f_reading_66 x2 0 (z_uI (z_uI V 0 27 s1) 8 x2.toNatClampNeg ((z_uI V 0 27 s1) 0 25)) L) else none else none
def f_reading_25 (x1 : Int32) (x2 : Int32) (s1 : Int32) (V : zI) (L : zL) : Option (zI × zL) :=
  (f_counts s1 V L).bind fun r1 => (if r1.1 = 0 then some (r1.2.1, r1.2.2) else (if x1 = 2 then f_reading_43 x1 x2 1 r1.2.1 r1.2.2 else f_reading_43 x1 x2 0 r1.2.1 r1.2.2))
def f_reading (x1 : Int32) (V : zI) (L : zL) : Option (zI × zL) :=
  if inB (((3 : Int32) * (V 0 26)) + x1) 6 then (if (V 8 (((3 : Int32) * (V 0 26)) + x1).toNatClampNeg) = (-1) then f_reading_25 x1 (((3 : Int32) * (V 0 26)) + x1) 0 V L else f_reading_25 x1 (((3 : Int32) * (V 0 26)) + x1) 1 V L) else none
set_option maxHeartbeats 4000000 in
set_option maxRecDepth 100000 in
theorem w_reading_66 {M : zM} {D : va_G} {cy : Nat → ClassId} {ad : Nat → Nat} {r' : zI × zL} (X : RX M (zR D cy ad) cX11_reading 3 RX11 5 111) (Z : RZv M (zR D cy ad) r'.1 r'.2) (x2 : Int32) (s1 : Int32) (V : zI) (L : zL) (ls : Array Slot) (hl : lv_has ls 3 [(0, .ref (ad 0)), (2, .int x2)]) (hf : f_reading_66 x2 s1 V L = some r') : RG M (zR D cy ad) V L 66 ls [.int s1, .ref (ad 0)] := by
  unfold f_reading_66 at hf
  obtain ⟨r1, hc1, hf⟩ := z_bind hf
  refine m_callVv [.int s1] X hl.1 (c_reads D cy ad hc1) gm_reads pd_reads rfl ⟨by decide, by decide⟩ (Nat.le_of_ble_eq_true rfl) rfl dX11_reading_66 ?_
  refine z_aload_n X dX11_reading_69 rfl (lv_at hl 0 rfl) ?_
  refine m_geta X ff_21 dX11_reading_70 ?_
  refine z_iload_n X dX11_reading_73 rfl (lv_at hl 1 rfl) ?_
  refine z_aload_n X dX11_reading_74 rfl (lv_at hl 0 rfl) ?_
  refine m_geti X ff_25 dX11_reading_75 ?_
  obtain ⟨hb2, hf⟩ := z_ite hf
  refine m_iast X pa_9 hb2 dX11_reading_78 ?_
  exact m_vret X Z hf dX11_reading_79

set_option maxHeartbeats 4000000 in
set_option maxRecDepth 100000 in
theorem w_reading_43 {M : zM} {D : va_G} {cy : Nat → ClassId} {ad : Nat → Nat} {r' : zI × zL} (X : RX M (zR D cy ad) cX11_reading 3 RX11 5 111) (Z : RZv M (zR D cy ad) r'.1 r'.2) (x1 : Int32) (x2 : Int32) (s1 : Int32) (V : zI) (L : zL) (ls : Array Slot) (hl : lv_has ls 3 [(0, .ref (ad 0)), (1, .int x1), (2, .int x2)]) (hf : f_reading_43 x1 x2 s1 V L = some r') : RG M (zR D cy ad) V L 43 ls [.int s1, .ref (ad 0)] := by
  unfold f_reading_43 at hf
  obtain ⟨hb1, hf⟩ := z_ite hf
  refine m_putz X fp_27 hb1 dX11_reading_43 ?_
  refine z_aload_n X dX11_reading_46 rfl (lv_at hl 0 rfl) ?_
  refine m_geta X ff_20 dX11_reading_47 ?_
  refine z_iload_n X dX11_reading_50 rfl (lv_at hl 2 rfl) ?_
  refine z_aload_n X dX11_reading_51 rfl (lv_at hl 0 rfl) ?_
  refine m_geti X ff_25 dX11_reading_52 ?_
  obtain ⟨hb2, hf⟩ := z_ite hf
  refine m_iast X pa_8 hb2 dX11_reading_55 ?_
  refine z_aload_n X dX11_reading_56 rfl (lv_at hl 0 rfl) ?_
  refine z_iload_n X dX11_reading_57 rfl (lv_at hl 1 rfl) ?_
  refine z_if_ne (tgt := 65) X dX11_reading_58 (by decide) (fun c_ => ?_) (fun c_ => ?_)
  · have hf := (if_neg c_).symm.trans hf
    refine z_iconst (v := 0) X dX11_reading_65 (by decide) ?_
    exact w_reading_66 X Z x2 0 (z_uI (z_uI V 0 27 s1) 8 x2.toNatClampNeg ((z_uI V 0 27 s1) 0 25)) L ls (lv_sub hl [0, 2] rfl) hf
  · have hf := (if_pos c_).symm.trans hf
    refine z_iconst (v := 1) X dX11_reading_61 (by decide) ?_
    refine z_goto (tgt := 66) X dX11_reading_62 (by decide) ?_
    exact w_reading_66 X Z x2 1 (z_uI (z_uI V 0 27 s1) 8 x2.toNatClampNeg ((z_uI V 0 27 s1) 0 25)) L ls (lv_sub hl [0, 2] rfl) hf

set_option maxHeartbeats 4000000 in
set_option maxRecDepth 100000 in
theorem w_reading_25 {M : zM} {D : va_G} {cy : Nat → ClassId} {ad : Nat → Nat} {r' : zI × zL} (X : RX M (zR D cy ad) cX11_reading 3 RX11 5 111) (Z : RZv M (zR D cy ad) r'.1 r'.2) (x1 : Int32) (x2 : Int32) (s1 : Int32) (V : zI) (L : zL) (ls : Array Slot) (hl : lv_has ls 3 [(0, .ref (ad 0)), (1, .int x1), (2, .int x2)]) (hf : f_reading_25 x1 x2 s1 V L = some r') : RG M (zR D cy ad) V L 25 ls [.int s1, .ref (ad 0)] := by
  unfold f_reading_25 at hf
  obtain ⟨r1, hc1, hf⟩ := z_bind hf
  refine m_callVi [.int s1] X hl.1 (c_counts D cy ad hc1) gm_counts pd_counts rfl ⟨by decide, by decide⟩ (Nat.le_of_ble_eq_true rfl) rfl dX11_reading_25 ?_
  refine z_if_ne (tgt := 32) X dX11_reading_28 (by decide) (fun c_ => ?_) (fun c_ => ?_)
  · have hf := (if_neg c_).symm.trans hf
    refine z_aload_n X dX11_reading_32 rfl (lv_at hl 0 rfl) ?_
    refine z_iload_n X dX11_reading_33 rfl (lv_at hl 1 rfl) ?_
    refine z_iconst (v := 2) X dX11_reading_34 (by decide) ?_
    refine z_icmp_ne (tgt := 42) X dX11_reading_35 (by decide) (fun c_ => ?_) (fun c_ => ?_)
    · have hf := (if_neg c_).symm.trans hf
      refine z_iconst (v := 0) X dX11_reading_42 (by decide) ?_
      exact w_reading_43 X Z x1 x2 0 r1.2.1 r1.2.2 ls (lv_sub hl [0, 1, 2] rfl) hf
    · have hf := (if_pos c_).symm.trans hf
      refine z_iconst (v := 1) X dX11_reading_38 (by decide) ?_
      refine z_goto (tgt := 43) X dX11_reading_39 (by decide) ?_
      exact w_reading_43 X Z x1 x2 1 r1.2.1 r1.2.2 ls (lv_sub hl [0, 1, 2] rfl) hf
  · have hf := (if_pos c_).symm.trans hf
    exact m_vret X Z hf dX11_reading_31

set_option maxHeartbeats 4000000 in
set_option maxRecDepth 100000 in
theorem w_reading {M : zM} {D : va_G} {cy : Nat → ClassId} {ad : Nat → Nat} {r' : zI × zL} (X : RX M (zR D cy ad) cX11_reading 3 RX11 5 111) (Z : RZv M (zR D cy ad) r'.1 r'.2) (x1 : Int32) (V : zI) (L : zL) (ls : Array Slot) (hl : lv_has ls 3 [(0, .ref (ad 0)), (1, .int x1)]) (hf : f_reading x1 V L = some r') : RG M (zR D cy ad) V L 0 ls [] := by
  unfold f_reading at hf
  refine z_iconst (v := 3) X dX11_reading_0 (by decide) ?_
  refine z_aload_n X dX11_reading_1 rfl (lv_at hl 0 rfl) ?_
  refine m_geti X ff_26 dX11_reading_2 ?_
  refine z_imul X dX11_reading_5 ?_
  refine z_iload_n X dX11_reading_6 rfl (lv_at hl 1 rfl) ?_
  refine z_iadd X dX11_reading_7 ?_
  refine z_istore_n (lv' := [(2, .int (((3 : Int32) * (V 0 26)) + x1)), (0, .ref (ad 0)), (1, .int x1)]) X dX11_reading_8 rfl hl (by decide) rfl (fun ls hl => ?_)
  refine z_aload_n X dX11_reading_9 rfl (lv_at hl 1 rfl) ?_
  refine z_aload_n X dX11_reading_10 rfl (lv_at hl 1 rfl) ?_
  refine m_geta X ff_20 dX11_reading_11 ?_
  refine z_iload_n X dX11_reading_14 rfl (lv_at hl 0 rfl) ?_
  obtain ⟨hb1, hf⟩ := z_ite hf
  refine m_iald X pa_8 hb1 dX11_reading_15 ?_
  refine z_iconst (v := -1) X dX11_reading_16 (by decide) ?_
  refine z_icmp_eq (tgt := 24) X dX11_reading_17 (by decide) (fun c_ => ?_) (fun c_ => ?_)
  · have hf := (if_pos c_).symm.trans hf
    refine z_iconst (v := 0) X dX11_reading_24 (by decide) ?_
    exact w_reading_25 X Z x1 (((3 : Int32) * (V 0 26)) + x1) 0 V L ls (lv_sub hl [1, 2, 0] rfl) hf
  · have hf := (if_neg c_).symm.trans hf
    refine z_iconst (v := 1) X dX11_reading_20 (by decide) ?_
    refine z_goto (tgt := 25) X dX11_reading_21 (by decide) ?_
    exact w_reading_25 X Z x1 (((3 : Int32) * (V 0 26)) + x1) 1 V L ls (lv_sub hl [1, 2, 0] rfl) hf

theorem c_reading (D : va_G) (cy : Nat → ClassId) (ad : Nat → Nat) {x1 : Int32} {V : zI} {L : zL} {r' : zI × zL} (hf : f_reading x1 V L = some r') : RMv (zR D cy ad) yX11_reading cX11_reading 3 5 111 [.ref (ad 0), .int x1] V L r'.1 r'.2 :=
  RMv.of (by decide) zR_nd (Nat.le_of_ble_eq_true rfl) (fun M X Z ls hl => w_reading X Z x1 V L ls hl hf)
def f_telling (x1 : Int32) (x2 : Int32) (V : zI) (L : zL) : Option (zI × zL) :=
  (f_counts 0 V L).bind fun r1 => (if r1.1 = 0 then some (r1.2.1, r1.2.2) else (f_number 0 x2 r1.2.1 r1.2.2).bind fun r2 => (if (r2.2.1 0 8) = 0 then if inB (((2 : Int32) * (r2.2.1 0 26)) + x1) 4 then some (z_uI r2.2.1 7 (((2 : Int32) * (r2.2.1 0 26)) + x1).toNatClampNeg r2.1, r2.2.2) else none else some (r2.2.1, r2.2.2)))
set_option maxHeartbeats 4000000 in
set_option maxRecDepth 100000 in
theorem w_telling {M : zM} {D : va_G} {cy : Nat → ClassId} {ad : Nat → Nat} {r' : zI × zL} (X : RX M (zR D cy ad) cX11_telling 4 RX11 3 68) (Z : RZv M (zR D cy ad) r'.1 r'.2) (x1 : Int32) (x2 : Int32) (V : zI) (L : zL) (ls : Array Slot) (hl : lv_has ls 4 [(0, .ref (ad 0)), (1, .int x1), (2, .int x2)]) (hf : f_telling x1 x2 V L = some r') : RG M (zR D cy ad) V L 0 ls [] := by
  unfold f_telling at hf
  refine z_aload_n X dX11_telling_0 rfl (lv_at hl 0 rfl) ?_
  refine z_iconst (v := 0) X dX11_telling_1 (by decide) ?_
  obtain ⟨r1, hc1, hf⟩ := z_bind hf
  refine m_callVi [.int 0] X hl.1 (c_counts D cy ad hc1) gm_counts pd_counts rfl ⟨by decide, by decide⟩ (Nat.le_of_ble_eq_true rfl) rfl dX11_telling_2 ?_
  refine z_if_ne (tgt := 9) X dX11_telling_5 (by decide) (fun c_ => ?_) (fun c_ => ?_)
  · have hf := (if_neg c_).symm.trans hf
    refine z_aload_n X dX11_telling_9 rfl (lv_at hl 0 rfl) ?_
    refine z_iconst (v := 0) X dX11_telling_10 (by decide) ?_
    refine z_iload_n X dX11_telling_11 rfl (lv_at hl 2 rfl) ?_
    obtain ⟨r2, hc2, hf⟩ := z_bind hf
    refine m_callVi [.int 0, .int x2] X hl.1 (c_number D cy ad hc2) gm_number pd_number rfl ⟨by decide, by decide⟩ (Nat.le_of_ble_eq_true rfl) rfl dX11_telling_12 ?_
    refine z_istore_n (lv' := [(3, .int r2.1), (0, .ref (ad 0)), (1, .int x1), (2, .int x2)]) X dX11_telling_15 rfl hl (by decide) rfl (fun ls hl => ?_)
    refine z_aload_n X dX11_telling_16 rfl (lv_at hl 1 rfl) ?_
    refine m_geti X ff_8 dX11_telling_17 ?_
    refine z_if_ne (tgt := 37) X dX11_telling_20 (by decide) (fun c_ => ?_) (fun c_ => ?_)
    · have hf := (if_neg c_).symm.trans hf
      exact m_vret X Z hf dX11_telling_37
    · have hf := (if_pos c_).symm.trans hf
      refine z_aload_n X dX11_telling_23 rfl (lv_at hl 1 rfl) ?_
      refine m_geta X ff_19 dX11_telling_24 ?_
      refine z_iconst (v := 2) X dX11_telling_27 (by decide) ?_
      refine z_aload_n X dX11_telling_28 rfl (lv_at hl 1 rfl) ?_
      refine m_geti X ff_26 dX11_telling_29 ?_
      refine z_imul X dX11_telling_32 ?_
      refine z_iload_n X dX11_telling_33 rfl (lv_at hl 2 rfl) ?_
      refine z_iadd X dX11_telling_34 ?_
      refine z_iload_n X dX11_telling_35 rfl (lv_at hl 0 rfl) ?_
      obtain ⟨hb3, hf⟩ := z_ite hf
      refine m_iast X pa_7 hb3 dX11_telling_36 ?_
      exact m_vret X Z hf dX11_telling_37
  · have hf := (if_pos c_).symm.trans hf
    exact m_vret X Z hf dX11_telling_8

theorem c_telling (D : va_G) (cy : Nat → ClassId) (ad : Nat → Nat) {x1 : Int32} {x2 : Int32} {V : zI} {L : zL} {r' : zI × zL} (hf : f_telling x1 x2 V L = some r') : RMv (zR D cy ad) yX11_telling cX11_telling 4 3 68 [.ref (ad 0), .int x1, .int x2] V L r'.1 r'.2 :=
  RMv.of (by decide) zR_nd (Nat.le_of_ble_eq_true rfl) (fun M X Z ls hl => w_telling X Z x1 x2 V L ls hl hf)
def f_statement (V : zI) (L : zL) : Option (zI × zL) :=
  (f_lex V L).bind fun r1 => (if (r1.1 0 8) ≤ 0 then (f_isWord 1953462126 r1.1 r1.2).bind fun r2 => (if r2.1 = 0 then (f_isWord 1667330676 r2.2.1 r2.2.2).bind fun r3 => (if r3.1 = 0 then (f_isWord 448545973363 r3.2.1 r3.2.2).bind fun r4 => (if r4.1 = 0 then (f_isWord 131333279212915 r4.2.1 r4.2.2).bind fun r5 => (if r5.1 = 0 then (f_isWord 465625113971 r5.2.1 r5.2.2).bind fun r6 => (if r6.1 = 0 then (f_isWord 512970880104 r6.2.1 r6.2.2).bind fun r7 => (if r7.1 = 0 then (f_isWord 1701733228 r7.2.1 r7.2.2).bind fun r8 => (if r8.1 = 0 then (f_isWord 1819243380 r8.2.1 r8.2.2).bind fun r9 => (if r9.1 = 0 then (f_blame 1 (r9.2.1 0 4) r9.2.1 r9.2.2).bind fun r10 => some (r10.1, r10.2) else (f_telling 1 100 r9.2.1 r9.2.2).bind fun r11 => some (r11.1, r11.2)) else (f_telling 0 3 r8.2.1 r8.2.2).bind fun r12 => some (r12.1, r12.2)) else (f_reading 2 r7.2.1 r7.2.2).bind fun r13 => some (r13.1, r13.2)) else (f_reading 1 r6.2.1 r6.2.2).bind fun r14 => some (r14.1, r14.2)) else (f_reading 0 r5.2.1 r5.2.2).bind fun r15 => some (r15.1, r15.2)) else (f_holding r4.2.1 r4.2.2).bind fun r16 => some (r16.1, r16.2)) else (f_carting r3.2.1 r3.2.2).bind fun r17 => some (r17.1, r17.2)) else (f_towning r2.2.1 r2.2.2).bind fun r18 => some (r18.1, r18.2)) else some (r1.1, r1.2))
set_option maxHeartbeats 4000000 in
set_option maxRecDepth 100000 in
theorem w_statement {M : zM} {D : va_G} {cy : Nat → ClassId} {ad : Nat → Nat} {r' : zI × zL} (X : RX M (zR D cy ad) cX11_statement 1 RX11 6 133) (Z : RZv M (zR D cy ad) r'.1 r'.2)  (V : zI) (L : zL) (ls : Array Slot) (hl : lv_has ls 1 [(0, .ref (ad 0))]) (hf : f_statement V L = some r') : RG M (zR D cy ad) V L 0 ls [] := by
  unfold f_statement at hf
  refine z_aload_n X dX11_statement_0 rfl (lv_at hl 0 rfl) ?_
  obtain ⟨r1, hc1, hf⟩ := z_bind hf
  refine m_callVv [] X hl.1 (c_lex D cy ad hc1) gm_lex pd_lex rfl ⟨by decide, by decide⟩ (Nat.le_of_ble_eq_true rfl) rfl dX11_statement_1 ?_
  refine z_aload_n X dX11_statement_4 rfl (lv_at hl 0 rfl) ?_
  refine m_geti X ff_8 dX11_statement_5 ?_
  refine z_if_le (tgt := 12) X dX11_statement_8 (by decide) (fun c_ => ?_) (fun c_ => ?_)
  · have hf := (if_pos c_).symm.trans hf
    refine z_aload_n X dX11_statement_12 rfl (lv_at hl 0 rfl) ?_
    refine z_ldc2 X dX11_statement_13 kc_241 ?_
    obtain ⟨r2, hc2, hf⟩ := z_bind hf
    refine m_callVi [.long 1953462126] X hl.1 (c_isWord D cy ad hc2) gm_isWord pd_isWord rfl ⟨by decide, by decide⟩ (Nat.le_of_ble_eq_true rfl) rfl dX11_statement_16 ?_
    refine z_if_eq (tgt := 29) X dX11_statement_19 (by decide) (fun c_ => ?_) (fun c_ => ?_)
    · have hf := (if_pos c_).symm.trans hf
      refine z_aload_n X dX11_statement_29 rfl (lv_at hl 0 rfl) ?_
      refine z_ldc2 X dX11_statement_30 kc_243 ?_
      obtain ⟨r3, hc3, hf⟩ := z_bind hf
      refine m_callVi [.long 1667330676] X hl.1 (c_isWord D cy ad hc3) gm_isWord pd_isWord rfl ⟨by decide, by decide⟩ (Nat.le_of_ble_eq_true rfl) rfl dX11_statement_33 ?_
      refine z_if_eq (tgt := 46) X dX11_statement_36 (by decide) (fun c_ => ?_) (fun c_ => ?_)
      · have hf := (if_pos c_).symm.trans hf
        refine z_aload_n X dX11_statement_46 rfl (lv_at hl 0 rfl) ?_
        refine z_ldc2 X dX11_statement_47 kc_249 ?_
        obtain ⟨r4, hc4, hf⟩ := z_bind hf
        refine m_callVi [.long 448545973363] X hl.1 (c_isWord D cy ad hc4) gm_isWord pd_isWord rfl ⟨by decide, by decide⟩ (Nat.le_of_ble_eq_true rfl) rfl dX11_statement_50 ?_
        refine z_if_eq (tgt := 63) X dX11_statement_53 (by decide) (fun c_ => ?_) (fun c_ => ?_)
        · have hf := (if_pos c_).symm.trans hf
          refine z_aload_n X dX11_statement_63 rfl (lv_at hl 0 rfl) ?_
          refine z_ldc2 X dX11_statement_64 kc_253 ?_
          obtain ⟨r5, hc5, hf⟩ := z_bind hf
          refine m_callVi [.long 131333279212915] X hl.1 (c_isWord D cy ad hc5) gm_isWord pd_isWord rfl ⟨by decide, by decide⟩ (Nat.le_of_ble_eq_true rfl) rfl dX11_statement_67 ?_
          refine z_if_eq (tgt := 81) X dX11_statement_70 (by decide) (fun c_ => ?_) (fun c_ => ?_)
          · have hf := (if_pos c_).symm.trans hf
            refine z_aload_n X dX11_statement_81 rfl (lv_at hl 0 rfl) ?_
            refine z_ldc2 X dX11_statement_82 kc_255 ?_
            obtain ⟨r6, hc6, hf⟩ := z_bind hf
            refine m_callVi [.long 465625113971] X hl.1 (c_isWord D cy ad hc6) gm_isWord pd_isWord rfl ⟨by decide, by decide⟩ (Nat.le_of_ble_eq_true rfl) rfl dX11_statement_85 ?_
            refine z_if_eq (tgt := 99) X dX11_statement_88 (by decide) (fun c_ => ?_) (fun c_ => ?_)
            · have hf := (if_pos c_).symm.trans hf
              refine z_aload_n X dX11_statement_99 rfl (lv_at hl 0 rfl) ?_
              refine z_ldc2 X dX11_statement_100 kc_257 ?_
              obtain ⟨r7, hc7, hf⟩ := z_bind hf
              refine m_callVi [.long 512970880104] X hl.1 (c_isWord D cy ad hc7) gm_isWord pd_isWord rfl ⟨by decide, by decide⟩ (Nat.le_of_ble_eq_true rfl) rfl dX11_statement_103 ?_
              refine z_if_eq (tgt := 117) X dX11_statement_106 (by decide) (fun c_ => ?_) (fun c_ => ?_)
              · have hf := (if_pos c_).symm.trans hf
                refine z_aload_n X dX11_statement_117 rfl (lv_at hl 0 rfl) ?_
                refine z_ldc2 X dX11_statement_118 kc_259 ?_
                obtain ⟨r8, hc8, hf⟩ := z_bind hf
                refine m_callVi [.long 1701733228] X hl.1 (c_isWord D cy ad hc8) gm_isWord pd_isWord rfl ⟨by decide, by decide⟩ (Nat.le_of_ble_eq_true rfl) rfl dX11_statement_121 ?_
                refine z_if_eq (tgt := 136) X dX11_statement_124 (by decide) (fun c_ => ?_) (fun c_ => ?_)
                · have hf := (if_pos c_).symm.trans hf
                  refine z_aload_n X dX11_statement_136 rfl (lv_at hl 0 rfl) ?_
                  refine z_ldc2 X dX11_statement_137 kc_261 ?_
                  obtain ⟨r9, hc9, hf⟩ := z_bind hf
                  refine m_callVi [.long 1819243380] X hl.1 (c_isWord D cy ad hc9) gm_isWord pd_isWord rfl ⟨by decide, by decide⟩ (Nat.le_of_ble_eq_true rfl) rfl dX11_statement_140 ?_
                  refine z_if_eq (tgt := 156) X dX11_statement_143 (by decide) (fun c_ => ?_) (fun c_ => ?_)
                  · have hf := (if_pos c_).symm.trans hf
                    refine z_aload_n X dX11_statement_156 rfl (lv_at hl 0 rfl) ?_
                    refine z_iconst (v := 1) X dX11_statement_157 (by decide) ?_
                    refine z_aload_n X dX11_statement_158 rfl (lv_at hl 0 rfl) ?_
                    refine m_geti X ff_4 dX11_statement_159 ?_
                    obtain ⟨r10, hc10, hf⟩ := z_bind hf
                    refine m_callVv [.int 1, .int (r9.2.1 0 4)] X hl.1 (c_blame D cy ad hc10) gm_blame pd_blame rfl ⟨by decide, by decide⟩ (Nat.le_of_ble_eq_true rfl) rfl dX11_statement_162 ?_
                    exact m_vret X Z hf dX11_statement_165
                  · have hf := (if_neg c_).symm.trans hf
                    refine z_aload_n X dX11_statement_146 rfl (lv_at hl 0 rfl) ?_
                    refine z_iconst (v := 1) X dX11_statement_147 (by decide) ?_
                    refine z_bipush (v := 100) X dX11_statement_148 (by decide) ?_
                    obtain ⟨r11, hc11, hf⟩ := z_bind hf
                    refine m_callVv [.int 1, .int 100] X hl.1 (c_telling D cy ad hc11) gm_telling pd_telling rfl ⟨by decide, by decide⟩ (Nat.le_of_ble_eq_true rfl) rfl dX11_statement_150 ?_
                    refine z_goto (tgt := 165) X dX11_statement_153 (by decide) ?_
                    exact m_vret X Z hf dX11_statement_165
                · have hf := (if_neg c_).symm.trans hf
                  refine z_aload_n X dX11_statement_127 rfl (lv_at hl 0 rfl) ?_
                  refine z_iconst (v := 0) X dX11_statement_128 (by decide) ?_
                  refine z_iconst (v := 3) X dX11_statement_129 (by decide) ?_
                  obtain ⟨r12, hc12, hf⟩ := z_bind hf
                  refine m_callVv [.int 0, .int 3] X hl.1 (c_telling D cy ad hc12) gm_telling pd_telling rfl ⟨by decide, by decide⟩ (Nat.le_of_ble_eq_true rfl) rfl dX11_statement_130 ?_
                  refine z_goto (tgt := 165) X dX11_statement_133 (by decide) ?_
                  exact m_vret X Z hf dX11_statement_165
              · have hf := (if_neg c_).symm.trans hf
                refine z_aload_n X dX11_statement_109 rfl (lv_at hl 0 rfl) ?_
                refine z_iconst (v := 2) X dX11_statement_110 (by decide) ?_
                obtain ⟨r13, hc13, hf⟩ := z_bind hf
                refine m_callVv [.int 2] X hl.1 (c_reading D cy ad hc13) gm_reading pd_reading rfl ⟨by decide, by decide⟩ (Nat.le_of_ble_eq_true rfl) rfl dX11_statement_111 ?_
                refine z_goto (tgt := 165) X dX11_statement_114 (by decide) ?_
                exact m_vret X Z hf dX11_statement_165
            · have hf := (if_neg c_).symm.trans hf
              refine z_aload_n X dX11_statement_91 rfl (lv_at hl 0 rfl) ?_
              refine z_iconst (v := 1) X dX11_statement_92 (by decide) ?_
              obtain ⟨r14, hc14, hf⟩ := z_bind hf
              refine m_callVv [.int 1] X hl.1 (c_reading D cy ad hc14) gm_reading pd_reading rfl ⟨by decide, by decide⟩ (Nat.le_of_ble_eq_true rfl) rfl dX11_statement_93 ?_
              refine z_goto (tgt := 165) X dX11_statement_96 (by decide) ?_
              exact m_vret X Z hf dX11_statement_165
          · have hf := (if_neg c_).symm.trans hf
            refine z_aload_n X dX11_statement_73 rfl (lv_at hl 0 rfl) ?_
            refine z_iconst (v := 0) X dX11_statement_74 (by decide) ?_
            obtain ⟨r15, hc15, hf⟩ := z_bind hf
            refine m_callVv [.int 0] X hl.1 (c_reading D cy ad hc15) gm_reading pd_reading rfl ⟨by decide, by decide⟩ (Nat.le_of_ble_eq_true rfl) rfl dX11_statement_75 ?_
            refine z_goto (tgt := 165) X dX11_statement_78 (by decide) ?_
            exact m_vret X Z hf dX11_statement_165
        · have hf := (if_neg c_).symm.trans hf
          refine z_aload_n X dX11_statement_56 rfl (lv_at hl 0 rfl) ?_
          obtain ⟨r16, hc16, hf⟩ := z_bind hf
          refine m_callVv [] X hl.1 (c_holding D cy ad hc16) gm_holding pd_holding rfl ⟨by decide, by decide⟩ (Nat.le_of_ble_eq_true rfl) rfl dX11_statement_57 ?_
          refine z_goto (tgt := 165) X dX11_statement_60 (by decide) ?_
          exact m_vret X Z hf dX11_statement_165
      · have hf := (if_neg c_).symm.trans hf
        refine z_aload_n X dX11_statement_39 rfl (lv_at hl 0 rfl) ?_
        obtain ⟨r17, hc17, hf⟩ := z_bind hf
        refine m_callVv [] X hl.1 (c_carting D cy ad hc17) gm_carting pd_carting rfl ⟨by decide, by decide⟩ (Nat.le_of_ble_eq_true rfl) rfl dX11_statement_40 ?_
        refine z_goto (tgt := 165) X dX11_statement_43 (by decide) ?_
        exact m_vret X Z hf dX11_statement_165
    · have hf := (if_neg c_).symm.trans hf
      refine z_aload_n X dX11_statement_22 rfl (lv_at hl 0 rfl) ?_
      obtain ⟨r18, hc18, hf⟩ := z_bind hf
      refine m_callVv [] X hl.1 (c_towning D cy ad hc18) gm_towning pd_towning rfl ⟨by decide, by decide⟩ (Nat.le_of_ble_eq_true rfl) rfl dX11_statement_23 ?_
      refine z_goto (tgt := 165) X dX11_statement_26 (by decide) ?_
      exact m_vret X Z hf dX11_statement_165
  · have hf := (if_neg c_).symm.trans hf
    exact m_vret X Z hf dX11_statement_11

theorem c_statement (D : va_G) (cy : Nat → ClassId) (ad : Nat → Nat)  {V : zI} {L : zL} {r' : zI × zL} (hf : f_statement V L = some r') : RMv (zR D cy ad) yX11_statement cX11_statement 1 6 133 [.ref (ad 0)] V L r'.1 r'.2 :=
  RMv.of (by decide) zR_nd (Nat.le_of_ble_eq_true rfl) (fun M X Z ls hl => w_statement X Z V L ls hl hf)
def f_finishes_83 (V : zI) (L : zL) : Option (zI × zL) :=
  (f_must 59 V L).bind fun r1 => some (r1.1, r1.2)
def f_finishes_53 (x1 : Int32) (x2 : Int32) (V : zI) (L : zL) : Option (zI × zL) :=
  (f_isSign 59 V L).bind fun r1 => (if r1.1 = 0 then f_finishes_83 r1.2.1 r1.2.2 else (if x1 = 80 then (if (r1.2.1 0 2) ≤ x2 then f_finishes_83 r1.2.1 r1.2.2 else (f_blame 6 x2 r1.2.1 r1.2.2).bind fun r2 => f_finishes_83 r2.1 r2.2) else f_finishes_83 r1.2.1 r1.2.2))
def b_finishes_17 (k17 : Int32 × Int32 × zI × zL → Option (zI × zL)) : Int32 × Int32 × zI × zL → Option (zI × zL) := fun ⟨x1, x2, V, L⟩ =>
  (if (V 0 2) ≤ x2 then f_finishes_53 x1 x2 V L else if inB x2 1800 then (if (V 1 x2.toNatClampNeg) = 32 then k17 (x1, (x2 + 1), V, L) else if inB x2 1800 then (if (V 1 x2.toNatClampNeg) = 10 then k17 (x1, (x2 + 1), V, L) else f_finishes_53 x1 x2 V L) else none) else none)
def f_finishes (x1 : Int32) (V : zI) (L : zL) : Option (zI × zL) :=
  (f_lex V L).bind fun r1 => (if (r1.1 0 8) ≤ 0 then zfix (b_finishes_17) FU (x1, (r1.1 0 5), r1.1, r1.2) else some (r1.1, r1.2))
set_option maxHeartbeats 4000000 in
set_option maxRecDepth 100000 in
theorem w_finishes_83 {M : zM} {D : va_G} {cy : Nat → ClassId} {ad : Nat → Nat} {r' : zI × zL} (X : RX M (zR D cy ad) cX11_finishes 3 RX11 3 66) (Z : RZv M (zR D cy ad) r'.1 r'.2)  (V : zI) (L : zL) (ls : Array Slot) (hl : lv_has ls 3 [(0, .ref (ad 0))]) (hf : f_finishes_83 V L = some r') : RG M (zR D cy ad) V L 83 ls [] := by
  unfold f_finishes_83 at hf
  refine z_aload_n X dX11_finishes_83 rfl (lv_at hl 0 rfl) ?_
  refine z_bipush (v := 59) X dX11_finishes_84 (by decide) ?_
  obtain ⟨r1, hc1, hf⟩ := z_bind hf
  refine m_callVv [.int 59] X hl.1 (c_must D cy ad hc1) gm_must pd_must rfl ⟨by decide, by decide⟩ (Nat.le_of_ble_eq_true rfl) rfl dX11_finishes_86 ?_
  exact m_vret X Z hf dX11_finishes_89

set_option maxHeartbeats 4000000 in
set_option maxRecDepth 100000 in
theorem w_finishes_53 {M : zM} {D : va_G} {cy : Nat → ClassId} {ad : Nat → Nat} {r' : zI × zL} (X : RX M (zR D cy ad) cX11_finishes 3 RX11 3 66) (Z : RZv M (zR D cy ad) r'.1 r'.2) (x1 : Int32) (x2 : Int32) (V : zI) (L : zL) (ls : Array Slot) (hl : lv_has ls 3 [(0, .ref (ad 0)), (1, .int x1), (2, .int x2)]) (hf : f_finishes_53 x1 x2 V L = some r') : RG M (zR D cy ad) V L 53 ls [] := by
  unfold f_finishes_53 at hf
  refine z_aload_n X dX11_finishes_53 rfl (lv_at hl 0 rfl) ?_
  refine z_bipush (v := 59) X dX11_finishes_54 (by decide) ?_
  obtain ⟨r1, hc1, hf⟩ := z_bind hf
  refine m_callVi [.int 59] X hl.1 (c_isSign D cy ad hc1) gm_isSign pd_isSign rfl ⟨by decide, by decide⟩ (Nat.le_of_ble_eq_true rfl) rfl dX11_finishes_56 ?_
  refine z_if_eq (tgt := 83) X dX11_finishes_59 (by decide) (fun c_ => ?_) (fun c_ => ?_)
  · have hf := (if_pos c_).symm.trans hf
    exact w_finishes_83 X Z r1.2.1 r1.2.2 ls (lv_sub hl [0] rfl) hf
  · have hf := (if_neg c_).symm.trans hf
    refine z_iload_n X dX11_finishes_62 rfl (lv_at hl 1 rfl) ?_
    refine z_bipush (v := 80) X dX11_finishes_63 (by decide) ?_
    refine z_icmp_ne (tgt := 83) X dX11_finishes_65 (by decide) (fun c_ => ?_) (fun c_ => ?_)
    · have hf := (if_neg c_).symm.trans hf
      exact w_finishes_83 X Z r1.2.1 r1.2.2 ls (lv_sub hl [0] rfl) hf
    · have hf := (if_pos c_).symm.trans hf
      refine z_iload_n X dX11_finishes_68 rfl (lv_at hl 2 rfl) ?_
      refine z_aload_n X dX11_finishes_69 rfl (lv_at hl 0 rfl) ?_
      refine m_geti X ff_2 dX11_finishes_70 ?_
      refine z_icmp_ge (tgt := 83) X dX11_finishes_73 (by decide) (fun c_ => ?_) (fun c_ => ?_)
      · have hf := (if_pos c_).symm.trans hf
        exact w_finishes_83 X Z r1.2.1 r1.2.2 ls (lv_sub hl [0] rfl) hf
      · have hf := (if_neg c_).symm.trans hf
        refine z_aload_n X dX11_finishes_76 rfl (lv_at hl 0 rfl) ?_
        refine z_bipush (v := 6) X dX11_finishes_77 (by decide) ?_
        refine z_iload_n X dX11_finishes_79 rfl (lv_at hl 2 rfl) ?_
        obtain ⟨r2, hc2, hf⟩ := z_bind hf
        refine m_callVv [.int 6, .int x2] X hl.1 (c_blame D cy ad hc2) gm_blame pd_blame rfl ⟨by decide, by decide⟩ (Nat.le_of_ble_eq_true rfl) rfl dX11_finishes_80 ?_
        exact w_finishes_83 X Z r2.1 r2.2 ls (lv_sub hl [0] rfl) hf

set_option maxHeartbeats 4000000 in
set_option maxRecDepth 100000 in
theorem w_finishes_17 {M : zM} {D : va_G} {cy : Nat → ClassId} {ad : Nat → Nat} {r' : zI × zL} (X : RX M (zR D cy ad) cX11_finishes 3 RX11 3 66) (Z : RZv M (zR D cy ad) r'.1 r'.2) (n : Nat) : ∀ (x1 : Int32) (x2 : Int32) (V : zI) (L : zL) (ls : Array Slot) (hl : lv_has ls 3 [(0, .ref (ad 0)), (1, .int x1), (2, .int x2)]) (hf : zfix (b_finishes_17) n (x1, x2, V, L) = some r'), RG M (zR D cy ad) V L 17 ls [] := by
  induction n with
  | zero => intro x1 x2 V L ls hl hf; cases hf
  | succ n ih =>
  intro x1 x2 V L ls hl hf
  have hk17 : ∀ (x1 : Int32) (x2 : Int32) (V : zI) (L : zL) (ls : Array Slot), lv_has ls 3 [(0, .ref (ad 0)), (1, .int x1), (2, .int x2)] → zfix (b_finishes_17) n (x1, x2, V, L) = some r' → RG M (zR D cy ad) V L 17 ls [] := ih
  have hf : b_finishes_17 (zfix (b_finishes_17) n) (x1, x2, V, L) = some r' := hf
  generalize zfix (b_finishes_17) n = k17 at hk17 hf
  unfold b_finishes_17 at hf
  clear ih
  refine z_iload_n X dX11_finishes_17 rfl (lv_at hl 2 rfl) ?_
  refine z_aload_n X dX11_finishes_18 rfl (lv_at hl 0 rfl) ?_
  refine m_geti X ff_2 dX11_finishes_19 ?_
  refine z_icmp_ge (tgt := 53) X dX11_finishes_22 (by decide) (fun c_ => ?_) (fun c_ => ?_)
  · have hf := (if_pos c_).symm.trans hf
    exact w_finishes_53 X Z x1 x2 V L ls (lv_sub hl [0, 1, 2] rfl) hf
  · have hf := (if_neg c_).symm.trans hf
    refine z_aload_n X dX11_finishes_25 rfl (lv_at hl 0 rfl) ?_
    refine m_geta X ff_0 dX11_finishes_26 ?_
    refine z_iload_n X dX11_finishes_29 rfl (lv_at hl 2 rfl) ?_
    obtain ⟨hb1, hf⟩ := z_ite hf
    refine m_iald X pa_1 hb1 dX11_finishes_30 ?_
    refine z_bipush (v := 32) X dX11_finishes_31 (by decide) ?_
    refine z_icmp_eq (tgt := 47) X dX11_finishes_33 (by decide) (fun c_ => ?_) (fun c_ => ?_)
    · have hf := (if_pos c_).symm.trans hf
      refine z_iinc (v := x2 + 1) (k0 := 2) (lv' := [(2, .int (x2 + 1)), (0, .ref (ad 0)), (1, .int x1)]) X dX11_finishes_47 hl rfl rfl (by decide) rfl (fun ls hl => ?_)
      refine z_goto (tgt := 17) X dX11_finishes_50 (by decide) ?_
      exact hk17 x1 (x2 + 1) V L ls (lv_sub hl [1, 2, 0] rfl) hf
    · have hf := (if_neg c_).symm.trans hf
      refine z_aload_n X dX11_finishes_36 rfl (lv_at hl 0 rfl) ?_
      refine m_geta X ff_0 dX11_finishes_37 ?_
      refine z_iload_n X dX11_finishes_40 rfl (lv_at hl 2 rfl) ?_
      obtain ⟨hb2, hf⟩ := z_ite hf
      refine m_iald X pa_1 hb2 dX11_finishes_41 ?_
      refine z_bipush (v := 10) X dX11_finishes_42 (by decide) ?_
      refine z_icmp_ne (tgt := 53) X dX11_finishes_44 (by decide) (fun c_ => ?_) (fun c_ => ?_)
      · have hf := (if_neg c_).symm.trans hf
        exact w_finishes_53 X Z x1 x2 V L ls (lv_sub hl [0, 1, 2] rfl) hf
      · have hf := (if_pos c_).symm.trans hf
        refine z_iinc (v := x2 + 1) (k0 := 2) (lv' := [(2, .int (x2 + 1)), (0, .ref (ad 0)), (1, .int x1)]) X dX11_finishes_47 hl rfl rfl (by decide) rfl (fun ls hl => ?_)
        refine z_goto (tgt := 17) X dX11_finishes_50 (by decide) ?_
        exact hk17 x1 (x2 + 1) V L ls (lv_sub hl [1, 2, 0] rfl) hf

set_option maxHeartbeats 4000000 in
set_option maxRecDepth 100000 in
theorem w_finishes {M : zM} {D : va_G} {cy : Nat → ClassId} {ad : Nat → Nat} {r' : zI × zL} (X : RX M (zR D cy ad) cX11_finishes 3 RX11 3 66) (Z : RZv M (zR D cy ad) r'.1 r'.2) (x1 : Int32) (V : zI) (L : zL) (ls : Array Slot) (hl : lv_has ls 3 [(0, .ref (ad 0)), (1, .int x1)]) (hf : f_finishes x1 V L = some r') : RG M (zR D cy ad) V L 0 ls [] := by
  unfold f_finishes at hf
  refine z_aload_n X dX11_finishes_0 rfl (lv_at hl 0 rfl) ?_
  obtain ⟨r1, hc1, hf⟩ := z_bind hf
  refine m_callVv [] X hl.1 (c_lex D cy ad hc1) gm_lex pd_lex rfl ⟨by decide, by decide⟩ (Nat.le_of_ble_eq_true rfl) rfl dX11_finishes_1 ?_
  refine z_aload_n X dX11_finishes_4 rfl (lv_at hl 0 rfl) ?_
  refine m_geti X ff_8 dX11_finishes_5 ?_
  refine z_if_le (tgt := 12) X dX11_finishes_8 (by decide) (fun c_ => ?_) (fun c_ => ?_)
  · have hf := (if_pos c_).symm.trans hf
    refine z_aload_n X dX11_finishes_12 rfl (lv_at hl 0 rfl) ?_
    refine m_geti X ff_5 dX11_finishes_13 ?_
    refine z_istore_n (lv' := [(2, .int (r1.1 0 5)), (0, .ref (ad 0)), (1, .int x1)]) X dX11_finishes_16 rfl hl (by decide) rfl (fun ls hl => ?_)
    exact w_finishes_17 X Z FU x1 (r1.1 0 5) r1.1 r1.2 ls (lv_sub hl [1, 2, 0] rfl) hf
  · have hf := (if_neg c_).symm.trans hf
    exact m_vret X Z hf dX11_finishes_11

theorem c_finishes (D : va_G) (cy : Nat → ClassId) (ad : Nat → Nat) {x1 : Int32} {V : zI} {L : zL} {r' : zI × zL} (hf : f_finishes x1 V L = some r') : RMv (zR D cy ad) yX11_finishes cX11_finishes 3 3 66 [.ref (ad 0), .int x1] V L r'.1 r'.2 :=
  RMv.of (by decide) zR_nd (Nat.le_of_ble_eq_true rfl) (fun M X Z ls hl => w_finishes X Z x1 V L ls hl hf)
def b_measures_10 (k2 : Int32 × zI × zL → Option (zI × zL)) (k10 : Int32 × Int32 × zI × zL → Option (zI × zL)) : Int32 × Int32 × zI × zL → Option (zI × zL) := fun ⟨x1, x2, V, L⟩ =>
  (if 6 ≤ x2 then k2 ((x1 + 1), V, L) else (f_at (V 0 26) x1 x2 V L).bind fun r1 => (if x1 = x2 then if inB r1.1 72 then k10 (x1, (x2 + 1), z_uI r1.2.1 5 r1.1.toNatClampNeg 0, r1.2.2) else none else (f_at (r1.2.1 0 26) x1 x2 r1.2.1 r1.2.2).bind fun r2 => if inB r2.1 72 then (if (r2.2.1 4 r2.1.toNatClampNeg) ≤ 0 then if inB r1.1 72 then k10 (x1, (x2 + 1), z_uI r2.2.1 5 r1.1.toNatClampNeg 100000000, r2.2.2) else none else (f_at (r2.2.1 0 26) x1 x2 r2.2.1 r2.2.2).bind fun r5 => if inB r5.1 72 then if inB r1.1 72 then k10 (x1, (x2 + 1), z_uI r5.2.1 5 r1.1.toNatClampNeg (r5.2.1 4 r5.1.toNatClampNeg), r5.2.2) else none else none) else none))
def b_measures_109 (k93 : Int32 × zI × zL → Option (zI × zL)) (k101 : Int32 × Int32 × zI × zL → Option (zI × zL)) (k109 : Int32 × Int32 × Int32 × zI × zL → Option (zI × zL)) : Int32 × Int32 × Int32 × zI × zL → Option (zI × zL) := fun ⟨x1, x2, x3, V, L⟩ =>
  (if 6 ≤ x3 then k101 (x1, (x2 + 1), V, L) else (f_at (V 0 26) x2 x1 V L).bind fun r1 => if inB r1.1 72 then (f_at (r1.2.1 0 26) x1 x3 r1.2.1 r1.2.2).bind fun r3 => if inB r3.1 72 then (f_at (r3.2.1 0 26) x2 x3 r3.2.1 r3.2.2).bind fun r5 => if inB r5.1 72 then (if (r5.2.1 5 r5.1.toNatClampNeg) ≤ ((r1.2.1 5 r1.1.toNatClampNeg) + (r3.2.1 5 r3.1.toNatClampNeg)) then k109 (x1, x2, (x3 + 1), r5.2.1, r5.2.2) else (f_at (r5.2.1 0 26) x2 x3 r5.2.1 r5.2.2).bind fun r7 => if inB r7.1 72 then k109 (x1, x2, (x3 + 1), z_uI r7.2.1 5 r7.1.toNatClampNeg ((r1.2.1 5 r1.1.toNatClampNeg) + (r3.2.1 5 r3.1.toNatClampNeg)), r7.2.2) else none) else none else none else none)
def b_measures_101 (k93 : Int32 × zI × zL → Option (zI × zL)) (k101 : Int32 × Int32 × zI × zL → Option (zI × zL)) : Int32 × Int32 × zI × zL → Option (zI × zL) := fun ⟨x1, x2, V, L⟩ =>
  (if 6 ≤ x2 then k93 ((x1 + 1), V, L) else zfix (b_measures_109 k93 k101) FU (x1, x2, 0, V, L))
def b_measures_93 (k93 : Int32 × zI × zL → Option (zI × zL)) : Int32 × zI × zL → Option (zI × zL) := fun ⟨x1, V, L⟩ =>
  (if 6 ≤ x1 then some (V, L) else zfix (b_measures_101 k93) FU (x1, 0, V, L))
def b_measures_2 (k2 : Int32 × zI × zL → Option (zI × zL)) : Int32 × zI × zL → Option (zI × zL) := fun ⟨x1, V, L⟩ =>
  (if 6 ≤ x1 then zfix (b_measures_93) FU (0, V, L) else zfix (b_measures_10 k2) FU (x1, 0, V, L))
def f_measures (V : zI) (L : zL) : Option (zI × zL) :=
  zfix (b_measures_2) FU (0, V, L)
set_option maxHeartbeats 4000000 in
set_option maxRecDepth 100000 in
theorem w_measures_10 {M : zM} {D : va_G} {cy : Nat → ClassId} {ad : Nat → Nat} {r' : zI × zL} (X : RX M (zR D cy ad) cX11_measures 5 RX11 1 23) (Z : RZv M (zR D cy ad) r'.1 r'.2) {k2 : Int32 × zI × zL → Option (zI × zL)} (hk2 : ∀ (x1 : Int32) (V : zI) (L : zL) (ls : Array Slot), lv_has ls 5 [(0, .ref (ad 0)), (1, .int x1)] → k2 (x1, V, L) = some r' → RG M (zR D cy ad) V L 2 ls []) (n : Nat) : ∀ (x1 : Int32) (x2 : Int32) (V : zI) (L : zL) (ls : Array Slot) (hl : lv_has ls 5 [(0, .ref (ad 0)), (1, .int x1), (2, .int x2)]) (hf : zfix (b_measures_10 k2) n (x1, x2, V, L) = some r'), RG M (zR D cy ad) V L 10 ls [] := by
  induction n with
  | zero => intro x1 x2 V L ls hl hf; cases hf
  | succ n ih =>
  intro x1 x2 V L ls hl hf
  have hk10 : ∀ (x1 : Int32) (x2 : Int32) (V : zI) (L : zL) (ls : Array Slot), lv_has ls 5 [(0, .ref (ad 0)), (1, .int x1), (2, .int x2)] → zfix (b_measures_10 k2) n (x1, x2, V, L) = some r' → RG M (zR D cy ad) V L 10 ls [] := ih
  have hf : b_measures_10 k2 (zfix (b_measures_10 k2) n) (x1, x2, V, L) = some r' := hf
  generalize zfix (b_measures_10 k2) n = k10 at hk10 hf
  unfold b_measures_10 at hf
  clear ih
  refine z_iload_n X dX11_measures_10 rfl (lv_at hl 2 rfl) ?_
  refine z_bipush (v := 6) X dX11_measures_11 (by decide) ?_
  refine z_icmp_ge (tgt := 85) X dX11_measures_13 (by decide) (fun c_ => ?_) (fun c_ => ?_)
  · have hf := (if_pos c_).symm.trans hf
    refine z_iinc (v := x1 + 1) (k0 := 1) (lv' := [(1, .int (x1 + 1)), (0, .ref (ad 0)), (2, .int x2)]) X dX11_measures_85 hl rfl rfl (by decide) rfl (fun ls hl => ?_)
    refine z_goto (tgt := 2) X dX11_measures_88 (by decide) ?_
    exact hk2 (x1 + 1) V L ls (lv_sub hl [1, 0] rfl) hf
  · have hf := (if_neg c_).symm.trans hf
    refine z_aload_n X dX11_measures_16 rfl (lv_at hl 0 rfl) ?_
    refine m_geta X ff_17 dX11_measures_17 ?_
    refine z_aload_n X dX11_measures_20 rfl (lv_at hl 0 rfl) ?_
    refine z_aload_n X dX11_measures_21 rfl (lv_at hl 0 rfl) ?_
    refine m_geti X ff_26 dX11_measures_22 ?_
    refine z_iload_n X dX11_measures_25 rfl (lv_at hl 1 rfl) ?_
    refine z_iload_n X dX11_measures_26 rfl (lv_at hl 2 rfl) ?_
    obtain ⟨r1, hc1, hf⟩ := z_bind hf
    refine m_callVi [.int (V 0 26), .int x1, .int x2] X hl.1 (c_at D cy ad hc1) gm_at pd_at rfl ⟨by decide, by decide⟩ (Nat.le_of_ble_eq_true rfl) rfl dX11_measures_27 ?_
    refine z_iload_n X dX11_measures_30 rfl (lv_at hl 1 rfl) ?_
    refine z_iload_n X dX11_measures_31 rfl (lv_at hl 2 rfl) ?_
    refine z_icmp_ne (tgt := 39) X dX11_measures_32 (by decide) (fun c_ => ?_) (fun c_ => ?_)
    · have hf := (if_neg c_).symm.trans hf
      refine z_aload_n X dX11_measures_39 rfl (lv_at hl 0 rfl) ?_
      refine m_geta X ff_16 dX11_measures_40 ?_
      refine z_aload_n X dX11_measures_43 rfl (lv_at hl 0 rfl) ?_
      refine z_aload_n X dX11_measures_44 rfl (lv_at hl 0 rfl) ?_
      refine m_geti X ff_26 dX11_measures_45 ?_
      refine z_iload_n X dX11_measures_48 rfl (lv_at hl 1 rfl) ?_
      refine z_iload_n X dX11_measures_49 rfl (lv_at hl 2 rfl) ?_
      obtain ⟨r2, hc2, hf⟩ := z_bind hf
      refine m_callVi [.int (r1.2.1 0 26), .int x1, .int x2] X hl.1 (c_at D cy ad hc2) gm_at pd_at rfl ⟨by decide, by decide⟩ (Nat.le_of_ble_eq_true rfl) rfl dX11_measures_50 ?_
      obtain ⟨hb3, hf⟩ := z_ite hf
      refine m_iald X pa_4 hb3 dX11_measures_53 ?_
      refine z_if_le (tgt := 75) X dX11_measures_54 (by decide) (fun c_ => ?_) (fun c_ => ?_)
      · have hf := (if_pos c_).symm.trans hf
        refine z_ldcw X dX11_measures_75 kc_373 ?_
        obtain ⟨hb4, hf⟩ := z_ite hf
        refine m_iast X pa_5 hb4 dX11_measures_78 ?_
        refine z_iinc (v := x2 + 1) (k0 := 2) (lv' := [(2, .int (x2 + 1)), (0, .ref (ad 0)), (1, .int x1)]) X dX11_measures_79 hl rfl rfl (by decide) rfl (fun ls hl => ?_)
        refine z_goto (tgt := 10) X dX11_measures_82 (by decide) ?_
        exact hk10 x1 (x2 + 1) (z_uI r2.2.1 5 r1.1.toNatClampNeg 100000000) r2.2.2 ls (lv_sub hl [1, 2, 0] rfl) hf
      · have hf := (if_neg c_).symm.trans hf
        refine z_aload_n X dX11_measures_57 rfl (lv_at hl 0 rfl) ?_
        refine m_geta X ff_16 dX11_measures_58 ?_
        refine z_aload_n X dX11_measures_61 rfl (lv_at hl 0 rfl) ?_
        refine z_aload_n X dX11_measures_62 rfl (lv_at hl 0 rfl) ?_
        refine m_geti X ff_26 dX11_measures_63 ?_
        refine z_iload_n X dX11_measures_66 rfl (lv_at hl 1 rfl) ?_
        refine z_iload_n X dX11_measures_67 rfl (lv_at hl 2 rfl) ?_
        obtain ⟨r5, hc5, hf⟩ := z_bind hf
        refine m_callVi [.int (r2.2.1 0 26), .int x1, .int x2] X hl.1 (c_at D cy ad hc5) gm_at pd_at rfl ⟨by decide, by decide⟩ (Nat.le_of_ble_eq_true rfl) rfl dX11_measures_68 ?_
        obtain ⟨hb6, hf⟩ := z_ite hf
        refine m_iald X pa_4 hb6 dX11_measures_71 ?_
        refine z_goto (tgt := 78) X dX11_measures_72 (by decide) ?_
        obtain ⟨hb7, hf⟩ := z_ite hf
        refine m_iast X pa_5 hb7 dX11_measures_78 ?_
        refine z_iinc (v := x2 + 1) (k0 := 2) (lv' := [(2, .int (x2 + 1)), (0, .ref (ad 0)), (1, .int x1)]) X dX11_measures_79 hl rfl rfl (by decide) rfl (fun ls hl => ?_)
        refine z_goto (tgt := 10) X dX11_measures_82 (by decide) ?_
        exact hk10 x1 (x2 + 1) (z_uI r5.2.1 5 r1.1.toNatClampNeg (r5.2.1 4 r5.1.toNatClampNeg)) r5.2.2 ls (lv_sub hl [1, 2, 0] rfl) hf
    · have hf := (if_pos c_).symm.trans hf
      refine z_iconst (v := 0) X dX11_measures_35 (by decide) ?_
      refine z_goto (tgt := 78) X dX11_measures_36 (by decide) ?_
      obtain ⟨hb8, hf⟩ := z_ite hf
      refine m_iast X pa_5 hb8 dX11_measures_78 ?_
      refine z_iinc (v := x2 + 1) (k0 := 2) (lv' := [(2, .int (x2 + 1)), (0, .ref (ad 0)), (1, .int x1)]) X dX11_measures_79 hl rfl rfl (by decide) rfl (fun ls hl => ?_)
      refine z_goto (tgt := 10) X dX11_measures_82 (by decide) ?_
      exact hk10 x1 (x2 + 1) (z_uI r1.2.1 5 r1.1.toNatClampNeg 0) r1.2.2 ls (lv_sub hl [1, 2, 0] rfl) hf

set_option maxHeartbeats 4000000 in
set_option maxRecDepth 100000 in
theorem w_measures_109 {M : zM} {D : va_G} {cy : Nat → ClassId} {ad : Nat → Nat} {r' : zI × zL} (X : RX M (zR D cy ad) cX11_measures 5 RX11 1 23) (Z : RZv M (zR D cy ad) r'.1 r'.2) {k93 : Int32 × zI × zL → Option (zI × zL)} {k101 : Int32 × Int32 × zI × zL → Option (zI × zL)} (hk93 : ∀ (x1 : Int32) (V : zI) (L : zL) (ls : Array Slot), lv_has ls 5 [(0, .ref (ad 0)), (1, .int x1)] → k93 (x1, V, L) = some r' → RG M (zR D cy ad) V L 93 ls []) (hk101 : ∀ (x1 : Int32) (x2 : Int32) (V : zI) (L : zL) (ls : Array Slot), lv_has ls 5 [(0, .ref (ad 0)), (1, .int x1), (2, .int x2)] → k101 (x1, x2, V, L) = some r' → RG M (zR D cy ad) V L 101 ls []) (n : Nat) : ∀ (x1 : Int32) (x2 : Int32) (x3 : Int32) (V : zI) (L : zL) (ls : Array Slot) (hl : lv_has ls 5 [(0, .ref (ad 0)), (1, .int x1), (2, .int x2), (3, .int x3)]) (hf : zfix (b_measures_109 k93 k101) n (x1, x2, x3, V, L) = some r'), RG M (zR D cy ad) V L 109 ls [] := by
  induction n with
  | zero => intro x1 x2 x3 V L ls hl hf; cases hf
  | succ n ih =>
  intro x1 x2 x3 V L ls hl hf
  have hk109 : ∀ (x1 : Int32) (x2 : Int32) (x3 : Int32) (V : zI) (L : zL) (ls : Array Slot), lv_has ls 5 [(0, .ref (ad 0)), (1, .int x1), (2, .int x2), (3, .int x3)] → zfix (b_measures_109 k93 k101) n (x1, x2, x3, V, L) = some r' → RG M (zR D cy ad) V L 109 ls [] := ih
  have hf : b_measures_109 k93 k101 (zfix (b_measures_109 k93 k101) n) (x1, x2, x3, V, L) = some r' := hf
  generalize zfix (b_measures_109 k93 k101) n = k109 at hk109 hf
  unfold b_measures_109 at hf
  clear ih
  refine z_iload_n X dX11_measures_109 rfl (lv_at hl 3 rfl) ?_
  refine z_bipush (v := 6) X dX11_measures_110 (by decide) ?_
  refine z_icmp_ge (tgt := 191) X dX11_measures_112 (by decide) (fun c_ => ?_) (fun c_ => ?_)
  · have hf := (if_pos c_).symm.trans hf
    refine z_iinc (v := x2 + 1) (k0 := 2) (lv' := [(2, .int (x2 + 1)), (0, .ref (ad 0)), (1, .int x1), (3, .int x3)]) X dX11_measures_191 hl rfl rfl (by decide) rfl (fun ls hl => ?_)
    refine z_goto (tgt := 101) X dX11_measures_194 (by decide) ?_
    exact hk101 x1 (x2 + 1) V L ls (lv_sub hl [1, 2, 0] rfl) hf
  · have hf := (if_neg c_).symm.trans hf
    refine z_aload_n X dX11_measures_115 rfl (lv_at hl 0 rfl) ?_
    refine m_geta X ff_17 dX11_measures_116 ?_
    refine z_aload_n X dX11_measures_119 rfl (lv_at hl 0 rfl) ?_
    refine z_aload_n X dX11_measures_120 rfl (lv_at hl 0 rfl) ?_
    refine m_geti X ff_26 dX11_measures_121 ?_
    refine z_iload_n X dX11_measures_124 rfl (lv_at hl 2 rfl) ?_
    refine z_iload_n X dX11_measures_125 rfl (lv_at hl 1 rfl) ?_
    obtain ⟨r1, hc1, hf⟩ := z_bind hf
    refine m_callVi [.int (V 0 26), .int x2, .int x1] X hl.1 (c_at D cy ad hc1) gm_at pd_at rfl ⟨by decide, by decide⟩ (Nat.le_of_ble_eq_true rfl) rfl dX11_measures_126 ?_
    obtain ⟨hb2, hf⟩ := z_ite hf
    refine m_iald X pa_5 hb2 dX11_measures_129 ?_
    refine z_aload_n X dX11_measures_130 rfl (lv_at hl 0 rfl) ?_
    refine m_geta X ff_17 dX11_measures_131 ?_
    refine z_aload_n X dX11_measures_134 rfl (lv_at hl 0 rfl) ?_
    refine z_aload_n X dX11_measures_135 rfl (lv_at hl 0 rfl) ?_
    refine m_geti X ff_26 dX11_measures_136 ?_
    refine z_iload_n X dX11_measures_139 rfl (lv_at hl 1 rfl) ?_
    refine z_iload_n X dX11_measures_140 rfl (lv_at hl 3 rfl) ?_
    obtain ⟨r3, hc3, hf⟩ := z_bind hf
    refine m_callVi [.int (r1.2.1 0 26), .int x1, .int x3] X hl.1 (c_at D cy ad hc3) gm_at pd_at rfl ⟨by decide, by decide⟩ (Nat.le_of_ble_eq_true rfl) rfl dX11_measures_141 ?_
    obtain ⟨hb4, hf⟩ := z_ite hf
    refine m_iald X pa_5 hb4 dX11_measures_144 ?_
    refine z_iadd X dX11_measures_145 ?_
    refine z_istore (lv' := [(4, .int ((r1.2.1 5 r1.1.toNatClampNeg) + (r3.2.1 5 r3.1.toNatClampNeg))), (0, .ref (ad 0)), (1, .int x1), (2, .int x2), (3, .int x3)]) X dX11_measures_146 hl (by decide) rfl (fun ls hl => ?_)
    refine z_iload X dX11_measures_148 (lv_at hl 0 rfl) ?_
    refine z_aload_n X dX11_measures_150 rfl (lv_at hl 1 rfl) ?_
    refine m_geta X ff_17 dX11_measures_151 ?_
    refine z_aload_n X dX11_measures_154 rfl (lv_at hl 1 rfl) ?_
    refine z_aload_n X dX11_measures_155 rfl (lv_at hl 1 rfl) ?_
    refine m_geti X ff_26 dX11_measures_156 ?_
    refine z_iload_n X dX11_measures_159 rfl (lv_at hl 3 rfl) ?_
    refine z_iload_n X dX11_measures_160 rfl (lv_at hl 4 rfl) ?_
    obtain ⟨r5, hc5, hf⟩ := z_bind hf
    refine m_callVi [.int (r3.2.1 0 26), .int x2, .int x3] X hl.1 (c_at D cy ad hc5) gm_at pd_at rfl ⟨by decide, by decide⟩ (Nat.le_of_ble_eq_true rfl) rfl dX11_measures_161 ?_
    obtain ⟨hb6, hf⟩ := z_ite hf
    refine m_iald X pa_5 hb6 dX11_measures_164 ?_
    refine z_icmp_ge (tgt := 185) X dX11_measures_165 (by decide) (fun c_ => ?_) (fun c_ => ?_)
    · have hf := (if_pos c_).symm.trans hf
      refine z_iinc (v := x3 + 1) (k0 := 4) (lv' := [(3, .int (x3 + 1)), (4, .int ((r1.2.1 5 r1.1.toNatClampNeg) + (r3.2.1 5 r3.1.toNatClampNeg))), (0, .ref (ad 0)), (1, .int x1), (2, .int x2)]) X dX11_measures_185 hl rfl rfl (by decide) rfl (fun ls hl => ?_)
      refine z_goto (tgt := 109) X dX11_measures_188 (by decide) ?_
      exact hk109 x1 x2 (x3 + 1) r5.2.1 r5.2.2 ls (lv_sub hl [2, 3, 4, 0] rfl) hf
    · have hf := (if_neg c_).symm.trans hf
      refine z_aload_n X dX11_measures_168 rfl (lv_at hl 1 rfl) ?_
      refine m_geta X ff_17 dX11_measures_169 ?_
      refine z_aload_n X dX11_measures_172 rfl (lv_at hl 1 rfl) ?_
      refine z_aload_n X dX11_measures_173 rfl (lv_at hl 1 rfl) ?_
      refine m_geti X ff_26 dX11_measures_174 ?_
      refine z_iload_n X dX11_measures_177 rfl (lv_at hl 3 rfl) ?_
      refine z_iload_n X dX11_measures_178 rfl (lv_at hl 4 rfl) ?_
      obtain ⟨r7, hc7, hf⟩ := z_bind hf
      refine m_callVi [.int (r5.2.1 0 26), .int x2, .int x3] X hl.1 (c_at D cy ad hc7) gm_at pd_at rfl ⟨by decide, by decide⟩ (Nat.le_of_ble_eq_true rfl) rfl dX11_measures_179 ?_
      refine z_iload X dX11_measures_182 (lv_at hl 0 rfl) ?_
      obtain ⟨hb8, hf⟩ := z_ite hf
      refine m_iast X pa_5 hb8 dX11_measures_184 ?_
      refine z_iinc (v := x3 + 1) (k0 := 4) (lv' := [(3, .int (x3 + 1)), (4, .int ((r1.2.1 5 r1.1.toNatClampNeg) + (r3.2.1 5 r3.1.toNatClampNeg))), (0, .ref (ad 0)), (1, .int x1), (2, .int x2)]) X dX11_measures_185 hl rfl rfl (by decide) rfl (fun ls hl => ?_)
      refine z_goto (tgt := 109) X dX11_measures_188 (by decide) ?_
      exact hk109 x1 x2 (x3 + 1) (z_uI r7.2.1 5 r7.1.toNatClampNeg ((r1.2.1 5 r1.1.toNatClampNeg) + (r3.2.1 5 r3.1.toNatClampNeg))) r7.2.2 ls (lv_sub hl [2, 3, 4, 0] rfl) hf

set_option maxHeartbeats 4000000 in
set_option maxRecDepth 100000 in
theorem w_measures_101 {M : zM} {D : va_G} {cy : Nat → ClassId} {ad : Nat → Nat} {r' : zI × zL} (X : RX M (zR D cy ad) cX11_measures 5 RX11 1 23) (Z : RZv M (zR D cy ad) r'.1 r'.2) {k93 : Int32 × zI × zL → Option (zI × zL)} (hk93 : ∀ (x1 : Int32) (V : zI) (L : zL) (ls : Array Slot), lv_has ls 5 [(0, .ref (ad 0)), (1, .int x1)] → k93 (x1, V, L) = some r' → RG M (zR D cy ad) V L 93 ls []) (n : Nat) : ∀ (x1 : Int32) (x2 : Int32) (V : zI) (L : zL) (ls : Array Slot) (hl : lv_has ls 5 [(0, .ref (ad 0)), (1, .int x1), (2, .int x2)]) (hf : zfix (b_measures_101 k93) n (x1, x2, V, L) = some r'), RG M (zR D cy ad) V L 101 ls [] := by
  induction n with
  | zero => intro x1 x2 V L ls hl hf; cases hf
  | succ n ih =>
  intro x1 x2 V L ls hl hf
  have hk101 : ∀ (x1 : Int32) (x2 : Int32) (V : zI) (L : zL) (ls : Array Slot), lv_has ls 5 [(0, .ref (ad 0)), (1, .int x1), (2, .int x2)] → zfix (b_measures_101 k93) n (x1, x2, V, L) = some r' → RG M (zR D cy ad) V L 101 ls [] := ih
  have hf : b_measures_101 k93 (zfix (b_measures_101 k93) n) (x1, x2, V, L) = some r' := hf
  generalize zfix (b_measures_101 k93) n = k101 at hk101 hf
  unfold b_measures_101 at hf
  clear ih
  refine z_iload_n X dX11_measures_101 rfl (lv_at hl 2 rfl) ?_
  refine z_bipush (v := 6) X dX11_measures_102 (by decide) ?_
  refine z_icmp_ge (tgt := 197) X dX11_measures_104 (by decide) (fun c_ => ?_) (fun c_ => ?_)
  · have hf := (if_pos c_).symm.trans hf
    refine z_iinc (v := x1 + 1) (k0 := 1) (lv' := [(1, .int (x1 + 1)), (0, .ref (ad 0)), (2, .int x2)]) X dX11_measures_197 hl rfl rfl (by decide) rfl (fun ls hl => ?_)
    refine z_goto (tgt := 93) X dX11_measures_200 (by decide) ?_
    exact hk93 (x1 + 1) V L ls (lv_sub hl [1, 0] rfl) hf
  · have hf := (if_neg c_).symm.trans hf
    refine z_iconst (v := 0) X dX11_measures_107 (by decide) ?_
    refine z_istore_n (lv' := [(3, .int 0), (0, .ref (ad 0)), (1, .int x1), (2, .int x2)]) X dX11_measures_108 rfl hl (by decide) rfl (fun ls hl => ?_)
    exact w_measures_109 X Z hk93 hk101 FU x1 x2 0 V L ls (lv_sub hl [1, 2, 3, 0] rfl) hf

set_option maxHeartbeats 4000000 in
set_option maxRecDepth 100000 in
theorem w_measures_93 {M : zM} {D : va_G} {cy : Nat → ClassId} {ad : Nat → Nat} {r' : zI × zL} (X : RX M (zR D cy ad) cX11_measures 5 RX11 1 23) (Z : RZv M (zR D cy ad) r'.1 r'.2) (n : Nat) : ∀ (x1 : Int32) (V : zI) (L : zL) (ls : Array Slot) (hl : lv_has ls 5 [(0, .ref (ad 0)), (1, .int x1)]) (hf : zfix (b_measures_93) n (x1, V, L) = some r'), RG M (zR D cy ad) V L 93 ls [] := by
  induction n with
  | zero => intro x1 V L ls hl hf; cases hf
  | succ n ih =>
  intro x1 V L ls hl hf
  have hk93 : ∀ (x1 : Int32) (V : zI) (L : zL) (ls : Array Slot), lv_has ls 5 [(0, .ref (ad 0)), (1, .int x1)] → zfix (b_measures_93) n (x1, V, L) = some r' → RG M (zR D cy ad) V L 93 ls [] := ih
  have hf : b_measures_93 (zfix (b_measures_93) n) (x1, V, L) = some r' := hf
  generalize zfix (b_measures_93) n = k93 at hk93 hf
  unfold b_measures_93 at hf
  clear ih
  refine z_iload_n X dX11_measures_93 rfl (lv_at hl 1 rfl) ?_
  refine z_bipush (v := 6) X dX11_measures_94 (by decide) ?_
  refine z_icmp_ge (tgt := 203) X dX11_measures_96 (by decide) (fun c_ => ?_) (fun c_ => ?_)
  · have hf := (if_pos c_).symm.trans hf
    exact m_vret X Z hf dX11_measures_203
  · have hf := (if_neg c_).symm.trans hf
    refine z_iconst (v := 0) X dX11_measures_99 (by decide) ?_
    refine z_istore_n (lv' := [(2, .int 0), (0, .ref (ad 0)), (1, .int x1)]) X dX11_measures_100 rfl hl (by decide) rfl (fun ls hl => ?_)
    exact w_measures_101 X Z hk93 FU x1 0 V L ls (lv_sub hl [1, 2, 0] rfl) hf

set_option maxHeartbeats 4000000 in
set_option maxRecDepth 100000 in
theorem w_measures_2 {M : zM} {D : va_G} {cy : Nat → ClassId} {ad : Nat → Nat} {r' : zI × zL} (X : RX M (zR D cy ad) cX11_measures 5 RX11 1 23) (Z : RZv M (zR D cy ad) r'.1 r'.2) (n : Nat) : ∀ (x1 : Int32) (V : zI) (L : zL) (ls : Array Slot) (hl : lv_has ls 5 [(0, .ref (ad 0)), (1, .int x1)]) (hf : zfix (b_measures_2) n (x1, V, L) = some r'), RG M (zR D cy ad) V L 2 ls [] := by
  induction n with
  | zero => intro x1 V L ls hl hf; cases hf
  | succ n ih =>
  intro x1 V L ls hl hf
  have hk2 : ∀ (x1 : Int32) (V : zI) (L : zL) (ls : Array Slot), lv_has ls 5 [(0, .ref (ad 0)), (1, .int x1)] → zfix (b_measures_2) n (x1, V, L) = some r' → RG M (zR D cy ad) V L 2 ls [] := ih
  have hf : b_measures_2 (zfix (b_measures_2) n) (x1, V, L) = some r' := hf
  generalize zfix (b_measures_2) n = k2 at hk2 hf
  unfold b_measures_2 at hf
  clear ih
  refine z_iload_n X dX11_measures_2 rfl (lv_at hl 1 rfl) ?_
  refine z_bipush (v := 6) X dX11_measures_3 (by decide) ?_
  refine z_icmp_ge (tgt := 91) X dX11_measures_5 (by decide) (fun c_ => ?_) (fun c_ => ?_)
  · have hf := (if_pos c_).symm.trans hf
    refine z_iconst (v := 0) X dX11_measures_91 (by decide) ?_
    refine z_istore_n (lv' := [(1, .int 0), (0, .ref (ad 0))]) X dX11_measures_92 rfl hl (by decide) rfl (fun ls hl => ?_)
    exact w_measures_93 X Z FU 0 V L ls (lv_sub hl [1, 0] rfl) hf
  · have hf := (if_neg c_).symm.trans hf
    refine z_iconst (v := 0) X dX11_measures_8 (by decide) ?_
    refine z_istore_n (lv' := [(2, .int 0), (0, .ref (ad 0)), (1, .int x1)]) X dX11_measures_9 rfl hl (by decide) rfl (fun ls hl => ?_)
    exact w_measures_10 X Z hk2 FU x1 0 V L ls (lv_sub hl [1, 2, 0] rfl) hf

set_option maxHeartbeats 4000000 in
set_option maxRecDepth 100000 in
theorem w_measures {M : zM} {D : va_G} {cy : Nat → ClassId} {ad : Nat → Nat} {r' : zI × zL} (X : RX M (zR D cy ad) cX11_measures 5 RX11 1 23) (Z : RZv M (zR D cy ad) r'.1 r'.2)  (V : zI) (L : zL) (ls : Array Slot) (hl : lv_has ls 5 [(0, .ref (ad 0))]) (hf : f_measures V L = some r') : RG M (zR D cy ad) V L 0 ls [] := by
  unfold f_measures at hf
  refine z_iconst (v := 0) X dX11_measures_0 (by decide) ?_
  refine z_istore_n (lv' := [(1, .int 0), (0, .ref (ad 0))]) X dX11_measures_1 rfl hl (by decide) rfl (fun ls hl => ?_)
  exact w_measures_2 X Z FU 0 V L ls (lv_sub hl [1, 0] rfl) hf

theorem c_measures (D : va_G) (cy : Nat → ClassId) (ad : Nat → Nat)  {V : zI} {L : zL} {r' : zI × zL} (hf : f_measures V L = some r') : RMv (zR D cy ad) yX11_measures cX11_measures 5 1 23 [.ref (ad 0)] V L r'.1 r'.2 :=
  RMv.of (by decide) zR_nd (Nat.le_of_ble_eq_true rfl) (fun M X Z ls hl => w_measures X Z V L ls hl hf)
def b_begin_9 (k9 : Int32 × zI × zL → Option (zI × zL)) : Int32 × zI × zL → Option (zI × zL) := fun ⟨x1, V, L⟩ =>
  (if 36 ≤ x1 then some (z_uI (z_uI (z_uI (z_uI V 24 ((0) : Int32).toNatClampNeg 0) 26 ((0) : Int32).toNatClampNeg 0) 0 48 0) 0 60 0, L) else if inB (((36 : Int32) * (V 0 13)) + x1) 72 then if inB x1 792 then if inB x1 792 then if inB x1 792 then k9 ((x1 + 1), z_uI (z_uI (z_uI V 21 x1.toNatClampNeg (V 6 (((36 : Int32) * (V 0 13)) + x1).toNatClampNeg)) 22 x1.toNatClampNeg 0) 23 x1.toNatClampNeg 0, L) else none else none else none else none)
def f_begin (V : zI) (L : zL) : Option (zI × zL) :=
  zfix (b_begin_9) FU (0, z_uI V 20 ((0) : Int32).toNatClampNeg 0, L)
set_option maxHeartbeats 4000000 in
set_option maxRecDepth 100000 in
theorem w_begin_9 {M : zM} {D : va_G} {cy : Nat → ClassId} {ad : Nat → Nat} {r' : zI × zL} (X : RX M (zR D cy ad) cX11_begin 2 RX11 0 0) (Z : RZv M (zR D cy ad) r'.1 r'.2) (n : Nat) : ∀ (x1 : Int32) (V : zI) (L : zL) (ls : Array Slot) (hl : lv_has ls 2 [(0, .ref (ad 0)), (1, .int x1)]) (hf : zfix (b_begin_9) n (x1, V, L) = some r'), RG M (zR D cy ad) V L 9 ls [] := by
  induction n with
  | zero => intro x1 V L ls hl hf; cases hf
  | succ n ih =>
  intro x1 V L ls hl hf
  have hk9 : ∀ (x1 : Int32) (V : zI) (L : zL) (ls : Array Slot), lv_has ls 2 [(0, .ref (ad 0)), (1, .int x1)] → zfix (b_begin_9) n (x1, V, L) = some r' → RG M (zR D cy ad) V L 9 ls [] := ih
  have hf : b_begin_9 (zfix (b_begin_9) n) (x1, V, L) = some r' := hf
  generalize zfix (b_begin_9) n = k9 at hk9 hf
  unfold b_begin_9 at hf
  clear ih
  refine z_iload_n X dX11_begin_9 rfl (lv_at hl 1 rfl) ?_
  refine z_bipush (v := 36) X dX11_begin_10 (by decide) ?_
  refine z_icmp_ge (tgt := 55) X dX11_begin_12 (by decide) (fun c_ => ?_) (fun c_ => ?_)
  · have hf := (if_pos c_).symm.trans hf
    refine z_aload_n X dX11_begin_55 rfl (lv_at hl 0 rfl) ?_
    refine m_geta X ff_43 dX11_begin_56 ?_
    refine z_iconst (v := 0) X dX11_begin_59 (by decide) ?_
    refine z_iconst (v := 0) X dX11_begin_60 (by decide) ?_
    refine m_iast X pa_24 (show inB 0 22 by decide) dX11_begin_61 ?_
    refine z_aload_n X dX11_begin_62 rfl (lv_at hl 0 rfl) ?_
    refine m_geta X ff_45 dX11_begin_63 ?_
    refine z_iconst (v := 0) X dX11_begin_66 (by decide) ?_
    refine z_iconst (v := 0) X dX11_begin_67 (by decide) ?_
    refine m_iast X pa_26 (show inB 0 22 by decide) dX11_begin_68 ?_
    refine z_aload_n X dX11_begin_69 rfl (lv_at hl 0 rfl) ?_
    refine z_iconst (v := 0) X dX11_begin_70 (by decide) ?_
    refine m_puti X fp_48 dX11_begin_71 ?_
    refine z_aload_n X dX11_begin_74 rfl (lv_at hl 0 rfl) ?_
    refine z_iconst (v := 0) X dX11_begin_75 (by decide) ?_
    refine m_puti X fp_60 dX11_begin_76 ?_
    exact m_vret X Z hf dX11_begin_79
  · have hf := (if_neg c_).symm.trans hf
    refine z_aload_n X dX11_begin_15 rfl (lv_at hl 0 rfl) ?_
    refine m_geta X ff_40 dX11_begin_16 ?_
    refine z_iload_n X dX11_begin_19 rfl (lv_at hl 1 rfl) ?_
    refine z_aload_n X dX11_begin_20 rfl (lv_at hl 0 rfl) ?_
    refine m_geta X ff_18 dX11_begin_21 ?_
    refine z_bipush (v := 36) X dX11_begin_24 (by decide) ?_
    refine z_aload_n X dX11_begin_26 rfl (lv_at hl 0 rfl) ?_
    refine m_geti X ff_13 dX11_begin_27 ?_
    refine z_imul X dX11_begin_30 ?_
    refine z_iload_n X dX11_begin_31 rfl (lv_at hl 1 rfl) ?_
    refine z_iadd X dX11_begin_32 ?_
    obtain ⟨hb3, hf⟩ := z_ite hf
    refine m_iald X pa_6 hb3 dX11_begin_33 ?_
    obtain ⟨hb4, hf⟩ := z_ite hf
    refine m_iast X pa_21 hb4 dX11_begin_34 ?_
    refine z_aload_n X dX11_begin_35 rfl (lv_at hl 0 rfl) ?_
    refine m_geta X ff_41 dX11_begin_36 ?_
    refine z_iload_n X dX11_begin_39 rfl (lv_at hl 1 rfl) ?_
    refine z_iconst (v := 0) X dX11_begin_40 (by decide) ?_
    obtain ⟨hb5, hf⟩ := z_ite hf
    refine m_iast X pa_22 hb5 dX11_begin_41 ?_
    refine z_aload_n X dX11_begin_42 rfl (lv_at hl 0 rfl) ?_
    refine m_geta X ff_42 dX11_begin_43 ?_
    refine z_iload_n X dX11_begin_46 rfl (lv_at hl 1 rfl) ?_
    refine z_iconst (v := 0) X dX11_begin_47 (by decide) ?_
    obtain ⟨hb6, hf⟩ := z_ite hf
    refine m_iast X pa_23 hb6 dX11_begin_48 ?_
    refine z_iinc (v := x1 + 1) (k0 := 1) (lv' := [(1, .int (x1 + 1)), (0, .ref (ad 0))]) X dX11_begin_49 hl rfl rfl (by decide) rfl (fun ls hl => ?_)
    refine z_goto (tgt := 9) X dX11_begin_52 (by decide) ?_
    exact hk9 (x1 + 1) (z_uI (z_uI (z_uI V 21 x1.toNatClampNeg (V 6 (((36 : Int32) * (V 0 13)) + x1).toNatClampNeg)) 22 x1.toNatClampNeg 0) 23 x1.toNatClampNeg 0) L ls (lv_sub hl [1, 0] rfl) hf

set_option maxHeartbeats 4000000 in
set_option maxRecDepth 100000 in
theorem w_begin {M : zM} {D : va_G} {cy : Nat → ClassId} {ad : Nat → Nat} {r' : zI × zL} (X : RX M (zR D cy ad) cX11_begin 2 RX11 0 0) (Z : RZv M (zR D cy ad) r'.1 r'.2)  (V : zI) (L : zL) (ls : Array Slot) (hl : lv_has ls 2 [(0, .ref (ad 0))]) (hf : f_begin V L = some r') : RG M (zR D cy ad) V L 0 ls [] := by
  unfold f_begin at hf
  refine z_aload_n X dX11_begin_0 rfl (lv_at hl 0 rfl) ?_
  refine m_geta X ff_39 dX11_begin_1 ?_
  refine z_iconst (v := 0) X dX11_begin_4 (by decide) ?_
  refine z_iconst (v := 0) X dX11_begin_5 (by decide) ?_
  refine m_iast X pa_20 (show inB 0 22 by decide) dX11_begin_6 ?_
  refine z_iconst (v := 0) X dX11_begin_7 (by decide) ?_
  refine z_istore_n (lv' := [(1, .int 0), (0, .ref (ad 0))]) X dX11_begin_8 rfl hl (by decide) rfl (fun ls hl => ?_)
  exact w_begin_9 X Z FU 0 (z_uI V 20 ((0) : Int32).toNatClampNeg 0) L ls (lv_sub hl [1, 0] rfl) hf

theorem c_begin (D : va_G) (cy : Nat → ClassId) (ad : Nat → Nat)  {V : zI} {L : zL} {r' : zI × zL} (hf : f_begin V L = some r') : RMv (zR D cy ad) yX11_begin cX11_begin 2 0 0 [.ref (ad 0)] V L r'.1 r'.2 :=
  RMv.of (by decide) zR_nd (Nat.le_of_ble_eq_true rfl) (fun M X Z ls hl => w_begin X Z V L ls hl hf)
def f_union_138 (x1 : Int32) (V : zI) (L : zL) : Option (Int32 × zI × zL) :=
  (if ((z_uI (z_uI V 0 10 (V 0 8)) 0 11 ((z_uI V 0 10 (V 0 8)) 0 9)) 0 8) ≤ 0 then (f_measures (z_uI (z_uI V 0 10 (V 0 8)) 0 11 ((z_uI V 0 10 (V 0 8)) 0 9)) L).bind fun r1 => (f_begin (z_uI r1.1 0 13 (r1.1 0 26)) r1.2).bind fun r2 => some (x1, r2.1, r2.2) else (f_refuses 1 (z_uI (z_uI V 0 10 (V 0 8)) 0 11 ((z_uI V 0 10 (V 0 8)) 0 9)) L).bind fun r3 => some (r3.1, r3.2.1, r3.2.2))
def b_union_109 (k109 : Int32 × zI × zL → Option (Int32 × zI × zL)) : Int32 × zI × zL → Option (Int32 × zI × zL) := fun ⟨x1, V, L⟩ =>
  (if (V 0 8) = 0 then (if (V 0 3) = 0 then f_union_138 x1 V L else (f_statement V L).bind fun r1 => (f_finishes (x1 + 1) r1.1 r1.2).bind fun r2 => k109 ((x1 + 1), r2.1, r2.2)) else f_union_138 x1 V L)
def b_union_73 (k73 : Int32 × zI × zL → Option (Int32 × zI × zL)) : Int32 × zI × zL → Option (Int32 × zI × zL) := fun ⟨x1, V, L⟩ =>
  (if (((3 : Int32) * (V 0 26)) + 3) ≤ x1 then (f_ahead (z_uI V 0 25 0) L).bind fun r1 => zfix (b_union_109) FU (0, r1.1, r1.2) else if inB x1 6 then k73 ((x1 + 1), z_uI V 8 x1.toNatClampNeg (-1), L) else none)
def f_union (V : zI) (L : zL) : Option (Int32 × zI × zL) :=
  if inB ((z_uI (z_uI (z_uI (z_uI (z_uI (z_uI V 0 2 (V 0 1)) 0 1 0) 0 5 0) 0 8 0) 0 9 (-1)) 0 26 ((1 : Int32) - ((z_uI (z_uI (z_uI (z_uI (z_uI V 0 2 (V 0 1)) 0 1 0) 0 5 0) 0 8 0) 0 9 (-1)) 0 13))) 0 26) 2 then if inB ((z_uI (z_uI (z_uI (z_uI (z_uI (z_uI (z_uI V 0 2 (V 0 1)) 0 1 0) 0 5 0) 0 8 0) 0 9 (-1)) 0 26 ((1 : Int32) - ((z_uI (z_uI (z_uI (z_uI (z_uI V 0 2 (V 0 1)) 0 1 0) 0 5 0) 0 8 0) 0 9 (-1)) 0 13))) 2 ((z_uI (z_uI (z_uI (z_uI (z_uI (z_uI V 0 2 (V 0 1)) 0 1 0) 0 5 0) 0 8 0) 0 9 (-1)) 0 26 ((1 : Int32) - ((z_uI (z_uI (z_uI (z_uI (z_uI V 0 2 (V 0 1)) 0 1 0) 0 5 0) 0 8 0) 0 9 (-1)) 0 13))) 0 26).toNatClampNeg 0) 0 26) 2 then (f_isDefault ((z_uI (z_uI (z_uI (z_uI (z_uI (z_uI (z_uI (z_uI V 0 2 (V 0 1)) 0 1 0) 0 5 0) 0 8 0) 0 9 (-1)) 0 26 ((1 : Int32) - ((z_uI (z_uI (z_uI (z_uI (z_uI V 0 2 (V 0 1)) 0 1 0) 0 5 0) 0 8 0) 0 9 (-1)) 0 13))) 2 ((z_uI (z_uI (z_uI (z_uI (z_uI (z_uI V 0 2 (V 0 1)) 0 1 0) 0 5 0) 0 8 0) 0 9 (-1)) 0 26 ((1 : Int32) - ((z_uI (z_uI (z_uI (z_uI (z_uI V 0 2 (V 0 1)) 0 1 0) 0 5 0) 0 8 0) 0 9 (-1)) 0 13))) 0 26).toNatClampNeg 0) 3 ((z_uI (z_uI (z_uI (z_uI (z_uI (z_uI (z_uI V 0 2 (V 0 1)) 0 1 0) 0 5 0) 0 8 0) 0 9 (-1)) 0 26 ((1 : Int32) - ((z_uI (z_uI (z_uI (z_uI (z_uI V 0 2 (V 0 1)) 0 1 0) 0 5 0) 0 8 0) 0 9 (-1)) 0 13))) 2 ((z_uI (z_uI (z_uI (z_uI (z_uI (z_uI V 0 2 (V 0 1)) 0 1 0) 0 5 0) 0 8 0) 0 9 (-1)) 0 26 ((1 : Int32) - ((z_uI (z_uI (z_uI (z_uI (z_uI V 0 2 (V 0 1)) 0 1 0) 0 5 0) 0 8 0) 0 9 (-1)) 0 13))) 0 26).toNatClampNeg 0) 0 26).toNatClampNeg 0) 0 26) (z_uI (z_uI (z_uI (z_uI (z_uI (z_uI (z_uI (z_uI V 0 2 (V 0 1)) 0 1 0) 0 5 0) 0 8 0) 0 9 (-1)) 0 26 ((1 : Int32) - ((z_uI (z_uI (z_uI (z_uI (z_uI V 0 2 (V 0 1)) 0 1 0) 0 5 0) 0 8 0) 0 9 (-1)) 0 13))) 2 ((z_uI (z_uI (z_uI (z_uI (z_uI (z_uI V 0 2 (V 0 1)) 0 1 0) 0 5 0) 0 8 0) 0 9 (-1)) 0 26 ((1 : Int32) - ((z_uI (z_uI (z_uI (z_uI (z_uI V 0 2 (V 0 1)) 0 1 0) 0 5 0) 0 8 0) 0 9 (-1)) 0 13))) 0 26).toNatClampNeg 0) 3 ((z_uI (z_uI (z_uI (z_uI (z_uI (z_uI (z_uI V 0 2 (V 0 1)) 0 1 0) 0 5 0) 0 8 0) 0 9 (-1)) 0 26 ((1 : Int32) - ((z_uI (z_uI (z_uI (z_uI (z_uI V 0 2 (V 0 1)) 0 1 0) 0 5 0) 0 8 0) 0 9 (-1)) 0 13))) 2 ((z_uI (z_uI (z_uI (z_uI (z_uI (z_uI V 0 2 (V 0 1)) 0 1 0) 0 5 0) 0 8 0) 0 9 (-1)) 0 26 ((1 : Int32) - ((z_uI (z_uI (z_uI (z_uI (z_uI V 0 2 (V 0 1)) 0 1 0) 0 5 0) 0 8 0) 0 9 (-1)) 0 13))) 0 26).toNatClampNeg 0) 0 26).toNatClampNeg 0) L).bind fun r3 => zfix (b_union_73) FU (((3 : Int32) * (r3.1 0 26)), r3.1, r3.2) else none else none
set_option maxHeartbeats 4000000 in
set_option maxRecDepth 100000 in
theorem w_union_138 {M : zM} {D : va_G} {cy : Nat → ClassId} {ad : Nat → Nat} {r' : Int32 × zI × zL} (X : RX M (zR D cy ad) cX11_union 2 RX11 7 153) (Z : RZi M (zR D cy ad) .int r'.1 r'.2.1 r'.2.2) (x1 : Int32) (V : zI) (L : zL) (ls : Array Slot) (hl : lv_has ls 2 [(0, .ref (ad 0)), (1, .int x1)]) (hf : f_union_138 x1 V L = some r') : RG M (zR D cy ad) V L 138 ls [] := by
  unfold f_union_138 at hf
  refine z_aload_n X dX11_union_138 rfl (lv_at hl 0 rfl) ?_
  refine z_aload_n X dX11_union_139 rfl (lv_at hl 0 rfl) ?_
  refine m_geti X ff_8 dX11_union_140 ?_
  refine m_puti X fp_10 dX11_union_143 ?_
  refine z_aload_n X dX11_union_146 rfl (lv_at hl 0 rfl) ?_
  refine z_aload_n X dX11_union_147 rfl (lv_at hl 0 rfl) ?_
  refine m_geti X ff_9 dX11_union_148 ?_
  refine m_puti X fp_11 dX11_union_151 ?_
  refine z_aload_n X dX11_union_154 rfl (lv_at hl 0 rfl) ?_
  refine m_geti X ff_8 dX11_union_155 ?_
  refine z_if_le (tgt := 167) X dX11_union_158 (by decide) (fun c_ => ?_) (fun c_ => ?_)
  · have hf := (if_pos c_).symm.trans hf
    refine z_aload_n X dX11_union_167 rfl (lv_at hl 0 rfl) ?_
    obtain ⟨r1, hc1, hf⟩ := z_bind hf
    refine m_callVv [] X hl.1 (c_measures D cy ad hc1) gm_measures pd_measures rfl ⟨by decide, by decide⟩ (Nat.le_of_ble_eq_true rfl) rfl dX11_union_168 ?_
    refine z_aload_n X dX11_union_171 rfl (lv_at hl 0 rfl) ?_
    refine z_aload_n X dX11_union_172 rfl (lv_at hl 0 rfl) ?_
    refine m_geti X ff_26 dX11_union_173 ?_
    refine m_puti X fp_13 dX11_union_176 ?_
    refine z_aload_n X dX11_union_179 rfl (lv_at hl 0 rfl) ?_
    obtain ⟨r2, hc2, hf⟩ := z_bind hf
    refine m_callVv [] X hl.1 (c_begin D cy ad hc2) gm_begin pd_begin rfl ⟨by decide, by decide⟩ (Nat.le_of_ble_eq_true rfl) rfl dX11_union_180 ?_
    refine z_iload_n X dX11_union_183 rfl (lv_at hl 1 rfl) ?_
    exact m_iret X Z hf rfl dX11_union_184
  · have hf := (if_neg c_).symm.trans hf
    refine z_aload_n X dX11_union_161 rfl (lv_at hl 0 rfl) ?_
    refine z_iconst (v := 1) X dX11_union_162 (by decide) ?_
    obtain ⟨r3, hc3, hf⟩ := z_bind hf
    refine m_callVi [.int 1] X hl.1 (c_refuses D cy ad hc3) gm_refuses pd_refuses rfl ⟨by decide, by decide⟩ (Nat.le_of_ble_eq_true rfl) rfl dX11_union_163 ?_
    exact m_iret X Z hf rfl dX11_union_166

set_option maxHeartbeats 4000000 in
set_option maxRecDepth 100000 in
theorem w_union_109 {M : zM} {D : va_G} {cy : Nat → ClassId} {ad : Nat → Nat} {r' : Int32 × zI × zL} (X : RX M (zR D cy ad) cX11_union 2 RX11 7 153) (Z : RZi M (zR D cy ad) .int r'.1 r'.2.1 r'.2.2) (n : Nat) : ∀ (x1 : Int32) (V : zI) (L : zL) (ls : Array Slot) (hl : lv_has ls 2 [(0, .ref (ad 0)), (1, .int x1)]) (hf : zfix (b_union_109) n (x1, V, L) = some r'), RG M (zR D cy ad) V L 109 ls [] := by
  induction n with
  | zero => intro x1 V L ls hl hf; cases hf
  | succ n ih =>
  intro x1 V L ls hl hf
  have hk109 : ∀ (x1 : Int32) (V : zI) (L : zL) (ls : Array Slot), lv_has ls 2 [(0, .ref (ad 0)), (1, .int x1)] → zfix (b_union_109) n (x1, V, L) = some r' → RG M (zR D cy ad) V L 109 ls [] := ih
  have hf : b_union_109 (zfix (b_union_109) n) (x1, V, L) = some r' := hf
  generalize zfix (b_union_109) n = k109 at hk109 hf
  unfold b_union_109 at hf
  clear ih
  refine z_aload_n X dX11_union_109 rfl (lv_at hl 0 rfl) ?_
  refine m_geti X ff_8 dX11_union_110 ?_
  refine z_if_ne (tgt := 138) X dX11_union_113 (by decide) (fun c_ => ?_) (fun c_ => ?_)
  · have hf := (if_neg c_).symm.trans hf
    exact w_union_138 X Z x1 V L ls (lv_sub hl [0, 1] rfl) hf
  · have hf := (if_pos c_).symm.trans hf
    refine z_aload_n X dX11_union_116 rfl (lv_at hl 0 rfl) ?_
    refine m_geti X ff_3 dX11_union_117 ?_
    refine z_if_eq (tgt := 138) X dX11_union_120 (by decide) (fun c_ => ?_) (fun c_ => ?_)
    · have hf := (if_pos c_).symm.trans hf
      exact w_union_138 X Z x1 V L ls (lv_sub hl [0, 1] rfl) hf
    · have hf := (if_neg c_).symm.trans hf
      refine z_aload_n X dX11_union_123 rfl (lv_at hl 0 rfl) ?_
      obtain ⟨r1, hc1, hf⟩ := z_bind hf
      refine m_callVv [] X hl.1 (c_statement D cy ad hc1) gm_statement pd_statement rfl ⟨by decide, by decide⟩ (Nat.le_of_ble_eq_true rfl) rfl dX11_union_124 ?_
      refine z_iinc (v := x1 + 1) (k0 := 1) (lv' := [(1, .int (x1 + 1)), (0, .ref (ad 0))]) X dX11_union_127 hl rfl rfl (by decide) rfl (fun ls hl => ?_)
      refine z_aload_n X dX11_union_130 rfl (lv_at hl 1 rfl) ?_
      refine z_iload_n X dX11_union_131 rfl (lv_at hl 0 rfl) ?_
      obtain ⟨r2, hc2, hf⟩ := z_bind hf
      refine m_callVv [.int (x1 + 1)] X hl.1 (c_finishes D cy ad hc2) gm_finishes pd_finishes rfl ⟨by decide, by decide⟩ (Nat.le_of_ble_eq_true rfl) rfl dX11_union_132 ?_
      refine z_goto (tgt := 109) X dX11_union_135 (by decide) ?_
      exact hk109 (x1 + 1) r2.1 r2.2 ls (lv_sub hl [1, 0] rfl) hf

set_option maxHeartbeats 4000000 in
set_option maxRecDepth 100000 in
theorem w_union_73 {M : zM} {D : va_G} {cy : Nat → ClassId} {ad : Nat → Nat} {r' : Int32 × zI × zL} (X : RX M (zR D cy ad) cX11_union 2 RX11 7 153) (Z : RZi M (zR D cy ad) .int r'.1 r'.2.1 r'.2.2) (n : Nat) : ∀ (x1 : Int32) (V : zI) (L : zL) (ls : Array Slot) (hl : lv_has ls 2 [(0, .ref (ad 0)), (1, .int x1)]) (hf : zfix (b_union_73) n (x1, V, L) = some r'), RG M (zR D cy ad) V L 73 ls [] := by
  induction n with
  | zero => intro x1 V L ls hl hf; cases hf
  | succ n ih =>
  intro x1 V L ls hl hf
  have hk73 : ∀ (x1 : Int32) (V : zI) (L : zL) (ls : Array Slot), lv_has ls 2 [(0, .ref (ad 0)), (1, .int x1)] → zfix (b_union_73) n (x1, V, L) = some r' → RG M (zR D cy ad) V L 73 ls [] := ih
  have hf : b_union_73 (zfix (b_union_73) n) (x1, V, L) = some r' := hf
  generalize zfix (b_union_73) n = k73 at hk73 hf
  unfold b_union_73 at hf
  clear ih
  refine z_iload_n X dX11_union_73 rfl (lv_at hl 1 rfl) ?_
  refine z_iconst (v := 3) X dX11_union_74 (by decide) ?_
  refine z_aload_n X dX11_union_75 rfl (lv_at hl 0 rfl) ?_
  refine m_geti X ff_26 dX11_union_76 ?_
  refine z_imul X dX11_union_79 ?_
  refine z_iconst (v := 3) X dX11_union_80 (by decide) ?_
  refine z_iadd X dX11_union_81 ?_
  refine z_icmp_ge (tgt := 98) X dX11_union_82 (by decide) (fun c_ => ?_) (fun c_ => ?_)
  · have hf := (if_pos c_).symm.trans hf
    refine z_aload_n X dX11_union_98 rfl (lv_at hl 0 rfl) ?_
    refine z_iconst (v := 0) X dX11_union_99 (by decide) ?_
    refine m_puti X fp_25 dX11_union_100 ?_
    refine z_iconst (v := 0) X dX11_union_103 (by decide) ?_
    refine z_istore_n (lv' := [(1, .int 0), (0, .ref (ad 0))]) X dX11_union_104 rfl hl (by decide) rfl (fun ls hl => ?_)
    refine z_aload_n X dX11_union_105 rfl (lv_at hl 1 rfl) ?_
    obtain ⟨r1, hc1, hf⟩ := z_bind hf
    refine m_callVv [] X hl.1 (c_ahead D cy ad hc1) gm_ahead pd_ahead rfl ⟨by decide, by decide⟩ (Nat.le_of_ble_eq_true rfl) rfl dX11_union_106 ?_
    exact w_union_109 X Z FU 0 r1.1 r1.2 ls (lv_sub hl [1, 0] rfl) hf
  · have hf := (if_neg c_).symm.trans hf
    refine z_aload_n X dX11_union_85 rfl (lv_at hl 0 rfl) ?_
    refine m_geta X ff_20 dX11_union_86 ?_
    refine z_iload_n X dX11_union_89 rfl (lv_at hl 1 rfl) ?_
    refine z_iconst (v := -1) X dX11_union_90 (by decide) ?_
    obtain ⟨hb2, hf⟩ := z_ite hf
    refine m_iast X pa_8 hb2 dX11_union_91 ?_
    refine z_iinc (v := x1 + 1) (k0 := 1) (lv' := [(1, .int (x1 + 1)), (0, .ref (ad 0))]) X dX11_union_92 hl rfl rfl (by decide) rfl (fun ls hl => ?_)
    refine z_goto (tgt := 73) X dX11_union_95 (by decide) ?_
    exact hk73 (x1 + 1) (z_uI V 8 x1.toNatClampNeg (-1)) L ls (lv_sub hl [1, 0] rfl) hf

set_option maxHeartbeats 4000000 in
set_option maxRecDepth 100000 in
theorem w_union {M : zM} {D : va_G} {cy : Nat → ClassId} {ad : Nat → Nat} {r' : Int32 × zI × zL} (X : RX M (zR D cy ad) cX11_union 2 RX11 7 153) (Z : RZi M (zR D cy ad) .int r'.1 r'.2.1 r'.2.2)  (V : zI) (L : zL) (ls : Array Slot) (hl : lv_has ls 2 [(0, .ref (ad 0))]) (hf : f_union V L = some r') : RG M (zR D cy ad) V L 0 ls [] := by
  unfold f_union at hf
  refine z_aload_n X dX11_union_0 rfl (lv_at hl 0 rfl) ?_
  refine z_aload_n X dX11_union_1 rfl (lv_at hl 0 rfl) ?_
  refine m_geti X ff_1 dX11_union_2 ?_
  refine m_puti X fp_2 dX11_union_5 ?_
  refine z_aload_n X dX11_union_8 rfl (lv_at hl 0 rfl) ?_
  refine z_iconst (v := 0) X dX11_union_9 (by decide) ?_
  refine m_puti X fp_1 dX11_union_10 ?_
  refine z_aload_n X dX11_union_13 rfl (lv_at hl 0 rfl) ?_
  refine z_iconst (v := 0) X dX11_union_14 (by decide) ?_
  refine m_puti X fp_5 dX11_union_15 ?_
  refine z_aload_n X dX11_union_18 rfl (lv_at hl 0 rfl) ?_
  refine z_iconst (v := 0) X dX11_union_19 (by decide) ?_
  refine m_puti X fp_8 dX11_union_20 ?_
  refine z_aload_n X dX11_union_23 rfl (lv_at hl 0 rfl) ?_
  refine z_iconst (v := -1) X dX11_union_24 (by decide) ?_
  refine m_puti X fp_9 dX11_union_25 ?_
  refine z_aload_n X dX11_union_28 rfl (lv_at hl 0 rfl) ?_
  refine z_iconst (v := 1) X dX11_union_29 (by decide) ?_
  refine z_aload_n X dX11_union_30 rfl (lv_at hl 0 rfl) ?_
  refine m_geti X ff_13 dX11_union_31 ?_
  refine z_isub X dX11_union_34 ?_
  refine m_puti X fp_26 dX11_union_35 ?_
  refine z_aload_n X dX11_union_38 rfl (lv_at hl 0 rfl) ?_
  refine m_geta X ff_14 dX11_union_39 ?_
  refine z_aload_n X dX11_union_42 rfl (lv_at hl 0 rfl) ?_
  refine m_geti X ff_26 dX11_union_43 ?_
  refine z_iconst (v := 0) X dX11_union_46 (by decide) ?_
  obtain ⟨hb1, hf⟩ := z_ite hf
  refine m_iast X pa_2 hb1 dX11_union_47 ?_
  refine z_aload_n X dX11_union_48 rfl (lv_at hl 0 rfl) ?_
  refine m_geta X ff_15 dX11_union_49 ?_
  refine z_aload_n X dX11_union_52 rfl (lv_at hl 0 rfl) ?_
  refine m_geti X ff_26 dX11_union_53 ?_
  refine z_iconst (v := 0) X dX11_union_56 (by decide) ?_
  obtain ⟨hb2, hf⟩ := z_ite hf
  refine m_iast X pa_3 hb2 dX11_union_57 ?_
  refine z_aload_n X dX11_union_58 rfl (lv_at hl 0 rfl) ?_
  refine z_aload_n X dX11_union_59 rfl (lv_at hl 0 rfl) ?_
  refine m_geti X ff_26 dX11_union_60 ?_
  obtain ⟨r3, hc3, hf⟩ := z_bind hf
  refine m_callVv [.int ((z_uI (z_uI (z_uI (z_uI (z_uI (z_uI (z_uI (z_uI V 0 2 (V 0 1)) 0 1 0) 0 5 0) 0 8 0) 0 9 (-1)) 0 26 ((1 : Int32) - ((z_uI (z_uI (z_uI (z_uI (z_uI V 0 2 (V 0 1)) 0 1 0) 0 5 0) 0 8 0) 0 9 (-1)) 0 13))) 2 ((z_uI (z_uI (z_uI (z_uI (z_uI (z_uI V 0 2 (V 0 1)) 0 1 0) 0 5 0) 0 8 0) 0 9 (-1)) 0 26 ((1 : Int32) - ((z_uI (z_uI (z_uI (z_uI (z_uI V 0 2 (V 0 1)) 0 1 0) 0 5 0) 0 8 0) 0 9 (-1)) 0 13))) 0 26).toNatClampNeg 0) 3 ((z_uI (z_uI (z_uI (z_uI (z_uI (z_uI (z_uI V 0 2 (V 0 1)) 0 1 0) 0 5 0) 0 8 0) 0 9 (-1)) 0 26 ((1 : Int32) - ((z_uI (z_uI (z_uI (z_uI (z_uI V 0 2 (V 0 1)) 0 1 0) 0 5 0) 0 8 0) 0 9 (-1)) 0 13))) 2 ((z_uI (z_uI (z_uI (z_uI (z_uI (z_uI V 0 2 (V 0 1)) 0 1 0) 0 5 0) 0 8 0) 0 9 (-1)) 0 26 ((1 : Int32) - ((z_uI (z_uI (z_uI (z_uI (z_uI V 0 2 (V 0 1)) 0 1 0) 0 5 0) 0 8 0) 0 9 (-1)) 0 13))) 0 26).toNatClampNeg 0) 0 26).toNatClampNeg 0) 0 26)] X hl.1 (c_isDefault D cy ad hc3) gm_isDefault pd_isDefault rfl ⟨by decide, by decide⟩ (Nat.le_of_ble_eq_true rfl) rfl dX11_union_63 ?_
  refine z_iconst (v := 3) X dX11_union_66 (by decide) ?_
  refine z_aload_n X dX11_union_67 rfl (lv_at hl 0 rfl) ?_
  refine m_geti X ff_26 dX11_union_68 ?_
  refine z_imul X dX11_union_71 ?_
  refine z_istore_n (lv' := [(1, .int ((3 : Int32) * (r3.1 0 26))), (0, .ref (ad 0))]) X dX11_union_72 rfl hl (by decide) rfl (fun ls hl => ?_)
  exact w_union_73 X Z FU ((3 : Int32) * (r3.1 0 26)) r3.1 r3.2 ls (lv_sub hl [1, 0] rfl) hf

theorem c_union (D : va_G) (cy : Nat → ClassId) (ad : Nat → Nat)  {V : zI} {L : zL} {r' : Int32 × zI × zL} (hf : f_union V L = some r') : RMi (zR D cy ad) yX11_union cX11_union 2 .int 7 153 [.ref (ad 0)] V L r'.1 r'.2.1 r'.2.2 :=
  RMi.of (by decide) zR_nd (Nat.le_of_ble_eq_true rfl) (fun M X Z ls hl => w_union X Z V L ls hl hf)
