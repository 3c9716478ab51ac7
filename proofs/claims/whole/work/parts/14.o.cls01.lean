def g_X5_readHolds (N : Nat → Nat) (G : zG) (p0 : Nat) (p0_5 : Nat) (p0_5_6 : Nat) (V : zI) (L : zL) : Option (zI × zL) :=
  (f_X5_take N G p0 V L).bind fun r1 => (f_X5_readNamed N G p0 (-1) 0 r1.1 r1.2).bind fun r2 => (f_X5_skipOwn N G p0 5 r2.2.1 r2.2.2).bind fun r3 => (f_X5_readNamed N G p0 r2.1 0 r3.1 r3.2).bind fun r4 => (f_X5_readNumber N G p0 0 20 r4.2.1 r4.2.2).bind fun r5 => (if (r5.2.1 p0 10) = 0 then (f_X9_isPair N G p0_5 r2.1 r4.1 r5.2.1 r5.2.2).bind fun r6 => (if r6 = 0 then some (r5.2.1, r5.2.2) else if inB ((r2.1 * 6) + r4.1) (N p0_5_6) then some (z_uI r5.2.1 p0_5_6 ((r2.1 * 6) + r4.1).toNatClampNeg r5.1, r5.2.2) else none) else some (r5.2.1, r5.2.2))
def f_X5_readHolds (N : Nat → Nat) (G : zG) (p0 : Nat) (V : zI) (L : zL) : Option (zI × zL) :=
  (G p0 5).bind fun p0_5 => (G p0_5 6).bind fun p0_5_6 => g_X5_readHolds N G p0 p0_5 p0_5_6 V L
set_option maxHeartbeats 4000000 in
set_option maxRecDepth 100000 in
theorem w_X5_readHolds {M : zM} {D : va_G} {cy : Nat → ClassId} {ad : Nat → Nat} {n : Nat} {K N : Nat → Nat} {G : zG} {r' : zI × zL} (X : RXc M D cy ad n K N G cX5_readHolds 4 RX5 3 67) (Z : RZv M (zC D cy ad n K N G) r'.1 r'.2) {p0 : Nat} (hp0 : p0 < n ∧ K p0 = 4) {p0_5 : Nat} (hp0_5 : p0_5 < n ∧ K p0_5 = 7) (ep0_5 : G p0 5 = some p0_5) {p0_5_6 : Nat} (hp0_5_6 : p0_5_6 < n ∧ K p0_5_6 = 100) (ep0_5_6 : G p0_5 6 = some p0_5_6)  (V : zI) (L : zL) (ls : Array Slot) (hl : lv_has ls 4 [(0, .ref (ad p0))]) (hf : g_X5_readHolds N G p0 p0_5 p0_5_6 V L = some r') : RG M (zC D cy ad n K N G) V L 0 ls [] := by
  unfold g_X5_readHolds at hf
  refine z_aload_n X.1 dX5_readHolds_0 rfl (lv_at hl 0 rfl) ?_
  obtain ⟨r1, hc1, hf⟩ := z_bind hf
  refine c_callVv [] X hl.1 (c_X5_take D cy ad X.2.2 hp0 hc1) hp0 ⟨by decide, rfl⟩ cm_X5_70 cw_X5_take rfl cq_X5_take ⟨by decide, by decide⟩ (Nat.le_of_ble_eq_true rfl) rfl dX5_readHolds_1 ?_
  refine z_aload_n X.1 dX5_readHolds_4 rfl (lv_at hl 0 rfl) ?_
  refine z_iconst (v := -1) X.1 dX5_readHolds_5 (by decide) ?_
  refine z_iconst (v := 0) X.1 dX5_readHolds_6 (by decide) ?_
  obtain ⟨r2, hc2, hf⟩ := z_bind hf
  refine c_callVi [.int (-1), .int 0] X hl.1 (c_X5_readNamed D cy ad X.2.2 hp0 hc2) hp0 ⟨by decide, rfl⟩ cm_X5_133 cw_X5_readNamed rfl cq_X5_readNamed ⟨by decide, by decide⟩ (Nat.le_of_ble_eq_true rfl) rfl dX5_readHolds_7 ?_
  refine z_istore_n (lv' := [(1, .int r2.1), (0, .ref (ad p0))]) X.1 dX5_readHolds_10 rfl hl (by decide) rfl (fun ls hl => ?_)
  refine z_aload_n X.1 dX5_readHolds_11 rfl (lv_at hl 1 rfl) ?_
  refine z_iconst (v := 5) X.1 dX5_readHolds_12 (by decide) ?_
  obtain ⟨r3, hc3, hf⟩ := z_bind hf
  refine c_callVv [.int 5] X hl.1 (c_X5_skipOwn D cy ad X.2.2 hp0 hc3) hp0 ⟨by decide, rfl⟩ cm_X5_137 cw_X5_skipOwn rfl cq_X5_skipOwn ⟨by decide, by decide⟩ (Nat.le_of_ble_eq_true rfl) rfl dX5_readHolds_13 ?_
  refine z_aload_n X.1 dX5_readHolds_16 rfl (lv_at hl 1 rfl) ?_
  refine z_iload_n X.1 dX5_readHolds_17 rfl (lv_at hl 0 rfl) ?_
  refine z_iconst (v := 0) X.1 dX5_readHolds_18 (by decide) ?_
  obtain ⟨r4, hc4, hf⟩ := z_bind hf
  refine c_callVi [.int r2.1, .int 0] X hl.1 (c_X5_readNamed D cy ad X.2.2 hp0 hc4) hp0 ⟨by decide, rfl⟩ cm_X5_133 cw_X5_readNamed rfl cq_X5_readNamed ⟨by decide, by decide⟩ (Nat.le_of_ble_eq_true rfl) rfl dX5_readHolds_19 ?_
  refine z_istore_n (lv' := [(2, .int r4.1), (1, .int r2.1), (0, .ref (ad p0))]) X.1 dX5_readHolds_22 rfl hl (by decide) rfl (fun ls hl => ?_)
  refine z_aload_n X.1 dX5_readHolds_23 rfl (lv_at hl 2 rfl) ?_
  refine z_iconst (v := 0) X.1 dX5_readHolds_24 (by decide) ?_
  refine z_bipush (v := 20) X.1 dX5_readHolds_25 (by decide) ?_
  obtain ⟨r5, hc5, hf⟩ := z_bind hf
  refine c_callVi [.int 0, .int 20] X hl.1 (c_X5_readNumber D cy ad X.2.2 hp0 hc5) hp0 ⟨by decide, rfl⟩ cm_X5_108 cw_X5_readNumber rfl cq_X5_readNumber ⟨by decide, by decide⟩ (Nat.le_of_ble_eq_true rfl) rfl dX5_readHolds_27 ?_
  refine z_istore_n (lv' := [(3, .int r5.1), (2, .int r4.1), (1, .int r2.1), (0, .ref (ad p0))]) X.1 dX5_readHolds_30 rfl hl (by decide) rfl (fun ls hl => ?_)
  refine z_aload_n X.1 dX5_readHolds_31 rfl (lv_at hl 3 rfl) ?_
  refine c_geti X hp0 cf_X5_43 dX5_readHolds_32 ?_
  refine z_if_ne (tgt := 65) X.1 dX5_readHolds_35 (by decide) (fun c_ => ?_) (fun c_ => ?_)
  · have hf := (if_neg c_).symm.trans hf
    exact c_vret X Z hf dX5_readHolds_65
  · have hf := (if_pos c_).symm.trans hf
    refine z_aload_n X.1 dX5_readHolds_38 rfl (lv_at hl 3 rfl) ?_
    refine c_geta X hp0 cf_X5_29 ep0_5 dX5_readHolds_39 ?_
    refine z_iload_n X.1 dX5_readHolds_42 rfl (lv_at hl 2 rfl) ?_
    refine z_iload_n X.1 dX5_readHolds_43 rfl (lv_at hl 1 rfl) ?_
    obtain ⟨r6, hc6, hf⟩ := z_bind hf
    refine c_callVi [.int r2.1, .int r4.1] X hl.1 (c_X9_isPair D cy ad X.2.2 hp0_5 hc6) hp0_5 ⟨by decide, rfl⟩ cm_X5_140 cw_X9_isPair rfl cq_X9_isPair ⟨by decide, by decide⟩ (Nat.le_of_ble_eq_true rfl) rfl dX5_readHolds_44 ?_
    refine z_if_eq (tgt := 65) X.1 dX5_readHolds_47 (by decide) (fun c_ => ?_) (fun c_ => ?_)
    · have hf := (if_pos c_).symm.trans hf
      exact c_vret X Z hf dX5_readHolds_65
    · have hf := (if_neg c_).symm.trans hf
      refine z_aload_n X.1 dX5_readHolds_50 rfl (lv_at hl 3 rfl) ?_
      refine c_geta X hp0 cf_X5_29 ep0_5 dX5_readHolds_51 ?_
      refine c_geta X hp0_5 cf_X5_147 ep0_5_6 dX5_readHolds_54 ?_
      refine z_iload_n X.1 dX5_readHolds_57 rfl (lv_at hl 2 rfl) ?_
      refine z_bipush (v := 6) X.1 dX5_readHolds_58 (by decide) ?_
      refine z_imul X.1 dX5_readHolds_60 ?_
      refine z_iload_n X.1 dX5_readHolds_61 rfl (lv_at hl 1 rfl) ?_
      refine z_iadd X.1 dX5_readHolds_62 ?_
      refine z_iload_n X.1 dX5_readHolds_63 rfl (lv_at hl 0 rfl) ?_
      obtain ⟨hb7, hf⟩ := z_ite hf
      refine c_iast X hp0_5_6 hb7 dX5_readHolds_64 ?_
      exact c_vret X Z hf dX5_readHolds_65

theorem c_X5_readHolds (D : va_G) (cy : Nat → ClassId) (ad : Nat → Nat) {n : Nat} {K N : Nat → Nat} {G : zG} (hWF : zWF n K G) {p0 : Nat} {V : zI} {L : zL} (hp0 : p0 < n ∧ K p0 = 4) {r' : zI × zL} (hf : f_X5_readHolds N G p0 V L = some r') : RCv (zC D cy ad n K N G) yX5_readHolds cX5_readHolds 4 3 67 [.ref (ad p0)] V L r'.1 r'.2 := by
  unfold f_X5_readHolds at hf
  obtain ⟨p0_5, ep0_5, hf⟩ := z_bind hf
  have hp0_5 := hWF.get hp0 (k := 5) (c := 7) rfl ep0_5
  obtain ⟨p0_5_6, ep0_5_6, hf⟩ := z_bind hf
  have hp0_5_6 := hWF.get hp0_5 (k := 6) (c := 100) rfl ep0_5_6
  exact RCv.of (by decide) hWF (Nat.le_of_ble_eq_true rfl) (fun M X Z ls hl => w_X5_readHolds X Z hp0 hp0_5 ep0_5 hp0_5_6 ep0_5_6 V L ls hl hf)
def g_X5_opens (N : Nat → Nat) (G : zG) (p0 : Nat) (V : zI) (L : zL) : Option (Int32 × zI × zL) :=
  (if (V p0 8) < 7 then (f_X5_take N G p0 (z_uI V p0 8 ((V p0 8) + 1)) L).bind fun r1 => some (1, r1.1, r1.2) else (f_X5_fail N G p0 5 (V p0 4) V L).bind fun r2 => some (0, r2.1, r2.2))
def f_X5_opens (N : Nat → Nat) (G : zG) (p0 : Nat) (V : zI) (L : zL) : Option (Int32 × zI × zL) :=
  g_X5_opens N G p0 V L
set_option maxHeartbeats 4000000 in
set_option maxRecDepth 100000 in
theorem w_X5_opens {M : zM} {D : va_G} {cy : Nat → ClassId} {ad : Nat → Nat} {n : Nat} {K N : Nat → Nat} {G : zG} {r' : Int32 × zI × zL} (X : RXc M D cy ad n K N G cX5_opens 1 RX5 1 22) (Z : RZi M (zC D cy ad n K N G) .boolean r'.1 r'.2.1 r'.2.2) {p0 : Nat} (hp0 : p0 < n ∧ K p0 = 4)  (V : zI) (L : zL) (ls : Array Slot) (hl : lv_has ls 1 [(0, .ref (ad p0))]) (hf : g_X5_opens N G p0 V L = some r') : RG M (zC D cy ad n K N G) V L 0 ls [] := by
  unfold g_X5_opens at hf
  refine z_aload_n X.1 dX5_opens_0 rfl (lv_at hl 0 rfl) ?_
  refine c_geti X hp0 cf_X5_36 dX5_opens_1 ?_
  refine z_bipush (v := 7) X.1 dX5_opens_4 (by decide) ?_
  refine z_icmp_lt (tgt := 20) X.1 dX5_opens_6 (by decide) (fun c_ => ?_) (fun c_ => ?_)
  · have hf := (if_pos c_).symm.trans hf
    refine z_aload_n X.1 dX5_opens_20 rfl (lv_at hl 0 rfl) ?_
    refine z_dup X.1 dX5_opens_21 rfl ?_
    refine c_geti X hp0 cf_X5_36 dX5_opens_22 ?_
    refine z_iconst (v := 1) X.1 dX5_opens_25 (by decide) ?_
    refine z_iadd X.1 dX5_opens_26 ?_
    refine c_puti X hp0 cf_X5_36 cg_X5 cp_X5_8 rfl rfl dX5_opens_27 ?_
    refine z_aload_n X.1 dX5_opens_30 rfl (lv_at hl 0 rfl) ?_
    obtain ⟨r1, hc1, hf⟩ := z_bind hf
    refine c_callVv [] X hl.1 (c_X5_take D cy ad X.2.2 hp0 hc1) hp0 ⟨by decide, rfl⟩ cm_X5_70 cw_X5_take rfl cq_X5_take ⟨by decide, by decide⟩ (Nat.le_of_ble_eq_true rfl) rfl dX5_opens_31 ?_
    refine z_iconst (v := 1) X.1 dX5_opens_34 (by decide) ?_
    exact c_iret X Z hf (by decide) dX5_opens_35
  · have hf := (if_neg c_).symm.trans hf
    refine z_aload_n X.1 dX5_opens_9 rfl (lv_at hl 0 rfl) ?_
    refine z_iconst (v := 5) X.1 dX5_opens_10 (by decide) ?_
    refine z_aload_n X.1 dX5_opens_11 rfl (lv_at hl 0 rfl) ?_
    refine c_geti X hp0 cf_X5_23 dX5_opens_12 ?_
    obtain ⟨r2, hc2, hf⟩ := z_bind hf
    refine c_callVv [.int 5, .int (V p0 4)] X hl.1 (c_X5_fail D cy ad X.2.2 hp0 hc2) hp0 ⟨by decide, rfl⟩ cm_X5_73 cw_X5_fail rfl cq_X5_fail ⟨by decide, by decide⟩ (Nat.le_of_ble_eq_true rfl) rfl dX5_opens_15 ?_
    refine z_iconst (v := 0) X.1 dX5_opens_18 (by decide) ?_
    exact c_iret X Z hf (by decide) dX5_opens_19

theorem c_X5_opens (D : va_G) (cy : Nat → ClassId) (ad : Nat → Nat) {n : Nat} {K N : Nat → Nat} {G : zG} (hWF : zWF n K G) {p0 : Nat} {V : zI} {L : zL} (hp0 : p0 < n ∧ K p0 = 4) {r' : Int32 × zI × zL} (hf : f_X5_opens N G p0 V L = some r') : RCi (zC D cy ad n K N G) yX5_opens cX5_opens 1 .boolean 1 22 [.ref (ad p0)] V L r'.1 r'.2.1 r'.2.2 := by
  unfold f_X5_opens at hf
  exact RCi.of (by decide) hWF (Nat.le_of_ble_eq_true rfl) (fun M X Z ls hl => w_X5_opens X Z hp0 V L ls hl hf)
def g_X5_emit (N : Nat → Nat) (G : zG) (p0 : Nat) (p0_6 : Nat) (x1 : Int32) (V : zI) (L : zL) : Option (zI × zL) :=
  (if (Int32.ofNat (N p0_6)) ≤ (V p0 7) then some (V, L) else if inB (V p0 7) (N p0_6) then some (z_uI (z_uI V p0_6 (V p0 7).toNatClampNeg x1) p0 7 (((z_uI V p0_6 (V p0 7).toNatClampNeg x1) p0 7) + 1), L) else none)
def f_X5_emit (N : Nat → Nat) (G : zG) (p0 : Nat) (x1 : Int32) (V : zI) (L : zL) : Option (zI × zL) :=
  (G p0 6).bind fun p0_6 => g_X5_emit N G p0 p0_6 x1 V L
set_option maxHeartbeats 4000000 in
set_option maxRecDepth 100000 in
theorem w_X5_emit {M : zM} {D : va_G} {cy : Nat → ClassId} {ad : Nat → Nat} {n : Nat} {K N : Nat → Nat} {G : zG} {r' : zI × zL} (X : RXc M D cy ad n K N G cX5_emit 2 RX5 0 0) (Z : RZv M (zC D cy ad n K N G) r'.1 r'.2) {p0 : Nat} (hp0 : p0 < n ∧ K p0 = 4) {p0_6 : Nat} (hp0_6 : p0_6 < n ∧ K p0_6 = 100) (ep0_6 : G p0 6 = some p0_6) (x1 : Int32) (V : zI) (L : zL) (ls : Array Slot) (hl : lv_has ls 2 [(0, .ref (ad p0)), (1, .int x1)]) (hf : g_X5_emit N G p0 p0_6 x1 V L = some r') : RG M (zC D cy ad n K N G) V L 0 ls [] := by
  unfold g_X5_emit at hf
  refine z_aload_n X.1 dX5_emit_0 rfl (lv_at hl 0 rfl) ?_
  refine c_geti X hp0 cf_X5_33 dX5_emit_1 ?_
  refine z_aload_n X.1 dX5_emit_4 rfl (lv_at hl 0 rfl) ?_
  refine c_geta X hp0 cf_X5_66 ep0_6 dX5_emit_5 ?_
  refine c_alen100 X hp0_6 dX5_emit_8 ?_
  refine z_icmp_ge (tgt := 32) X.1 dX5_emit_9 (by decide) (fun c_ => ?_) (fun c_ => ?_)
  · have hf := (if_pos c_).symm.trans hf
    exact c_vret X Z hf dX5_emit_32
  · have hf := (if_neg c_).symm.trans hf
    refine z_aload_n X.1 dX5_emit_12 rfl (lv_at hl 0 rfl) ?_
    refine c_geta X hp0 cf_X5_66 ep0_6 dX5_emit_13 ?_
    refine z_aload_n X.1 dX5_emit_16 rfl (lv_at hl 0 rfl) ?_
    refine c_geti X hp0 cf_X5_33 dX5_emit_17 ?_
    refine z_iload_n X.1 dX5_emit_20 rfl (lv_at hl 1 rfl) ?_
    obtain ⟨hb1, hf⟩ := z_ite hf
    refine c_iast X hp0_6 hb1 dX5_emit_21 ?_
    refine z_aload_n X.1 dX5_emit_22 rfl (lv_at hl 0 rfl) ?_
    refine z_dup X.1 dX5_emit_23 rfl ?_
    refine c_geti X hp0 cf_X5_33 dX5_emit_24 ?_
    refine z_iconst (v := 1) X.1 dX5_emit_27 (by decide) ?_
    refine z_iadd X.1 dX5_emit_28 ?_
    refine c_puti X hp0 cf_X5_33 cg_X5 cp_X5_7 rfl rfl dX5_emit_29 ?_
    exact c_vret X Z hf dX5_emit_32

theorem c_X5_emit (D : va_G) (cy : Nat → ClassId) (ad : Nat → Nat) {n : Nat} {K N : Nat → Nat} {G : zG} (hWF : zWF n K G) {p0 : Nat} {x1 : Int32} {V : zI} {L : zL} (hp0 : p0 < n ∧ K p0 = 4) {r' : zI × zL} (hf : f_X5_emit N G p0 x1 V L = some r') : RCv (zC D cy ad n K N G) yX5_emit cX5_emit 2 0 0 [.ref (ad p0), .int x1] V L r'.1 r'.2 := by
  unfold f_X5_emit at hf
  obtain ⟨p0_6, ep0_6, hf⟩ := z_bind hf
  have hp0_6 := hWF.get hp0 (k := 6) (c := 100) rfl ep0_6
  exact RCv.of (by decide) hWF (Nat.le_of_ble_eq_true rfl) (fun M X Z ls hl => w_X5_emit X Z hp0 hp0_6 ep0_6 x1 V L ls hl hf)
def g_X5_isSign (N : Nat → Nat) (G : zG) (p0 : Nat) (V : zI) (L : zL) (x1 : Int32) : Option (Int32) :=
  (if (V p0 2) = 1 then (if (V p0 3) = x1 then some 1 else some 0) else some 0)
def f_X5_isSign (N : Nat → Nat) (G : zG) (p0 : Nat) (x1 : Int32) (V : zI) (L : zL) : Option (Int32) :=
  g_X5_isSign N G p0 V L x1
set_option maxHeartbeats 4000000 in
set_option maxRecDepth 100000 in
theorem w_X5_isSign {M : zM} {D : va_G} {cy : Nat → ClassId} {ad : Nat → Nat} {n : Nat} {K N : Nat → Nat} {G : zG} {V : zI} {L : zL} {r' : Int32} (X : RXc M D cy ad n K N G cX5_isSign 2 RX5 0 0) (Z : RZi M (zC D cy ad n K N G) .boolean r' V L) {p0 : Nat} (hp0 : p0 < n ∧ K p0 = 4) (x1 : Int32) (ls : Array Slot) (hl : lv_has ls 2 [(0, .ref (ad p0)), (1, .int x1)]) (hf : g_X5_isSign N G p0 V L x1 = some r') : RG M (zC D cy ad n K N G) V L 0 ls [] := by
  unfold g_X5_isSign at hf
  refine z_aload_n X.1 dX5_isSign_0 rfl (lv_at hl 0 rfl) ?_
  refine c_geti X hp0 cf_X5_17 dX5_isSign_1 ?_
  refine z_iconst (v := 1) X.1 dX5_isSign_4 (by decide) ?_
  refine z_icmp_ne (tgt := 20) X.1 dX5_isSign_5 (by decide) (fun c_ => ?_) (fun c_ => ?_)
  · have hf := (if_neg c_).symm.trans hf
    refine z_iconst (v := 0) X.1 dX5_isSign_20 (by decide) ?_
    exact c_iretS X Z hf (by decide) dX5_isSign_21
  · have hf := (if_pos c_).symm.trans hf
    refine z_aload_n X.1 dX5_isSign_8 rfl (lv_at hl 0 rfl) ?_
    refine c_geti X hp0 cf_X5_20 dX5_isSign_9 ?_
    refine z_iload_n X.1 dX5_isSign_12 rfl (lv_at hl 1 rfl) ?_
    refine z_icmp_ne (tgt := 20) X.1 dX5_isSign_13 (by decide) (fun c_ => ?_) (fun c_ => ?_)
    · have hf := (if_neg c_).symm.trans hf
      refine z_iconst (v := 0) X.1 dX5_isSign_20 (by decide) ?_
      exact c_iretS X Z hf (by decide) dX5_isSign_21
    · have hf := (if_pos c_).symm.trans hf
      refine z_iconst (v := 1) X.1 dX5_isSign_16 (by decide) ?_
      refine z_goto (tgt := 21) X.1 dX5_isSign_17 (by decide) ?_
      exact c_iretS X Z hf (by decide) dX5_isSign_21

theorem c_X5_isSign (D : va_G) (cy : Nat → ClassId) (ad : Nat → Nat) {n : Nat} {K N : Nat → Nat} {G : zG} (hWF : zWF n K G) {p0 : Nat} {x1 : Int32} {V : zI} {L : zL} (hp0 : p0 < n ∧ K p0 = 4) {r' : Int32} (hf : f_X5_isSign N G p0 x1 V L = some r') : RCi (zC D cy ad n K N G) yX5_isSign cX5_isSign 2 .boolean 0 0 [.ref (ad p0), .int x1] V L r' V L := by
  unfold f_X5_isSign at hf
  exact RCi.of (by decide) hWF (Nat.le_of_ble_eq_true rfl) (fun M X Z ls hl => w_X5_isSign X Z hp0 x1 ls hl hf)
def g_X5_skipSign (N : Nat → Nat) (G : zG) (p0 : Nat) (x1 : Int32) (V : zI) (L : zL) : Option (zI × zL) :=
  (f_X5_isSign N G p0 x1 V L).bind fun r1 => (if r1 = 0 then (f_X5_failHere N G p0 V L).bind fun r2 => some (r2.1, r2.2) else (f_X5_take N G p0 V L).bind fun r3 => some (r3.1, r3.2))
def f_X5_skipSign (N : Nat → Nat) (G : zG) (p0 : Nat) (x1 : Int32) (V : zI) (L : zL) : Option (zI × zL) :=
  g_X5_skipSign N G p0 x1 V L
set_option maxHeartbeats 4000000 in
set_option maxRecDepth 100000 in
theorem w_X5_skipSign {M : zM} {D : va_G} {cy : Nat → ClassId} {ad : Nat → Nat} {n : Nat} {K N : Nat → Nat} {G : zG} {r' : zI × zL} (X : RXc M D cy ad n K N G cX5_skipSign 2 RX5 2 42) (Z : RZv M (zC D cy ad n K N G) r'.1 r'.2) {p0 : Nat} (hp0 : p0 < n ∧ K p0 = 4) (x1 : Int32) (V : zI) (L : zL) (ls : Array Slot) (hl : lv_has ls 2 [(0, .ref (ad p0)), (1, .int x1)]) (hf : g_X5_skipSign N G p0 x1 V L = some r') : RG M (zC D cy ad n K N G) V L 0 ls [] := by
  unfold g_X5_skipSign at hf
  refine z_aload_n X.1 dX5_skipSign_0 rfl (lv_at hl 0 rfl) ?_
  refine z_iload_n X.1 dX5_skipSign_1 rfl (lv_at hl 1 rfl) ?_
  obtain ⟨r1, hc1, hf⟩ := z_bind hf
  refine c_callVi [.int x1] X hl.1 (c_X5_isSign D cy ad X.2.2 hp0 hc1) hp0 ⟨by decide, rfl⟩ cm_X5_180 cw_X5_isSign rfl cq_X5_isSign ⟨by decide, by decide⟩ (Nat.le_of_ble_eq_true rfl) rfl dX5_skipSign_2 ?_
  refine z_if_eq (tgt := 15) X.1 dX5_skipSign_5 (by decide) (fun c_ => ?_) (fun c_ => ?_)
  · have hf := (if_pos c_).symm.trans hf
    refine z_aload_n X.1 dX5_skipSign_15 rfl (lv_at hl 0 rfl) ?_
    obtain ⟨r2, hc2, hf⟩ := z_bind hf
    refine c_callVv [] X hl.1 (c_X5_failHere D cy ad X.2.2 hp0 hc2) hp0 ⟨by decide, rfl⟩ cm_X5_117 cw_X5_failHere rfl cq_X5_failHere ⟨by decide, by decide⟩ (Nat.le_of_ble_eq_true rfl) rfl dX5_skipSign_16 ?_
    exact c_vret X Z hf dX5_skipSign_19
  · have hf := (if_neg c_).symm.trans hf
    refine z_aload_n X.1 dX5_skipSign_8 rfl (lv_at hl 0 rfl) ?_
    obtain ⟨r3, hc3, hf⟩ := z_bind hf
    refine c_callVv [] X hl.1 (c_X5_take D cy ad X.2.2 hp0 hc3) hp0 ⟨by decide, rfl⟩ cm_X5_70 cw_X5_take rfl cq_X5_take ⟨by decide, by decide⟩ (Nat.le_of_ble_eq_true rfl) rfl dX5_skipSign_9 ?_
    refine z_goto (tgt := 19) X.1 dX5_skipSign_12 (by decide) ?_
    exact c_vret X Z hf dX5_skipSign_19

theorem c_X5_skipSign (D : va_G) (cy : Nat → ClassId) (ad : Nat → Nat) {n : Nat} {K N : Nat → Nat} {G : zG} (hWF : zWF n K G) {p0 : Nat} {x1 : Int32} {V : zI} {L : zL} (hp0 : p0 < n ∧ K p0 = 4) {r' : zI × zL} (hf : f_X5_skipSign N G p0 x1 V L = some r') : RCv (zC D cy ad n K N G) yX5_skipSign cX5_skipSign 2 2 42 [.ref (ad p0), .int x1] V L r'.1 r'.2 := by
  unfold f_X5_skipSign at hf
  exact RCv.of (by decide) hWF (Nat.le_of_ble_eq_true rfl) (fun M X Z ls hl => w_X5_skipSign X Z hp0 x1 V L ls hl hf)
def g_X5_opensWithParenthesis (N : Nat → Nat) (G : zG) (p0 : Nat) (V : zI) (L : zL) : Option (Int32 × zI × zL) :=
  (f_X5_isSign N G p0 40 V L).bind fun r1 => (if r1 = 0 then (f_X5_failHere N G p0 V L).bind fun r4 => some (0, r4.1, r4.2) else (f_X5_opens N G p0 V L).bind fun r2 => if zB r2.1 then some (r2.1, r2.2.1, r2.2.2) else none)
def f_X5_opensWithParenthesis (N : Nat → Nat) (G : zG) (p0 : Nat) (V : zI) (L : zL) : Option (Int32 × zI × zL) :=
  g_X5_opensWithParenthesis N G p0 V L
set_option maxHeartbeats 4000000 in
set_option maxRecDepth 100000 in
theorem w_X5_opensWithParenthesis {M : zM} {D : va_G} {cy : Nat → ClassId} {ad : Nat → Nat} {n : Nat} {K N : Nat → Nat} {G : zG} {r' : Int32 × zI × zL} (X : RXc M D cy ad n K N G cX5_opensWithParenthesis 1 RX5 2 42) (Z : RZi M (zC D cy ad n K N G) .boolean r'.1 r'.2.1 r'.2.2) {p0 : Nat} (hp0 : p0 < n ∧ K p0 = 4)  (V : zI) (L : zL) (ls : Array Slot) (hl : lv_has ls 1 [(0, .ref (ad p0))]) (hf : g_X5_opensWithParenthesis N G p0 V L = some r') : RG M (zC D cy ad n K N G) V L 0 ls [] := by
  unfold g_X5_opensWithParenthesis at hf
  refine z_aload_n X.1 dX5_opensWithParenthesis_0 rfl (lv_at hl 0 rfl) ?_
  refine z_bipush (v := 40) X.1 dX5_opensWithParenthesis_1 (by decide) ?_
  obtain ⟨r1, hc1, hf⟩ := z_bind hf
  refine c_callVi [.int 40] X hl.1 (c_X5_isSign D cy ad X.2.2 hp0 hc1) hp0 ⟨by decide, rfl⟩ cm_X5_180 cw_X5_isSign rfl cq_X5_isSign ⟨by decide, by decide⟩ (Nat.le_of_ble_eq_true rfl) rfl dX5_opensWithParenthesis_3 ?_
  refine z_if_ne (tgt := 15) X.1 dX5_opensWithParenthesis_6 (by decide) (fun c_ => ?_) (fun c_ => ?_)
  · have hf := (if_neg c_).symm.trans hf
    refine z_aload_n X.1 dX5_opensWithParenthesis_15 rfl (lv_at hl 0 rfl) ?_
    obtain ⟨r2, hc2, hf⟩ := z_bind hf
    refine c_callVi [] X hl.1 (c_X5_opens D cy ad X.2.2 hp0 hc2) hp0 ⟨by decide, rfl⟩ cm_X5_176 cw_X5_opens rfl cq_X5_opens ⟨by decide, by decide⟩ (Nat.le_of_ble_eq_true rfl) rfl dX5_opensWithParenthesis_16 ?_
    obtain ⟨hb3, hf⟩ := z_ite hf
    exact c_iret X Z hf (zB_nar hb3) dX5_opensWithParenthesis_19
  · have hf := (if_pos c_).symm.trans hf
    refine z_aload_n X.1 dX5_opensWithParenthesis_9 rfl (lv_at hl 0 rfl) ?_
    obtain ⟨r4, hc4, hf⟩ := z_bind hf
    refine c_callVv [] X hl.1 (c_X5_failHere D cy ad X.2.2 hp0 hc4) hp0 ⟨by decide, rfl⟩ cm_X5_117 cw_X5_failHere rfl cq_X5_failHere ⟨by decide, by decide⟩ (Nat.le_of_ble_eq_true rfl) rfl dX5_opensWithParenthesis_10 ?_
    refine z_iconst (v := 0) X.1 dX5_opensWithParenthesis_13 (by decide) ?_
    exact c_iret X Z hf (by decide) dX5_opensWithParenthesis_14

theorem c_X5_opensWithParenthesis (D : va_G) (cy : Nat → ClassId) (ad : Nat → Nat) {n : Nat} {K N : Nat → Nat} {G : zG} (hWF : zWF n K G) {p0 : Nat} {V : zI} {L : zL} (hp0 : p0 < n ∧ K p0 = 4) {r' : Int32 × zI × zL} (hf : f_X5_opensWithParenthesis N G p0 V L = some r') : RCi (zC D cy ad n K N G) yX5_opensWithParenthesis cX5_opensWithParenthesis 1 .boolean 2 42 [.ref (ad p0)] V L r'.1 r'.2.1 r'.2.2 := by
  unfold f_X5_opensWithParenthesis at hf
  exact RCi.of (by decide) hWF (Nat.le_of_ble_eq_true rfl) (fun M X Z ls hl => w_X5_opensWithParenthesis X Z hp0 V L ls hl hf)
def f_X5_readFactNamed_58 (N : Nat → Nat) (G : zG) (p0 : Nat) (V : zI) (L : zL) : Option (zI × zL) :=
  (f_X5_failHere N G p0 V L).bind fun r1 => some (r1.1, r1.2)
def f_X5_readFactNamed_63 (N : Nat → Nat) (G : zG) (p0 : Nat) (x1 : Int32) (V : zI) (L : zL) : Option (zI × zL) :=
  (f_X5_take N G p0 V L).bind fun r1 => (f_X5_emit N G p0 (((0 : Int32) + x1) - 11) r1.1 r1.2).bind fun r2 => some (r2.1, r2.2)
def f_X5_readFactNamed_34 (N : Nat → Nat) (G : zG) (p0 : Nat) (x1 : Int32) (s0 : Int32) (V : zI) (L : zL) : Option (zI × zL) :=
  (if x1 < 11 then f_X5_readFactNamed_58 N G p0 V L else (if 15 < x1 then f_X5_readFactNamed_58 N G p0 V L else (if s0 = 0 then f_X5_readFactNamed_63 N G p0 x1 V L else (if (V p0 9) = 0 then f_X5_readFactNamed_63 N G p0 x1 V L else f_X5_readFactNamed_58 N G p0 V L))))
def f_X5_readFactNamed_29 (N : Nat → Nat) (G : zG) (p0 : Nat) (x1 : Int32) (V : zI) (L : zL) : Option (zI × zL) :=
  f_X5_readFactNamed_34 N G p0 x1 1 V L
def f_X5_readFactNamed_16 (N : Nat → Nat) (G : zG) (p0 : Nat) (s0 : Int32) (V : zI) (L : zL) : Option (zI × zL) :=
  (if s0 = 14 then f_X5_readFactNamed_29 N G p0 s0 V L else (if s0 = 15 then f_X5_readFactNamed_29 N G p0 s0 V L else f_X5_readFactNamed_34 N G p0 s0 0 V L))
def g_X5_readFactNamed (N : Nat → Nat) (G : zG) (p0 : Nat) (V : zI) (L : zL) : Option (zI × zL) :=
  (if (V p0 2) = 4 then f_X5_readFactNamed_16 N G p0 (V p0 3) V L else f_X5_readFactNamed_16 N G p0 (-1) V L)
def f_X5_readFactNamed (N : Nat → Nat) (G : zG) (p0 : Nat) (V : zI) (L : zL) : Option (zI × zL) :=
  g_X5_readFactNamed N G p0 V L
set_option maxHeartbeats 4000000 in
set_option maxRecDepth 100000 in
theorem w_X5_readFactNamed_58 {M : zM} {D : va_G} {cy : Nat → ClassId} {ad : Nat → Nat} {n : Nat} {K N : Nat → Nat} {G : zG} {r' : zI × zL} (X : RXc M D cy ad n K N G cX5_readFactNamed 3 RX5 2 42) (Z : RZv M (zC D cy ad n K N G) r'.1 r'.2) {p0 : Nat} (hp0 : p0 < n ∧ K p0 = 4)  (V : zI) (L : zL) (ls : Array Slot) (hl : lv_has ls 3 [(0, .ref (ad p0))]) (hf : f_X5_readFactNamed_58 N G p0 V L = some r') : RG M (zC D cy ad n K N G) V L 58 ls [] := by
  unfold f_X5_readFactNamed_58 at hf
  refine z_aload_n X.1 dX5_readFactNamed_58 rfl (lv_at hl 0 rfl) ?_
  obtain ⟨r1, hc1, hf⟩ := z_bind hf
  refine c_callVv [] X hl.1 (c_X5_failHere D cy ad X.2.2 hp0 hc1) hp0 ⟨by decide, rfl⟩ cm_X5_117 cw_X5_failHere rfl cq_X5_failHere ⟨by decide, by decide⟩ (Nat.le_of_ble_eq_true rfl) rfl dX5_readFactNamed_59 ?_
  exact c_vret X Z hf dX5_readFactNamed_62

set_option maxHeartbeats 4000000 in
set_option maxRecDepth 100000 in
theorem w_X5_readFactNamed_63 {M : zM} {D : va_G} {cy : Nat → ClassId} {ad : Nat → Nat} {n : Nat} {K N : Nat → Nat} {G : zG} {r' : zI × zL} (X : RXc M D cy ad n K N G cX5_readFactNamed 3 RX5 2 42) (Z : RZv M (zC D cy ad n K N G) r'.1 r'.2) {p0 : Nat} (hp0 : p0 < n ∧ K p0 = 4) (x1 : Int32) (V : zI) (L : zL) (ls : Array Slot) (hl : lv_has ls 3 [(0, .ref (ad p0)), (1, .int x1)]) (hf : f_X5_readFactNamed_63 N G p0 x1 V L = some r') : RG M (zC D cy ad n K N G) V L 63 ls [] := by
  unfold f_X5_readFactNamed_63 at hf
  refine z_aload_n X.1 dX5_readFactNamed_63 rfl (lv_at hl 0 rfl) ?_
  obtain ⟨r1, hc1, hf⟩ := z_bind hf
  refine c_callVv [] X hl.1 (c_X5_take D cy ad X.2.2 hp0 hc1) hp0 ⟨by decide, rfl⟩ cm_X5_70 cw_X5_take rfl cq_X5_take ⟨by decide, by decide⟩ (Nat.le_of_ble_eq_true rfl) rfl dX5_readFactNamed_64 ?_
  refine z_aload_n X.1 dX5_readFactNamed_67 rfl (lv_at hl 0 rfl) ?_
  refine z_iconst (v := 0) X.1 dX5_readFactNamed_68 (by decide) ?_
  refine z_iload_n X.1 dX5_readFactNamed_69 rfl (lv_at hl 1 rfl) ?_
  refine z_iadd X.1 dX5_readFactNamed_70 ?_
  refine z_bipush (v := 11) X.1 dX5_readFactNamed_71 (by decide) ?_
  refine z_isub X.1 dX5_readFactNamed_73 ?_
  obtain ⟨r2, hc2, hf⟩ := z_bind hf
  refine c_callVv [.int (((0 : Int32) + x1) - 11)] X hl.1 (c_X5_emit D cy ad X.2.2 hp0 hc2) hp0 ⟨by decide, rfl⟩ cm_X5_170 cw_X5_emit rfl cq_X5_emit ⟨by decide, by decide⟩ (Nat.le_of_ble_eq_true rfl) rfl dX5_readFactNamed_74 ?_
  exact c_vret X Z hf dX5_readFactNamed_77

set_option maxHeartbeats 4000000 in
set_option maxRecDepth 100000 in
theorem w_X5_readFactNamed_34 {M : zM} {D : va_G} {cy : Nat → ClassId} {ad : Nat → Nat} {n : Nat} {K N : Nat → Nat} {G : zG} {r' : zI × zL} (X : RXc M D cy ad n K N G cX5_readFactNamed 3 RX5 2 42) (Z : RZv M (zC D cy ad n K N G) r'.1 r'.2) {p0 : Nat} (hp0 : p0 < n ∧ K p0 = 4) (x1 : Int32) (s0 : Int32) (V : zI) (L : zL) (ls : Array Slot) (hl : lv_has ls 3 [(0, .ref (ad p0)), (1, .int x1)]) (hf : f_X5_readFactNamed_34 N G p0 x1 s0 V L = some r') : RG M (zC D cy ad n K N G) V L 34 ls [.int s0] := by
  unfold f_X5_readFactNamed_34 at hf
  refine z_istore_n (lv' := [(2, .int s0), (0, .ref (ad p0)), (1, .int x1)]) X.1 dX5_readFactNamed_34 rfl hl (by decide) rfl (fun ls hl => ?_)
  refine z_iload_n X.1 dX5_readFactNamed_35 rfl (lv_at hl 2 rfl) ?_
  refine z_bipush (v := 11) X.1 dX5_readFactNamed_36 (by decide) ?_
  refine z_icmp_lt (tgt := 58) X.1 dX5_readFactNamed_38 (by decide) (fun c_ => ?_) (fun c_ => ?_)
  · have hf := (if_pos c_).symm.trans hf
    exact w_X5_readFactNamed_58 X Z hp0 V L ls (lv_sub hl [1] rfl) hf
  · have hf := (if_neg c_).symm.trans hf
    refine z_iload_n X.1 dX5_readFactNamed_41 rfl (lv_at hl 2 rfl) ?_
    refine z_bipush (v := 15) X.1 dX5_readFactNamed_42 (by decide) ?_
    refine z_icmp_gt (tgt := 58) X.1 dX5_readFactNamed_44 (by decide) (fun c_ => ?_) (fun c_ => ?_)
    · have hf := (if_pos c_).symm.trans hf
      exact w_X5_readFactNamed_58 X Z hp0 V L ls (lv_sub hl [1] rfl) hf
    · have hf := (if_neg c_).symm.trans hf
      refine z_iload_n X.1 dX5_readFactNamed_47 rfl (lv_at hl 0 rfl) ?_
      refine z_if_eq (tgt := 63) X.1 dX5_readFactNamed_48 (by decide) (fun c_ => ?_) (fun c_ => ?_)
      · have hf := (if_pos c_).symm.trans hf
        exact w_X5_readFactNamed_63 X Z hp0 x1 V L ls (lv_sub hl [1, 2] rfl) hf
      · have hf := (if_neg c_).symm.trans hf
        refine z_aload_n X.1 dX5_readFactNamed_51 rfl (lv_at hl 1 rfl) ?_
        refine c_geti X hp0 cf_X5_39 dX5_readFactNamed_52 ?_
        refine z_if_eq (tgt := 63) X.1 dX5_readFactNamed_55 (by decide) (fun c_ => ?_) (fun c_ => ?_)
        · have hf := (if_pos c_).symm.trans hf
          exact w_X5_readFactNamed_63 X Z hp0 x1 V L ls (lv_sub hl [1, 2] rfl) hf
        · have hf := (if_neg c_).symm.trans hf
          exact w_X5_readFactNamed_58 X Z hp0 V L ls (lv_sub hl [1] rfl) hf

set_option maxHeartbeats 4000000 in
set_option maxRecDepth 100000 in
theorem w_X5_readFactNamed_29 {M : zM} {D : va_G} {cy : Nat → ClassId} {ad : Nat → Nat} {n : Nat} {K N : Nat → Nat} {G : zG} {r' : zI × zL} (X : RXc M D cy ad n K N G cX5_readFactNamed 3 RX5 2 42) (Z : RZv M (zC D cy ad n K N G) r'.1 r'.2) {p0 : Nat} (hp0 : p0 < n ∧ K p0 = 4) (x1 : Int32) (V : zI) (L : zL) (ls : Array Slot) (hl : lv_has ls 3 [(0, .ref (ad p0)), (1, .int x1)]) (hf : f_X5_readFactNamed_29 N G p0 x1 V L = some r') : RG M (zC D cy ad n K N G) V L 29 ls [] := by
  unfold f_X5_readFactNamed_29 at hf
  refine z_iconst (v := 1) X.1 dX5_readFactNamed_29 (by decide) ?_
  refine z_goto (tgt := 34) X.1 dX5_readFactNamed_30 (by decide) ?_
  exact w_X5_readFactNamed_34 X Z hp0 x1 1 V L ls (lv_sub hl [0, 1] rfl) hf

set_option maxHeartbeats 4000000 in
set_option maxRecDepth 100000 in
theorem w_X5_readFactNamed_16 {M : zM} {D : va_G} {cy : Nat → ClassId} {ad : Nat → Nat} {n : Nat} {K N : Nat → Nat} {G : zG} {r' : zI × zL} (X : RXc M D cy ad n K N G cX5_readFactNamed 3 RX5 2 42) (Z : RZv M (zC D cy ad n K N G) r'.1 r'.2) {p0 : Nat} (hp0 : p0 < n ∧ K p0 = 4) (s0 : Int32) (V : zI) (L : zL) (ls : Array Slot) (hl : lv_has ls 3 [(0, .ref (ad p0))]) (hf : f_X5_readFactNamed_16 N G p0 s0 V L = some r') : RG M (zC D cy ad n K N G) V L 16 ls [.int s0] := by
  unfold f_X5_readFactNamed_16 at hf
  refine z_istore_n (lv' := [(1, .int s0), (0, .ref (ad p0))]) X.1 dX5_readFactNamed_16 rfl hl (by decide) rfl (fun ls hl => ?_)
  refine z_iload_n X.1 dX5_readFactNamed_17 rfl (lv_at hl 0 rfl) ?_
  refine z_bipush (v := 14) X.1 dX5_readFactNamed_18 (by decide) ?_
  refine z_icmp_eq (tgt := 29) X.1 dX5_readFactNamed_20 (by decide) (fun c_ => ?_) (fun c_ => ?_)
  · have hf := (if_pos c_).symm.trans hf
    exact w_X5_readFactNamed_29 X Z hp0 s0 V L ls (lv_sub hl [1, 0] rfl) hf
  · have hf := (if_neg c_).symm.trans hf
    refine z_iload_n X.1 dX5_readFactNamed_23 rfl (lv_at hl 0 rfl) ?_
    refine z_bipush (v := 15) X.1 dX5_readFactNamed_24 (by decide) ?_
    refine z_icmp_ne (tgt := 33) X.1 dX5_readFactNamed_26 (by decide) (fun c_ => ?_) (fun c_ => ?_)
    · have hf := (if_neg c_).symm.trans hf
      refine z_iconst (v := 0) X.1 dX5_readFactNamed_33 (by decide) ?_
      exact w_X5_readFactNamed_34 X Z hp0 s0 0 V L ls (lv_sub hl [1, 0] rfl) hf
    · have hf := (if_pos c_).symm.trans hf
      exact w_X5_readFactNamed_29 X Z hp0 s0 V L ls (lv_sub hl [1, 0] rfl) hf

set_option maxHeartbeats 4000000 in
set_option maxRecDepth 100000 in
theorem w_X5_readFactNamed {M : zM} {D : va_G} {cy : Nat → ClassId} {ad : Nat → Nat} {n : Nat} {K N : Nat → Nat} {G : zG} {r' : zI × zL} (X : RXc M D cy ad n K N G cX5_readFactNamed 3 RX5 2 42) (Z : RZv M (zC D cy ad n K N G) r'.1 r'.2) {p0 : Nat} (hp0 : p0 < n ∧ K p0 = 4)  (V : zI) (L : zL) (ls : Array Slot) (hl : lv_has ls 3 [(0, .ref (ad p0))]) (hf : g_X5_readFactNamed N G p0 V L = some r') : RG M (zC D cy ad n K N G) V L 0 ls [] := by
  unfold g_X5_readFactNamed at hf
  refine z_aload_n X.1 dX5_readFactNamed_0 rfl (lv_at hl 0 rfl) ?_
  refine c_geti X hp0 cf_X5_17 dX5_readFactNamed_1 ?_
  refine z_iconst (v := 4) X.1 dX5_readFactNamed_4 (by decide) ?_
  refine z_icmp_ne (tgt := 15) X.1 dX5_readFactNamed_5 (by decide) (fun c_ => ?_) (fun c_ => ?_)
  · have hf := (if_neg c_).symm.trans hf
    refine z_iconst (v := -1) X.1 dX5_readFactNamed_15 (by decide) ?_
    exact w_X5_readFactNamed_16 X Z hp0 (-1) V L ls (lv_sub hl [0] rfl) hf
  · have hf := (if_pos c_).symm.trans hf
    refine z_aload_n X.1 dX5_readFactNamed_8 rfl (lv_at hl 0 rfl) ?_
    refine c_geti X hp0 cf_X5_20 dX5_readFactNamed_9 ?_
    refine z_goto (tgt := 16) X.1 dX5_readFactNamed_12 (by decide) ?_
    exact w_X5_readFactNamed_16 X Z hp0 (V p0 3) V L ls (lv_sub hl [0] rfl) hf

theorem c_X5_readFactNamed (D : va_G) (cy : Nat → ClassId) (ad : Nat → Nat) {n : Nat} {K N : Nat → Nat} {G : zG} (hWF : zWF n K G) {p0 : Nat} {V : zI} {L : zL} (hp0 : p0 < n ∧ K p0 = 4) {r' : zI × zL} (hf : f_X5_readFactNamed N G p0 V L = some r') : RCv (zC D cy ad n K N G) yX5_readFactNamed cX5_readFactNamed 3 2 42 [.ref (ad p0)] V L r'.1 r'.2 := by
  unfold f_X5_readFactNamed at hf
  exact RCv.of (by decide) hWF (Nat.le_of_ble_eq_true rfl) (fun M X Z ls hl => w_X5_readFactNamed X Z hp0 V L ls hl hf)
def f_X9_findWays_105 (N : Nat → Nat) (G : zG) (p0 : Nat) (p0_7 : Nat) (k2 : Int32 × zI × zL → Option (zI × zL)) (k10 : Int32 × Int32 × zI × zL → Option (zI × zL)) (x1 : Int32) (x2 : Int32) (x5 : Int32) (x6 : Int32) (V : zI) (L : zL) : Option (zI × zL) :=
  if inB x2 (N p0_7) then k10 (x1, (x2 + 1), z_uI V p0_7 x2.toNatClampNeg (x5 + x6), L) else none
def f_X9_findWays_75 (N : Nat → Nat) (G : zG) (p0 : Nat) (p0_7 : Nat) (k2 : Int32 × zI × zL → Option (zI × zL)) (k10 : Int32 × Int32 × zI × zL → Option (zI × zL)) (x1 : Int32) (x2 : Int32) (x5 : Int32) (x6 : Int32) (s0 : Int32) (V : zI) (L : zL) : Option (zI × zL) :=
  (if s0 = 0 then k10 (x1, (x2 + 1), V, L) else if inB x2 (N p0_7) then (if (V p0_7 x2.toNatClampNeg) = 0 then f_X9_findWays_105 N G p0 p0_7 k2 k10 x1 x2 x5 x6 V L else if inB x2 (N p0_7) then (if (V p0_7 x2.toNatClampNeg) ≤ (x5 + x6) then k10 (x1, (x2 + 1), V, L) else f_X9_findWays_105 N G p0 p0_7 k2 k10 x1 x2 x5 x6 V L) else none) else none)
def f_X9_findWays_74 (N : Nat → Nat) (G : zG) (p0 : Nat) (p0_7 : Nat) (k2 : Int32 × zI × zL → Option (zI × zL)) (k10 : Int32 × Int32 × zI × zL → Option (zI × zL)) (x1 : Int32) (x2 : Int32) (x5 : Int32) (x6 : Int32) (V : zI) (L : zL) : Option (zI × zL) :=
  f_X9_findWays_75 N G p0 p0_7 k2 k10 x1 x2 x5 x6 0 V L
def b_X9_findWays_10 (N : Nat → Nat) (G : zG) (p0 : Nat) (p0_7 : Nat) (k2 : Int32 × zI × zL → Option (zI × zL)) (k10 : Int32 × Int32 × zI × zL → Option (zI × zL)) : Int32 × Int32 × zI × zL → Option (zI × zL) := fun ⟨x1, x2, V, L⟩ =>
  (if 36 ≤ x2 then k2 ((x1 + 1), V, L) else if inB (((x2 / 6) * 6) + x1) (N p0_7) then if inB ((x1 * 6) + (x2 - x2 / 6 * 6)) (N p0_7) then (if (x2 / 6) = (x2 - x2 / 6 * 6) then f_X9_findWays_74 N G p0 p0_7 k2 k10 x1 x2 (V p0_7 (((x2 / 6) * 6) + x1).toNatClampNeg) (V p0_7 ((x1 * 6) + (x2 - x2 / 6 * 6)).toNatClampNeg) V L else (if (V p0_7 (((x2 / 6) * 6) + x1).toNatClampNeg) ≤ 0 then f_X9_findWays_74 N G p0 p0_7 k2 k10 x1 x2 (V p0_7 (((x2 / 6) * 6) + x1).toNatClampNeg) (V p0_7 ((x1 * 6) + (x2 - x2 / 6 * 6)).toNatClampNeg) V L else (if (V p0_7 ((x1 * 6) + (x2 - x2 / 6 * 6)).toNatClampNeg) ≤ 0 then f_X9_findWays_74 N G p0 p0_7 k2 k10 x1 x2 (V p0_7 (((x2 / 6) * 6) + x1).toNatClampNeg) (V p0_7 ((x1 * 6) + (x2 - x2 / 6 * 6)).toNatClampNeg) V L else f_X9_findWays_75 N G p0 p0_7 k2 k10 x1 x2 (V p0_7 (((x2 / 6) * 6) + x1).toNatClampNeg) (V p0_7 ((x1 * 6) + (x2 - x2 / 6 * 6)).toNatClampNeg) 1 V L))) else none else none)
def b_X9_findWays_2 (N : Nat → Nat) (G : zG) (p0 : Nat) (p0_7 : Nat) (k2 : Int32 × zI × zL → Option (zI × zL)) : Int32 × zI × zL → Option (zI × zL) := fun ⟨x1, V, L⟩ =>
  (if 6 ≤ x1 then some (V, L) else zfix (b_X9_findWays_10 N G p0 p0_7 k2) FU (x1, 0, V, L))
def g_X9_findWays (N : Nat → Nat) (G : zG) (p0 : Nat) (p0_7 : Nat) (V : zI) (L : zL) : Option (zI × zL) :=
  zfix (b_X9_findWays_2 N G p0 p0_7) FU (0, V, L)
def f_X9_findWays (N : Nat → Nat) (G : zG) (p0 : Nat) (V : zI) (L : zL) : Option (zI × zL) :=
  (G p0 7).bind fun p0_7 => g_X9_findWays N G p0 p0_7 V L
set_option maxHeartbeats 4000000 in
set_option maxRecDepth 100000 in
theorem w_X9_findWays_105 {M : zM} {D : va_G} {cy : Nat → ClassId} {ad : Nat → Nat} {n : Nat} {K N : Nat → Nat} {G : zG} {r' : zI × zL} (X : RXc M D cy ad n K N G cX9_findWays 8 RX9 0 0) (Z : RZv M (zC D cy ad n K N G) r'.1 r'.2) {p0 : Nat} (hp0 : p0 < n ∧ K p0 = 7) {p0_7 : Nat} (hp0_7 : p0_7 < n ∧ K p0_7 = 100) (ep0_7 : G p0 7 = some p0_7) {k2 : Int32 × zI × zL → Option (zI × zL)} {k10 : Int32 × Int32 × zI × zL → Option (zI × zL)} (hk2 : ∀ (x1 : Int32) (V : zI) (L : zL) (ls : Array Slot), lv_has ls 8 [(0, .ref (ad p0)), (1, .int x1)] → k2 (x1, V, L) = some r' → RG M (zC D cy ad n K N G) V L 2 ls []) (hk10 : ∀ (x1 : Int32) (x2 : Int32) (V : zI) (L : zL) (ls : Array Slot), lv_has ls 8 [(0, .ref (ad p0)), (1, .int x1), (2, .int x2)] → k10 (x1, x2, V, L) = some r' → RG M (zC D cy ad n K N G) V L 10 ls []) (x1 : Int32) (x2 : Int32) (x5 : Int32) (x6 : Int32) (V : zI) (L : zL) (ls : Array Slot) (hl : lv_has ls 8 [(0, .ref (ad p0)), (1, .int x1), (2, .int x2), (5, .int x5), (6, .int x6)]) (hf : f_X9_findWays_105 N G p0 p0_7 k2 k10 x1 x2 x5 x6 V L = some r') : RG M (zC D cy ad n K N G) V L 105 ls [] := by
  unfold f_X9_findWays_105 at hf
  refine z_aload_n X.1 dX9_findWays_105 rfl (lv_at hl 0 rfl) ?_
  refine c_geta X hp0 cf_X9_34 ep0_7 dX9_findWays_106 ?_
  refine z_iload_n X.1 dX9_findWays_109 rfl (lv_at hl 2 rfl) ?_
  refine z_iload X.1 dX9_findWays_110 (lv_at hl 3 rfl) ?_
  refine z_iload X.1 dX9_findWays_112 (lv_at hl 4 rfl) ?_
  refine z_iadd X.1 dX9_findWays_114 ?_
  obtain ⟨hb1, hf⟩ := z_ite hf
  refine c_iast X hp0_7 hb1 dX9_findWays_115 ?_
  refine z_iinc (v := x2 + 1) (k0 := 2) (lv' := [(2, .int (x2 + 1)), (0, .ref (ad p0)), (1, .int x1), (5, .int x5), (6, .int x6)]) X.1 dX9_findWays_116 hl rfl rfl (by decide) rfl (fun ls hl => ?_)
  refine z_goto (tgt := 10) X.1 dX9_findWays_119 (by decide) ?_
  exact hk10 x1 (x2 + 1) (z_uI V p0_7 x2.toNatClampNeg (x5 + x6)) L ls (lv_sub hl [1, 2, 0] rfl) hf

set_option maxHeartbeats 4000000 in
set_option maxRecDepth 100000 in
theorem w_X9_findWays_75 {M : zM} {D : va_G} {cy : Nat → ClassId} {ad : Nat → Nat} {n : Nat} {K N : Nat → Nat} {G : zG} {r' : zI × zL} (X : RXc M D cy ad n K N G cX9_findWays 8 RX9 0 0) (Z : RZv M (zC D cy ad n K N G) r'.1 r'.2) {p0 : Nat} (hp0 : p0 < n ∧ K p0 = 7) {p0_7 : Nat} (hp0_7 : p0_7 < n ∧ K p0_7 = 100) (ep0_7 : G p0 7 = some p0_7) {k2 : Int32 × zI × zL → Option (zI × zL)} {k10 : Int32 × Int32 × zI × zL → Option (zI × zL)} (hk2 : ∀ (x1 : Int32) (V : zI) (L : zL) (ls : Array Slot), lv_has ls 8 [(0, .ref (ad p0)), (1, .int x1)] → k2 (x1, V, L) = some r' → RG M (zC D cy ad n K N G) V L 2 ls []) (hk10 : ∀ (x1 : Int32) (x2 : Int32) (V : zI) (L : zL) (ls : Array Slot), lv_has ls 8 [(0, .ref (ad p0)), (1, .int x1), (2, .int x2)] → k10 (x1, x2, V, L) = some r' → RG M (zC D cy ad n K N G) V L 10 ls []) (x1 : Int32) (x2 : Int32) (x5 : Int32) (x6 : Int32) (s0 : Int32) (V : zI) (L : zL) (ls : Array Slot) (hl : lv_has ls 8 [(0, .ref (ad p0)), (1, .int x1), (2, .int x2), (5, .int x5), (6, .int x6)]) (hf : f_X9_findWays_75 N G p0 p0_7 k2 k10 x1 x2 x5 x6 s0 V L = some r') : RG M (zC D cy ad n K N G) V L 75 ls [.int s0] := by
  unfold f_X9_findWays_75 at hf
  refine z_istore (lv' := [(7, .int s0), (0, .ref (ad p0)), (1, .int x1), (2, .int x2), (5, .int x5), (6, .int x6)]) X.1 dX9_findWays_75 hl (by decide) rfl (fun ls hl => ?_)
  refine z_iload X.1 dX9_findWays_77 (lv_at hl 0 rfl) ?_
  refine z_if_eq (tgt := 116) X.1 dX9_findWays_79 (by decide) (fun c_ => ?_) (fun c_ => ?_)
  · have hf := (if_pos c_).symm.trans hf
    refine z_iinc (v := x2 + 1) (k0 := 3) (lv' := [(2, .int (x2 + 1)), (7, .int s0), (0, .ref (ad p0)), (1, .int x1), (5, .int x5), (6, .int x6)]) X.1 dX9_findWays_116 hl rfl rfl (by decide) rfl (fun ls hl => ?_)
    refine z_goto (tgt := 10) X.1 dX9_findWays_119 (by decide) ?_
    exact hk10 x1 (x2 + 1) V L ls (lv_sub hl [2, 3, 0] rfl) hf
  · have hf := (if_neg c_).symm.trans hf
    refine z_aload_n X.1 dX9_findWays_82 rfl (lv_at hl 1 rfl) ?_
    refine c_geta X hp0 cf_X9_34 ep0_7 dX9_findWays_83 ?_
    refine z_iload_n X.1 dX9_findWays_86 rfl (lv_at hl 3 rfl) ?_
    obtain ⟨hb1, hf⟩ := z_ite hf
    refine c_iald X hp0_7 hb1 dX9_findWays_87 ?_
    refine z_if_eq (tgt := 105) X.1 dX9_findWays_88 (by decide) (fun c_ => ?_) (fun c_ => ?_)
    · have hf := (if_pos c_).symm.trans hf
      exact w_X9_findWays_105 X Z hp0 hp0_7 ep0_7 hk2 hk10 x1 x2 x5 x6 V L ls (lv_sub hl [1, 2, 3, 4, 5] rfl) hf
    · have hf := (if_neg c_).symm.trans hf
      refine z_iload X.1 dX9_findWays_91 (lv_at hl 4 rfl) ?_
      refine z_iload X.1 dX9_findWays_93 (lv_at hl 5 rfl) ?_
      refine z_iadd X.1 dX9_findWays_95 ?_
      refine z_aload_n X.1 dX9_findWays_96 rfl (lv_at hl 1 rfl) ?_
      refine c_geta X hp0 cf_X9_34 ep0_7 dX9_findWays_97 ?_
      refine z_iload_n X.1 dX9_findWays_100 rfl (lv_at hl 3 rfl) ?_
      obtain ⟨hb2, hf⟩ := z_ite hf
      refine c_iald X hp0_7 hb2 dX9_findWays_101 ?_
      refine z_icmp_ge (tgt := 116) X.1 dX9_findWays_102 (by decide) (fun c_ => ?_) (fun c_ => ?_)
      · have hf := (if_pos c_).symm.trans hf
        refine z_iinc (v := x2 + 1) (k0 := 3) (lv' := [(2, .int (x2 + 1)), (7, .int s0), (0, .ref (ad p0)), (1, .int x1), (5, .int x5), (6, .int x6)]) X.1 dX9_findWays_116 hl rfl rfl (by decide) rfl (fun ls hl => ?_)
        refine z_goto (tgt := 10) X.1 dX9_findWays_119 (by decide) ?_
        exact hk10 x1 (x2 + 1) V L ls (lv_sub hl [2, 3, 0] rfl) hf
      · have hf := (if_neg c_).symm.trans hf
        exact w_X9_findWays_105 X Z hp0 hp0_7 ep0_7 hk2 hk10 x1 x2 x5 x6 V L ls (lv_sub hl [1, 2, 3, 4, 5] rfl) hf

set_option maxHeartbeats 4000000 in
set_option maxRecDepth 100000 in
theorem w_X9_findWays_74 {M : zM} {D : va_G} {cy : Nat → ClassId} {ad : Nat → Nat} {n : Nat} {K N : Nat → Nat} {G : zG} {r' : zI × zL} (X : RXc M D cy ad n K N G cX9_findWays 8 RX9 0 0) (Z : RZv M (zC D cy ad n K N G) r'.1 r'.2) {p0 : Nat} (hp0 : p0 < n ∧ K p0 = 7) {p0_7 : Nat} (hp0_7 : p0_7 < n ∧ K p0_7 = 100) (ep0_7 : G p0 7 = some p0_7) {k2 : Int32 × zI × zL → Option (zI × zL)} {k10 : Int32 × Int32 × zI × zL → Option (zI × zL)} (hk2 : ∀ (x1 : Int32) (V : zI) (L : zL) (ls : Array Slot), lv_has ls 8 [(0, .ref (ad p0)), (1, .int x1)] → k2 (x1, V, L) = some r' → RG M (zC D cy ad n K N G) V L 2 ls []) (hk10 : ∀ (x1 : Int32) (x2 : Int32) (V : zI) (L : zL) (ls : Array Slot), lv_has ls 8 [(0, .ref (ad p0)), (1, .int x1), (2, .int x2)] → k10 (x1, x2, V, L) = some r' → RG M (zC D cy ad n K N G) V L 10 ls []) (x1 : Int32) (x2 : Int32) (x5 : Int32) (x6 : Int32) (V : zI) (L : zL) (ls : Array Slot) (hl : lv_has ls 8 [(0, .ref (ad p0)), (1, .int x1), (2, .int x2), (5, .int x5), (6, .int x6)]) (hf : f_X9_findWays_74 N G p0 p0_7 k2 k10 x1 x2 x5 x6 V L = some r') : RG M (zC D cy ad n K N G) V L 74 ls [] := by
  unfold f_X9_findWays_74 at hf
  refine z_iconst (v := 0) X.1 dX9_findWays_74 (by decide) ?_
  exact w_X9_findWays_75 X Z hp0 hp0_7 ep0_7 hk2 hk10 x1 x2 x5 x6 0 V L ls (lv_sub hl [0, 1, 2, 3, 4] rfl) hf

set_option maxHeartbeats 4000000 in
set_option maxRecDepth 100000 in
theorem w_X9_findWays_10 {M : zM} {D : va_G} {cy : Nat → ClassId} {ad : Nat → Nat} {n : Nat} {K N : Nat → Nat} {G : zG} {r' : zI × zL} (X : RXc M D cy ad n K N G cX9_findWays 8 RX9 0 0) (Z : RZv M (zC D cy ad n K N G) r'.1 r'.2) {p0 : Nat} (hp0 : p0 < n ∧ K p0 = 7) {p0_7 : Nat} (hp0_7 : p0_7 < n ∧ K p0_7 = 100) (ep0_7 : G p0 7 = some p0_7) {k2 : Int32 × zI × zL → Option (zI × zL)} (hk2 : ∀ (x1 : Int32) (V : zI) (L : zL) (ls : Array Slot), lv_has ls 8 [(0, .ref (ad p0)), (1, .int x1)] → k2 (x1, V, L) = some r' → RG M (zC D cy ad n K N G) V L 2 ls []) (nn : Nat) : ∀ (x1 : Int32) (x2 : Int32) (V : zI) (L : zL) (ls : Array Slot) (hl : lv_has ls 8 [(0, .ref (ad p0)), (1, .int x1), (2, .int x2)]) (hf : zfix (b_X9_findWays_10 N G p0 p0_7 k2) nn (x1, x2, V, L) = some r'), RG M (zC D cy ad n K N G) V L 10 ls [] := by
  induction nn with
  | zero => intro x1 x2 V L ls hl hf; cases hf
  | succ nn ih =>
  intro x1 x2 V L ls hl hf
  have hk10 : ∀ (x1 : Int32) (x2 : Int32) (V : zI) (L : zL) (ls : Array Slot), lv_has ls 8 [(0, .ref (ad p0)), (1, .int x1), (2, .int x2)] → zfix (b_X9_findWays_10 N G p0 p0_7 k2) nn (x1, x2, V, L) = some r' → RG M (zC D cy ad n K N G) V L 10 ls [] := ih
  have hf : b_X9_findWays_10 N G p0 p0_7 k2 (zfix (b_X9_findWays_10 N G p0 p0_7 k2) nn) (x1, x2, V, L) = some r' := hf
  generalize zfix (b_X9_findWays_10 N G p0 p0_7 k2) nn = k10 at hk10 hf
  clear ih
  unfold b_X9_findWays_10 at hf
  refine z_iload_n X.1 dX9_findWays_10 rfl (lv_at hl 2 rfl) ?_
  refine z_bipush (v := 36) X.1 dX9_findWays_11 (by decide) ?_
  refine z_icmp_ge (tgt := 122) X.1 dX9_findWays_13 (by decide) (fun c_ => ?_) (fun c_ => ?_)
  · have hf := (if_pos c_).symm.trans hf
    refine z_iinc (v := x1 + 1) (k0 := 1) (lv' := [(1, .int (x1 + 1)), (0, .ref (ad p0)), (2, .int x2)]) X.1 dX9_findWays_122 hl rfl rfl (by decide) rfl (fun ls hl => ?_)
    refine z_goto (tgt := 2) X.1 dX9_findWays_125 (by decide) ?_
    exact hk2 (x1 + 1) V L ls (lv_sub hl [1, 0] rfl) hf
  · have hf := (if_neg c_).symm.trans hf
    refine z_iload_n X.1 dX9_findWays_16 rfl (lv_at hl 2 rfl) ?_
    refine z_bipush (v := 6) X.1 dX9_findWays_17 (by decide) ?_
    refine z_idiv X.1 dX9_findWays_19 (by decide) ?_
    refine z_istore_n (lv' := [(3, .int (x2 / 6)), (0, .ref (ad p0)), (1, .int x1), (2, .int x2)]) X.1 dX9_findWays_20 rfl hl (by decide) rfl (fun ls hl => ?_)
    refine z_iload_n X.1 dX9_findWays_21 rfl (lv_at hl 3 rfl) ?_
    refine z_bipush (v := 6) X.1 dX9_findWays_22 (by decide) ?_
    refine z_irem X.1 dX9_findWays_24 (by decide) ?_
    refine z_istore (lv' := [(4, .int (x2 - x2 / 6 * 6)), (3, .int (x2 / 6)), (0, .ref (ad p0)), (1, .int x1), (2, .int x2)]) X.1 dX9_findWays_25 hl (by decide) rfl (fun ls hl => ?_)
    refine z_aload_n X.1 dX9_findWays_27 rfl (lv_at hl 2 rfl) ?_
    refine c_geta X hp0 cf_X9_34 ep0_7 dX9_findWays_28 ?_
    refine z_iload_n X.1 dX9_findWays_31 rfl (lv_at hl 1 rfl) ?_
    refine z_bipush (v := 6) X.1 dX9_findWays_32 (by decide) ?_
    refine z_imul X.1 dX9_findWays_34 ?_
    refine z_iload_n X.1 dX9_findWays_35 rfl (lv_at hl 3 rfl) ?_
    refine z_iadd X.1 dX9_findWays_36 ?_
    obtain ⟨hb1, hf⟩ := z_ite hf
    refine c_iald X hp0_7 hb1 dX9_findWays_37 ?_
    refine z_istore (lv' := [(5, .int (V p0_7 (((x2 / 6) * 6) + x1).toNatClampNeg)), (4, .int (x2 - x2 / 6 * 6)), (3, .int (x2 / 6)), (0, .ref (ad p0)), (1, .int x1), (2, .int x2)]) X.1 dX9_findWays_38 hl (by decide) rfl (fun ls hl => ?_)
    refine z_aload_n X.1 dX9_findWays_40 rfl (lv_at hl 3 rfl) ?_
    refine c_geta X hp0 cf_X9_34 ep0_7 dX9_findWays_41 ?_
    refine z_iload_n X.1 dX9_findWays_44 rfl (lv_at hl 4 rfl) ?_
    refine z_bipush (v := 6) X.1 dX9_findWays_45 (by decide) ?_
    refine z_imul X.1 dX9_findWays_47 ?_
    refine z_iload X.1 dX9_findWays_48 (lv_at hl 1 rfl) ?_
    refine z_iadd X.1 dX9_findWays_50 ?_
    obtain ⟨hb2, hf⟩ := z_ite hf
    refine c_iald X hp0_7 hb2 dX9_findWays_51 ?_
    refine z_istore (lv' := [(6, .int (V p0_7 ((x1 * 6) + (x2 - x2 / 6 * 6)).toNatClampNeg)), (5, .int (V p0_7 (((x2 / 6) * 6) + x1).toNatClampNeg)), (4, .int (x2 - x2 / 6 * 6)), (3, .int (x2 / 6)), (0, .ref (ad p0)), (1, .int x1), (2, .int x2)]) X.1 dX9_findWays_52 hl (by decide) rfl (fun ls hl => ?_)
    refine z_iload_n X.1 dX9_findWays_54 rfl (lv_at hl 3 rfl) ?_
    refine z_iload X.1 dX9_findWays_55 (lv_at hl 2 rfl) ?_
    refine z_icmp_eq (tgt := 74) X.1 dX9_findWays_57 (by decide) (fun c_ => ?_) (fun c_ => ?_)
    · have hf := (if_pos c_).symm.trans hf
      exact w_X9_findWays_74 X Z hp0 hp0_7 ep0_7 hk2 hk10 x1 x2 (V p0_7 (((x2 / 6) * 6) + x1).toNatClampNeg) (V p0_7 ((x1 * 6) + (x2 - x2 / 6 * 6)).toNatClampNeg) V L ls (lv_sub hl [4, 5, 6, 1, 0] rfl) hf
    · have hf := (if_neg c_).symm.trans hf
      refine z_iload X.1 dX9_findWays_60 (lv_at hl 1 rfl) ?_
      refine z_if_le (tgt := 74) X.1 dX9_findWays_62 (by decide) (fun c_ => ?_) (fun c_ => ?_)
      · have hf := (if_pos c_).symm.trans hf
        exact w_X9_findWays_74 X Z hp0 hp0_7 ep0_7 hk2 hk10 x1 x2 (V p0_7 (((x2 / 6) * 6) + x1).toNatClampNeg) (V p0_7 ((x1 * 6) + (x2 - x2 / 6 * 6)).toNatClampNeg) V L ls (lv_sub hl [4, 5, 6, 1, 0] rfl) hf
      · have hf := (if_neg c_).symm.trans hf
        refine z_iload X.1 dX9_findWays_65 (lv_at hl 0 rfl) ?_
        refine z_if_le (tgt := 74) X.1 dX9_findWays_67 (by decide) (fun c_ => ?_) (fun c_ => ?_)
        · have hf := (if_pos c_).symm.trans hf
          exact w_X9_findWays_74 X Z hp0 hp0_7 ep0_7 hk2 hk10 x1 x2 (V p0_7 (((x2 / 6) * 6) + x1).toNatClampNeg) (V p0_7 ((x1 * 6) + (x2 - x2 / 6 * 6)).toNatClampNeg) V L ls (lv_sub hl [4, 5, 6, 1, 0] rfl) hf
        · have hf := (if_neg c_).symm.trans hf
          refine z_iconst (v := 1) X.1 dX9_findWays_70 (by decide) ?_
          refine z_goto (tgt := 75) X.1 dX9_findWays_71 (by decide) ?_
          exact w_X9_findWays_75 X Z hp0 hp0_7 ep0_7 hk2 hk10 x1 x2 (V p0_7 (((x2 / 6) * 6) + x1).toNatClampNeg) (V p0_7 ((x1 * 6) + (x2 - x2 / 6 * 6)).toNatClampNeg) 1 V L ls (lv_sub hl [4, 5, 6, 1, 0] rfl) hf

set_option maxHeartbeats 4000000 in
set_option maxRecDepth 100000 in
theorem w_X9_findWays_2 {M : zM} {D : va_G} {cy : Nat → ClassId} {ad : Nat → Nat} {n : Nat} {K N : Nat → Nat} {G : zG} {r' : zI × zL} (X : RXc M D cy ad n K N G cX9_findWays 8 RX9 0 0) (Z : RZv M (zC D cy ad n K N G) r'.1 r'.2) {p0 : Nat} (hp0 : p0 < n ∧ K p0 = 7) {p0_7 : Nat} (hp0_7 : p0_7 < n ∧ K p0_7 = 100) (ep0_7 : G p0 7 = some p0_7) (nn : Nat) : ∀ (x1 : Int32) (V : zI) (L : zL) (ls : Array Slot) (hl : lv_has ls 8 [(0, .ref (ad p0)), (1, .int x1)]) (hf : zfix (b_X9_findWays_2 N G p0 p0_7) nn (x1, V, L) = some r'), RG M (zC D cy ad n K N G) V L 2 ls [] := by
  induction nn with
  | zero => intro x1 V L ls hl hf; cases hf
  | succ nn ih =>
  intro x1 V L ls hl hf
  have hk2 : ∀ (x1 : Int32) (V : zI) (L : zL) (ls : Array Slot), lv_has ls 8 [(0, .ref (ad p0)), (1, .int x1)] → zfix (b_X9_findWays_2 N G p0 p0_7) nn (x1, V, L) = some r' → RG M (zC D cy ad n K N G) V L 2 ls [] := ih
  have hf : b_X9_findWays_2 N G p0 p0_7 (zfix (b_X9_findWays_2 N G p0 p0_7) nn) (x1, V, L) = some r' := hf
  generalize zfix (b_X9_findWays_2 N G p0 p0_7) nn = k2 at hk2 hf
  clear ih
  unfold b_X9_findWays_2 at hf
  refine z_iload_n X.1 dX9_findWays_2 rfl (lv_at hl 1 rfl) ?_
  refine z_bipush (v := 6) X.1 dX9_findWays_3 (by decide) ?_
  refine z_icmp_ge (tgt := 128) X.1 dX9_findWays_5 (by decide) (fun c_ => ?_) (fun c_ => ?_)
  · have hf := (if_pos c_).symm.trans hf
    exact c_vret X Z hf dX9_findWays_128
  · have hf := (if_neg c_).symm.trans hf
    refine z_iconst (v := 0) X.1 dX9_findWays_8 (by decide) ?_
    refine z_istore_n (lv' := [(2, .int 0), (0, .ref (ad p0)), (1, .int x1)]) X.1 dX9_findWays_9 rfl hl (by decide) rfl (fun ls hl => ?_)
    exact w_X9_findWays_10 X Z hp0 hp0_7 ep0_7 hk2 FU x1 0 V L ls (lv_sub hl [1, 2, 0] rfl) hf

set_option maxHeartbeats 4000000 in
set_option maxRecDepth 100000 in
theorem w_X9_findWays {M : zM} {D : va_G} {cy : Nat → ClassId} {ad : Nat → Nat} {n : Nat} {K N : Nat → Nat} {G : zG} {r' : zI × zL} (X : RXc M D cy ad n K N G cX9_findWays 8 RX9 0 0) (Z : RZv M (zC D cy ad n K N G) r'.1 r'.2) {p0 : Nat} (hp0 : p0 < n ∧ K p0 = 7) {p0_7 : Nat} (hp0_7 : p0_7 < n ∧ K p0_7 = 100) (ep0_7 : G p0 7 = some p0_7)  (V : zI) (L : zL) (ls : Array Slot) (hl : lv_has ls 8 [(0, .ref (ad p0))]) (hf : g_X9_findWays N G p0 p0_7 V L = some r') : RG M (zC D cy ad n K N G) V L 0 ls [] := by
  unfold g_X9_findWays at hf
  refine z_iconst (v := 0) X.1 dX9_findWays_0 (by decide) ?_
  refine z_istore_n (lv' := [(1, .int 0), (0, .ref (ad p0))]) X.1 dX9_findWays_1 rfl hl (by decide) rfl (fun ls hl => ?_)
  exact w_X9_findWays_2 X Z hp0 hp0_7 ep0_7 FU 0 V L ls (lv_sub hl [1, 0] rfl) hf

theorem c_X9_findWays (D : va_G) (cy : Nat → ClassId) (ad : Nat → Nat) {n : Nat} {K N : Nat → Nat} {G : zG} (hWF : zWF n K G) {p0 : Nat} {V : zI} {L : zL} (hp0 : p0 < n ∧ K p0 = 7) {r' : zI × zL} (hf : f_X9_findWays N G p0 V L = some r') : RCv (zC D cy ad n K N G) yX9_findWays cX9_findWays 8 0 0 [.ref (ad p0)] V L r'.1 r'.2 := by
  unfold f_X9_findWays at hf
  obtain ⟨p0_7, ep0_7, hf⟩ := z_bind hf
  have hp0_7 := hWF.get hp0 (k := 7) (c := 100) rfl ep0_7
  exact RCv.of (by decide) hWF (Nat.le_of_ble_eq_true rfl) (fun M X Z ls hl => w_X9_findWays X Z hp0 hp0_7 ep0_7 V L ls hl hf)
def f_X7_begin_41 (N : Nat → Nat) (G : zG) (p0 : Nat) (p1 : Nat) (p0_1 : Nat) (p0_2 : Nat) (p0_3 : Nat) (k17 : Int32 × zI × zL → Option (zI × zL)) (x2 : Int32) (s1 : Int32) (s2 : Int32) (V : zI) (L : zL) : Option (zI × zL) :=
  if inB s1 (N p0_1) then if inB x2 (N p0_2) then if inB x2 (N p0_3) then k17 ((x2 + 1), z_uI (z_uI (z_uI V p0_1 s1.toNatClampNeg s2) p0_2 x2.toNatClampNeg 0) p0_3 x2.toNatClampNeg 0, L) else none else none else none
def b_X7_begin_17 (N : Nat → Nat) (G : zG) (p0 : Nat) (p1 : Nat) (p0_1 : Nat) (p0_2 : Nat) (p0_3 : Nat) (k17 : Int32 × zI × zL → Option (zI × zL)) : Int32 × zI × zL → Option (zI × zL) := fun ⟨x2, V, L⟩ =>
  (if 36 ≤ x2 then some (V, L) else (if (Int32.ofNat (N p1)) ≤ x2 then f_X7_begin_41 N G p0 p1 p0_1 p0_2 p0_3 k17 x2 x2 0 V L else if inB x2 (N p1) then f_X7_begin_41 N G p0 p1 p0_1 p0_2 p0_3 k17 x2 x2 (V p1 x2.toNatClampNeg) V L else none))
def g_X7_begin (N : Nat → Nat) (G : zG) (p0 : Nat) (p1 : Nat) (p0_1 : Nat) (p0_2 : Nat) (p0_3 : Nat) (V : zI) (L : zL) : Option (zI × zL) :=
  zfix (b_X7_begin_17 N G p0 p1 p0_1 p0_2 p0_3) FU (0, z_uI (z_uI (z_uI V p0 0 0) p0 4 0) p0 7 0, L)
def f_X7_begin (N : Nat → Nat) (G : zG) (p0 : Nat) (p1 : Nat) (V : zI) (L : zL) : Option (zI × zL) :=
  (G p0 1).bind fun p0_1 => (G p0 2).bind fun p0_2 => (G p0 3).bind fun p0_3 => g_X7_begin N G p0 p1 p0_1 p0_2 p0_3 V L
set_option maxHeartbeats 4000000 in
set_option maxRecDepth 100000 in
theorem w_X7_begin_41 {M : zM} {D : va_G} {cy : Nat → ClassId} {ad : Nat → Nat} {n : Nat} {K N : Nat → Nat} {G : zG} {r' : zI × zL} (X : RXc M D cy ad n K N G cX7_begin 3 RX7 0 0) (Z : RZv M (zC D cy ad n K N G) r'.1 r'.2) {p0 : Nat} (hp0 : p0 < n ∧ K p0 = 5) {p1 : Nat} (hp1 : p1 < n ∧ K p1 = 100) {p0_1 : Nat} (hp0_1 : p0_1 < n ∧ K p0_1 = 100) (ep0_1 : G p0 1 = some p0_1) {p0_2 : Nat} (hp0_2 : p0_2 < n ∧ K p0_2 = 100) (ep0_2 : G p0 2 = some p0_2) {p0_3 : Nat} (hp0_3 : p0_3 < n ∧ K p0_3 = 100) (ep0_3 : G p0 3 = some p0_3) {k17 : Int32 × zI × zL → Option (zI × zL)} (hk17 : ∀ (x2 : Int32) (V : zI) (L : zL) (ls : Array Slot), lv_has ls 3 [(0, .ref (ad p0)), (1, .ref (ad p1)), (2, .int x2)] → k17 (x2, V, L) = some r' → RG M (zC D cy ad n K N G) V L 17 ls []) (x2 : Int32) (s1 : Int32) (s2 : Int32) (V : zI) (L : zL) (ls : Array Slot) (hl : lv_has ls 3 [(0, .ref (ad p0)), (1, .ref (ad p1)), (2, .int x2)]) (hf : f_X7_begin_41 N G p0 p1 p0_1 p0_2 p0_3 k17 x2 s1 s2 V L = some r') : RG M (zC D cy ad n K N G) V L 41 ls [.int s2, .int s1, .ref (ad p0_1)] := by
  unfold f_X7_begin_41 at hf
  obtain ⟨hb1, hf⟩ := z_ite hf
  refine c_iast X hp0_1 hb1 dX7_begin_41 ?_
  refine z_aload_n X.1 dX7_begin_42 rfl (lv_at hl 0 rfl) ?_
  refine c_geta X hp0 cf_X7_19 ep0_2 dX7_begin_43 ?_
  refine z_iload_n X.1 dX7_begin_46 rfl (lv_at hl 2 rfl) ?_
  refine z_iconst (v := 0) X.1 dX7_begin_47 (by decide) ?_
  obtain ⟨hb2, hf⟩ := z_ite hf
  refine c_iast X hp0_2 hb2 dX7_begin_48 ?_
  refine z_aload_n X.1 dX7_begin_49 rfl (lv_at hl 0 rfl) ?_
  refine c_geta X hp0 cf_X7_22 ep0_3 dX7_begin_50 ?_
  refine z_iload_n X.1 dX7_begin_53 rfl (lv_at hl 2 rfl) ?_
  refine z_iconst (v := 0) X.1 dX7_begin_54 (by decide) ?_
  obtain ⟨hb3, hf⟩ := z_ite hf
  refine c_iast X hp0_3 hb3 dX7_begin_55 ?_
  refine z_iinc (v := x2 + 1) (k0 := 2) (lv' := [(2, .int (x2 + 1)), (0, .ref (ad p0)), (1, .ref (ad p1))]) X.1 dX7_begin_56 hl rfl rfl (by decide) rfl (fun ls hl => ?_)
  refine z_goto (tgt := 17) X.1 dX7_begin_59 (by decide) ?_
  exact hk17 (x2 + 1) (z_uI (z_uI (z_uI V p0_1 s1.toNatClampNeg s2) p0_2 x2.toNatClampNeg 0) p0_3 x2.toNatClampNeg 0) L ls (lv_sub hl [1, 2, 0] rfl) hf

set_option maxHeartbeats 4000000 in
set_option maxRecDepth 100000 in
theorem w_X7_begin_17 {M : zM} {D : va_G} {cy : Nat → ClassId} {ad : Nat → Nat} {n : Nat} {K N : Nat → Nat} {G : zG} {r' : zI × zL} (X : RXc M D cy ad n K N G cX7_begin 3 RX7 0 0) (Z : RZv M (zC D cy ad n K N G) r'.1 r'.2) {p0 : Nat} (hp0 : p0 < n ∧ K p0 = 5) {p1 : Nat} (hp1 : p1 < n ∧ K p1 = 100) {p0_1 : Nat} (hp0_1 : p0_1 < n ∧ K p0_1 = 100) (ep0_1 : G p0 1 = some p0_1) {p0_2 : Nat} (hp0_2 : p0_2 < n ∧ K p0_2 = 100) (ep0_2 : G p0 2 = some p0_2) {p0_3 : Nat} (hp0_3 : p0_3 < n ∧ K p0_3 = 100) (ep0_3 : G p0 3 = some p0_3) (nn : Nat) : ∀ (x2 : Int32) (V : zI) (L : zL) (ls : Array Slot) (hl : lv_has ls 3 [(0, .ref (ad p0)), (1, .ref (ad p1)), (2, .int x2)]) (hf : zfix (b_X7_begin_17 N G p0 p1 p0_1 p0_2 p0_3) nn (x2, V, L) = some r'), RG M (zC D cy ad n K N G) V L 17 ls [] := by
  induction nn with
  | zero => intro x2 V L ls hl hf; cases hf
  | succ nn ih =>
  intro x2 V L ls hl hf
  have hk17 : ∀ (x2 : Int32) (V : zI) (L : zL) (ls : Array Slot), lv_has ls 3 [(0, .ref (ad p0)), (1, .ref (ad p1)), (2, .int x2)] → zfix (b_X7_begin_17 N G p0 p1 p0_1 p0_2 p0_3) nn (x2, V, L) = some r' → RG M (zC D cy ad n K N G) V L 17 ls [] := ih
  have hf : b_X7_begin_17 N G p0 p1 p0_1 p0_2 p0_3 (zfix (b_X7_begin_17 N G p0 p1 p0_1 p0_2 p0_3) nn) (x2, V, L) = some r' := hf
  generalize zfix (b_X7_begin_17 N G p0 p1 p0_1 p0_2 p0_3) nn = k17 at hk17 hf
  clear ih
  unfold b_X7_begin_17 at hf
  refine z_iload_n X.1 dX7_begin_17 rfl (lv_at hl 2 rfl) ?_
  refine z_bipush (v := 36) X.1 dX7_begin_18 (by decide) ?_
  refine z_icmp_ge (tgt := 62) X.1 dX7_begin_20 (by decide) (fun c_ => ?_) (fun c_ => ?_)
  · have hf := (if_pos c_).symm.trans hf
    exact c_vret X Z hf dX7_begin_62
  · have hf := (if_neg c_).symm.trans hf
    refine z_aload_n X.1 dX7_begin_23 rfl (lv_at hl 0 rfl) ?_
    refine c_geta X hp0 cf_X7_15 ep0_1 dX7_begin_24 ?_
    refine z_iload_n X.1 dX7_begin_27 rfl (lv_at hl 2 rfl) ?_
    refine z_iload_n X.1 dX7_begin_28 rfl (lv_at hl 2 rfl) ?_
    refine z_aload_n X.1 dX7_begin_29 rfl (lv_at hl 1 rfl) ?_
    refine c_alen100 X hp1 dX7_begin_30 ?_
    refine z_icmp_ge (tgt := 40) X.1 dX7_begin_31 (by decide) (fun c_ => ?_) (fun c_ => ?_)
    · have hf := (if_pos c_).symm.trans hf
      refine z_iconst (v := 0) X.1 dX7_begin_40 (by decide) ?_
      exact w_X7_begin_41 X Z hp0 hp1 hp0_1 ep0_1 hp0_2 ep0_2 hp0_3 ep0_3 hk17 x2 x2 0 V L ls (lv_sub hl [0, 1, 2] rfl) hf
    · have hf := (if_neg c_).symm.trans hf
      refine z_aload_n X.1 dX7_begin_34 rfl (lv_at hl 1 rfl) ?_
      refine z_iload_n X.1 dX7_begin_35 rfl (lv_at hl 2 rfl) ?_
      obtain ⟨hb1, hf⟩ := z_ite hf
      refine c_iald X hp1 hb1 dX7_begin_36 ?_
      refine z_goto (tgt := 41) X.1 dX7_begin_37 (by decide) ?_
      exact w_X7_begin_41 X Z hp0 hp1 hp0_1 ep0_1 hp0_2 ep0_2 hp0_3 ep0_3 hk17 x2 x2 (V p1 x2.toNatClampNeg) V L ls (lv_sub hl [0, 1, 2] rfl) hf

set_option maxHeartbeats 4000000 in
set_option maxRecDepth 100000 in
theorem w_X7_begin {M : zM} {D : va_G} {cy : Nat → ClassId} {ad : Nat → Nat} {n : Nat} {K N : Nat → Nat} {G : zG} {r' : zI × zL} (X : RXc M D cy ad n K N G cX7_begin 3 RX7 0 0) (Z : RZv M (zC D cy ad n K N G) r'.1 r'.2) {p0 : Nat} (hp0 : p0 < n ∧ K p0 = 5) {p1 : Nat} (hp1 : p1 < n ∧ K p1 = 100) {p0_1 : Nat} (hp0_1 : p0_1 < n ∧ K p0_1 = 100) (ep0_1 : G p0 1 = some p0_1) {p0_2 : Nat} (hp0_2 : p0_2 < n ∧ K p0_2 = 100) (ep0_2 : G p0 2 = some p0_2) {p0_3 : Nat} (hp0_3 : p0_3 < n ∧ K p0_3 = 100) (ep0_3 : G p0 3 = some p0_3)  (V : zI) (L : zL) (ls : Array Slot) (hl : lv_has ls 3 [(0, .ref (ad p0)), (1, .ref (ad p1))]) (hf : g_X7_begin N G p0 p1 p0_1 p0_2 p0_3 V L = some r') : RG M (zC D cy ad n K N G) V L 0 ls [] := by
  unfold g_X7_begin at hf
  refine z_aload_n X.1 dX7_begin_0 rfl (lv_at hl 0 rfl) ?_
  refine z_iconst (v := 0) X.1 dX7_begin_1 (by decide) ?_
  refine c_puti X hp0 cf_X7_9 cg_X7 cp_X7_0 rfl rfl dX7_begin_2 ?_
  refine z_aload_n X.1 dX7_begin_5 rfl (lv_at hl 0 rfl) ?_
  refine z_iconst (v := 0) X.1 dX7_begin_6 (by decide) ?_
  refine c_puti X hp0 cf_X7_25 cg_X7 cp_X7_4 rfl rfl dX7_begin_7 ?_
  refine z_aload_n X.1 dX7_begin_10 rfl (lv_at hl 0 rfl) ?_
  refine z_iconst (v := 0) X.1 dX7_begin_11 (by decide) ?_
  refine c_puti X hp0 cf_X7_34 cg_X7 cp_X7_7 rfl rfl dX7_begin_12 ?_
  refine z_iconst (v := 0) X.1 dX7_begin_15 (by decide) ?_
  refine z_istore_n (lv' := [(2, .int 0), (0, .ref (ad p0)), (1, .ref (ad p1))]) X.1 dX7_begin_16 rfl hl (by decide) rfl (fun ls hl => ?_)
  exact w_X7_begin_17 X Z hp0 hp1 hp0_1 ep0_1 hp0_2 ep0_2 hp0_3 ep0_3 FU 0 (z_uI (z_uI (z_uI V p0 0 0) p0 4 0) p0 7 0) L ls (lv_sub hl [1, 2, 0] rfl) hf

theorem c_X7_begin (D : va_G) (cy : Nat → ClassId) (ad : Nat → Nat) {n : Nat} {K N : Nat → Nat} {G : zG} (hWF : zWF n K G) {p0 : Nat} {p1 : Nat} {V : zI} {L : zL} (hp0 : p0 < n ∧ K p0 = 5) (hp1 : p1 < n ∧ K p1 = 100) {r' : zI × zL} (hf : f_X7_begin N G p0 p1 V L = some r') : RCv (zC D cy ad n K N G) yX7_begin cX7_begin 3 0 0 [.ref (ad p0), .ref (ad p1)] V L r'.1 r'.2 := by
  unfold f_X7_begin at hf
  obtain ⟨p0_1, ep0_1, hf⟩ := z_bind hf
  have hp0_1 := hWF.get hp0 (k := 1) (c := 100) rfl ep0_1
  obtain ⟨p0_2, ep0_2, hf⟩ := z_bind hf
  have hp0_2 := hWF.get hp0 (k := 2) (c := 100) rfl ep0_2
  obtain ⟨p0_3, ep0_3, hf⟩ := z_bind hf
  have hp0_3 := hWF.get hp0 (k := 3) (c := 100) rfl ep0_3
  exact RCv.of (by decide) hWF (Nat.le_of_ble_eq_true rfl) (fun M X Z ls hl => w_X7_begin X Z hp0 hp1 hp0_1 ep0_1 hp0_2 ep0_2 hp0_3 ep0_3 V L ls hl hf)
def g_X10_fault (N : Nat → Nat) (G : zG) (p0 : Nat) (V : zI) (L : zL) (x1 : Int32) : Option (Int32) :=
  (if x1 = 0 then some (V p0 3) else (if x1 = 1 then some (V p0 4) else some (-1)))
def f_X10_fault (N : Nat → Nat) (G : zG) (p0 : Nat) (x1 : Int32) (V : zI) (L : zL) : Option (Int32) :=
  g_X10_fault N G p0 V L x1
set_option maxHeartbeats 4000000 in
set_option maxRecDepth 100000 in
theorem w_X10_fault {M : zM} {D : va_G} {cy : Nat → ClassId} {ad : Nat → Nat} {n : Nat} {K N : Nat → Nat} {G : zG} {V : zI} {L : zL} {r' : Int32} (X : RXc M D cy ad n K N G cX10_fault 2 RX10 0 0) (Z : RZi M (zC D cy ad n K N G) .int r' V L) {p0 : Nat} (hp0 : p0 < n ∧ K p0 = 8) (x1 : Int32) (ls : Array Slot) (hl : lv_has ls 2 [(0, .ref (ad p0)), (1, .int x1)]) (hf : g_X10_fault N G p0 V L x1 = some r') : RG M (zC D cy ad n K N G) V L 0 ls [] := by
  unfold g_X10_fault at hf
  refine z_iload_n X.1 dX10_fault_0 rfl (lv_at hl 1 rfl) ?_
  refine z_if_ne (tgt := 9) X.1 dX10_fault_1 (by decide) (fun c_ => ?_) (fun c_ => ?_)
  · have hf := (if_neg c_).symm.trans hf
    refine z_iload_n X.1 dX10_fault_9 rfl (lv_at hl 1 rfl) ?_
    refine z_iconst (v := 1) X.1 dX10_fault_10 (by decide) ?_
    refine z_icmp_ne (tgt := 21) X.1 dX10_fault_11 (by decide) (fun c_ => ?_) (fun c_ => ?_)
    · have hf := (if_neg c_).symm.trans hf
      refine z_iconst (v := -1) X.1 dX10_fault_21 (by decide) ?_
      exact c_iretS X Z hf rfl dX10_fault_22
    · have hf := (if_pos c_).symm.trans hf
      refine z_aload_n X.1 dX10_fault_14 rfl (lv_at hl 0 rfl) ?_
      refine c_geti X hp0 cf_X10_27 dX10_fault_15 ?_
      refine z_goto (tgt := 22) X.1 dX10_fault_18 (by decide) ?_
      exact c_iretS X Z hf rfl dX10_fault_22
  · have hf := (if_pos c_).symm.trans hf
    refine z_aload_n X.1 dX10_fault_4 rfl (lv_at hl 0 rfl) ?_
    refine c_geti X hp0 cf_X10_24 dX10_fault_5 ?_
    exact c_iretS X Z hf rfl dX10_fault_8

theorem c_X10_fault (D : va_G) (cy : Nat → ClassId) (ad : Nat → Nat) {n : Nat} {K N : Nat → Nat} {G : zG} (hWF : zWF n K G) {p0 : Nat} {x1 : Int32} {V : zI} {L : zL} (hp0 : p0 < n ∧ K p0 = 8) {r' : Int32} (hf : f_X10_fault N G p0 x1 V L = some r') : RCi (zC D cy ad n K N G) yX10_fault cX10_fault 2 .int 0 0 [.ref (ad p0), .int x1] V L r' V L := by
  unfold f_X10_fault at hf
  exact RCi.of (by decide) hWF (Nat.le_of_ble_eq_true rfl) (fun M X Z ls hl => w_X10_fault X Z hp0 x1 ls hl hf)
def b_X10_sumOf_4 (N : Nat → Nat) (G : zG) (p0 : Nat) (V : zI) (L : zL) (k4 : Int32 × Int32 → Option (Int32)) : Int32 × Int32 → Option (Int32) := fun ⟨x1, x2⟩ =>
  (if (Int32.ofNat (N p0)) ≤ x2 then some x1 else if inB x2 (N p0) then k4 ((x1 + (V p0 x2.toNatClampNeg)), (x2 + 1)) else none)
def g_X10_sumOf (N : Nat → Nat) (G : zG) (p0 : Nat) (V : zI) (L : zL) : Option (Int32) :=
  zfix (b_X10_sumOf_4 N G p0 V L) FU (0, 0)
def f_X10_sumOf (N : Nat → Nat) (G : zG) (p0 : Nat) (V : zI) (L : zL) : Option (Int32) :=
  g_X10_sumOf N G p0 V L
set_option maxHeartbeats 4000000 in
set_option maxRecDepth 100000 in
theorem w_X10_sumOf_4 {M : zM} {D : va_G} {cy : Nat → ClassId} {ad : Nat → Nat} {n : Nat} {K N : Nat → Nat} {G : zG} {V : zI} {L : zL} {r' : Int32} (X : RXc M D cy ad n K N G cX10_sumOf 3 RX10 0 0) (Z : RZi M (zC D cy ad n K N G) .int r' V L) {p0 : Nat} (hp0 : p0 < n ∧ K p0 = 100) (nn : Nat) : ∀ (x1 : Int32) (x2 : Int32) (ls : Array Slot) (hl : lv_has ls 3 [(0, .ref (ad p0)), (1, .int x1), (2, .int x2)]) (hf : zfix (b_X10_sumOf_4 N G p0 V L) nn (x1, x2) = some r'), RG M (zC D cy ad n K N G) V L 4 ls [] := by
  induction nn with
  | zero => intro x1 x2 ls hl hf; cases hf
  | succ nn ih =>
  intro x1 x2 ls hl hf
  have hk4 : ∀ (x1 : Int32) (x2 : Int32) (ls : Array Slot), lv_has ls 3 [(0, .ref (ad p0)), (1, .int x1), (2, .int x2)] → zfix (b_X10_sumOf_4 N G p0 V L) nn (x1, x2) = some r' → RG M (zC D cy ad n K N G) V L 4 ls [] := ih
  have hf : b_X10_sumOf_4 N G p0 V L (zfix (b_X10_sumOf_4 N G p0 V L) nn) (x1, x2) = some r' := hf
  generalize zfix (b_X10_sumOf_4 N G p0 V L) nn = k4 at hk4 hf
  clear ih
  unfold b_X10_sumOf_4 at hf
  refine z_iload_n X.1 dX10_sumOf_4 rfl (lv_at hl 2 rfl) ?_
  refine z_aload_n X.1 dX10_sumOf_5 rfl (lv_at hl 0 rfl) ?_
  refine c_alen100 X hp0 dX10_sumOf_6 ?_
  refine z_icmp_ge (tgt := 22) X.1 dX10_sumOf_7 (by decide) (fun c_ => ?_) (fun c_ => ?_)
  · have hf := (if_pos c_).symm.trans hf
    refine z_iload_n X.1 dX10_sumOf_22 rfl (lv_at hl 1 rfl) ?_
    exact c_iretS X Z hf rfl dX10_sumOf_23
  · have hf := (if_neg c_).symm.trans hf
    refine z_iload_n X.1 dX10_sumOf_10 rfl (lv_at hl 1 rfl) ?_
    refine z_aload_n X.1 dX10_sumOf_11 rfl (lv_at hl 0 rfl) ?_
    refine z_iload_n X.1 dX10_sumOf_12 rfl (lv_at hl 2 rfl) ?_
    obtain ⟨hb1, hf⟩ := z_ite hf
    refine c_iald X hp0 hb1 dX10_sumOf_13 ?_
    refine z_iadd X.1 dX10_sumOf_14 ?_
    refine z_istore_n (lv' := [(1, .int (x1 + (V p0 x2.toNatClampNeg))), (0, .ref (ad p0)), (2, .int x2)]) X.1 dX10_sumOf_15 rfl hl (by decide) rfl (fun ls hl => ?_)
    refine z_iinc (v := x2 + 1) (k0 := 2) (lv' := [(2, .int (x2 + 1)), (1, .int (x1 + (V p0 x2.toNatClampNeg))), (0, .ref (ad p0))]) X.1 dX10_sumOf_16 hl rfl rfl (by decide) rfl (fun ls hl => ?_)
    refine z_goto (tgt := 4) X.1 dX10_sumOf_19 (by decide) ?_
    exact hk4 (x1 + (V p0 x2.toNatClampNeg)) (x2 + 1) ls (lv_sub hl [2, 1, 0] rfl) hf

set_option maxHeartbeats 4000000 in
set_option maxRecDepth 100000 in
theorem w_X10_sumOf {M : zM} {D : va_G} {cy : Nat → ClassId} {ad : Nat → Nat} {n : Nat} {K N : Nat → Nat} {G : zG} {V : zI} {L : zL} {r' : Int32} (X : RXc M D cy ad n K N G cX10_sumOf 3 RX10 0 0) (Z : RZi M (zC D cy ad n K N G) .int r' V L) {p0 : Nat} (hp0 : p0 < n ∧ K p0 = 100)  (ls : Array Slot) (hl : lv_has ls 3 [(0, .ref (ad p0))]) (hf : g_X10_sumOf N G p0 V L = some r') : RG M (zC D cy ad n K N G) V L 0 ls [] := by
  unfold g_X10_sumOf at hf
  refine z_iconst (v := 0) X.1 dX10_sumOf_0 (by decide) ?_
  refine z_istore_n (lv' := [(1, .int 0), (0, .ref (ad p0))]) X.1 dX10_sumOf_1 rfl hl (by decide) rfl (fun ls hl => ?_)
  refine z_iconst (v := 0) X.1 dX10_sumOf_2 (by decide) ?_
  refine z_istore_n (lv' := [(2, .int 0), (1, .int 0), (0, .ref (ad p0))]) X.1 dX10_sumOf_3 rfl hl (by decide) rfl (fun ls hl => ?_)
  exact w_X10_sumOf_4 X Z hp0 FU 0 0 ls (lv_sub hl [2, 1, 0] rfl) hf

theorem c_X10_sumOf (D : va_G) (cy : Nat → ClassId) (ad : Nat → Nat) {n : Nat} {K N : Nat → Nat} {G : zG} (hWF : zWF n K G) {p0 : Nat} {V : zI} {L : zL} (hp0 : p0 < n ∧ K p0 = 100) {r' : Int32} (hf : f_X10_sumOf N G p0 V L = some r') : RCi (zC D cy ad n K N G) yX10_sumOf cX10_sumOf 3 .int 0 0 [.ref (ad p0)] V L r' V L := by
  unfold f_X10_sumOf at hf
  exact RCi.of (by decide) hWF (Nat.le_of_ble_eq_true rfl) (fun M X Z ls hl => w_X10_sumOf X Z hp0 ls hl hf)
def g_X10_has (N : Nat → Nat) (G : zG) (p0 : Nat) (p0_2 : Nat) (p0_5 : Nat) (p0_8 : Nat) (p0_5_1 : Nat) (p0_5_2 : Nat) (p0_5_3 : Nat) (V : zI) (L : zL) (x1 : Int32) : Option (Int32) :=
  (if x1 = 0 then some (V p0_2 0) else (if x1 = 1 then some (V p0_2 1) else (if x1 = 2 then some (V p0_5 0) else (if x1 = 3 then (f_X10_sumOf N G p0_5_1 V L).bind fun r1 => some r1 else (if x1 = 4 then some (V p0_5 4) else (if x1 = 5 then (f_X10_sumOf N G p0_5_2 V L).bind fun r2 => some r2 else (if x1 = 6 then (f_X10_sumOf N G p0_5_3 V L).bind fun r3 => some r3 else (if x1 = 7 then some (V p0_5 7) else (if x1 = 8 then some (V p0 13) else (if x1 = 9 then some (V p0 10) else (if x1 = 10 then some (V p0_8 0) else some (-1))))))))))))
def f_X10_has (N : Nat → Nat) (G : zG) (p0 : Nat) (x1 : Int32) (V : zI) (L : zL) : Option (Int32) :=
  (G p0 2).bind fun p0_2 => (G p0 5).bind fun p0_5 => (G p0 8).bind fun p0_8 => (G p0_5 1).bind fun p0_5_1 => (G p0_5 2).bind fun p0_5_2 => (G p0_5 3).bind fun p0_5_3 => g_X10_has N G p0 p0_2 p0_5 p0_8 p0_5_1 p0_5_2 p0_5_3 V L x1
set_option maxHeartbeats 4000000 in
set_option maxRecDepth 100000 in
theorem w_X10_has {M : zM} {D : va_G} {cy : Nat → ClassId} {ad : Nat → Nat} {n : Nat} {K N : Nat → Nat} {G : zG} {V : zI} {L : zL} {r' : Int32} (X : RXc M D cy ad n K N G cX10_has 2 RX10 1 22) (Z : RZi M (zC D cy ad n K N G) .int r' V L) {p0 : Nat} (hp0 : p0 < n ∧ K p0 = 8) {p0_2 : Nat} (hp0_2 : p0_2 < n ∧ K p0_2 = 7) (ep0_2 : G p0 2 = some p0_2) {p0_5 : Nat} (hp0_5 : p0_5 < n ∧ K p0_5 = 5) (ep0_5 : G p0 5 = some p0_5) {p0_8 : Nat} (hp0_8 : p0_8 < n ∧ K p0_8 = 1) (ep0_8 : G p0 8 = some p0_8) {p0_5_1 : Nat} (hp0_5_1 : p0_5_1 < n ∧ K p0_5_1 = 100) (ep0_5_1 : G p0_5 1 = some p0_5_1) {p0_5_2 : Nat} (hp0_5_2 : p0_5_2 < n ∧ K p0_5_2 = 100) (ep0_5_2 : G p0_5 2 = some p0_5_2) {p0_5_3 : Nat} (hp0_5_3 : p0_5_3 < n ∧ K p0_5_3 = 100) (ep0_5_3 : G p0_5 3 = some p0_5_3) (x1 : Int32) (ls : Array Slot) (hl : lv_has ls 2 [(0, .ref (ad p0)), (1, .int x1)]) (hf : g_X10_has N G p0 p0_2 p0_5 p0_8 p0_5_1 p0_5_2 p0_5_3 V L x1 = some r') : RG M (zC D cy ad n K N G) V L 0 ls [] := by
  unfold g_X10_has at hf
  refine z_iload_n X.1 dX10_has_0 rfl (lv_at hl 1 rfl) ?_
  by_cases c0_ : x1 = 0
  · have hf := (if_pos c0_).symm.trans hf
    refine z_tabIn (tgt := 60) (off := 59) X.1 dX10_has_1 (by rw [c0_]; decide) (by rw [c0_]; decide) (by rw [c0_]; rfl) (by decide) ?_
    refine z_aload_n X.1 dX10_has_60 rfl (lv_at hl 0 rfl) ?_
    refine c_geta X hp0 cf_X10_20 ep0_2 dX10_has_61 ?_
    refine c_geti X hp0_2 cf_X10_118 dX10_has_64 ?_
    exact c_iretS X Z hf rfl dX10_has_67
  have hf := (if_neg c0_).symm.trans hf
  have d0_ := lv_neT (a := 0) c0_ (by decide)
  by_cases c1_ : x1 = 1
  · have hf := (if_pos c1_).symm.trans hf
    refine z_tabIn (tgt := 68) (off := 67) X.1 dX10_has_1 (by rw [c1_]; decide) (by rw [c1_]; decide) (by rw [c1_]; rfl) (by decide) ?_
    refine z_aload_n X.1 dX10_has_68 rfl (lv_at hl 0 rfl) ?_
    refine c_geta X hp0 cf_X10_20 ep0_2 dX10_has_69 ?_
    refine c_geti X hp0_2 cf_X10_121 dX10_has_72 ?_
    exact c_iretS X Z hf rfl dX10_has_75
  have hf := (if_neg c1_).symm.trans hf
  have d1_ := lv_neT (a := 1) c1_ (by decide)
  by_cases c2_ : x1 = 2
  · have hf := (if_pos c2_).symm.trans hf
    refine z_tabIn (tgt := 76) (off := 75) X.1 dX10_has_1 (by rw [c2_]; decide) (by rw [c2_]; decide) (by rw [c2_]; rfl) (by decide) ?_
    refine z_aload_n X.1 dX10_has_76 rfl (lv_at hl 0 rfl) ?_
    refine c_geta X hp0 cf_X10_33 ep0_5 dX10_has_77 ?_
    refine c_geti X hp0_5 cf_X10_124 dX10_has_80 ?_
    exact c_iretS X Z hf rfl dX10_has_83
  have hf := (if_neg c2_).symm.trans hf
  have d2_ := lv_neT (a := 2) c2_ (by decide)
  by_cases c3_ : x1 = 3
  · have hf := (if_pos c3_).symm.trans hf
    refine z_tabIn (tgt := 84) (off := 83) X.1 dX10_has_1 (by rw [c3_]; decide) (by rw [c3_]; decide) (by rw [c3_]; rfl) (by decide) ?_
    refine z_aload_n X.1 dX10_has_84 rfl (lv_at hl 0 rfl) ?_
    refine c_geta X hp0 cf_X10_33 ep0_5 dX10_has_85 ?_
    refine c_geta X hp0_5 cf_X10_127 ep0_5_1 dX10_has_88 ?_
    obtain ⟨r1, hc1, hf⟩ := z_bind hf
    refine c_callSi [.ref (ad p0_5_1)] X hl.1 (c_X10_sumOf D cy ad X.2.2 hp0_5_1 hc1) cm_X10_130 cw_X10_sumOf rfl cq_X10_sumOf ⟨by decide, by decide⟩ (Nat.le_of_ble_eq_true rfl) rfl dX10_has_91 ?_
    exact c_iretS X Z hf rfl dX10_has_94
  have hf := (if_neg c3_).symm.trans hf
  have d3_ := lv_neT (a := 3) c3_ (by decide)
  by_cases c4_ : x1 = 4
  · have hf := (if_pos c4_).symm.trans hf
    refine z_tabIn (tgt := 95) (off := 94) X.1 dX10_has_1 (by rw [c4_]; decide) (by rw [c4_]; decide) (by rw [c4_]; rfl) (by decide) ?_
    refine z_aload_n X.1 dX10_has_95 rfl (lv_at hl 0 rfl) ?_
    refine c_geta X hp0 cf_X10_33 ep0_5 dX10_has_96 ?_
    refine c_geti X hp0_5 cf_X10_134 dX10_has_99 ?_
    exact c_iretS X Z hf rfl dX10_has_102
  have hf := (if_neg c4_).symm.trans hf
  have d4_ := lv_neT (a := 4) c4_ (by decide)
  by_cases c5_ : x1 = 5
  · have hf := (if_pos c5_).symm.trans hf
    refine z_tabIn (tgt := 103) (off := 102) X.1 dX10_has_1 (by rw [c5_]; decide) (by rw [c5_]; decide) (by rw [c5_]; rfl) (by decide) ?_
    refine z_aload_n X.1 dX10_has_103 rfl (lv_at hl 0 rfl) ?_
    refine c_geta X hp0 cf_X10_33 ep0_5 dX10_has_104 ?_
    refine c_geta X hp0_5 cf_X10_137 ep0_5_2 dX10_has_107 ?_
    obtain ⟨r2, hc2, hf⟩ := z_bind hf
    refine c_callSi [.ref (ad p0_5_2)] X hl.1 (c_X10_sumOf D cy ad X.2.2 hp0_5_2 hc2) cm_X10_130 cw_X10_sumOf rfl cq_X10_sumOf ⟨by decide, by decide⟩ (Nat.le_of_ble_eq_true rfl) rfl dX10_has_110 ?_
    exact c_iretS X Z hf rfl dX10_has_113
  have hf := (if_neg c5_).symm.trans hf
  have d5_ := lv_neT (a := 5) c5_ (by decide)
  by_cases c6_ : x1 = 6
  · have hf := (if_pos c6_).symm.trans hf
    refine z_tabIn (tgt := 114) (off := 113) X.1 dX10_has_1 (by rw [c6_]; decide) (by rw [c6_]; decide) (by rw [c6_]; rfl) (by decide) ?_
    refine z_aload_n X.1 dX10_has_114 rfl (lv_at hl 0 rfl) ?_
    refine c_geta X hp0 cf_X10_33 ep0_5 dX10_has_115 ?_
    refine c_geta X hp0_5 cf_X10_140 ep0_5_3 dX10_has_118 ?_
    obtain ⟨r3, hc3, hf⟩ := z_bind hf
    refine c_callSi [.ref (ad p0_5_3)] X hl.1 (c_X10_sumOf D cy ad X.2.2 hp0_5_3 hc3) cm_X10_130 cw_X10_sumOf rfl cq_X10_sumOf ⟨by decide, by decide⟩ (Nat.le_of_ble_eq_true rfl) rfl dX10_has_121 ?_
    exact c_iretS X Z hf rfl dX10_has_124
  have hf := (if_neg c6_).symm.trans hf
  have d6_ := lv_neT (a := 6) c6_ (by decide)
  by_cases c7_ : x1 = 7
  · have hf := (if_pos c7_).symm.trans hf
    refine z_tabIn (tgt := 125) (off := 124) X.1 dX10_has_1 (by rw [c7_]; decide) (by rw [c7_]; decide) (by rw [c7_]; rfl) (by decide) ?_
    refine z_aload_n X.1 dX10_has_125 rfl (lv_at hl 0 rfl) ?_
    refine c_geta X hp0 cf_X10_33 ep0_5 dX10_has_126 ?_
    refine c_geti X hp0_5 cf_X10_143 dX10_has_129 ?_
    exact c_iretS X Z hf rfl dX10_has_132
  have hf := (if_neg c7_).symm.trans hf
  have d7_ := lv_neT (a := 7) c7_ (by decide)
  by_cases c8_ : x1 = 8
  · have hf := (if_pos c8_).symm.trans hf
    refine z_tabIn (tgt := 133) (off := 132) X.1 dX10_has_1 (by rw [c8_]; decide) (by rw [c8_]; decide) (by rw [c8_]; rfl) (by decide) ?_
    refine z_aload_n X.1 dX10_has_133 rfl (lv_at hl 0 rfl) ?_
    refine c_geti X hp0 cf_X10_68 dX10_has_134 ?_
    exact c_iretS X Z hf rfl dX10_has_137
  have hf := (if_neg c8_).symm.trans hf
  have d8_ := lv_neT (a := 8) c8_ (by decide)
  by_cases c9_ : x1 = 9
  · have hf := (if_pos c9_).symm.trans hf
    refine z_tabIn (tgt := 138) (off := 137) X.1 dX10_has_1 (by rw [c9_]; decide) (by rw [c9_]; decide) (by rw [c9_]; rfl) (by decide) ?_
    refine z_aload_n X.1 dX10_has_138 rfl (lv_at hl 0 rfl) ?_
    refine c_geti X hp0 cf_X10_58 dX10_has_139 ?_
    exact c_iretS X Z hf rfl dX10_has_142
  have hf := (if_neg c9_).symm.trans hf
  have d9_ := lv_neT (a := 9) c9_ (by decide)
  by_cases c10_ : x1 = 10
  · have hf := (if_pos c10_).symm.trans hf
    refine z_tabIn (tgt := 143) (off := 142) X.1 dX10_has_1 (by rw [c10_]; decide) (by rw [c10_]; decide) (by rw [c10_]; rfl) (by decide) ?_
    refine z_aload_n X.1 dX10_has_143 rfl (lv_at hl 0 rfl) ?_
    refine c_geta X hp0 cf_X10_50 ep0_8 dX10_has_144 ?_
    refine c_geti X hp0_8 cf_X10_146 dX10_has_147 ?_
    exact c_iretS X Z hf rfl dX10_has_150
  have hf := (if_neg c10_).symm.trans hf
  have d10_ := lv_neT (a := 10) c10_ (by decide)
  refine z_tabOut (tgt := 151) X.1 dX10_has_1 (by omega) (by decide) ?_
  refine z_iconst (v := -1) X.1 dX10_has_151 (by decide) ?_
  exact c_iretS X Z hf rfl dX10_has_152

theorem c_X10_has (D : va_G) (cy : Nat → ClassId) (ad : Nat → Nat) {n : Nat} {K N : Nat → Nat} {G : zG} (hWF : zWF n K G) {p0 : Nat} {x1 : Int32} {V : zI} {L : zL} (hp0 : p0 < n ∧ K p0 = 8) {r' : Int32} (hf : f_X10_has N G p0 x1 V L = some r') : RCi (zC D cy ad n K N G) yX10_has cX10_has 2 .int 1 22 [.ref (ad p0), .int x1] V L r' V L := by
  unfold f_X10_has at hf
  obtain ⟨p0_2, ep0_2, hf⟩ := z_bind hf
  have hp0_2 := hWF.get hp0 (k := 2) (c := 7) rfl ep0_2
  obtain ⟨p0_5, ep0_5, hf⟩ := z_bind hf
  have hp0_5 := hWF.get hp0 (k := 5) (c := 5) rfl ep0_5
  obtain ⟨p0_8, ep0_8, hf⟩ := z_bind hf
  have hp0_8 := hWF.get hp0 (k := 8) (c := 1) rfl ep0_8
  obtain ⟨p0_5_1, ep0_5_1, hf⟩ := z_bind hf
  have hp0_5_1 := hWF.get hp0_5 (k := 1) (c := 100) rfl ep0_5_1
  obtain ⟨p0_5_2, ep0_5_2, hf⟩ := z_bind hf
  have hp0_5_2 := hWF.get hp0_5 (k := 2) (c := 100) rfl ep0_5_2
  obtain ⟨p0_5_3, ep0_5_3, hf⟩ := z_bind hf
  have hp0_5_3 := hWF.get hp0_5 (k := 3) (c := 100) rfl ep0_5_3
  exact RCi.of (by decide) hWF (Nat.le_of_ble_eq_true rfl) (fun M X Z ls hl => w_X10_has X Z hp0 hp0_2 ep0_2 hp0_5 ep0_5 hp0_8 ep0_8 hp0_5_1 ep0_5_1 hp0_5_2 ep0_5_2 hp0_5_3 ep0_5_3 x1 ls hl hf)
def g_X8_letterOf (x0 : Int32) (x1 : Int32) : Option (Int32) :=
  some ((x0 >>> ((x1 * 5) &&& 31)) &&& 31)
def f_X8_letterOf (x0 : Int32) (x1 : Int32) : Option (Int32) :=
  g_X8_letterOf x0 x1
set_option maxHeartbeats 4000000 in
set_option maxRecDepth 100000 in
theorem w_X8_letterOf {M : zM} {D : va_G} {cy : Nat → ClassId} {ad : Nat → Nat} {n : Nat} {K N : Nat → Nat} {G : zG} {V : zI} {L : zL} {r' : Int32} (X : RXc M D cy ad n K N G cX8_letterOf 2 RX8 0 0) (Z : RZi M (zC D cy ad n K N G) .int r' V L) (x0 : Int32) (x1 : Int32) (ls : Array Slot) (hl : lv_has ls 2 [(0, .int x0), (1, .int x1)]) (hf : g_X8_letterOf x0 x1 = some r') : RG M (zC D cy ad n K N G) V L 0 ls [] := by
  unfold g_X8_letterOf at hf
  refine z_iload_n X.1 dX8_letterOf_0 rfl (lv_at hl 0 rfl) ?_
  refine z_iload_n X.1 dX8_letterOf_1 rfl (lv_at hl 1 rfl) ?_
  refine z_iconst (v := 5) X.1 dX8_letterOf_2 (by decide) ?_
  refine z_imul X.1 dX8_letterOf_3 ?_
  refine z_ishr X.1 dX8_letterOf_4 ?_
  refine z_bipush (v := 31) X.1 dX8_letterOf_5 (by decide) ?_
  refine z_iand X.1 dX8_letterOf_7 ?_
  exact c_iretS X Z hf rfl dX8_letterOf_8

theorem c_X8_letterOf (D : va_G) (cy : Nat → ClassId) (ad : Nat → Nat) {n : Nat} {K N : Nat → Nat} {G : zG} (hWF : zWF n K G) {x0 : Int32} {x1 : Int32} {V : zI} {L : zL} {r' : Int32} (hf : f_X8_letterOf x0 x1 = some r') : RCi (zC D cy ad n K N G) yX8_letterOf cX8_letterOf 2 .int 0 0 [.int x0, .int x1] V L r' V L := by
  unfold f_X8_letterOf at hf
  exact RCi.of (by decide) hWF (Nat.le_of_ble_eq_true rfl) (fun M X Z ls hl => w_X8_letterOf X Z x0 x1 ls hl hf)
def g_X10_letter (N : Nat → Nat) (G : zG) (p0 : Nat) (p0_2 : Nat) (p0_2_5 : Nat) (V : zI) (L : zL) (x1 : Int32) (x2 : Int32) : Option (Int32) :=
  (f_X9_isTown N G p0_2 x1 V L).bind fun r1 => (if r1 = 0 then some (-1) else (if x2 < 0 then some (-1) else (if x2 < 6 then if inB x1 (N p0_2_5) then (f_X8_letterOf (V p0_2_5 x1.toNatClampNeg) x2).bind fun r3 => some r3 else none else some (-1))))
def f_X10_letter (N : Nat → Nat) (G : zG) (p0 : Nat) (x1 : Int32) (x2 : Int32) (V : zI) (L : zL) : Option (Int32) :=
  (G p0 2).bind fun p0_2 => (G p0_2 5).bind fun p0_2_5 => g_X10_letter N G p0 p0_2 p0_2_5 V L x1 x2
set_option maxHeartbeats 4000000 in
set_option maxRecDepth 100000 in
theorem w_X10_letter {M : zM} {D : va_G} {cy : Nat → ClassId} {ad : Nat → Nat} {n : Nat} {K N : Nat → Nat} {G : zG} {V : zI} {L : zL} {r' : Int32} (X : RXc M D cy ad n K N G cX10_letter 3 RX10 1 21) (Z : RZi M (zC D cy ad n K N G) .int r' V L) {p0 : Nat} (hp0 : p0 < n ∧ K p0 = 8) {p0_2 : Nat} (hp0_2 : p0_2 < n ∧ K p0_2 = 7) (ep0_2 : G p0 2 = some p0_2) {p0_2_5 : Nat} (hp0_2_5 : p0_2_5 < n ∧ K p0_2_5 = 100) (ep0_2_5 : G p0_2 5 = some p0_2_5) (x1 : Int32) (x2 : Int32) (ls : Array Slot) (hl : lv_has ls 3 [(0, .ref (ad p0)), (1, .int x1), (2, .int x2)]) (hf : g_X10_letter N G p0 p0_2 p0_2_5 V L x1 x2 = some r') : RG M (zC D cy ad n K N G) V L 0 ls [] := by
  unfold g_X10_letter at hf
  refine z_aload_n X.1 dX10_letter_0 rfl (lv_at hl 0 rfl) ?_
  refine c_geta X hp0 cf_X10_20 ep0_2 dX10_letter_1 ?_
  refine z_iload_n X.1 dX10_letter_4 rfl (lv_at hl 1 rfl) ?_
  obtain ⟨r1, hc1, hf⟩ := z_bind hf
  refine c_callVi [.int x1] X hl.1 (c_X9_isTown D cy ad X.2.2 hp0_2 hc1) hp0_2 ⟨by decide, rfl⟩ cm_X10_149 cw_X9_isTown rfl cq_X9_isTown ⟨by decide, by decide⟩ (Nat.le_of_ble_eq_true rfl) rfl dX10_letter_5 ?_
  refine z_if_eq (tgt := 21) X.1 dX10_letter_8 (by decide) (fun c_ => ?_) (fun c_ => ?_)
  · have hf := (if_pos c_).symm.trans hf
    refine z_iconst (v := -1) X.1 dX10_letter_21 (by decide) ?_
    exact c_iretS X Z hf rfl dX10_letter_22
  · have hf := (if_neg c_).symm.trans hf
    refine z_iload_n X.1 dX10_letter_11 rfl (lv_at hl 2 rfl) ?_
    refine z_if_lt (tgt := 21) X.1 dX10_letter_12 (by decide) (fun c_ => ?_) (fun c_ => ?_)
    · have hf := (if_pos c_).symm.trans hf
      refine z_iconst (v := -1) X.1 dX10_letter_21 (by decide) ?_
      exact c_iretS X Z hf rfl dX10_letter_22
    · have hf := (if_neg c_).symm.trans hf
      refine z_iload_n X.1 dX10_letter_15 rfl (lv_at hl 2 rfl) ?_
      refine z_bipush (v := 6) X.1 dX10_letter_16 (by decide) ?_
      refine z_icmp_lt (tgt := 23) X.1 dX10_letter_18 (by decide) (fun c_ => ?_) (fun c_ => ?_)
      · have hf := (if_pos c_).symm.trans hf
        refine z_aload_n X.1 dX10_letter_23 rfl (lv_at hl 0 rfl) ?_
        refine c_geta X hp0 cf_X10_20 ep0_2 dX10_letter_24 ?_
        refine c_geta X hp0_2 cf_X10_155 ep0_2_5 dX10_letter_27 ?_
        refine z_iload_n X.1 dX10_letter_30 rfl (lv_at hl 1 rfl) ?_
        obtain ⟨hb2, hf⟩ := z_ite hf
        refine c_iald X hp0_2_5 hb2 dX10_letter_31 ?_
        refine z_iload_n X.1 dX10_letter_32 rfl (lv_at hl 2 rfl) ?_
        obtain ⟨r3, hc3, hf⟩ := z_bind hf
        refine c_callSi [.int (V p0_2_5 x1.toNatClampNeg), .int x2] X hl.1 (c_X8_letterOf D cy ad X.2.2 hc3) cm_X10_158 cw_X8_letterOf rfl cq_X8_letterOf ⟨by decide, by decide⟩ (Nat.le_of_ble_eq_true rfl) rfl dX10_letter_33 ?_
        exact c_iretS X Z hf rfl dX10_letter_36
      · have hf := (if_neg c_).symm.trans hf
        refine z_iconst (v := -1) X.1 dX10_letter_21 (by decide) ?_
        exact c_iretS X Z hf rfl dX10_letter_22

theorem c_X10_letter (D : va_G) (cy : Nat → ClassId) (ad : Nat → Nat) {n : Nat} {K N : Nat → Nat} {G : zG} (hWF : zWF n K G) {p0 : Nat} {x1 : Int32} {x2 : Int32} {V : zI} {L : zL} (hp0 : p0 < n ∧ K p0 = 8) {r' : Int32} (hf : f_X10_letter N G p0 x1 x2 V L = some r') : RCi (zC D cy ad n K N G) yX10_letter cX10_letter 3 .int 1 21 [.ref (ad p0), .int x1, .int x2] V L r' V L := by
  unfold f_X10_letter at hf
  obtain ⟨p0_2, ep0_2, hf⟩ := z_bind hf
  have hp0_2 := hWF.get hp0 (k := 2) (c := 7) rfl ep0_2
  obtain ⟨p0_2_5, ep0_2_5, hf⟩ := z_bind hf
  have hp0_2_5 := hWF.get hp0_2 (k := 5) (c := 100) rfl ep0_2_5
  exact RCi.of (by decide) hWF (Nat.le_of_ble_eq_true rfl) (fun M X Z ls hl => w_X10_letter X Z hp0 hp0_2 ep0_2 hp0_2_5 ep0_2_5 x1 x2 ls hl hf)
def g_X7_countOf (N : Nat → Nat) (G : zG) (p0 : Nat) (p0_1 : Nat) (p0_2 : Nat) (p0_3 : Nat) (V : zI) (L : zL) (x1 : Int32) (x2 : Int32) : Option (Int32) :=
  (if x1 < 0 then some (-1) else (if x1 < 36 then (if x2 = 0 then if inB x1 (N p0_1) then some (V p0_1 x1.toNatClampNeg) else none else (if x2 = 1 then if inB x1 (N p0_2) then some (V p0_2 x1.toNatClampNeg) else none else (if x2 = 2 then if inB x1 (N p0_3) then some (V p0_3 x1.toNatClampNeg) else none else some (-1)))) else some (-1)))
def f_X7_countOf (N : Nat → Nat) (G : zG) (p0 : Nat) (x1 : Int32) (x2 : Int32) (V : zI) (L : zL) : Option (Int32) :=
  (G p0 1).bind fun p0_1 => (G p0 2).bind fun p0_2 => (G p0 3).bind fun p0_3 => g_X7_countOf N G p0 p0_1 p0_2 p0_3 V L x1 x2
set_option maxHeartbeats 4000000 in
set_option maxRecDepth 100000 in
theorem w_X7_countOf {M : zM} {D : va_G} {cy : Nat → ClassId} {ad : Nat → Nat} {n : Nat} {K N : Nat → Nat} {G : zG} {V : zI} {L : zL} {r' : Int32} (X : RXc M D cy ad n K N G cX7_countOf 3 RX7 0 0) (Z : RZi M (zC D cy ad n K N G) .int r' V L) {p0 : Nat} (hp0 : p0 < n ∧ K p0 = 5) {p0_1 : Nat} (hp0_1 : p0_1 < n ∧ K p0_1 = 100) (ep0_1 : G p0 1 = some p0_1) {p0_2 : Nat} (hp0_2 : p0_2 < n ∧ K p0_2 = 100) (ep0_2 : G p0 2 = some p0_2) {p0_3 : Nat} (hp0_3 : p0_3 < n ∧ K p0_3 = 100) (ep0_3 : G p0 3 = some p0_3) (x1 : Int32) (x2 : Int32) (ls : Array Slot) (hl : lv_has ls 3 [(0, .ref (ad p0)), (1, .int x1), (2, .int x2)]) (hf : g_X7_countOf N G p0 p0_1 p0_2 p0_3 V L x1 x2 = some r') : RG M (zC D cy ad n K N G) V L 0 ls [] := by
  unfold g_X7_countOf at hf
  refine z_iload_n X.1 dX7_countOf_0 rfl (lv_at hl 1 rfl) ?_
  refine z_if_lt (tgt := 10) X.1 dX7_countOf_1 (by decide) (fun c_ => ?_) (fun c_ => ?_)
  · have hf := (if_pos c_).symm.trans hf
    refine z_iconst (v := -1) X.1 dX7_countOf_10 (by decide) ?_
    exact c_iretS X Z hf rfl dX7_countOf_11
  · have hf := (if_neg c_).symm.trans hf
    refine z_iload_n X.1 dX7_countOf_4 rfl (lv_at hl 1 rfl) ?_
    refine z_bipush (v := 36) X.1 dX7_countOf_5 (by decide) ?_
    refine z_icmp_lt (tgt := 12) X.1 dX7_countOf_7 (by decide) (fun c_ => ?_) (fun c_ => ?_)
    · have hf := (if_pos c_).symm.trans hf
      refine z_iload_n X.1 dX7_countOf_12 rfl (lv_at hl 2 rfl) ?_
      by_cases c0_ : x2 = 0
      · have hf := (if_pos c0_).symm.trans hf
        refine z_tabIn (tgt := 40) (off := 27) X.1 dX7_countOf_13 (by rw [c0_]; decide) (by rw [c0_]; decide) (by rw [c0_]; rfl) (by decide) ?_
        refine z_aload_n X.1 dX7_countOf_40 rfl (lv_at hl 0 rfl) ?_
        refine c_geta X hp0 cf_X7_15 ep0_1 dX7_countOf_41 ?_
        refine z_iload_n X.1 dX7_countOf_44 rfl (lv_at hl 1 rfl) ?_
        obtain ⟨hb1, hf⟩ := z_ite hf
        refine c_iald X hp0_1 hb1 dX7_countOf_45 ?_
        exact c_iretS X Z hf rfl dX7_countOf_46
      have hf := (if_neg c0_).symm.trans hf
      have d0_ := lv_neT (a := 0) c0_ (by decide)
      by_cases c1_ : x2 = 1
      · have hf := (if_pos c1_).symm.trans hf
        refine z_tabIn (tgt := 47) (off := 34) X.1 dX7_countOf_13 (by rw [c1_]; decide) (by rw [c1_]; decide) (by rw [c1_]; rfl) (by decide) ?_
        refine z_aload_n X.1 dX7_countOf_47 rfl (lv_at hl 0 rfl) ?_
        refine c_geta X hp0 cf_X7_19 ep0_2 dX7_countOf_48 ?_
        refine z_iload_n X.1 dX7_countOf_51 rfl (lv_at hl 1 rfl) ?_
        obtain ⟨hb2, hf⟩ := z_ite hf
        refine c_iald X hp0_2 hb2 dX7_countOf_52 ?_
        exact c_iretS X Z hf rfl dX7_countOf_53
      have hf := (if_neg c1_).symm.trans hf
      have d1_ := lv_neT (a := 1) c1_ (by decide)
      by_cases c2_ : x2 = 2
      · have hf := (if_pos c2_).symm.trans hf
        refine z_tabIn (tgt := 54) (off := 41) X.1 dX7_countOf_13 (by rw [c2_]; decide) (by rw [c2_]; decide) (by rw [c2_]; rfl) (by decide) ?_
        refine z_aload_n X.1 dX7_countOf_54 rfl (lv_at hl 0 rfl) ?_
        refine c_geta X hp0 cf_X7_22 ep0_3 dX7_countOf_55 ?_
        refine z_iload_n X.1 dX7_countOf_58 rfl (lv_at hl 1 rfl) ?_
        obtain ⟨hb3, hf⟩ := z_ite hf
        refine c_iald X hp0_3 hb3 dX7_countOf_59 ?_
        exact c_iretS X Z hf rfl dX7_countOf_60
      have hf := (if_neg c2_).symm.trans hf
      have d2_ := lv_neT (a := 2) c2_ (by decide)
      refine z_tabOut (tgt := 61) X.1 dX7_countOf_13 (by omega) (by decide) ?_
      refine z_iconst (v := -1) X.1 dX7_countOf_61 (by decide) ?_
      exact c_iretS X Z hf rfl dX7_countOf_62
    · have hf := (if_neg c_).symm.trans hf
      refine z_iconst (v := -1) X.1 dX7_countOf_10 (by decide) ?_
      exact c_iretS X Z hf rfl dX7_countOf_11

theorem c_X7_countOf (D : va_G) (cy : Nat → ClassId) (ad : Nat → Nat) {n : Nat} {K N : Nat → Nat} {G : zG} (hWF : zWF n K G) {p0 : Nat} {x1 : Int32} {x2 : Int32} {V : zI} {L : zL} (hp0 : p0 < n ∧ K p0 = 5) {r' : Int32} (hf : f_X7_countOf N G p0 x1 x2 V L = some r') : RCi (zC D cy ad n K N G) yX7_countOf cX7_countOf 3 .int 0 0 [.ref (ad p0), .int x1, .int x2] V L r' V L := by
  unfold f_X7_countOf at hf
  obtain ⟨p0_1, ep0_1, hf⟩ := z_bind hf
  have hp0_1 := hWF.get hp0 (k := 1) (c := 100) rfl ep0_1
  obtain ⟨p0_2, ep0_2, hf⟩ := z_bind hf
  have hp0_2 := hWF.get hp0 (k := 2) (c := 100) rfl ep0_2
  obtain ⟨p0_3, ep0_3, hf⟩ := z_bind hf
  have hp0_3 := hWF.get hp0 (k := 3) (c := 100) rfl ep0_3
  exact RCi.of (by decide) hWF (Nat.le_of_ble_eq_true rfl) (fun M X Z ls hl => w_X7_countOf X Z hp0 hp0_1 ep0_1 hp0_2 ep0_2 hp0_3 ep0_3 x1 x2 ls hl hf)
def g_X10_pair (N : Nat → Nat) (G : zG) (p0 : Nat) (p0_2 : Nat) (p0_5 : Nat) (p0_2_7 : Nat) (V : zI) (L : zL) (x1 : Int32) (x2 : Int32) (x3 : Int32) : Option (Int32) :=
  (f_X9_isPair N G p0_2 x1 x2 V L).bind fun r1 => (if r1 = 0 then some (-1) else (if x3 = 3 then if inB ((x1 * 6) + x2) (N p0_2_7) then (if (V p0_2_7 ((x1 * 6) + x2).toNatClampNeg) ≤ 0 then some (-1) else if inB ((x1 * 6) + x2) (N p0_2_7) then some (V p0_2_7 ((x1 * 6) + x2).toNatClampNeg) else none) else none else (f_X7_countOf N G p0_5 ((x1 * 6) + x2) x3 V L).bind fun r2 => some r2))
def f_X10_pair (N : Nat → Nat) (G : zG) (p0 : Nat) (x1 : Int32) (x2 : Int32) (x3 : Int32) (V : zI) (L : zL) : Option (Int32) :=
  (G p0 2).bind fun p0_2 => (G p0 5).bind fun p0_5 => (G p0_2 7).bind fun p0_2_7 => g_X10_pair N G p0 p0_2 p0_5 p0_2_7 V L x1 x2 x3
set_option maxHeartbeats 4000000 in
set_option maxRecDepth 100000 in
theorem w_X10_pair {M : zM} {D : va_G} {cy : Nat → ClassId} {ad : Nat → Nat} {n : Nat} {K N : Nat → Nat} {G : zG} {V : zI} {L : zL} {r' : Int32} (X : RXc M D cy ad n K N G cX10_pair 5 RX10 2 43) (Z : RZi M (zC D cy ad n K N G) .int r' V L) {p0 : Nat} (hp0 : p0 < n ∧ K p0 = 8) {p0_2 : Nat} (hp0_2 : p0_2 < n ∧ K p0_2 = 7) (ep0_2 : G p0 2 = some p0_2) {p0_5 : Nat} (hp0_5 : p0_5 < n ∧ K p0_5 = 5) (ep0_5 : G p0 5 = some p0_5) {p0_2_7 : Nat} (hp0_2_7 : p0_2_7 < n ∧ K p0_2_7 = 100) (ep0_2_7 : G p0_2 7 = some p0_2_7) (x1 : Int32) (x2 : Int32) (x3 : Int32) (ls : Array Slot) (hl : lv_has ls 5 [(0, .ref (ad p0)), (1, .int x1), (2, .int x2), (3, .int x3)]) (hf : g_X10_pair N G p0 p0_2 p0_5 p0_2_7 V L x1 x2 x3 = some r') : RG M (zC D cy ad n K N G) V L 0 ls [] := by
  unfold g_X10_pair at hf
  refine z_aload_n X.1 dX10_pair_0 rfl (lv_at hl 0 rfl) ?_
  refine c_geta X hp0 cf_X10_20 ep0_2 dX10_pair_1 ?_
  refine z_iload_n X.1 dX10_pair_4 rfl (lv_at hl 1 rfl) ?_
  refine z_iload_n X.1 dX10_pair_5 rfl (lv_at hl 2 rfl) ?_
  obtain ⟨r1, hc1, hf⟩ := z_bind hf
  refine c_callVi [.int x1, .int x2] X hl.1 (c_X9_isPair D cy ad X.2.2 hp0_2 hc1) hp0_2 ⟨by decide, rfl⟩ cm_X10_162 cw_X9_isPair rfl cq_X9_isPair ⟨by decide, by decide⟩ (Nat.le_of_ble_eq_true rfl) rfl dX10_pair_6 ?_
  refine z_if_ne (tgt := 14) X.1 dX10_pair_9 (by decide) (fun c_ => ?_) (fun c_ => ?_)
  · have hf := (if_neg c_).symm.trans hf
    refine z_iload_n X.1 dX10_pair_14 rfl (lv_at hl 1 rfl) ?_
    refine z_bipush (v := 6) X.1 dX10_pair_15 (by decide) ?_
    refine z_imul X.1 dX10_pair_17 ?_
    refine z_iload_n X.1 dX10_pair_18 rfl (lv_at hl 2 rfl) ?_
    refine z_iadd X.1 dX10_pair_19 ?_
    refine z_istore (lv' := [(4, .int ((x1 * 6) + x2)), (0, .ref (ad p0)), (1, .int x1), (2, .int x2), (3, .int x3)]) X.1 dX10_pair_20 hl (by decide) rfl (fun ls hl => ?_)
    refine z_iload_n X.1 dX10_pair_22 rfl (lv_at hl 4 rfl) ?_
    refine z_iconst (v := 3) X.1 dX10_pair_23 (by decide) ?_
    refine z_icmp_ne (tgt := 55) X.1 dX10_pair_24 (by decide) (fun c_ => ?_) (fun c_ => ?_)
    · have hf := (if_neg c_).symm.trans hf
      refine z_aload_n X.1 dX10_pair_55 rfl (lv_at hl 1 rfl) ?_
      refine c_geta X hp0 cf_X10_33 ep0_5 dX10_pair_56 ?_
      refine z_iload X.1 dX10_pair_59 (lv_at hl 0 rfl) ?_
      refine z_iload_n X.1 dX10_pair_61 rfl (lv_at hl 4 rfl) ?_
      obtain ⟨r2, hc2, hf⟩ := z_bind hf
      refine c_callVi [.int ((x1 * 6) + x2), .int x3] X hl.1 (c_X7_countOf D cy ad X.2.2 hp0_5 hc2) hp0_5 ⟨by decide, rfl⟩ cm_X10_169 cw_X7_countOf rfl cq_X7_countOf ⟨by decide, by decide⟩ (Nat.le_of_ble_eq_true rfl) rfl dX10_pair_62 ?_
      exact c_iretS X Z hf rfl dX10_pair_65
    · have hf := (if_pos c_).symm.trans hf
      refine z_aload_n X.1 dX10_pair_27 rfl (lv_at hl 1 rfl) ?_
      refine c_geta X hp0 cf_X10_20 ep0_2 dX10_pair_28 ?_
      refine c_geta X hp0_2 cf_X10_166 ep0_2_7 dX10_pair_31 ?_
      refine z_iload X.1 dX10_pair_34 (lv_at hl 0 rfl) ?_
      obtain ⟨hb3, hf⟩ := z_ite hf
      refine c_iald X hp0_2_7 hb3 dX10_pair_36 ?_
      refine z_if_le (tgt := 53) X.1 dX10_pair_37 (by decide) (fun c_ => ?_) (fun c_ => ?_)
      · have hf := (if_pos c_).symm.trans hf
        refine z_iconst (v := -1) X.1 dX10_pair_53 (by decide) ?_
        exact c_iretS X Z hf rfl dX10_pair_54
      · have hf := (if_neg c_).symm.trans hf
        refine z_aload_n X.1 dX10_pair_40 rfl (lv_at hl 1 rfl) ?_
        refine c_geta X hp0 cf_X10_20 ep0_2 dX10_pair_41 ?_
        refine c_geta X hp0_2 cf_X10_166 ep0_2_7 dX10_pair_44 ?_
        refine z_iload X.1 dX10_pair_47 (lv_at hl 0 rfl) ?_
        obtain ⟨hb4, hf⟩ := z_ite hf
        refine c_iald X hp0_2_7 hb4 dX10_pair_49 ?_
        refine z_goto (tgt := 54) X.1 dX10_pair_50 (by decide) ?_
        exact c_iretS X Z hf rfl dX10_pair_54
  · have hf := (if_pos c_).symm.trans hf
    refine z_iconst (v := -1) X.1 dX10_pair_12 (by decide) ?_
    exact c_iretS X Z hf rfl dX10_pair_13

theorem c_X10_pair (D : va_G) (cy : Nat → ClassId) (ad : Nat → Nat) {n : Nat} {K N : Nat → Nat} {G : zG} (hWF : zWF n K G) {p0 : Nat} {x1 : Int32} {x2 : Int32} {x3 : Int32} {V : zI} {L : zL} (hp0 : p0 < n ∧ K p0 = 8) {r' : Int32} (hf : f_X10_pair N G p0 x1 x2 x3 V L = some r') : RCi (zC D cy ad n K N G) yX10_pair cX10_pair 5 .int 2 43 [.ref (ad p0), .int x1, .int x2, .int x3] V L r' V L := by
  unfold f_X10_pair at hf
  obtain ⟨p0_2, ep0_2, hf⟩ := z_bind hf
  have hp0_2 := hWF.get hp0 (k := 2) (c := 7) rfl ep0_2
  obtain ⟨p0_5, ep0_5, hf⟩ := z_bind hf
  have hp0_5 := hWF.get hp0 (k := 5) (c := 5) rfl ep0_5
  obtain ⟨p0_2_7, ep0_2_7, hf⟩ := z_bind hf
  have hp0_2_7 := hWF.get hp0_2 (k := 7) (c := 100) rfl ep0_2_7
  exact RCi.of (by decide) hWF (Nat.le_of_ble_eq_true rfl) (fun M X Z ls hl => w_X10_pair X Z hp0 hp0_2 ep0_2 hp0_5 ep0_5 hp0_2_7 ep0_2_7 x1 x2 x3 ls hl hf)
def g_X10_mail (N : Nat → Nat) (G : zG) (p0 : Nat) (p0_5 : Nat) (p0_5_5 : Nat) (p0_5_6 : Nat) (V : zI) (L : zL) (x1 : Int32) (x2 : Int32) : Option (Int32) :=
  (if x1 < 0 then some (-1) else (if (V p0_5 4) ≤ x1 then some (-1) else (if x1 < 60 then (if x2 = 0 then if inB x1 (N p0_5_5) then some ((V p0_5_5 x1.toNatClampNeg) / 6) else none else (if x2 = 1 then if inB x1 (N p0_5_5) then some ((V p0_5_5 x1.toNatClampNeg) - (V p0_5_5 x1.toNatClampNeg) / 6 * 6) else none else (if x2 = 2 then if inB x1 (N p0_5_6) then some (V p0_5_6 x1.toNatClampNeg) else none else some (-1)))) else some (-1))))
def f_X10_mail (N : Nat → Nat) (G : zG) (p0 : Nat) (x1 : Int32) (x2 : Int32) (V : zI) (L : zL) : Option (Int32) :=
  (G p0 5).bind fun p0_5 => (G p0_5 5).bind fun p0_5_5 => (G p0_5 6).bind fun p0_5_6 => g_X10_mail N G p0 p0_5 p0_5_5 p0_5_6 V L x1 x2
set_option maxHeartbeats 4000000 in
set_option maxRecDepth 100000 in
theorem w_X10_mail {M : zM} {D : va_G} {cy : Nat → ClassId} {ad : Nat → Nat} {n : Nat} {K N : Nat → Nat} {G : zG} {V : zI} {L : zL} {r' : Int32} (X : RXc M D cy ad n K N G cX10_mail 3 RX10 0 0) (Z : RZi M (zC D cy ad n K N G) .int r' V L) {p0 : Nat} (hp0 : p0 < n ∧ K p0 = 8) {p0_5 : Nat} (hp0_5 : p0_5 < n ∧ K p0_5 = 5) (ep0_5 : G p0 5 = some p0_5) {p0_5_5 : Nat} (hp0_5_5 : p0_5_5 < n ∧ K p0_5_5 = 100) (ep0_5_5 : G p0_5 5 = some p0_5_5) {p0_5_6 : Nat} (hp0_5_6 : p0_5_6 < n ∧ K p0_5_6 = 100) (ep0_5_6 : G p0_5 6 = some p0_5_6) (x1 : Int32) (x2 : Int32) (ls : Array Slot) (hl : lv_has ls 3 [(0, .ref (ad p0)), (1, .int x1), (2, .int x2)]) (hf : g_X10_mail N G p0 p0_5 p0_5_5 p0_5_6 V L x1 x2 = some r') : RG M (zC D cy ad n K N G) V L 0 ls [] := by
  unfold g_X10_mail at hf
  refine z_iload_n X.1 dX10_mail_0 rfl (lv_at hl 1 rfl) ?_
  refine z_if_lt (tgt := 21) X.1 dX10_mail_1 (by decide) (fun c_ => ?_) (fun c_ => ?_)
  · have hf := (if_pos c_).symm.trans hf
    refine z_iconst (v := -1) X.1 dX10_mail_21 (by decide) ?_
    exact c_iretS X Z hf rfl dX10_mail_22
  · have hf := (if_neg c_).symm.trans hf
    refine z_iload_n X.1 dX10_mail_4 rfl (lv_at hl 1 rfl) ?_
    refine z_aload_n X.1 dX10_mail_5 rfl (lv_at hl 0 rfl) ?_
    refine c_geta X hp0 cf_X10_33 ep0_5 dX10_mail_6 ?_
    refine c_geti X hp0_5 cf_X10_134 dX10_mail_9 ?_
    refine z_icmp_ge (tgt := 21) X.1 dX10_mail_12 (by decide) (fun c_ => ?_) (fun c_ => ?_)
    · have hf := (if_pos c_).symm.trans hf
      refine z_iconst (v := -1) X.1 dX10_mail_21 (by decide) ?_
      exact c_iretS X Z hf rfl dX10_mail_22
    · have hf := (if_neg c_).symm.trans hf
      refine z_iload_n X.1 dX10_mail_15 rfl (lv_at hl 1 rfl) ?_
      refine z_bipush (v := 60) X.1 dX10_mail_16 (by decide) ?_
      refine z_icmp_lt (tgt := 23) X.1 dX10_mail_18 (by decide) (fun c_ => ?_) (fun c_ => ?_)
      · have hf := (if_pos c_).symm.trans hf
        refine z_iload_n X.1 dX10_mail_23 rfl (lv_at hl 2 rfl) ?_
        by_cases c0_ : x2 = 0
        · have hf := (if_pos c0_).symm.trans hf
          refine z_tabIn (tgt := 52) (off := 28) X.1 dX10_mail_24 (by rw [c0_]; decide) (by rw [c0_]; decide) (by rw [c0_]; rfl) (by decide) ?_
          refine z_aload_n X.1 dX10_mail_52 rfl (lv_at hl 0 rfl) ?_
          refine c_geta X hp0 cf_X10_33 ep0_5 dX10_mail_53 ?_
          refine c_geta X hp0_5 cf_X10_172 ep0_5_5 dX10_mail_56 ?_
          refine z_iload_n X.1 dX10_mail_59 rfl (lv_at hl 1 rfl) ?_
          obtain ⟨hb1, hf⟩ := z_ite hf
          refine c_iald X hp0_5_5 hb1 dX10_mail_60 ?_
          refine z_bipush (v := 6) X.1 dX10_mail_61 (by decide) ?_
          refine z_idiv X.1 dX10_mail_63 (by decide) ?_
          exact c_iretS X Z hf rfl dX10_mail_64
        have hf := (if_neg c0_).symm.trans hf
        have d0_ := lv_neT (a := 0) c0_ (by decide)
        by_cases c1_ : x2 = 1
        · have hf := (if_pos c1_).symm.trans hf
          refine z_tabIn (tgt := 65) (off := 41) X.1 dX10_mail_24 (by rw [c1_]; decide) (by rw [c1_]; decide) (by rw [c1_]; rfl) (by decide) ?_
          refine z_aload_n X.1 dX10_mail_65 rfl (lv_at hl 0 rfl) ?_
          refine c_geta X hp0 cf_X10_33 ep0_5 dX10_mail_66 ?_
          refine c_geta X hp0_5 cf_X10_172 ep0_5_5 dX10_mail_69 ?_
          refine z_iload_n X.1 dX10_mail_72 rfl (lv_at hl 1 rfl) ?_
          obtain ⟨hb2, hf⟩ := z_ite hf
          refine c_iald X hp0_5_5 hb2 dX10_mail_73 ?_
          refine z_bipush (v := 6) X.1 dX10_mail_74 (by decide) ?_
          refine z_irem X.1 dX10_mail_76 (by decide) ?_
          exact c_iretS X Z hf rfl dX10_mail_77
        have hf := (if_neg c1_).symm.trans hf
        have d1_ := lv_neT (a := 1) c1_ (by decide)
        by_cases c2_ : x2 = 2
        · have hf := (if_pos c2_).symm.trans hf
          refine z_tabIn (tgt := 78) (off := 54) X.1 dX10_mail_24 (by rw [c2_]; decide) (by rw [c2_]; decide) (by rw [c2_]; rfl) (by decide) ?_
          refine z_aload_n X.1 dX10_mail_78 rfl (lv_at hl 0 rfl) ?_
          refine c_geta X hp0 cf_X10_33 ep0_5 dX10_mail_79 ?_
          refine c_geta X hp0_5 cf_X10_175 ep0_5_6 dX10_mail_82 ?_
          refine z_iload_n X.1 dX10_mail_85 rfl (lv_at hl 1 rfl) ?_
          obtain ⟨hb3, hf⟩ := z_ite hf
          refine c_iald X hp0_5_6 hb3 dX10_mail_86 ?_
          exact c_iretS X Z hf rfl dX10_mail_87
        have hf := (if_neg c2_).symm.trans hf
        have d2_ := lv_neT (a := 2) c2_ (by decide)
        refine z_tabOut (tgt := 88) X.1 dX10_mail_24 (by omega) (by decide) ?_
        refine z_iconst (v := -1) X.1 dX10_mail_88 (by decide) ?_
        exact c_iretS X Z hf rfl dX10_mail_89
      · have hf := (if_neg c_).symm.trans hf
        refine z_iconst (v := -1) X.1 dX10_mail_21 (by decide) ?_
        exact c_iretS X Z hf rfl dX10_mail_22

theorem c_X10_mail (D : va_G) (cy : Nat → ClassId) (ad : Nat → Nat) {n : Nat} {K N : Nat → Nat} {G : zG} (hWF : zWF n K G) {p0 : Nat} {x1 : Int32} {x2 : Int32} {V : zI} {L : zL} (hp0 : p0 < n ∧ K p0 = 8) {r' : Int32} (hf : f_X10_mail N G p0 x1 x2 V L = some r') : RCi (zC D cy ad n K N G) yX10_mail cX10_mail 3 .int 0 0 [.ref (ad p0), .int x1, .int x2] V L r' V L := by
  unfold f_X10_mail at hf
  obtain ⟨p0_5, ep0_5, hf⟩ := z_bind hf
  have hp0_5 := hWF.get hp0 (k := 5) (c := 5) rfl ep0_5
  obtain ⟨p0_5_5, ep0_5_5, hf⟩ := z_bind hf
  have hp0_5_5 := hWF.get hp0_5 (k := 5) (c := 100) rfl ep0_5_5
  obtain ⟨p0_5_6, ep0_5_6, hf⟩ := z_bind hf
  have hp0_5_6 := hWF.get hp0_5 (k := 6) (c := 100) rfl ep0_5_6
  exact RCi.of (by decide) hWF (Nat.le_of_ble_eq_true rfl) (fun M X Z ls hl => w_X10_mail X Z hp0 hp0_5 ep0_5 hp0_5_5 ep0_5_5 hp0_5_6 ep0_5_6 x1 x2 ls hl hf)
def g_X4_factOf (N : Nat → Nat) (G : zG) (p1 : Nat) (p2 : Nat) (p1_7 : Nat) (p2_2 : Nat) (p2_3 : Nat) (V : zI) (L : zL) (x0 : Int32) (x3 : Int32) (x4 : Int32) : Option (Int32) :=
  (if x3 < 0 then some 0 else (if x3 < 36 then (if x0 = 0 then some x4 else (if x0 = 1 then if inB x3 (N p1_7) then (if (V p1_7 x3.toNatClampNeg) ≤ 0 then some 99 else if inB x3 (N p1_7) then some (V p1_7 x3.toNatClampNeg) else none) else none else (if x0 = 2 then some (V p2 0) else (if x0 = 3 then if inB x3 (N p2_2) then some (V p2_2 x3.toNatClampNeg) else none else (if x0 = 4 then if inB x3 (N p2_3) then some (V p2_3 x3.toNatClampNeg) else none else some 0))))) else some 0))
def f_X4_factOf (N : Nat → Nat) (G : zG) (p1 : Nat) (p2 : Nat) (x0 : Int32) (x3 : Int32) (x4 : Int32) (V : zI) (L : zL) : Option (Int32) :=
  (G p1 7).bind fun p1_7 => (G p2 2).bind fun p2_2 => (G p2 3).bind fun p2_3 => g_X4_factOf N G p1 p2 p1_7 p2_2 p2_3 V L x0 x3 x4
set_option maxHeartbeats 4000000 in
set_option maxRecDepth 100000 in
theorem w_X4_factOf {M : zM} {D : va_G} {cy : Nat → ClassId} {ad : Nat → Nat} {n : Nat} {K N : Nat → Nat} {G : zG} {V : zI} {L : zL} {r' : Int32} (X : RXc M D cy ad n K N G cX4_factOf 5 RX4 0 0) (Z : RZi M (zC D cy ad n K N G) .int r' V L) {p1 : Nat} (hp1 : p1 < n ∧ K p1 = 7) {p2 : Nat} (hp2 : p2 < n ∧ K p2 = 5) {p1_7 : Nat} (hp1_7 : p1_7 < n ∧ K p1_7 = 100) (ep1_7 : G p1 7 = some p1_7) {p2_2 : Nat} (hp2_2 : p2_2 < n ∧ K p2_2 = 100) (ep2_2 : G p2 2 = some p2_2) {p2_3 : Nat} (hp2_3 : p2_3 < n ∧ K p2_3 = 100) (ep2_3 : G p2 3 = some p2_3) (x0 : Int32) (x3 : Int32) (x4 : Int32) (ls : Array Slot) (hl : lv_has ls 5 [(0, .int x0), (1, .ref (ad p1)), (2, .ref (ad p2)), (3, .int x3), (4, .int x4)]) (hf : g_X4_factOf N G p1 p2 p1_7 p2_2 p2_3 V L x0 x3 x4 = some r') : RG M (zC D cy ad n K N G) V L 0 ls [] := by
  unfold g_X4_factOf at hf
  refine z_iload_n X.1 dX4_factOf_0 rfl (lv_at hl 3 rfl) ?_
  refine z_if_lt (tgt := 10) X.1 dX4_factOf_1 (by decide) (fun c_ => ?_) (fun c_ => ?_)
  · have hf := (if_pos c_).symm.trans hf
    refine z_iconst (v := 0) X.1 dX4_factOf_10 (by decide) ?_
    exact c_iretS X Z hf rfl dX4_factOf_11
  · have hf := (if_neg c_).symm.trans hf
    refine z_iload_n X.1 dX4_factOf_4 rfl (lv_at hl 3 rfl) ?_
    refine z_bipush (v := 36) X.1 dX4_factOf_5 (by decide) ?_
    refine z_icmp_lt (tgt := 12) X.1 dX4_factOf_7 (by decide) (fun c_ => ?_) (fun c_ => ?_)
    · have hf := (if_pos c_).symm.trans hf
      refine z_iload_n X.1 dX4_factOf_12 rfl (lv_at hl 0 rfl) ?_
      by_cases c0_ : x0 = 0
      · have hf := (if_pos c0_).symm.trans hf
        refine z_tabIn (tgt := 48) (off := 35) X.1 dX4_factOf_13 (by rw [c0_]; decide) (by rw [c0_]; decide) (by rw [c0_]; rfl) (by decide) ?_
        refine z_iload X.1 dX4_factOf_48 (lv_at hl 4 rfl) ?_
        exact c_iretS X Z hf rfl dX4_factOf_50
      have hf := (if_neg c0_).symm.trans hf
      have d0_ := lv_neT (a := 0) c0_ (by decide)
      by_cases c1_ : x0 = 1
      · have hf := (if_pos c1_).symm.trans hf
        refine z_tabIn (tgt := 51) (off := 38) X.1 dX4_factOf_13 (by rw [c1_]; decide) (by rw [c1_]; decide) (by rw [c1_]; rfl) (by decide) ?_
        refine z_aload_n X.1 dX4_factOf_51 rfl (lv_at hl 1 rfl) ?_
        refine c_geta X hp1 cf_X4_29 ep1_7 dX4_factOf_52 ?_
        refine z_iload_n X.1 dX4_factOf_55 rfl (lv_at hl 3 rfl) ?_
        obtain ⟨hb1, hf⟩ := z_ite hf
        refine c_iald X hp1_7 hb1 dX4_factOf_56 ?_
        refine z_if_le (tgt := 69) X.1 dX4_factOf_57 (by decide) (fun c_ => ?_) (fun c_ => ?_)
        · have hf := (if_pos c_).symm.trans hf
          refine z_bipush (v := 99) X.1 dX4_factOf_69 (by decide) ?_
          exact c_iretS X Z hf rfl dX4_factOf_71
        · have hf := (if_neg c_).symm.trans hf
          refine z_aload_n X.1 dX4_factOf_60 rfl (lv_at hl 1 rfl) ?_
          refine c_geta X hp1 cf_X4_29 ep1_7 dX4_factOf_61 ?_
          refine z_iload_n X.1 dX4_factOf_64 rfl (lv_at hl 3 rfl) ?_
          obtain ⟨hb2, hf⟩ := z_ite hf
          refine c_iald X hp1_7 hb2 dX4_factOf_65 ?_
          refine z_goto (tgt := 71) X.1 dX4_factOf_66 (by decide) ?_
          exact c_iretS X Z hf rfl dX4_factOf_71
      have hf := (if_neg c1_).symm.trans hf
      have d1_ := lv_neT (a := 1) c1_ (by decide)
      by_cases c2_ : x0 = 2
      · have hf := (if_pos c2_).symm.trans hf
        refine z_tabIn (tgt := 72) (off := 59) X.1 dX4_factOf_13 (by rw [c2_]; decide) (by rw [c2_]; decide) (by rw [c2_]; rfl) (by decide) ?_
        refine z_aload_n X.1 dX4_factOf_72 rfl (lv_at hl 2 rfl) ?_
        refine c_geti X hp2 cf_X4_38 dX4_factOf_73 ?_
        exact c_iretS X Z hf rfl dX4_factOf_76
      have hf := (if_neg c2_).symm.trans hf
      have d2_ := lv_neT (a := 2) c2_ (by decide)
      by_cases c3_ : x0 = 3
      · have hf := (if_pos c3_).symm.trans hf
        refine z_tabIn (tgt := 77) (off := 64) X.1 dX4_factOf_13 (by rw [c3_]; decide) (by rw [c3_]; decide) (by rw [c3_]; rfl) (by decide) ?_
        refine z_aload_n X.1 dX4_factOf_77 rfl (lv_at hl 2 rfl) ?_
        refine c_geta X hp2 cf_X4_107 ep2_2 dX4_factOf_78 ?_
        refine z_iload_n X.1 dX4_factOf_81 rfl (lv_at hl 3 rfl) ?_
        obtain ⟨hb3, hf⟩ := z_ite hf
        refine c_iald X hp2_2 hb3 dX4_factOf_82 ?_
        exact c_iretS X Z hf rfl dX4_factOf_83
      have hf := (if_neg c3_).symm.trans hf
      have d3_ := lv_neT (a := 3) c3_ (by decide)
      by_cases c4_ : x0 = 4
      · have hf := (if_pos c4_).symm.trans hf
        refine z_tabIn (tgt := 84) (off := 71) X.1 dX4_factOf_13 (by rw [c4_]; decide) (by rw [c4_]; decide) (by rw [c4_]; rfl) (by decide) ?_
        refine z_aload_n X.1 dX4_factOf_84 rfl (lv_at hl 2 rfl) ?_
        refine c_geta X hp2 cf_X4_110 ep2_3 dX4_factOf_85 ?_
        refine z_iload_n X.1 dX4_factOf_88 rfl (lv_at hl 3 rfl) ?_
        obtain ⟨hb4, hf⟩ := z_ite hf
        refine c_iald X hp2_3 hb4 dX4_factOf_89 ?_
        exact c_iretS X Z hf rfl dX4_factOf_90
      have hf := (if_neg c4_).symm.trans hf
      have d4_ := lv_neT (a := 4) c4_ (by decide)
      refine z_tabOut (tgt := 91) X.1 dX4_factOf_13 (by omega) (by decide) ?_
      refine z_iconst (v := 0) X.1 dX4_factOf_91 (by decide) ?_
      exact c_iretS X Z hf rfl dX4_factOf_92
    · have hf := (if_neg c_).symm.trans hf
      refine z_iconst (v := 0) X.1 dX4_factOf_10 (by decide) ?_
      exact c_iretS X Z hf rfl dX4_factOf_11

theorem c_X4_factOf (D : va_G) (cy : Nat → ClassId) (ad : Nat → Nat) {n : Nat} {K N : Nat → Nat} {G : zG} (hWF : zWF n K G) {p1 : Nat} {p2 : Nat} {x0 : Int32} {x3 : Int32} {x4 : Int32} {V : zI} {L : zL} (hp1 : p1 < n ∧ K p1 = 7) (hp2 : p2 < n ∧ K p2 = 5) {r' : Int32} (hf : f_X4_factOf N G p1 p2 x0 x3 x4 V L = some r') : RCi (zC D cy ad n K N G) yX4_factOf cX4_factOf 5 .int 0 0 [.int x0, .ref (ad p1), .ref (ad p2), .int x3, .int x4] V L r' V L := by
  unfold f_X4_factOf at hf
  obtain ⟨p1_7, ep1_7, hf⟩ := z_bind hf
  have hp1_7 := hWF.get hp1 (k := 7) (c := 100) rfl ep1_7
  obtain ⟨p2_2, ep2_2, hf⟩ := z_bind hf
  have hp2_2 := hWF.get hp2 (k := 2) (c := 100) rfl ep2_2
  obtain ⟨p2_3, ep2_3, hf⟩ := z_bind hf
  have hp2_3 := hWF.get hp2 (k := 3) (c := 100) rfl ep2_3
  exact RCi.of (by decide) hWF (Nat.le_of_ble_eq_true rfl) (fun M X Z ls hl => w_X4_factOf X Z hp1 hp2 hp1_7 ep1_7 hp2_2 ep2_2 hp2_3 ep2_3 x0 x3 x4 ls hl hf)
def g_X4_bounded (x0 : Int64) : Option (Int32) :=
  some ((if (if x0 < (1000000 : Int64) then x0 else (1000000 : Int64)) < ((-1000000) : Int64) then ((-1000000) : Int64) else (if x0 < (1000000 : Int64) then x0 else (1000000 : Int64))).toInt32)
def f_X4_bounded (x0 : Int64) : Option (Int32) :=
  g_X4_bounded x0
set_option maxHeartbeats 4000000 in
set_option maxRecDepth 100000 in
theorem w_X4_bounded {M : zM} {D : va_G} {cy : Nat → ClassId} {ad : Nat → Nat} {n : Nat} {K N : Nat → Nat} {G : zG} {V : zI} {L : zL} {r' : Int32} (X : RXc M D cy ad n K N G cX4_bounded 2 RX4 1 25) (Z : RZi M (zC D cy ad n K N G) .int r' V L) (x0 : Int64) (ls : Array Slot) (hl : lv_has ls 2 [(0, .long x0)]) (hf : g_X4_bounded x0 = some r') : RG M (zC D cy ad n K N G) V L 0 ls [] := by
  unfold g_X4_bounded at hf
  refine z_ldc2 X.1 dX4_bounded_0 ck_X4_126 ?_
  refine z_ldc2 X.1 dX4_bounded_3 ck_X4_128 ?_
  refine z_lload_n X.1 dX4_bounded_6 rfl (lv_at hl 0 rfl) ?_
  refine c_minl X hl.1 cj_X4_130 ⟨by decide, Nat.le_of_ble_eq_true rfl⟩ dX4_bounded_7 ?_
  refine c_maxl X hl.1 cj_X4_133 ⟨by decide, Nat.le_of_ble_eq_true rfl⟩ dX4_bounded_10 ?_
  refine z_l2i X.1 dX4_bounded_13 ?_
  exact c_iretS X Z hf rfl dX4_bounded_14

theorem c_X4_bounded (D : va_G) (cy : Nat → ClassId) (ad : Nat → Nat) {n : Nat} {K N : Nat → Nat} {G : zG} (hWF : zWF n K G) {x0 : Int64} {V : zI} {L : zL} {r' : Int32} (hf : f_X4_bounded x0 = some r') : RCi (zC D cy ad n K N G) yX4_bounded cX4_bounded 2 .int 1 25 [.long x0] V L r' V L := by
  unfold f_X4_bounded at hf
  exact RCi.of (by decide) hWF (Nat.le_of_ble_eq_true rfl) (fun M X Z ls hl => w_X4_bounded X Z x0 ls hl hf)
def g_J9_floorDiv_7cf53 (x0 : Int32) (x1 : Int32) : Option (Int32) :=
  if ¬ x1 = 0 then (if 0 ≤ (x0 ^^^ x1) then some (x0 / x1) else (if ((x0 / x1) * x1) = x0 then some (x0 / x1) else some ((x0 / x1) - 1))) else none
def f_J9_floorDiv_7cf53 (x0 : Int32) (x1 : Int32) : Option (Int32) :=
  g_J9_floorDiv_7cf53 x0 x1
set_option maxHeartbeats 4000000 in
set_option maxRecDepth 100000 in
theorem w_J9_floorDiv_7cf53 {M : zM} {D : va_G} {cy : Nat → ClassId} {ad : Nat → Nat} {n : Nat} {K N : Nat → Nat} {G : zG} {V : zI} {L : zL} {r' : Int32} (X : RXc M D cy ad n K N G cJ9_floorDiv_7cf53 3 RJ9 0 0) (Z : RZi M (zC D cy ad n K N G) .int r' V L) (x0 : Int32) (x1 : Int32) (ls : Array Slot) (hl : lv_has ls 3 [(0, .int x0), (1, .int x1)]) (hf : g_J9_floorDiv_7cf53 x0 x1 = some r') : RG M (zC D cy ad n K N G) V L 0 ls [] := by
  unfold g_J9_floorDiv_7cf53 at hf
  refine z_iload_n X.1 dJ9_floorDiv_7cf53_0 rfl (lv_at hl 0 rfl) ?_
  refine z_iload_n X.1 dJ9_floorDiv_7cf53_1 rfl (lv_at hl 1 rfl) ?_
  obtain ⟨hb1, hf⟩ := z_ite hf
  refine z_idiv X.1 dJ9_floorDiv_7cf53_2 hb1 ?_
  refine z_istore_n (lv' := [(2, .int (x0 / x1)), (0, .int x0), (1, .int x1)]) X.1 dJ9_floorDiv_7cf53_3 rfl hl (by decide) rfl (fun ls hl => ?_)
  refine z_iload_n X.1 dJ9_floorDiv_7cf53_4 rfl (lv_at hl 1 rfl) ?_
  refine z_iload_n X.1 dJ9_floorDiv_7cf53_5 rfl (lv_at hl 2 rfl) ?_
  refine z_ixor X.1 dJ9_floorDiv_7cf53_6 ?_
  refine z_if_ge (tgt := 21) X.1 dJ9_floorDiv_7cf53_7 (by decide) (fun c_ => ?_) (fun c_ => ?_)
  · have hf := (if_pos c_).symm.trans hf
    refine z_iload_n X.1 dJ9_floorDiv_7cf53_21 rfl (lv_at hl 0 rfl) ?_
    exact c_iretS X Z hf rfl dJ9_floorDiv_7cf53_22
  · have hf := (if_neg c_).symm.trans hf
    refine z_iload_n X.1 dJ9_floorDiv_7cf53_10 rfl (lv_at hl 0 rfl) ?_
    refine z_iload_n X.1 dJ9_floorDiv_7cf53_11 rfl (lv_at hl 2 rfl) ?_
    refine z_imul X.1 dJ9_floorDiv_7cf53_12 ?_
    refine z_iload_n X.1 dJ9_floorDiv_7cf53_13 rfl (lv_at hl 1 rfl) ?_
    refine z_icmp_eq (tgt := 21) X.1 dJ9_floorDiv_7cf53_14 (by decide) (fun c_ => ?_) (fun c_ => ?_)
    · have hf := (if_pos c_).symm.trans hf
      refine z_iload_n X.1 dJ9_floorDiv_7cf53_21 rfl (lv_at hl 0 rfl) ?_
      exact c_iretS X Z hf rfl dJ9_floorDiv_7cf53_22
    · have hf := (if_neg c_).symm.trans hf
      refine z_iload_n X.1 dJ9_floorDiv_7cf53_17 rfl (lv_at hl 0 rfl) ?_
      refine z_iconst (v := 1) X.1 dJ9_floorDiv_7cf53_18 (by decide) ?_
      refine z_isub X.1 dJ9_floorDiv_7cf53_19 ?_
      exact c_iretS X Z hf rfl dJ9_floorDiv_7cf53_20

theorem c_J9_floorDiv_7cf53 (D : va_G) (cy : Nat → ClassId) (ad : Nat → Nat) {n : Nat} {K N : Nat → Nat} {G : zG} (hWF : zWF n K G) {x0 : Int32} {x1 : Int32} {V : zI} {L : zL} {r' : Int32} (hf : f_J9_floorDiv_7cf53 x0 x1 = some r') : RCi (zC D cy ad n K N G) yJ9_floorDiv_7cf53 cJ9_floorDiv_7cf53 3 .int 0 0 [.int x0, .int x1] V L r' V L := by
  unfold f_J9_floorDiv_7cf53 at hf
  exact RCi.ofF (by decide +kernel) hWF (Nat.le_of_ble_eq_true rfl) (fun M X Z ls hl => w_J9_floorDiv_7cf53 X Z x0 x1 ls hl hf)
def g_J9_floorMod_7cf53 (x0 : Int32) (x1 : Int32) : Option (Int32) :=
  if ¬ x1 = 0 then (if 0 ≤ (x0 ^^^ x1) then some (x0 - x0 / x1 * x1) else (if (x0 - x0 / x1 * x1) = 0 then some (x0 - x0 / x1 * x1) else some ((x0 - x0 / x1 * x1) + x1))) else none
def f_J9_floorMod_7cf53 (x0 : Int32) (x1 : Int32) : Option (Int32) :=
  g_J9_floorMod_7cf53 x0 x1
set_option maxHeartbeats 4000000 in
set_option maxRecDepth 100000 in
theorem w_J9_floorMod_7cf53 {M : zM} {D : va_G} {cy : Nat → ClassId} {ad : Nat → Nat} {n : Nat} {K N : Nat → Nat} {G : zG} {V : zI} {L : zL} {r' : Int32} (X : RXc M D cy ad n K N G cJ9_floorMod_7cf53 3 RJ9 0 0) (Z : RZi M (zC D cy ad n K N G) .int r' V L) (x0 : Int32) (x1 : Int32) (ls : Array Slot) (hl : lv_has ls 3 [(0, .int x0), (1, .int x1)]) (hf : g_J9_floorMod_7cf53 x0 x1 = some r') : RG M (zC D cy ad n K N G) V L 0 ls [] := by
  unfold g_J9_floorMod_7cf53 at hf
  refine z_iload_n X.1 dJ9_floorMod_7cf53_0 rfl (lv_at hl 0 rfl) ?_
  refine z_iload_n X.1 dJ9_floorMod_7cf53_1 rfl (lv_at hl 1 rfl) ?_
  obtain ⟨hb1, hf⟩ := z_ite hf
  refine z_irem X.1 dJ9_floorMod_7cf53_2 hb1 ?_
  refine z_istore_n (lv' := [(2, .int (x0 - x0 / x1 * x1)), (0, .int x0), (1, .int x1)]) X.1 dJ9_floorMod_7cf53_3 rfl hl (by decide) rfl (fun ls hl => ?_)
  refine z_iload_n X.1 dJ9_floorMod_7cf53_4 rfl (lv_at hl 1 rfl) ?_
  refine z_iload_n X.1 dJ9_floorMod_7cf53_5 rfl (lv_at hl 2 rfl) ?_
  refine z_ixor X.1 dJ9_floorMod_7cf53_6 ?_
  refine z_if_ge (tgt := 18) X.1 dJ9_floorMod_7cf53_7 (by decide) (fun c_ => ?_) (fun c_ => ?_)
  · have hf := (if_pos c_).symm.trans hf
    refine z_iload_n X.1 dJ9_floorMod_7cf53_18 rfl (lv_at hl 0 rfl) ?_
    exact c_iretS X Z hf rfl dJ9_floorMod_7cf53_19
  · have hf := (if_neg c_).symm.trans hf
    refine z_iload_n X.1 dJ9_floorMod_7cf53_10 rfl (lv_at hl 0 rfl) ?_
    refine z_if_eq (tgt := 18) X.1 dJ9_floorMod_7cf53_11 (by decide) (fun c_ => ?_) (fun c_ => ?_)
    · have hf := (if_pos c_).symm.trans hf
      refine z_iload_n X.1 dJ9_floorMod_7cf53_18 rfl (lv_at hl 0 rfl) ?_
      exact c_iretS X Z hf rfl dJ9_floorMod_7cf53_19
    · have hf := (if_neg c_).symm.trans hf
      refine z_iload_n X.1 dJ9_floorMod_7cf53_14 rfl (lv_at hl 0 rfl) ?_
      refine z_iload_n X.1 dJ9_floorMod_7cf53_15 rfl (lv_at hl 2 rfl) ?_
      refine z_iadd X.1 dJ9_floorMod_7cf53_16 ?_
      exact c_iretS X Z hf rfl dJ9_floorMod_7cf53_17

theorem c_J9_floorMod_7cf53 (D : va_G) (cy : Nat → ClassId) (ad : Nat → Nat) {n : Nat} {K N : Nat → Nat} {G : zG} (hWF : zWF n K G) {x0 : Int32} {x1 : Int32} {V : zI} {L : zL} {r' : Int32} (hf : f_J9_floorMod_7cf53 x0 x1 = some r') : RCi (zC D cy ad n K N G) yJ9_floorMod_7cf53 cJ9_floorMod_7cf53 3 .int 0 0 [.int x0, .int x1] V L r' V L := by
  unfold f_J9_floorMod_7cf53 at hf
  exact RCi.ofF (by decide +kernel) hWF (Nat.le_of_ble_eq_true rfl) (fun M X Z ls hl => w_J9_floorMod_7cf53 X Z x0 x1 ls hl hf)
def g_X4_joined (x0 : Int32) (x1 : Int32) (x2 : Int32) : Option (Int32) :=
  (if x0 = 5 then (f_X4_bounded (x1.toInt64 + x2.toInt64)).bind fun r1 => some r1 else (if x0 = 6 then (f_X4_bounded (x1.toInt64 - x2.toInt64)).bind fun r2 => some r2 else (if x0 = 7 then (f_X4_bounded (x1.toInt64 * x2.toInt64)).bind fun r3 => some r3 else (if x0 = 8 then (if x2 = 0 then some 0 else (f_J9_floorDiv_7cf53 x1 x2).bind fun r4 => (f_X4_bounded r4.toInt64).bind fun r5 => some r5) else (if x0 = 9 then (if x2 = 0 then some 0 else (f_J9_floorMod_7cf53 x1 x2).bind fun r6 => some r6) else (if x0 = 10 then some (if x2 < x1 then x2 else x1) else (if x0 = 11 then some (if x1 < x2 then x2 else x1) else (if x0 = 12 then some (x1 ||| x2) else (if x0 = 13 then some (x1 &&& x2) else (if x0 = 14 then (if x2 ≤ x1 then some 0 else some 1) else (if x0 = 15 then (if x1 ≤ x2 then some 0 else some 1) else (if x0 = 16 then (if x1 = x2 then some 1 else some 0) else some 0))))))))))))
def f_X4_joined (x0 : Int32) (x1 : Int32) (x2 : Int32) : Option (Int32) :=
  g_X4_joined x0 x1 x2
set_option maxHeartbeats 4000000 in
set_option maxRecDepth 100000 in
theorem w_X4_joined {M : zM} {D : va_G} {cy : Nat → ClassId} {ad : Nat → Nat} {n : Nat} {K N : Nat → Nat} {G : zG} {V : zI} {L : zL} {r' : Int32} (X : RXc M D cy ad n K N G cX4_joined 3 RX4 2 46) (Z : RZi M (zC D cy ad n K N G) .int r' V L) (x0 : Int32) (x1 : Int32) (x2 : Int32) (ls : Array Slot) (hl : lv_has ls 3 [(0, .int x0), (1, .int x1), (2, .int x2)]) (hf : g_X4_joined x0 x1 x2 = some r') : RG M (zC D cy ad n K N G) V L 0 ls [] := by
  unfold g_X4_joined at hf
  refine z_iload_n X.1 dX4_joined_0 rfl (lv_at hl 0 rfl) ?_
  by_cases c0_ : x0 = 5
  · have hf := (if_pos c0_).symm.trans hf
    refine z_tabIn (tgt := 64) (off := 63) X.1 dX4_joined_1 (by rw [c0_]; decide) (by rw [c0_]; decide) (by rw [c0_]; rfl) (by decide) ?_
    refine z_iload_n X.1 dX4_joined_64 rfl (lv_at hl 1 rfl) ?_
    refine z_i2l X.1 dX4_joined_65 ?_
    refine z_iload_n X.1 dX4_joined_66 rfl (lv_at hl 2 rfl) ?_
    refine z_i2l X.1 dX4_joined_67 ?_
    refine z_ladd X.1 dX4_joined_68 ?_
    obtain ⟨r1, hc1, hf⟩ := z_bind hf
    refine c_callSi [.long (x1.toInt64 + x2.toInt64)] X hl.1 (c_X4_bounded D cy ad X.2.2 hc1) cm_X4_113 cw_X4_bounded rfl cq_X4_bounded ⟨by decide, by decide⟩ (Nat.le_of_ble_eq_true rfl) rfl dX4_joined_69 ?_
    exact c_iretS X Z hf rfl dX4_joined_72
  have hf := (if_neg c0_).symm.trans hf
  have d0_ := lv_neT (a := 5) c0_ (by decide)
  by_cases c1_ : x0 = 6
  · have hf := (if_pos c1_).symm.trans hf
    refine z_tabIn (tgt := 73) (off := 72) X.1 dX4_joined_1 (by rw [c1_]; decide) (by rw [c1_]; decide) (by rw [c1_]; rfl) (by decide) ?_
    refine z_iload_n X.1 dX4_joined_73 rfl (lv_at hl 1 rfl) ?_
    refine z_i2l X.1 dX4_joined_74 ?_
    refine z_iload_n X.1 dX4_joined_75 rfl (lv_at hl 2 rfl) ?_
    refine z_i2l X.1 dX4_joined_76 ?_
    refine z_lsub X.1 dX4_joined_77 ?_
    obtain ⟨r2, hc2, hf⟩ := z_bind hf
    refine c_callSi [.long (x1.toInt64 - x2.toInt64)] X hl.1 (c_X4_bounded D cy ad X.2.2 hc2) cm_X4_113 cw_X4_bounded rfl cq_X4_bounded ⟨by decide, by decide⟩ (Nat.le_of_ble_eq_true rfl) rfl dX4_joined_78 ?_
    exact c_iretS X Z hf rfl dX4_joined_81
  have hf := (if_neg c1_).symm.trans hf
  have d1_ := lv_neT (a := 6) c1_ (by decide)
  by_cases c2_ : x0 = 7
  · have hf := (if_pos c2_).symm.trans hf
    refine z_tabIn (tgt := 82) (off := 81) X.1 dX4_joined_1 (by rw [c2_]; decide) (by rw [c2_]; decide) (by rw [c2_]; rfl) (by decide) ?_
    refine z_iload_n X.1 dX4_joined_82 rfl (lv_at hl 1 rfl) ?_
    refine z_i2l X.1 dX4_joined_83 ?_
    refine z_iload_n X.1 dX4_joined_84 rfl (lv_at hl 2 rfl) ?_
    refine z_i2l X.1 dX4_joined_85 ?_
    refine z_lmul X.1 dX4_joined_86 ?_
    obtain ⟨r3, hc3, hf⟩ := z_bind hf
    refine c_callSi [.long (x1.toInt64 * x2.toInt64)] X hl.1 (c_X4_bounded D cy ad X.2.2 hc3) cm_X4_113 cw_X4_bounded rfl cq_X4_bounded ⟨by decide, by decide⟩ (Nat.le_of_ble_eq_true rfl) rfl dX4_joined_87 ?_
    exact c_iretS X Z hf rfl dX4_joined_90
  have hf := (if_neg c2_).symm.trans hf
  have d2_ := lv_neT (a := 7) c2_ (by decide)
  by_cases c3_ : x0 = 8
  · have hf := (if_pos c3_).symm.trans hf
    refine z_tabIn (tgt := 91) (off := 90) X.1 dX4_joined_1 (by rw [c3_]; decide) (by rw [c3_]; decide) (by rw [c3_]; rfl) (by decide) ?_
    refine z_iload_n X.1 dX4_joined_91 rfl (lv_at hl 2 rfl) ?_
    refine z_if_ne (tgt := 99) X.1 dX4_joined_92 (by decide) (fun c_ => ?_) (fun c_ => ?_)
    · have hf := (if_neg c_).symm.trans hf
      refine z_iload_n X.1 dX4_joined_99 rfl (lv_at hl 1 rfl) ?_
      refine z_iload_n X.1 dX4_joined_100 rfl (lv_at hl 2 rfl) ?_
      obtain ⟨r4, hc4, hf⟩ := z_bind hf
      refine c_callSi [.int x1, .int x2] X hl.1 (c_J9_floorDiv_7cf53 D cy ad X.2.2 hc4) cm_X4_117 cw_J9_floorDiv_7cf53 rfl cq_J9_floorDiv_7cf53 ⟨by decide, by decide⟩ (Nat.le_of_ble_eq_true rfl) rfl dX4_joined_101 ?_
      refine z_i2l X.1 dX4_joined_104 ?_
      obtain ⟨r5, hc5, hf⟩ := z_bind hf
      refine c_callSi [.long r4.toInt64] X hl.1 (c_X4_bounded D cy ad X.2.2 hc5) cm_X4_113 cw_X4_bounded rfl cq_X4_bounded ⟨by decide, by decide⟩ (Nat.le_of_ble_eq_true rfl) rfl dX4_joined_105 ?_
      exact c_iretS X Z hf rfl dX4_joined_108
    · have hf := (if_pos c_).symm.trans hf
      refine z_iconst (v := 0) X.1 dX4_joined_95 (by decide) ?_
      refine z_goto (tgt := 108) X.1 dX4_joined_96 (by decide) ?_
      exact c_iretS X Z hf rfl dX4_joined_108
  have hf := (if_neg c3_).symm.trans hf
  have d3_ := lv_neT (a := 8) c3_ (by decide)
  by_cases c4_ : x0 = 9
  · have hf := (if_pos c4_).symm.trans hf
    refine z_tabIn (tgt := 109) (off := 108) X.1 dX4_joined_1 (by rw [c4_]; decide) (by rw [c4_]; decide) (by rw [c4_]; rfl) (by decide) ?_
    refine z_iload_n X.1 dX4_joined_109 rfl (lv_at hl 2 rfl) ?_
    refine z_if_ne (tgt := 117) X.1 dX4_joined_110 (by decide) (fun c_ => ?_) (fun c_ => ?_)
    · have hf := (if_neg c_).symm.trans hf
      refine z_iload_n X.1 dX4_joined_117 rfl (lv_at hl 1 rfl) ?_
      refine z_iload_n X.1 dX4_joined_118 rfl (lv_at hl 2 rfl) ?_
      obtain ⟨r6, hc6, hf⟩ := z_bind hf
      refine c_callSi [.int x1, .int x2] X hl.1 (c_J9_floorMod_7cf53 D cy ad X.2.2 hc6) cm_X4_120 cw_J9_floorMod_7cf53 rfl cq_J9_floorMod_7cf53 ⟨by decide, by decide⟩ (Nat.le_of_ble_eq_true rfl) rfl dX4_joined_119 ?_
      exact c_iretS X Z hf rfl dX4_joined_122
    · have hf := (if_pos c_).symm.trans hf
      refine z_iconst (v := 0) X.1 dX4_joined_113 (by decide) ?_
      refine z_goto (tgt := 122) X.1 dX4_joined_114 (by decide) ?_
      exact c_iretS X Z hf rfl dX4_joined_122
  have hf := (if_neg c4_).symm.trans hf
  have d4_ := lv_neT (a := 9) c4_ (by decide)
  by_cases c5_ : x0 = 10
  · have hf := (if_pos c5_).symm.trans hf
    refine z_tabIn (tgt := 123) (off := 122) X.1 dX4_joined_1 (by rw [c5_]; decide) (by rw [c5_]; decide) (by rw [c5_]; rfl) (by decide) ?_
    refine z_iload_n X.1 dX4_joined_123 rfl (lv_at hl 1 rfl) ?_
    refine z_iload_n X.1 dX4_joined_124 rfl (lv_at hl 2 rfl) ?_
    refine c_min X hl.1 cj_X4_41 ⟨by decide, Nat.le_of_ble_eq_true rfl⟩ dX4_joined_125 ?_
    exact c_iretS X Z hf rfl dX4_joined_128
  have hf := (if_neg c5_).symm.trans hf
  have d5_ := lv_neT (a := 10) c5_ (by decide)
  by_cases c6_ : x0 = 11
  · have hf := (if_pos c6_).symm.trans hf
    refine z_tabIn (tgt := 129) (off := 128) X.1 dX4_joined_1 (by rw [c6_]; decide) (by rw [c6_]; decide) (by rw [c6_]; rfl) (by decide) ?_
    refine z_iload_n X.1 dX4_joined_129 rfl (lv_at hl 1 rfl) ?_
    refine z_iload_n X.1 dX4_joined_130 rfl (lv_at hl 2 rfl) ?_
    refine c_max X hl.1 cj_X4_123 ⟨by decide, Nat.le_of_ble_eq_true rfl⟩ dX4_joined_131 ?_
    exact c_iretS X Z hf rfl dX4_joined_134
  have hf := (if_neg c6_).symm.trans hf
  have d6_ := lv_neT (a := 11) c6_ (by decide)
  by_cases c7_ : x0 = 12
  · have hf := (if_pos c7_).symm.trans hf
    refine z_tabIn (tgt := 135) (off := 134) X.1 dX4_joined_1 (by rw [c7_]; decide) (by rw [c7_]; decide) (by rw [c7_]; rfl) (by decide) ?_
    refine z_iload_n X.1 dX4_joined_135 rfl (lv_at hl 1 rfl) ?_
    refine z_iload_n X.1 dX4_joined_136 rfl (lv_at hl 2 rfl) ?_
    refine z_ior X.1 dX4_joined_137 ?_
    exact c_iretS X Z hf rfl dX4_joined_138
  have hf := (if_neg c7_).symm.trans hf
  have d7_ := lv_neT (a := 12) c7_ (by decide)
  by_cases c8_ : x0 = 13
  · have hf := (if_pos c8_).symm.trans hf
    refine z_tabIn (tgt := 139) (off := 138) X.1 dX4_joined_1 (by rw [c8_]; decide) (by rw [c8_]; decide) (by rw [c8_]; rfl) (by decide) ?_
    refine z_iload_n X.1 dX4_joined_139 rfl (lv_at hl 1 rfl) ?_
    refine z_iload_n X.1 dX4_joined_140 rfl (lv_at hl 2 rfl) ?_
    refine z_iand X.1 dX4_joined_141 ?_
    exact c_iretS X Z hf rfl dX4_joined_142
  have hf := (if_neg c8_).symm.trans hf
  have d8_ := lv_neT (a := 13) c8_ (by decide)
  by_cases c9_ : x0 = 14
  · have hf := (if_pos c9_).symm.trans hf
    refine z_tabIn (tgt := 143) (off := 142) X.1 dX4_joined_1 (by rw [c9_]; decide) (by rw [c9_]; decide) (by rw [c9_]; rfl) (by decide) ?_
    refine z_iload_n X.1 dX4_joined_143 rfl (lv_at hl 1 rfl) ?_
    refine z_iload_n X.1 dX4_joined_144 rfl (lv_at hl 2 rfl) ?_
    refine z_icmp_ge (tgt := 152) X.1 dX4_joined_145 (by decide) (fun c_ => ?_) (fun c_ => ?_)
    · have hf := (if_pos c_).symm.trans hf
      refine z_iconst (v := 0) X.1 dX4_joined_152 (by decide) ?_
      exact c_iretS X Z hf rfl dX4_joined_153
    · have hf := (if_neg c_).symm.trans hf
      refine z_iconst (v := 1) X.1 dX4_joined_148 (by decide) ?_
      refine z_goto (tgt := 153) X.1 dX4_joined_149 (by decide) ?_
      exact c_iretS X Z hf rfl dX4_joined_153
  have hf := (if_neg c9_).symm.trans hf
  have d9_ := lv_neT (a := 14) c9_ (by decide)
  by_cases c10_ : x0 = 15
  · have hf := (if_pos c10_).symm.trans hf
    refine z_tabIn (tgt := 154) (off := 153) X.1 dX4_joined_1 (by rw [c10_]; decide) (by rw [c10_]; decide) (by rw [c10_]; rfl) (by decide) ?_
    refine z_iload_n X.1 dX4_joined_154 rfl (lv_at hl 1 rfl) ?_
    refine z_iload_n X.1 dX4_joined_155 rfl (lv_at hl 2 rfl) ?_
    refine z_icmp_le (tgt := 163) X.1 dX4_joined_156 (by decide) (fun c_ => ?_) (fun c_ => ?_)
    · have hf := (if_pos c_).symm.trans hf
      refine z_iconst (v := 0) X.1 dX4_joined_163 (by decide) ?_
      exact c_iretS X Z hf rfl dX4_joined_164
    · have hf := (if_neg c_).symm.trans hf
      refine z_iconst (v := 1) X.1 dX4_joined_159 (by decide) ?_
      refine z_goto (tgt := 164) X.1 dX4_joined_160 (by decide) ?_
      exact c_iretS X Z hf rfl dX4_joined_164
  have hf := (if_neg c10_).symm.trans hf
  have d10_ := lv_neT (a := 15) c10_ (by decide)
  by_cases c11_ : x0 = 16
  · have hf := (if_pos c11_).symm.trans hf
    refine z_tabIn (tgt := 165) (off := 164) X.1 dX4_joined_1 (by rw [c11_]; decide) (by rw [c11_]; decide) (by rw [c11_]; rfl) (by decide) ?_
    refine z_iload_n X.1 dX4_joined_165 rfl (lv_at hl 1 rfl) ?_
    refine z_iload_n X.1 dX4_joined_166 rfl (lv_at hl 2 rfl) ?_
    refine z_icmp_ne (tgt := 174) X.1 dX4_joined_167 (by decide) (fun c_ => ?_) (fun c_ => ?_)
    · have hf := (if_neg c_).symm.trans hf
      refine z_iconst (v := 0) X.1 dX4_joined_174 (by decide) ?_
      exact c_iretS X Z hf rfl dX4_joined_175
    · have hf := (if_pos c_).symm.trans hf
      refine z_iconst (v := 1) X.1 dX4_joined_170 (by decide) ?_
      refine z_goto (tgt := 175) X.1 dX4_joined_171 (by decide) ?_
      exact c_iretS X Z hf rfl dX4_joined_175
  have hf := (if_neg c11_).symm.trans hf
  have d11_ := lv_neT (a := 16) c11_ (by decide)
  refine z_tabOut (tgt := 176) X.1 dX4_joined_1 (by omega) (by decide) ?_
  refine z_iconst (v := 0) X.1 dX4_joined_176 (by decide) ?_
  exact c_iretS X Z hf rfl dX4_joined_177

theorem c_X4_joined (D : va_G) (cy : Nat → ClassId) (ad : Nat → Nat) {n : Nat} {K N : Nat → Nat} {G : zG} (hWF : zWF n K G) {x0 : Int32} {x1 : Int32} {x2 : Int32} {V : zI} {L : zL} {r' : Int32} (hf : f_X4_joined x0 x1 x2 = some r') : RCi (zC D cy ad n K N G) yX4_joined cX4_joined 3 .int 2 46 [.int x0, .int x1, .int x2] V L r' V L := by
  unfold f_X4_joined at hf
  exact RCi.of (by decide) hWF (Nat.le_of_ble_eq_true rfl) (fun M X Z ls hl => w_X4_joined X Z x0 x1 x2 ls hl hf)
