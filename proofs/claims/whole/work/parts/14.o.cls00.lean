def g_X10_refuse (N : Nat → Nat) (G : zG) (p0 : Nat) (p0_16 : Nat) (x1 : Int32) (V : zI) (L : zL) : Option (Int32 × zI × zL) :=
  (if x1 < 0 then some ((-1), V, L) else (if 6 ≤ x1 then some ((-1), V, L) else if inB x1 (N p0_16) then if inB x1 (N p0_16) then some ((-1), z_uI V p0_16 x1.toNatClampNeg ((V p0_16 x1.toNatClampNeg) + 1), L) else none else none))
def f_X10_refuse (N : Nat → Nat) (G : zG) (p0 : Nat) (x1 : Int32) (V : zI) (L : zL) : Option (Int32 × zI × zL) :=
  (G p0 16).bind fun p0_16 => g_X10_refuse N G p0 p0_16 x1 V L
set_option maxHeartbeats 4000000 in
set_option maxRecDepth 100000 in
theorem w_X10_refuse {M : zM} {D : va_G} {cy : Nat → ClassId} {ad : Nat → Nat} {n : Nat} {K N : Nat → Nat} {G : zG} {r' : Int32 × zI × zL} (X : RXc M D cy ad n K N G cX10_refuse 2 RX10 0 0) (Z : RZi M (zC D cy ad n K N G) .int r'.1 r'.2.1 r'.2.2) {p0 : Nat} (hp0 : p0 < n ∧ K p0 = 8) {p0_16 : Nat} (hp0_16 : p0_16 < n ∧ K p0_16 = 100) (ep0_16 : G p0 16 = some p0_16) (x1 : Int32) (V : zI) (L : zL) (ls : Array Slot) (hl : lv_has ls 2 [(0, .ref (ad p0)), (1, .int x1)]) (hf : g_X10_refuse N G p0 p0_16 x1 V L = some r') : RG M (zC D cy ad n K N G) V L 0 ls [] := by
  unfold g_X10_refuse at hf
  refine z_iload_n X.1 dX10_refuse_0 rfl (lv_at hl 1 rfl) ?_
  refine z_if_lt (tgt := 20) X.1 dX10_refuse_1 (by decide) (fun c_ => ?_) (fun c_ => ?_)
  · have hf := (if_pos c_).symm.trans hf
    refine z_iconst (v := -1) X.1 dX10_refuse_20 (by decide) ?_
    exact c_iret X Z hf rfl dX10_refuse_21
  · have hf := (if_neg c_).symm.trans hf
    refine z_iload_n X.1 dX10_refuse_4 rfl (lv_at hl 1 rfl) ?_
    refine z_bipush (v := 6) X.1 dX10_refuse_5 (by decide) ?_
    refine z_icmp_ge (tgt := 20) X.1 dX10_refuse_7 (by decide) (fun c_ => ?_) (fun c_ => ?_)
    · have hf := (if_pos c_).symm.trans hf
      refine z_iconst (v := -1) X.1 dX10_refuse_20 (by decide) ?_
      exact c_iret X Z hf rfl dX10_refuse_21
    · have hf := (if_neg c_).symm.trans hf
      refine z_aload_n X.1 dX10_refuse_10 rfl (lv_at hl 0 rfl) ?_
      refine c_geta X hp0 cf_X10_77 ep0_16 dX10_refuse_11 ?_
      refine z_iload_n X.1 dX10_refuse_14 rfl (lv_at hl 1 rfl) ?_
      refine z_dup2 X.1 dX10_refuse_15 rfl rfl ?_
      obtain ⟨hb1, hf⟩ := z_ite hf
      refine c_iald X hp0_16 hb1 dX10_refuse_16 ?_
      refine z_iconst (v := 1) X.1 dX10_refuse_17 (by decide) ?_
      refine z_iadd X.1 dX10_refuse_18 ?_
      obtain ⟨hb2, hf⟩ := z_ite hf
      refine c_iast X hp0_16 hb2 dX10_refuse_19 ?_
      refine z_iconst (v := -1) X.1 dX10_refuse_20 (by decide) ?_
      exact c_iret X Z hf rfl dX10_refuse_21

theorem c_X10_refuse (D : va_G) (cy : Nat → ClassId) (ad : Nat → Nat) {n : Nat} {K N : Nat → Nat} {G : zG} (hWF : zWF n K G) {p0 : Nat} {x1 : Int32} {V : zI} {L : zL} (hp0 : p0 < n ∧ K p0 = 8) {r' : Int32 × zI × zL} (hf : f_X10_refuse N G p0 x1 V L = some r') : RCi (zC D cy ad n K N G) yX10_refuse cX10_refuse 2 .int 0 0 [.ref (ad p0), .int x1] V L r'.1 r'.2.1 r'.2.2 := by
  unfold f_X10_refuse at hf
  obtain ⟨p0_16, ep0_16, hf⟩ := z_bind hf
  have hp0_16 := hWF.get hp0 (k := 16) (c := 100) rfl ep0_16
  exact RCi.of (by decide) hWF (Nat.le_of_ble_eq_true rfl) (fun M X Z ls hl => w_X10_refuse X Z hp0 hp0_16 ep0_16 x1 V L ls hl hf)
def b_X10_putNumber_3 (N : Nat → Nat) (G : zG) (p0 : Nat) (p0_0 : Nat) (k3 : Int32 × Int32 × zI × zL → Option (zI × zL)) : Int32 × Int32 × zI × zL → Option (zI × zL) := fun ⟨x1, x2, V, L⟩ =>
  (if x2 < 0 then some (V, L) else (if 1600 ≤ (V p0 1) then some (V, L) else if inB (V p0 1) (N p0_0) then k3 (x1, (x2 + Int32.ofInt (-8)), z_uI (z_uI V p0_0 (V p0 1).toNatClampNeg (vp_nar .byte ((x1 >>> (x2 &&& 31)).toInt8.toInt32))) p0 1 (((z_uI V p0_0 (V p0 1).toNatClampNeg (vp_nar .byte ((x1 >>> (x2 &&& 31)).toInt8.toInt32))) p0 1) + 1), L) else none))
def g_X10_putNumber (N : Nat → Nat) (G : zG) (p0 : Nat) (p0_0 : Nat) (x1 : Int32) (V : zI) (L : zL) : Option (zI × zL) :=
  zfix (b_X10_putNumber_3 N G p0 p0_0) FU (x1, 24, V, L)
def f_X10_putNumber (N : Nat → Nat) (G : zG) (p0 : Nat) (x1 : Int32) (V : zI) (L : zL) : Option (zI × zL) :=
  (G p0 0).bind fun p0_0 => g_X10_putNumber N G p0 p0_0 x1 V L
set_option maxHeartbeats 4000000 in
set_option maxRecDepth 100000 in
theorem w_X10_putNumber_3 {M : zM} {D : va_G} {cy : Nat → ClassId} {ad : Nat → Nat} {n : Nat} {K N : Nat → Nat} {G : zG} {r' : zI × zL} (X : RXc M D cy ad n K N G cX10_putNumber 3 RX10 0 0) (Z : RZv M (zC D cy ad n K N G) r'.1 r'.2) {p0 : Nat} (hp0 : p0 < n ∧ K p0 = 8) {p0_0 : Nat} (hp0_0 : p0_0 < n ∧ K p0_0 = 101) (ep0_0 : G p0 0 = some p0_0) (nn : Nat) : ∀ (x1 : Int32) (x2 : Int32) (V : zI) (L : zL) (ls : Array Slot) (hl : lv_has ls 3 [(0, .ref (ad p0)), (1, .int x1), (2, .int x2)]) (hf : zfix (b_X10_putNumber_3 N G p0 p0_0) nn (x1, x2, V, L) = some r'), RG M (zC D cy ad n K N G) V L 3 ls [] := by
  induction nn with
  | zero => intro x1 x2 V L ls hl hf; cases hf
  | succ nn ih =>
  intro x1 x2 V L ls hl hf
  have hk3 : ∀ (x1 : Int32) (x2 : Int32) (V : zI) (L : zL) (ls : Array Slot), lv_has ls 3 [(0, .ref (ad p0)), (1, .int x1), (2, .int x2)] → zfix (b_X10_putNumber_3 N G p0 p0_0) nn (x1, x2, V, L) = some r' → RG M (zC D cy ad n K N G) V L 3 ls [] := ih
  have hf : b_X10_putNumber_3 N G p0 p0_0 (zfix (b_X10_putNumber_3 N G p0 p0_0) nn) (x1, x2, V, L) = some r' := hf
  generalize zfix (b_X10_putNumber_3 N G p0 p0_0) nn = k3 at hk3 hf
  clear ih
  unfold b_X10_putNumber_3 at hf
  refine z_iload_n X.1 dX10_putNumber_3 rfl (lv_at hl 2 rfl) ?_
  refine z_if_lt (tgt := 46) X.1 dX10_putNumber_4 (by decide) (fun c_ => ?_) (fun c_ => ?_)
  · have hf := (if_pos c_).symm.trans hf
    exact c_vret X Z hf dX10_putNumber_46
  · have hf := (if_neg c_).symm.trans hf
    refine z_aload_n X.1 dX10_putNumber_7 rfl (lv_at hl 0 rfl) ?_
    refine c_geti X hp0 cf_X10_13 dX10_putNumber_8 ?_
    refine z_sipush (v := 1600) X.1 dX10_putNumber_11 (by decide) ?_
    refine z_icmp_ge (tgt := 46) X.1 dX10_putNumber_14 (by decide) (fun c_ => ?_) (fun c_ => ?_)
    · have hf := (if_pos c_).symm.trans hf
      exact c_vret X Z hf dX10_putNumber_46
    · have hf := (if_neg c_).symm.trans hf
      refine z_aload_n X.1 dX10_putNumber_17 rfl (lv_at hl 0 rfl) ?_
      refine c_geta X hp0 cf_X10_9 ep0_0 dX10_putNumber_18 ?_
      refine z_aload_n X.1 dX10_putNumber_21 rfl (lv_at hl 0 rfl) ?_
      refine c_geti X hp0 cf_X10_13 dX10_putNumber_22 ?_
      refine z_iload_n X.1 dX10_putNumber_25 rfl (lv_at hl 1 rfl) ?_
      refine z_iload_n X.1 dX10_putNumber_26 rfl (lv_at hl 2 rfl) ?_
      refine z_ishr X.1 dX10_putNumber_27 ?_
      refine z_i2b X.1 dX10_putNumber_28 ?_
      obtain ⟨hb1, hf⟩ := z_ite hf
      refine c_bast X hp0_0 hb1 dX10_putNumber_29 ?_
      refine z_aload_n X.1 dX10_putNumber_30 rfl (lv_at hl 0 rfl) ?_
      refine z_dup X.1 dX10_putNumber_31 rfl ?_
      refine c_geti X hp0 cf_X10_13 dX10_putNumber_32 ?_
      refine z_iconst (v := 1) X.1 dX10_putNumber_35 (by decide) ?_
      refine z_iadd X.1 dX10_putNumber_36 ?_
      refine c_puti X hp0 cf_X10_13 cg_X10 cp_X10_1 rfl rfl dX10_putNumber_37 ?_
      refine z_iinc (v := x2 + Int32.ofInt (-8)) (k0 := 2) (lv' := [(2, .int (x2 + Int32.ofInt (-8))), (0, .ref (ad p0)), (1, .int x1)]) X.1 dX10_putNumber_40 hl rfl rfl (by decide) rfl (fun ls hl => ?_)
      refine z_goto (tgt := 3) X.1 dX10_putNumber_43 (by decide) ?_
      exact hk3 x1 (x2 + Int32.ofInt (-8)) (z_uI (z_uI V p0_0 (V p0 1).toNatClampNeg (vp_nar .byte ((x1 >>> (x2 &&& 31)).toInt8.toInt32))) p0 1 (((z_uI V p0_0 (V p0 1).toNatClampNeg (vp_nar .byte ((x1 >>> (x2 &&& 31)).toInt8.toInt32))) p0 1) + 1)) L ls (lv_sub hl [1, 2, 0] rfl) hf

set_option maxHeartbeats 4000000 in
set_option maxRecDepth 100000 in
theorem w_X10_putNumber {M : zM} {D : va_G} {cy : Nat → ClassId} {ad : Nat → Nat} {n : Nat} {K N : Nat → Nat} {G : zG} {r' : zI × zL} (X : RXc M D cy ad n K N G cX10_putNumber 3 RX10 0 0) (Z : RZv M (zC D cy ad n K N G) r'.1 r'.2) {p0 : Nat} (hp0 : p0 < n ∧ K p0 = 8) {p0_0 : Nat} (hp0_0 : p0_0 < n ∧ K p0_0 = 101) (ep0_0 : G p0 0 = some p0_0) (x1 : Int32) (V : zI) (L : zL) (ls : Array Slot) (hl : lv_has ls 3 [(0, .ref (ad p0)), (1, .int x1)]) (hf : g_X10_putNumber N G p0 p0_0 x1 V L = some r') : RG M (zC D cy ad n K N G) V L 0 ls [] := by
  unfold g_X10_putNumber at hf
  refine z_bipush (v := 24) X.1 dX10_putNumber_0 (by decide) ?_
  refine z_istore_n (lv' := [(2, .int 24), (0, .ref (ad p0)), (1, .int x1)]) X.1 dX10_putNumber_2 rfl hl (by decide) rfl (fun ls hl => ?_)
  exact w_X10_putNumber_3 X Z hp0 hp0_0 ep0_0 FU x1 24 V L ls (lv_sub hl [1, 2, 0] rfl) hf

theorem c_X10_putNumber (D : va_G) (cy : Nat → ClassId) (ad : Nat → Nat) {n : Nat} {K N : Nat → Nat} {G : zG} (hWF : zWF n K G) {p0 : Nat} {x1 : Int32} {V : zI} {L : zL} (hp0 : p0 < n ∧ K p0 = 8) {r' : zI × zL} (hf : f_X10_putNumber N G p0 x1 V L = some r') : RCv (zC D cy ad n K N G) yX10_putNumber cX10_putNumber 3 0 0 [.ref (ad p0), .int x1] V L r'.1 r'.2 := by
  unfold f_X10_putNumber at hf
  obtain ⟨p0_0, ep0_0, hf⟩ := z_bind hf
  have hp0_0 := hWF.get hp0 (k := 0) (c := 101) rfl ep0_0
  exact RCv.of (by decide) hWF (Nat.le_of_ble_eq_true rfl) (fun M X Z ls hl => w_X10_putNumber X Z hp0 hp0_0 ep0_0 x1 V L ls hl hf)
def g_X10_feed (N : Nat → Nat) (G : zG) (p0 : Nat) (x1 : Int32) (x2 : Int32) (x3 : Int32) (x4 : Int32) (x5 : Int32) (V : zI) (L : zL) : Option (Int32 × zI × zL) :=
  (if ((V p0 1) + 20) ≤ 1600 then (f_X10_putNumber N G p0 x1 V L).bind fun r1 => (f_X10_putNumber N G p0 x2 r1.1 r1.2).bind fun r2 => (f_X10_putNumber N G p0 x3 r2.1 r2.2).bind fun r3 => (f_X10_putNumber N G p0 x4 r3.1 r3.2).bind fun r4 => (f_X10_putNumber N G p0 x5 r4.1 r4.2).bind fun r5 => some (r5.1 p0 1, r5.1, r5.2) else (f_X10_refuse N G p0 0 V L).bind fun r6 => some (r6.1, r6.2.1, r6.2.2))
def f_X10_feed (N : Nat → Nat) (G : zG) (p0 : Nat) (x1 : Int32) (x2 : Int32) (x3 : Int32) (x4 : Int32) (x5 : Int32) (V : zI) (L : zL) : Option (Int32 × zI × zL) :=
  g_X10_feed N G p0 x1 x2 x3 x4 x5 V L
set_option maxHeartbeats 4000000 in
set_option maxRecDepth 100000 in
theorem w_X10_feed {M : zM} {D : va_G} {cy : Nat → ClassId} {ad : Nat → Nat} {n : Nat} {K N : Nat → Nat} {G : zG} {r' : Int32 × zI × zL} (X : RXc M D cy ad n K N G cX10_feed 6 RX10 1 22) (Z : RZi M (zC D cy ad n K N G) .int r'.1 r'.2.1 r'.2.2) {p0 : Nat} (hp0 : p0 < n ∧ K p0 = 8) (x1 : Int32) (x2 : Int32) (x3 : Int32) (x4 : Int32) (x5 : Int32) (V : zI) (L : zL) (ls : Array Slot) (hl : lv_has ls 6 [(0, .ref (ad p0)), (1, .int x1), (2, .int x2), (3, .int x3), (4, .int x4), (5, .int x5)]) (hf : g_X10_feed N G p0 x1 x2 x3 x4 x5 V L = some r') : RG M (zC D cy ad n K N G) V L 0 ls [] := by
  unfold g_X10_feed at hf
  refine z_aload_n X.1 dX10_feed_0 rfl (lv_at hl 0 rfl) ?_
  refine c_geti X hp0 cf_X10_13 dX10_feed_1 ?_
  refine z_bipush (v := 20) X.1 dX10_feed_4 (by decide) ?_
  refine z_iadd X.1 dX10_feed_6 ?_
  refine z_sipush (v := 1600) X.1 dX10_feed_7 (by decide) ?_
  refine z_icmp_le (tgt := 19) X.1 dX10_feed_10 (by decide) (fun c_ => ?_) (fun c_ => ?_)
  · have hf := (if_pos c_).symm.trans hf
    refine z_aload_n X.1 dX10_feed_19 rfl (lv_at hl 0 rfl) ?_
    refine z_iload_n X.1 dX10_feed_20 rfl (lv_at hl 1 rfl) ?_
    obtain ⟨r1, hc1, hf⟩ := z_bind hf
    refine c_callVv [.int x1] X hl.1 (c_X10_putNumber D cy ad X.2.2 hp0 hc1) hp0 ⟨by decide, rfl⟩ cm_X10_84 cw_X10_putNumber rfl cq_X10_putNumber ⟨by decide, by decide⟩ (Nat.le_of_ble_eq_true rfl) rfl dX10_feed_21 ?_
    refine z_aload_n X.1 dX10_feed_24 rfl (lv_at hl 0 rfl) ?_
    refine z_iload_n X.1 dX10_feed_25 rfl (lv_at hl 2 rfl) ?_
    obtain ⟨r2, hc2, hf⟩ := z_bind hf
    refine c_callVv [.int x2] X hl.1 (c_X10_putNumber D cy ad X.2.2 hp0 hc2) hp0 ⟨by decide, rfl⟩ cm_X10_84 cw_X10_putNumber rfl cq_X10_putNumber ⟨by decide, by decide⟩ (Nat.le_of_ble_eq_true rfl) rfl dX10_feed_26 ?_
    refine z_aload_n X.1 dX10_feed_29 rfl (lv_at hl 0 rfl) ?_
    refine z_iload_n X.1 dX10_feed_30 rfl (lv_at hl 3 rfl) ?_
    obtain ⟨r3, hc3, hf⟩ := z_bind hf
    refine c_callVv [.int x3] X hl.1 (c_X10_putNumber D cy ad X.2.2 hp0 hc3) hp0 ⟨by decide, rfl⟩ cm_X10_84 cw_X10_putNumber rfl cq_X10_putNumber ⟨by decide, by decide⟩ (Nat.le_of_ble_eq_true rfl) rfl dX10_feed_31 ?_
    refine z_aload_n X.1 dX10_feed_34 rfl (lv_at hl 0 rfl) ?_
    refine z_iload X.1 dX10_feed_35 (lv_at hl 4 rfl) ?_
    obtain ⟨r4, hc4, hf⟩ := z_bind hf
    refine c_callVv [.int x4] X hl.1 (c_X10_putNumber D cy ad X.2.2 hp0 hc4) hp0 ⟨by decide, rfl⟩ cm_X10_84 cw_X10_putNumber rfl cq_X10_putNumber ⟨by decide, by decide⟩ (Nat.le_of_ble_eq_true rfl) rfl dX10_feed_37 ?_
    refine z_aload_n X.1 dX10_feed_40 rfl (lv_at hl 0 rfl) ?_
    refine z_iload X.1 dX10_feed_41 (lv_at hl 5 rfl) ?_
    obtain ⟨r5, hc5, hf⟩ := z_bind hf
    refine c_callVv [.int x5] X hl.1 (c_X10_putNumber D cy ad X.2.2 hp0 hc5) hp0 ⟨by decide, rfl⟩ cm_X10_84 cw_X10_putNumber rfl cq_X10_putNumber ⟨by decide, by decide⟩ (Nat.le_of_ble_eq_true rfl) rfl dX10_feed_43 ?_
    refine z_aload_n X.1 dX10_feed_46 rfl (lv_at hl 0 rfl) ?_
    refine c_geti X hp0 cf_X10_13 dX10_feed_47 ?_
    exact c_iret X Z hf rfl dX10_feed_50
  · have hf := (if_neg c_).symm.trans hf
    refine z_aload_n X.1 dX10_feed_13 rfl (lv_at hl 0 rfl) ?_
    refine z_iconst (v := 0) X.1 dX10_feed_14 (by decide) ?_
    obtain ⟨r6, hc6, hf⟩ := z_bind hf
    refine c_callVi [.int 0] X hl.1 (c_X10_refuse D cy ad X.2.2 hp0 hc6) hp0 ⟨by decide, rfl⟩ cm_X10_80 cw_X10_refuse rfl cq_X10_refuse ⟨by decide, by decide⟩ (Nat.le_of_ble_eq_true rfl) rfl dX10_feed_15 ?_
    exact c_iret X Z hf rfl dX10_feed_18

theorem c_X10_feed (D : va_G) (cy : Nat → ClassId) (ad : Nat → Nat) {n : Nat} {K N : Nat → Nat} {G : zG} (hWF : zWF n K G) {p0 : Nat} {x1 : Int32} {x2 : Int32} {x3 : Int32} {x4 : Int32} {x5 : Int32} {V : zI} {L : zL} (hp0 : p0 < n ∧ K p0 = 8) {r' : Int32 × zI × zL} (hf : f_X10_feed N G p0 x1 x2 x3 x4 x5 V L = some r') : RCi (zC D cy ad n K N G) yX10_feed cX10_feed 6 .int 1 22 [.ref (ad p0), .int x1, .int x2, .int x3, .int x4, .int x5] V L r'.1 r'.2.1 r'.2.2 := by
  unfold f_X10_feed at hf
  exact RCi.of (by decide) hWF (Nat.le_of_ble_eq_true rfl) (fun M X Z ls hl => w_X10_feed X Z hp0 x1 x2 x3 x4 x5 V L ls hl hf)
def f_X10_end_12 (N : Nat → Nat) (G : zG) (p0 : Nat) (V : zI) (L : zL) : Option (Int32 × zI × zL) :=
  (f_X10_refuse N G p0 0 V L).bind fun r1 => some (0, r1.2.1, r1.2.2)
def g_X10_end (N : Nat → Nat) (G : zG) (p0 : Nat) (x1 : Int32) (V : zI) (L : zL) : Option (Int32 × zI × zL) :=
  (if x1 < 0 then f_X10_end_12 N G p0 V L else (if x1 ≤ (V p0 1) then some (1, z_uI V p0 1 x1, L) else f_X10_end_12 N G p0 V L))
def f_X10_end (N : Nat → Nat) (G : zG) (p0 : Nat) (x1 : Int32) (V : zI) (L : zL) : Option (Int32 × zI × zL) :=
  g_X10_end N G p0 x1 V L
set_option maxHeartbeats 4000000 in
set_option maxRecDepth 100000 in
theorem w_X10_end_12 {M : zM} {D : va_G} {cy : Nat → ClassId} {ad : Nat → Nat} {n : Nat} {K N : Nat → Nat} {G : zG} {r' : Int32 × zI × zL} (X : RXc M D cy ad n K N G cX10_end 2 RX10 1 21) (Z : RZi M (zC D cy ad n K N G) .boolean r'.1 r'.2.1 r'.2.2) {p0 : Nat} (hp0 : p0 < n ∧ K p0 = 8)  (V : zI) (L : zL) (ls : Array Slot) (hl : lv_has ls 2 [(0, .ref (ad p0))]) (hf : f_X10_end_12 N G p0 V L = some r') : RG M (zC D cy ad n K N G) V L 12 ls [] := by
  unfold f_X10_end_12 at hf
  refine z_aload_n X.1 dX10_end_12 rfl (lv_at hl 0 rfl) ?_
  refine z_iconst (v := 0) X.1 dX10_end_13 (by decide) ?_
  obtain ⟨r1, hc1, hf⟩ := z_bind hf
  refine c_callVi [.int 0] X hl.1 (c_X10_refuse D cy ad X.2.2 hp0 hc1) hp0 ⟨by decide, rfl⟩ cm_X10_80 cw_X10_refuse rfl cq_X10_refuse ⟨by decide, by decide⟩ (Nat.le_of_ble_eq_true rfl) rfl dX10_end_14 ?_
  refine z_pop X.1 dX10_end_17 rfl ?_
  refine z_iconst (v := 0) X.1 dX10_end_18 (by decide) ?_
  exact c_iret X Z hf (by decide) dX10_end_19

set_option maxHeartbeats 4000000 in
set_option maxRecDepth 100000 in
theorem w_X10_end {M : zM} {D : va_G} {cy : Nat → ClassId} {ad : Nat → Nat} {n : Nat} {K N : Nat → Nat} {G : zG} {r' : Int32 × zI × zL} (X : RXc M D cy ad n K N G cX10_end 2 RX10 1 21) (Z : RZi M (zC D cy ad n K N G) .boolean r'.1 r'.2.1 r'.2.2) {p0 : Nat} (hp0 : p0 < n ∧ K p0 = 8) (x1 : Int32) (V : zI) (L : zL) (ls : Array Slot) (hl : lv_has ls 2 [(0, .ref (ad p0)), (1, .int x1)]) (hf : g_X10_end N G p0 x1 V L = some r') : RG M (zC D cy ad n K N G) V L 0 ls [] := by
  unfold g_X10_end at hf
  refine z_iload_n X.1 dX10_end_0 rfl (lv_at hl 1 rfl) ?_
  refine z_if_lt (tgt := 12) X.1 dX10_end_1 (by decide) (fun c_ => ?_) (fun c_ => ?_)
  · have hf := (if_pos c_).symm.trans hf
    exact w_X10_end_12 X Z hp0 V L ls (lv_sub hl [0] rfl) hf
  · have hf := (if_neg c_).symm.trans hf
    refine z_iload_n X.1 dX10_end_4 rfl (lv_at hl 1 rfl) ?_
    refine z_aload_n X.1 dX10_end_5 rfl (lv_at hl 0 rfl) ?_
    refine c_geti X hp0 cf_X10_13 dX10_end_6 ?_
    refine z_icmp_le (tgt := 20) X.1 dX10_end_9 (by decide) (fun c_ => ?_) (fun c_ => ?_)
    · have hf := (if_pos c_).symm.trans hf
      refine z_aload_n X.1 dX10_end_20 rfl (lv_at hl 0 rfl) ?_
      refine z_iload_n X.1 dX10_end_21 rfl (lv_at hl 1 rfl) ?_
      refine c_puti X hp0 cf_X10_13 cg_X10 cp_X10_1 rfl rfl dX10_end_22 ?_
      refine z_iconst (v := 1) X.1 dX10_end_25 (by decide) ?_
      exact c_iret X Z hf (by decide) dX10_end_26
    · have hf := (if_neg c_).symm.trans hf
      exact w_X10_end_12 X Z hp0 V L ls (lv_sub hl [0] rfl) hf

theorem c_X10_end (D : va_G) (cy : Nat → ClassId) (ad : Nat → Nat) {n : Nat} {K N : Nat → Nat} {G : zG} (hWF : zWF n K G) {p0 : Nat} {x1 : Int32} {V : zI} {L : zL} (hp0 : p0 < n ∧ K p0 = 8) {r' : Int32 × zI × zL} (hf : f_X10_end N G p0 x1 V L = some r') : RCi (zC D cy ad n K N G) yX10_end cX10_end 2 .boolean 1 21 [.ref (ad p0), .int x1] V L r'.1 r'.2.1 r'.2.2 := by
  unfold f_X10_end at hf
  exact RCi.of (by decide) hWF (Nat.le_of_ble_eq_true rfl) (fun M X Z ls hl => w_X10_end X Z hp0 x1 V L ls hl hf)
def f_X8_kindOf_28 (x0 : Int32) : Option (Int32) :=
  (if x0 = 10 then some 0 else (if x0 = 32 then some 0 else some 1))
def f_X8_kindOf_14 (x0 : Int32) : Option (Int32) :=
  (if x0 < 48 then f_X8_kindOf_28 x0 else (if 57 < x0 then f_X8_kindOf_28 x0 else some 2))
def g_X8_kindOf (x0 : Int32) : Option (Int32) :=
  (if x0 < 97 then f_X8_kindOf_14 x0 else (if 122 < x0 then f_X8_kindOf_14 x0 else some 3))
def f_X8_kindOf (x0 : Int32) : Option (Int32) :=
  g_X8_kindOf x0
set_option maxHeartbeats 4000000 in
set_option maxRecDepth 100000 in
theorem w_X8_kindOf_28 {M : zM} {D : va_G} {cy : Nat → ClassId} {ad : Nat → Nat} {n : Nat} {K N : Nat → Nat} {G : zG} {V : zI} {L : zL} {r' : Int32} (X : RXc M D cy ad n K N G cX8_kindOf 1 RX8 0 0) (Z : RZi M (zC D cy ad n K N G) .int r' V L) (x0 : Int32) (ls : Array Slot) (hl : lv_has ls 1 [(0, .int x0)]) (hf : f_X8_kindOf_28 x0 = some r') : RG M (zC D cy ad n K N G) V L 28 ls [] := by
  unfold f_X8_kindOf_28 at hf
  refine z_iload_n X.1 dX8_kindOf_28 rfl (lv_at hl 0 rfl) ?_
  refine z_bipush (v := 10) X.1 dX8_kindOf_29 (by decide) ?_
  refine z_icmp_eq (tgt := 40) X.1 dX8_kindOf_31 (by decide) (fun c_ => ?_) (fun c_ => ?_)
  · have hf := (if_pos c_).symm.trans hf
    refine z_iconst (v := 0) X.1 dX8_kindOf_40 (by decide) ?_
    refine z_goto (tgt := 45) X.1 dX8_kindOf_41 (by decide) ?_
    exact c_iretS X Z hf rfl dX8_kindOf_45
  · have hf := (if_neg c_).symm.trans hf
    refine z_iload_n X.1 dX8_kindOf_34 rfl (lv_at hl 0 rfl) ?_
    refine z_bipush (v := 32) X.1 dX8_kindOf_35 (by decide) ?_
    refine z_icmp_ne (tgt := 44) X.1 dX8_kindOf_37 (by decide) (fun c_ => ?_) (fun c_ => ?_)
    · have hf := (if_neg c_).symm.trans hf
      refine z_iconst (v := 1) X.1 dX8_kindOf_44 (by decide) ?_
      exact c_iretS X Z hf rfl dX8_kindOf_45
    · have hf := (if_pos c_).symm.trans hf
      refine z_iconst (v := 0) X.1 dX8_kindOf_40 (by decide) ?_
      refine z_goto (tgt := 45) X.1 dX8_kindOf_41 (by decide) ?_
      exact c_iretS X Z hf rfl dX8_kindOf_45

set_option maxHeartbeats 4000000 in
set_option maxRecDepth 100000 in
theorem w_X8_kindOf_14 {M : zM} {D : va_G} {cy : Nat → ClassId} {ad : Nat → Nat} {n : Nat} {K N : Nat → Nat} {G : zG} {V : zI} {L : zL} {r' : Int32} (X : RXc M D cy ad n K N G cX8_kindOf 1 RX8 0 0) (Z : RZi M (zC D cy ad n K N G) .int r' V L) (x0 : Int32) (ls : Array Slot) (hl : lv_has ls 1 [(0, .int x0)]) (hf : f_X8_kindOf_14 x0 = some r') : RG M (zC D cy ad n K N G) V L 14 ls [] := by
  unfold f_X8_kindOf_14 at hf
  refine z_iload_n X.1 dX8_kindOf_14 rfl (lv_at hl 0 rfl) ?_
  refine z_bipush (v := 48) X.1 dX8_kindOf_15 (by decide) ?_
  refine z_icmp_lt (tgt := 28) X.1 dX8_kindOf_17 (by decide) (fun c_ => ?_) (fun c_ => ?_)
  · have hf := (if_pos c_).symm.trans hf
    exact w_X8_kindOf_28 X Z x0 ls (lv_sub hl [0] rfl) hf
  · have hf := (if_neg c_).symm.trans hf
    refine z_iload_n X.1 dX8_kindOf_20 rfl (lv_at hl 0 rfl) ?_
    refine z_bipush (v := 57) X.1 dX8_kindOf_21 (by decide) ?_
    refine z_icmp_gt (tgt := 28) X.1 dX8_kindOf_23 (by decide) (fun c_ => ?_) (fun c_ => ?_)
    · have hf := (if_pos c_).symm.trans hf
      exact w_X8_kindOf_28 X Z x0 ls (lv_sub hl [0] rfl) hf
    · have hf := (if_neg c_).symm.trans hf
      refine z_iconst (v := 2) X.1 dX8_kindOf_26 (by decide) ?_
      exact c_iretS X Z hf rfl dX8_kindOf_27

set_option maxHeartbeats 4000000 in
set_option maxRecDepth 100000 in
theorem w_X8_kindOf {M : zM} {D : va_G} {cy : Nat → ClassId} {ad : Nat → Nat} {n : Nat} {K N : Nat → Nat} {G : zG} {V : zI} {L : zL} {r' : Int32} (X : RXc M D cy ad n K N G cX8_kindOf 1 RX8 0 0) (Z : RZi M (zC D cy ad n K N G) .int r' V L) (x0 : Int32) (ls : Array Slot) (hl : lv_has ls 1 [(0, .int x0)]) (hf : g_X8_kindOf x0 = some r') : RG M (zC D cy ad n K N G) V L 0 ls [] := by
  unfold g_X8_kindOf at hf
  refine z_iload_n X.1 dX8_kindOf_0 rfl (lv_at hl 0 rfl) ?_
  refine z_bipush (v := 97) X.1 dX8_kindOf_1 (by decide) ?_
  refine z_icmp_lt (tgt := 14) X.1 dX8_kindOf_3 (by decide) (fun c_ => ?_) (fun c_ => ?_)
  · have hf := (if_pos c_).symm.trans hf
    exact w_X8_kindOf_14 X Z x0 ls (lv_sub hl [0] rfl) hf
  · have hf := (if_neg c_).symm.trans hf
    refine z_iload_n X.1 dX8_kindOf_6 rfl (lv_at hl 0 rfl) ?_
    refine z_bipush (v := 122) X.1 dX8_kindOf_7 (by decide) ?_
    refine z_icmp_gt (tgt := 14) X.1 dX8_kindOf_9 (by decide) (fun c_ => ?_) (fun c_ => ?_)
    · have hf := (if_pos c_).symm.trans hf
      exact w_X8_kindOf_14 X Z x0 ls (lv_sub hl [0] rfl) hf
    · have hf := (if_neg c_).symm.trans hf
      refine z_iconst (v := 3) X.1 dX8_kindOf_12 (by decide) ?_
      exact c_iretS X Z hf rfl dX8_kindOf_13

theorem c_X8_kindOf (D : va_G) (cy : Nat → ClassId) (ad : Nat → Nat) {n : Nat} {K N : Nat → Nat} {G : zG} (hWF : zWF n K G) {x0 : Int32} {V : zI} {L : zL} {r' : Int32} (hf : f_X8_kindOf x0 = some r') : RCi (zC D cy ad n K N G) yX8_kindOf cX8_kindOf 1 .int 0 0 [.int x0] V L r' V L := by
  unfold f_X8_kindOf at hf
  exact RCi.of (by decide) hWF (Nat.le_of_ble_eq_true rfl) (fun M X Z ls hl => w_X8_kindOf X Z x0 ls hl hf)
def g_X8_spoil (N : Nat → Nat) (G : zG) (p0 : Nat) (p0_0 : Nat) (p0_1 : Nat) (x1 : Int32) (V : zI) (L : zL) : Option (zI × zL) :=
  (if (V p0 3) ≤ 0 then some (V, L) else if inB ((V p0 3) - 1) (N p0_0) then (if (V p0_0 ((V p0 3) - 1).toNatClampNeg) = 5 then some (V, L) else if inB ((V p0 3) - 1) (N p0_0) then if inB (((z_uI V p0_0 ((V p0 3) - 1).toNatClampNeg 5) p0 3) - 1) (N p0_1) then some (z_uI (z_uI V p0_0 ((V p0 3) - 1).toNatClampNeg 5) p0_1 (((z_uI V p0_0 ((V p0 3) - 1).toNatClampNeg 5) p0 3) - 1).toNatClampNeg x1, L) else none else none) else none)
def f_X8_spoil (N : Nat → Nat) (G : zG) (p0 : Nat) (x1 : Int32) (V : zI) (L : zL) : Option (zI × zL) :=
  (G p0 0).bind fun p0_0 => (G p0 1).bind fun p0_1 => g_X8_spoil N G p0 p0_0 p0_1 x1 V L
set_option maxHeartbeats 4000000 in
set_option maxRecDepth 100000 in
theorem w_X8_spoil {M : zM} {D : va_G} {cy : Nat → ClassId} {ad : Nat → Nat} {n : Nat} {K N : Nat → Nat} {G : zG} {r' : zI × zL} (X : RXc M D cy ad n K N G cX8_spoil 2 RX8 0 0) (Z : RZv M (zC D cy ad n K N G) r'.1 r'.2) {p0 : Nat} (hp0 : p0 < n ∧ K p0 = 6) {p0_0 : Nat} (hp0_0 : p0_0 < n ∧ K p0_0 = 100) (ep0_0 : G p0 0 = some p0_0) {p0_1 : Nat} (hp0_1 : p0_1 < n ∧ K p0_1 = 100) (ep0_1 : G p0 1 = some p0_1) (x1 : Int32) (V : zI) (L : zL) (ls : Array Slot) (hl : lv_has ls 2 [(0, .ref (ad p0)), (1, .int x1)]) (hf : g_X8_spoil N G p0 p0_0 p0_1 x1 V L = some r') : RG M (zC D cy ad n K N G) V L 0 ls [] := by
  unfold g_X8_spoil at hf
  refine z_aload_n X.1 dX8_spoil_0 rfl (lv_at hl 0 rfl) ?_
  refine c_geti X hp0 cf_X8_7 dX8_spoil_1 ?_
  refine z_if_le (tgt := 46) X.1 dX8_spoil_4 (by decide) (fun c_ => ?_) (fun c_ => ?_)
  · have hf := (if_pos c_).symm.trans hf
    exact c_vret X Z hf dX8_spoil_46
  · have hf := (if_neg c_).symm.trans hf
    refine z_aload_n X.1 dX8_spoil_7 rfl (lv_at hl 0 rfl) ?_
    refine c_geta X hp0 cf_X8_19 ep0_0 dX8_spoil_8 ?_
    refine z_aload_n X.1 dX8_spoil_11 rfl (lv_at hl 0 rfl) ?_
    refine c_geti X hp0 cf_X8_7 dX8_spoil_12 ?_
    refine z_iconst (v := 1) X.1 dX8_spoil_15 (by decide) ?_
    refine z_isub X.1 dX8_spoil_16 ?_
    obtain ⟨hb1, hf⟩ := z_ite hf
    refine c_iald X hp0_0 hb1 dX8_spoil_17 ?_
    refine z_iconst (v := 5) X.1 dX8_spoil_18 (by decide) ?_
    refine z_icmp_eq (tgt := 46) X.1 dX8_spoil_19 (by decide) (fun c_ => ?_) (fun c_ => ?_)
    · have hf := (if_pos c_).symm.trans hf
      exact c_vret X Z hf dX8_spoil_46
    · have hf := (if_neg c_).symm.trans hf
      refine z_aload_n X.1 dX8_spoil_22 rfl (lv_at hl 0 rfl) ?_
      refine c_geta X hp0 cf_X8_19 ep0_0 dX8_spoil_23 ?_
      refine z_aload_n X.1 dX8_spoil_26 rfl (lv_at hl 0 rfl) ?_
      refine c_geti X hp0 cf_X8_7 dX8_spoil_27 ?_
      refine z_iconst (v := 1) X.1 dX8_spoil_30 (by decide) ?_
      refine z_isub X.1 dX8_spoil_31 ?_
      refine z_iconst (v := 5) X.1 dX8_spoil_32 (by decide) ?_
      obtain ⟨hb2, hf⟩ := z_ite hf
      refine c_iast X hp0_0 hb2 dX8_spoil_33 ?_
      refine z_aload_n X.1 dX8_spoil_34 rfl (lv_at hl 0 rfl) ?_
      refine c_geta X hp0 cf_X8_23 ep0_1 dX8_spoil_35 ?_
      refine z_aload_n X.1 dX8_spoil_38 rfl (lv_at hl 0 rfl) ?_
      refine c_geti X hp0 cf_X8_7 dX8_spoil_39 ?_
      refine z_iconst (v := 1) X.1 dX8_spoil_42 (by decide) ?_
      refine z_isub X.1 dX8_spoil_43 ?_
      refine z_iload_n X.1 dX8_spoil_44 rfl (lv_at hl 1 rfl) ?_
      obtain ⟨hb3, hf⟩ := z_ite hf
      refine c_iast X hp0_1 hb3 dX8_spoil_45 ?_
      exact c_vret X Z hf dX8_spoil_46

theorem c_X8_spoil (D : va_G) (cy : Nat → ClassId) (ad : Nat → Nat) {n : Nat} {K N : Nat → Nat} {G : zG} (hWF : zWF n K G) {p0 : Nat} {x1 : Int32} {V : zI} {L : zL} (hp0 : p0 < n ∧ K p0 = 6) {r' : zI × zL} (hf : f_X8_spoil N G p0 x1 V L = some r') : RCv (zC D cy ad n K N G) yX8_spoil cX8_spoil 2 0 0 [.ref (ad p0), .int x1] V L r'.1 r'.2 := by
  unfold f_X8_spoil at hf
  obtain ⟨p0_0, ep0_0, hf⟩ := z_bind hf
  have hp0_0 := hWF.get hp0 (k := 0) (c := 100) rfl ep0_0
  obtain ⟨p0_1, ep0_1, hf⟩ := z_bind hf
  have hp0_1 := hWF.get hp0 (k := 1) (c := 100) rfl ep0_1
  exact RCv.of (by decide) hWF (Nat.le_of_ble_eq_true rfl) (fun M X Z ls hl => w_X8_spoil X Z hp0 hp0_0 ep0_0 hp0_1 ep0_1 x1 V L ls hl hf)
def f_X8_lengthen_38 (N : Nat → Nat) (G : zG) (p0 : Nat) (p0_0 : Nat) (p0_1 : Nat) (p0_2 : Nat) (x2 : Int32) (x3 : Int32) (x4 : Int32) (x5 : Int32) (s0 : Int32) (s1 : Int32) (V : zI) (L : zL) : Option (zI × zL) :=
  (if s0 = s1 then (f_X8_spoil N G p0 x3 V L).bind fun r7 => some (r7.1, r7.2) else if inB x4 (N p0_0) then (if (V p0_0 x4.toNatClampNeg) = 3 then if inB x4 (N p0_1) then if inB x4 (N p0_1) then some (z_uI V p0_1 x4.toNatClampNeg ((V p0_1 x4.toNatClampNeg) ||| (((x2 - 97) + 1) <<< ((x5 * 5) &&& 31))), L) else none else none else if inB x4 (N p0_0) then (if (V p0_0 x4.toNatClampNeg) = 2 then if inB x4 (N p0_1) then if inB x4 (N p0_1) then some (z_uI V p0_1 x4.toNatClampNeg ((((V p0_1 x4.toNatClampNeg) * 10) + x2) - 48), L) else none else none else some (V, L)) else none) else none)
def g_X8_lengthen (N : Nat → Nat) (G : zG) (p0 : Nat) (p0_0 : Nat) (p0_1 : Nat) (p0_2 : Nat) (x1 : Int32) (x2 : Int32) (x3 : Int32) (V : zI) (L : zL) : Option (zI × zL) :=
  (if 0 ≤ ((V p0 3) - 1) then if inB ((V p0 3) - 1) (N p0_2) then (if x1 = 3 then f_X8_lengthen_38 N G p0 p0_0 p0_1 p0_2 x2 x3 ((V p0 3) - 1) (x3 - (V p0_2 ((V p0 3) - 1).toNatClampNeg)) (x3 - (V p0_2 ((V p0 3) - 1).toNatClampNeg)) 6 V L else f_X8_lengthen_38 N G p0 p0_0 p0_1 p0_2 x2 x3 ((V p0 3) - 1) (x3 - (V p0_2 ((V p0 3) - 1).toNatClampNeg)) (x3 - (V p0_2 ((V p0 3) - 1).toNatClampNeg)) 4 V L) else none else some (V, L))
def f_X8_lengthen (N : Nat → Nat) (G : zG) (p0 : Nat) (x1 : Int32) (x2 : Int32) (x3 : Int32) (V : zI) (L : zL) : Option (zI × zL) :=
  (G p0 0).bind fun p0_0 => (G p0 1).bind fun p0_1 => (G p0 2).bind fun p0_2 => g_X8_lengthen N G p0 p0_0 p0_1 p0_2 x1 x2 x3 V L
set_option maxHeartbeats 4000000 in
set_option maxRecDepth 100000 in
theorem w_X8_lengthen_38 {M : zM} {D : va_G} {cy : Nat → ClassId} {ad : Nat → Nat} {n : Nat} {K N : Nat → Nat} {G : zG} {r' : zI × zL} (X : RXc M D cy ad n K N G cX8_lengthen 6 RX8 1 21) (Z : RZv M (zC D cy ad n K N G) r'.1 r'.2) {p0 : Nat} (hp0 : p0 < n ∧ K p0 = 6) {p0_0 : Nat} (hp0_0 : p0_0 < n ∧ K p0_0 = 100) (ep0_0 : G p0 0 = some p0_0) {p0_1 : Nat} (hp0_1 : p0_1 < n ∧ K p0_1 = 100) (ep0_1 : G p0 1 = some p0_1) {p0_2 : Nat} (hp0_2 : p0_2 < n ∧ K p0_2 = 100) (ep0_2 : G p0 2 = some p0_2) (x2 : Int32) (x3 : Int32) (x4 : Int32) (x5 : Int32) (s0 : Int32) (s1 : Int32) (V : zI) (L : zL) (ls : Array Slot) (hl : lv_has ls 6 [(0, .ref (ad p0)), (2, .int x2), (3, .int x3), (4, .int x4), (5, .int x5)]) (hf : f_X8_lengthen_38 N G p0 p0_0 p0_1 p0_2 x2 x3 x4 x5 s0 s1 V L = some r') : RG M (zC D cy ad n K N G) V L 38 ls [.int s1, .int s0] := by
  unfold f_X8_lengthen_38 at hf
  refine z_icmp_ne (tgt := 49) X.1 dX8_lengthen_38 (by decide) (fun c_ => ?_) (fun c_ => ?_)
  · have hf := (if_neg c_).symm.trans hf
    refine z_aload_n X.1 dX8_lengthen_49 rfl (lv_at hl 0 rfl) ?_
    refine c_geta X hp0 cf_X8_19 ep0_0 dX8_lengthen_50 ?_
    refine z_iload X.1 dX8_lengthen_53 (lv_at hl 3 rfl) ?_
    obtain ⟨hb1, hf⟩ := z_ite hf
    refine c_iald X hp0_0 hb1 dX8_lengthen_55 ?_
    refine z_iconst (v := 3) X.1 dX8_lengthen_56 (by decide) ?_
    refine z_icmp_ne (tgt := 84) X.1 dX8_lengthen_57 (by decide) (fun c_ => ?_) (fun c_ => ?_)
    · have hf := (if_neg c_).symm.trans hf
      refine z_aload_n X.1 dX8_lengthen_84 rfl (lv_at hl 0 rfl) ?_
      refine c_geta X hp0 cf_X8_19 ep0_0 dX8_lengthen_85 ?_
      refine z_iload X.1 dX8_lengthen_88 (lv_at hl 3 rfl) ?_
      obtain ⟨hb2, hf⟩ := z_ite hf
      refine c_iald X hp0_0 hb2 dX8_lengthen_90 ?_
      refine z_iconst (v := 2) X.1 dX8_lengthen_91 (by decide) ?_
      refine z_icmp_ne (tgt := 117) X.1 dX8_lengthen_92 (by decide) (fun c_ => ?_) (fun c_ => ?_)
      · have hf := (if_neg c_).symm.trans hf
        exact c_vret X Z hf dX8_lengthen_117
      · have hf := (if_pos c_).symm.trans hf
        refine z_aload_n X.1 dX8_lengthen_95 rfl (lv_at hl 0 rfl) ?_
        refine c_geta X hp0 cf_X8_23 ep0_1 dX8_lengthen_96 ?_
        refine z_iload X.1 dX8_lengthen_99 (lv_at hl 3 rfl) ?_
        refine z_aload_n X.1 dX8_lengthen_101 rfl (lv_at hl 0 rfl) ?_
        refine c_geta X hp0 cf_X8_23 ep0_1 dX8_lengthen_102 ?_
        refine z_iload X.1 dX8_lengthen_105 (lv_at hl 3 rfl) ?_
        obtain ⟨hb3, hf⟩ := z_ite hf
        refine c_iald X hp0_1 hb3 dX8_lengthen_107 ?_
        refine z_bipush (v := 10) X.1 dX8_lengthen_108 (by decide) ?_
        refine z_imul X.1 dX8_lengthen_110 ?_
        refine z_iload_n X.1 dX8_lengthen_111 rfl (lv_at hl 1 rfl) ?_
        refine z_iadd X.1 dX8_lengthen_112 ?_
        refine z_bipush (v := 48) X.1 dX8_lengthen_113 (by decide) ?_
        refine z_isub X.1 dX8_lengthen_115 ?_
        obtain ⟨hb4, hf⟩ := z_ite hf
        refine c_iast X hp0_1 hb4 dX8_lengthen_116 ?_
        exact c_vret X Z hf dX8_lengthen_117
    · have hf := (if_pos c_).symm.trans hf
      refine z_aload_n X.1 dX8_lengthen_60 rfl (lv_at hl 0 rfl) ?_
      refine c_geta X hp0 cf_X8_23 ep0_1 dX8_lengthen_61 ?_
      refine z_iload X.1 dX8_lengthen_64 (lv_at hl 3 rfl) ?_
      refine z_dup2 X.1 dX8_lengthen_66 rfl rfl ?_
      obtain ⟨hb5, hf⟩ := z_ite hf
      refine c_iald X hp0_1 hb5 dX8_lengthen_67 ?_
      refine z_iload_n X.1 dX8_lengthen_68 rfl (lv_at hl 1 rfl) ?_
      refine z_bipush (v := 97) X.1 dX8_lengthen_69 (by decide) ?_
      refine z_isub X.1 dX8_lengthen_71 ?_
      refine z_iconst (v := 1) X.1 dX8_lengthen_72 (by decide) ?_
      refine z_iadd X.1 dX8_lengthen_73 ?_
      refine z_iload X.1 dX8_lengthen_74 (lv_at hl 4 rfl) ?_
      refine z_iconst (v := 5) X.1 dX8_lengthen_76 (by decide) ?_
      refine z_imul X.1 dX8_lengthen_77 ?_
      refine z_ishl X.1 dX8_lengthen_78 ?_
      refine z_ior X.1 dX8_lengthen_79 ?_
      obtain ⟨hb6, hf⟩ := z_ite hf
      refine c_iast X hp0_1 hb6 dX8_lengthen_80 ?_
      refine z_goto (tgt := 117) X.1 dX8_lengthen_81 (by decide) ?_
      exact c_vret X Z hf dX8_lengthen_117
  · have hf := (if_pos c_).symm.trans hf
    refine z_aload_n X.1 dX8_lengthen_41 rfl (lv_at hl 0 rfl) ?_
    refine z_iload_n X.1 dX8_lengthen_42 rfl (lv_at hl 2 rfl) ?_
    obtain ⟨r7, hc7, hf⟩ := z_bind hf
    refine c_callVv [.int x3] X hl.1 (c_X8_spoil D cy ad X.2.2 hp0 hc7) hp0 ⟨by decide, rfl⟩ cm_X8_40 cw_X8_spoil rfl cq_X8_spoil ⟨by decide, by decide⟩ (Nat.le_of_ble_eq_true rfl) rfl dX8_lengthen_43 ?_
    refine z_goto (tgt := 117) X.1 dX8_lengthen_46 (by decide) ?_
    exact c_vret X Z hf dX8_lengthen_117

set_option maxHeartbeats 4000000 in
set_option maxRecDepth 100000 in
theorem w_X8_lengthen {M : zM} {D : va_G} {cy : Nat → ClassId} {ad : Nat → Nat} {n : Nat} {K N : Nat → Nat} {G : zG} {r' : zI × zL} (X : RXc M D cy ad n K N G cX8_lengthen 6 RX8 1 21) (Z : RZv M (zC D cy ad n K N G) r'.1 r'.2) {p0 : Nat} (hp0 : p0 < n ∧ K p0 = 6) {p0_0 : Nat} (hp0_0 : p0_0 < n ∧ K p0_0 = 100) (ep0_0 : G p0 0 = some p0_0) {p0_1 : Nat} (hp0_1 : p0_1 < n ∧ K p0_1 = 100) (ep0_1 : G p0 1 = some p0_1) {p0_2 : Nat} (hp0_2 : p0_2 < n ∧ K p0_2 = 100) (ep0_2 : G p0 2 = some p0_2) (x1 : Int32) (x2 : Int32) (x3 : Int32) (V : zI) (L : zL) (ls : Array Slot) (hl : lv_has ls 6 [(0, .ref (ad p0)), (1, .int x1), (2, .int x2), (3, .int x3)]) (hf : g_X8_lengthen N G p0 p0_0 p0_1 p0_2 x1 x2 x3 V L = some r') : RG M (zC D cy ad n K N G) V L 0 ls [] := by
  unfold g_X8_lengthen at hf
  refine z_aload_n X.1 dX8_lengthen_0 rfl (lv_at hl 0 rfl) ?_
  refine c_geti X hp0 cf_X8_7 dX8_lengthen_1 ?_
  refine z_iconst (v := 1) X.1 dX8_lengthen_4 (by decide) ?_
  refine z_isub X.1 dX8_lengthen_5 ?_
  refine z_istore (lv' := [(4, .int ((V p0 3) - 1)), (0, .ref (ad p0)), (1, .int x1), (2, .int x2), (3, .int x3)]) X.1 dX8_lengthen_6 hl (by decide) rfl (fun ls hl => ?_)
  refine z_iload X.1 dX8_lengthen_8 (lv_at hl 0 rfl) ?_
  refine z_if_ge (tgt := 14) X.1 dX8_lengthen_10 (by decide) (fun c_ => ?_) (fun c_ => ?_)
  · have hf := (if_pos c_).symm.trans hf
    refine z_iload_n X.1 dX8_lengthen_14 rfl (lv_at hl 4 rfl) ?_
    refine z_aload_n X.1 dX8_lengthen_15 rfl (lv_at hl 1 rfl) ?_
    refine c_geta X hp0 cf_X8_26 ep0_2 dX8_lengthen_16 ?_
    refine z_iload X.1 dX8_lengthen_19 (lv_at hl 0 rfl) ?_
    obtain ⟨hb1, hf⟩ := z_ite hf
    refine c_iald X hp0_2 hb1 dX8_lengthen_21 ?_
    refine z_isub X.1 dX8_lengthen_22 ?_
    refine z_istore (lv' := [(5, .int (x3 - (V p0_2 ((V p0 3) - 1).toNatClampNeg))), (4, .int ((V p0 3) - 1)), (0, .ref (ad p0)), (1, .int x1), (2, .int x2), (3, .int x3)]) X.1 dX8_lengthen_23 hl (by decide) rfl (fun ls hl => ?_)
    refine z_iload X.1 dX8_lengthen_25 (lv_at hl 0 rfl) ?_
    refine z_iload_n X.1 dX8_lengthen_27 rfl (lv_at hl 3 rfl) ?_
    refine z_iconst (v := 3) X.1 dX8_lengthen_28 (by decide) ?_
    refine z_icmp_ne (tgt := 37) X.1 dX8_lengthen_29 (by decide) (fun c_ => ?_) (fun c_ => ?_)
    · have hf := (if_neg c_).symm.trans hf
      refine z_iconst (v := 4) X.1 dX8_lengthen_37 (by decide) ?_
      exact w_X8_lengthen_38 X Z hp0 hp0_0 ep0_0 hp0_1 ep0_1 hp0_2 ep0_2 x2 x3 ((V p0 3) - 1) (x3 - (V p0_2 ((V p0 3) - 1).toNatClampNeg)) (x3 - (V p0_2 ((V p0 3) - 1).toNatClampNeg)) 4 V L ls (lv_sub hl [2, 4, 5, 1, 0] rfl) hf
    · have hf := (if_pos c_).symm.trans hf
      refine z_bipush (v := 6) X.1 dX8_lengthen_32 (by decide) ?_
      refine z_goto (tgt := 38) X.1 dX8_lengthen_34 (by decide) ?_
      exact w_X8_lengthen_38 X Z hp0 hp0_0 ep0_0 hp0_1 ep0_1 hp0_2 ep0_2 x2 x3 ((V p0 3) - 1) (x3 - (V p0_2 ((V p0 3) - 1).toNatClampNeg)) (x3 - (V p0_2 ((V p0 3) - 1).toNatClampNeg)) 6 V L ls (lv_sub hl [2, 4, 5, 1, 0] rfl) hf
  · have hf := (if_neg c_).symm.trans hf
    exact c_vret X Z hf dX8_lengthen_13

theorem c_X8_lengthen (D : va_G) (cy : Nat → ClassId) (ad : Nat → Nat) {n : Nat} {K N : Nat → Nat} {G : zG} (hWF : zWF n K G) {p0 : Nat} {x1 : Int32} {x2 : Int32} {x3 : Int32} {V : zI} {L : zL} (hp0 : p0 < n ∧ K p0 = 6) {r' : zI × zL} (hf : f_X8_lengthen N G p0 x1 x2 x3 V L = some r') : RCv (zC D cy ad n K N G) yX8_lengthen cX8_lengthen 6 1 21 [.ref (ad p0), .int x1, .int x2, .int x3] V L r'.1 r'.2 := by
  unfold f_X8_lengthen at hf
  obtain ⟨p0_0, ep0_0, hf⟩ := z_bind hf
  have hp0_0 := hWF.get hp0 (k := 0) (c := 100) rfl ep0_0
  obtain ⟨p0_1, ep0_1, hf⟩ := z_bind hf
  have hp0_1 := hWF.get hp0 (k := 1) (c := 100) rfl ep0_1
  obtain ⟨p0_2, ep0_2, hf⟩ := z_bind hf
  have hp0_2 := hWF.get hp0 (k := 2) (c := 100) rfl ep0_2
  exact RCv.of (by decide) hWF (Nat.le_of_ble_eq_true rfl) (fun M X Z ls hl => w_X8_lengthen X Z hp0 hp0_0 ep0_0 hp0_1 ep0_1 hp0_2 ep0_2 x1 x2 x3 V L ls hl hf)
def g_X8_add (N : Nat → Nat) (G : zG) (p0 : Nat) (p0_0 : Nat) (p0_1 : Nat) (p0_2 : Nat) (x1 : Int32) (x2 : Int32) (x3 : Int32) (V : zI) (L : zL) : Option (zI × zL) :=
  (if (Int32.ofNat (N p0_0)) ≤ (V p0 3) then some (V, L) else if inB (V p0 3) (N p0_0) then if inB ((z_uI V p0_0 (V p0 3).toNatClampNeg x1) p0 3) (N p0_1) then if inB ((z_uI (z_uI V p0_0 (V p0 3).toNatClampNeg x1) p0_1 ((z_uI V p0_0 (V p0 3).toNatClampNeg x1) p0 3).toNatClampNeg x2) p0 3) (N p0_2) then some (z_uI (z_uI (z_uI (z_uI V p0_0 (V p0 3).toNatClampNeg x1) p0_1 ((z_uI V p0_0 (V p0 3).toNatClampNeg x1) p0 3).toNatClampNeg x2) p0_2 ((z_uI (z_uI V p0_0 (V p0 3).toNatClampNeg x1) p0_1 ((z_uI V p0_0 (V p0 3).toNatClampNeg x1) p0 3).toNatClampNeg x2) p0 3).toNatClampNeg x3) p0 3 (((z_uI (z_uI (z_uI V p0_0 (V p0 3).toNatClampNeg x1) p0_1 ((z_uI V p0_0 (V p0 3).toNatClampNeg x1) p0 3).toNatClampNeg x2) p0_2 ((z_uI (z_uI V p0_0 (V p0 3).toNatClampNeg x1) p0_1 ((z_uI V p0_0 (V p0 3).toNatClampNeg x1) p0 3).toNatClampNeg x2) p0 3).toNatClampNeg x3) p0 3) + 1), L) else none else none else none)
def f_X8_add (N : Nat → Nat) (G : zG) (p0 : Nat) (x1 : Int32) (x2 : Int32) (x3 : Int32) (V : zI) (L : zL) : Option (zI × zL) :=
  (G p0 0).bind fun p0_0 => (G p0 1).bind fun p0_1 => (G p0 2).bind fun p0_2 => g_X8_add N G p0 p0_0 p0_1 p0_2 x1 x2 x3 V L
set_option maxHeartbeats 4000000 in
set_option maxRecDepth 100000 in
theorem w_X8_add {M : zM} {D : va_G} {cy : Nat → ClassId} {ad : Nat → Nat} {n : Nat} {K N : Nat → Nat} {G : zG} {r' : zI × zL} (X : RXc M D cy ad n K N G cX8_add 4 RX8 0 0) (Z : RZv M (zC D cy ad n K N G) r'.1 r'.2) {p0 : Nat} (hp0 : p0 < n ∧ K p0 = 6) {p0_0 : Nat} (hp0_0 : p0_0 < n ∧ K p0_0 = 100) (ep0_0 : G p0 0 = some p0_0) {p0_1 : Nat} (hp0_1 : p0_1 < n ∧ K p0_1 = 100) (ep0_1 : G p0 1 = some p0_1) {p0_2 : Nat} (hp0_2 : p0_2 < n ∧ K p0_2 = 100) (ep0_2 : G p0 2 = some p0_2) (x1 : Int32) (x2 : Int32) (x3 : Int32) (V : zI) (L : zL) (ls : Array Slot) (hl : lv_has ls 4 [(0, .ref (ad p0)), (1, .int x1), (2, .int x2), (3, .int x3)]) (hf : g_X8_add N G p0 p0_0 p0_1 p0_2 x1 x2 x3 V L = some r') : RG M (zC D cy ad n K N G) V L 0 ls [] := by
  unfold g_X8_add at hf
  refine z_aload_n X.1 dX8_add_0 rfl (lv_at hl 0 rfl) ?_
  refine c_geti X hp0 cf_X8_7 dX8_add_1 ?_
  refine z_aload_n X.1 dX8_add_4 rfl (lv_at hl 0 rfl) ?_
  refine c_geta X hp0 cf_X8_19 ep0_0 dX8_add_5 ?_
  refine c_alen100 X hp0_0 dX8_add_8 ?_
  refine z_icmp_ge (tgt := 52) X.1 dX8_add_9 (by decide) (fun c_ => ?_) (fun c_ => ?_)
  · have hf := (if_pos c_).symm.trans hf
    exact c_vret X Z hf dX8_add_52
  · have hf := (if_neg c_).symm.trans hf
    refine z_aload_n X.1 dX8_add_12 rfl (lv_at hl 0 rfl) ?_
    refine c_geta X hp0 cf_X8_19 ep0_0 dX8_add_13 ?_
    refine z_aload_n X.1 dX8_add_16 rfl (lv_at hl 0 rfl) ?_
    refine c_geti X hp0 cf_X8_7 dX8_add_17 ?_
    refine z_iload_n X.1 dX8_add_20 rfl (lv_at hl 1 rfl) ?_
    obtain ⟨hb1, hf⟩ := z_ite hf
    refine c_iast X hp0_0 hb1 dX8_add_21 ?_
    refine z_aload_n X.1 dX8_add_22 rfl (lv_at hl 0 rfl) ?_
    refine c_geta X hp0 cf_X8_23 ep0_1 dX8_add_23 ?_
    refine z_aload_n X.1 dX8_add_26 rfl (lv_at hl 0 rfl) ?_
    refine c_geti X hp0 cf_X8_7 dX8_add_27 ?_
    refine z_iload_n X.1 dX8_add_30 rfl (lv_at hl 2 rfl) ?_
    obtain ⟨hb2, hf⟩ := z_ite hf
    refine c_iast X hp0_1 hb2 dX8_add_31 ?_
    refine z_aload_n X.1 dX8_add_32 rfl (lv_at hl 0 rfl) ?_
    refine c_geta X hp0 cf_X8_26 ep0_2 dX8_add_33 ?_
    refine z_aload_n X.1 dX8_add_36 rfl (lv_at hl 0 rfl) ?_
    refine c_geti X hp0 cf_X8_7 dX8_add_37 ?_
    refine z_iload_n X.1 dX8_add_40 rfl (lv_at hl 3 rfl) ?_
    obtain ⟨hb3, hf⟩ := z_ite hf
    refine c_iast X hp0_2 hb3 dX8_add_41 ?_
    refine z_aload_n X.1 dX8_add_42 rfl (lv_at hl 0 rfl) ?_
    refine z_dup X.1 dX8_add_43 rfl ?_
    refine c_geti X hp0 cf_X8_7 dX8_add_44 ?_
    refine z_iconst (v := 1) X.1 dX8_add_47 (by decide) ?_
    refine z_iadd X.1 dX8_add_48 ?_
    refine c_puti X hp0 cf_X8_7 cg_X8 cp_X8_3 rfl rfl dX8_add_49 ?_
    exact c_vret X Z hf dX8_add_52

theorem c_X8_add (D : va_G) (cy : Nat → ClassId) (ad : Nat → Nat) {n : Nat} {K N : Nat → Nat} {G : zG} (hWF : zWF n K G) {p0 : Nat} {x1 : Int32} {x2 : Int32} {x3 : Int32} {V : zI} {L : zL} (hp0 : p0 < n ∧ K p0 = 6) {r' : zI × zL} (hf : f_X8_add N G p0 x1 x2 x3 V L = some r') : RCv (zC D cy ad n K N G) yX8_add cX8_add 4 0 0 [.ref (ad p0), .int x1, .int x2, .int x3] V L r'.1 r'.2 := by
  unfold f_X8_add at hf
  obtain ⟨p0_0, ep0_0, hf⟩ := z_bind hf
  have hp0_0 := hWF.get hp0 (k := 0) (c := 100) rfl ep0_0
  obtain ⟨p0_1, ep0_1, hf⟩ := z_bind hf
  have hp0_1 := hWF.get hp0 (k := 1) (c := 100) rfl ep0_1
  obtain ⟨p0_2, ep0_2, hf⟩ := z_bind hf
  have hp0_2 := hWF.get hp0 (k := 2) (c := 100) rfl ep0_2
  exact RCv.of (by decide) hWF (Nat.le_of_ble_eq_true rfl) (fun M X Z ls hl => w_X8_add X Z hp0 hp0_0 ep0_0 hp0_1 ep0_1 hp0_2 ep0_2 x1 x2 x3 V L ls hl hf)
def b_X8_markOwnWord_2 (N : Nat → Nat) (G : zG) (p0 : Nat) (p0_0 : Nat) (p0_1 : Nat) (k2 : Int32 × Int32 × Int32 × zI × zL → Option (zI × zL)) : Int32 × Int32 × Int32 × zI × zL → Option (zI × zL) := fun ⟨x1, x2, x3, V, L⟩ =>
  (if (V p0 3) ≤ x3 then some (V, L) else if inB x3 (N p0_0) then (if (V p0_0 x3.toNatClampNeg) = 3 then if inB x3 (N p0_1) then (if (V p0_1 x3.toNatClampNeg) = x1 then if inB x3 (N p0_0) then if inB x3 (N p0_1) then k2 (x1, x2, (x3 + 1), z_uI (z_uI V p0_0 x3.toNatClampNeg 4) p0_1 x3.toNatClampNeg x2, L) else none else none else k2 (x1, x2, (x3 + 1), V, L)) else none else k2 (x1, x2, (x3 + 1), V, L)) else none)
def g_X8_markOwnWord (N : Nat → Nat) (G : zG) (p0 : Nat) (p0_0 : Nat) (p0_1 : Nat) (x1 : Int32) (x2 : Int32) (V : zI) (L : zL) : Option (zI × zL) :=
  zfix (b_X8_markOwnWord_2 N G p0 p0_0 p0_1) FU (x1, x2, 0, V, L)
def f_X8_markOwnWord (N : Nat → Nat) (G : zG) (p0 : Nat) (x1 : Int32) (x2 : Int32) (V : zI) (L : zL) : Option (zI × zL) :=
  (G p0 0).bind fun p0_0 => (G p0 1).bind fun p0_1 => g_X8_markOwnWord N G p0 p0_0 p0_1 x1 x2 V L
set_option maxHeartbeats 4000000 in
set_option maxRecDepth 100000 in
theorem w_X8_markOwnWord_2 {M : zM} {D : va_G} {cy : Nat → ClassId} {ad : Nat → Nat} {n : Nat} {K N : Nat → Nat} {G : zG} {r' : zI × zL} (X : RXc M D cy ad n K N G cX8_markOwnWord 4 RX8 0 0) (Z : RZv M (zC D cy ad n K N G) r'.1 r'.2) {p0 : Nat} (hp0 : p0 < n ∧ K p0 = 6) {p0_0 : Nat} (hp0_0 : p0_0 < n ∧ K p0_0 = 100) (ep0_0 : G p0 0 = some p0_0) {p0_1 : Nat} (hp0_1 : p0_1 < n ∧ K p0_1 = 100) (ep0_1 : G p0 1 = some p0_1) (nn : Nat) : ∀ (x1 : Int32) (x2 : Int32) (x3 : Int32) (V : zI) (L : zL) (ls : Array Slot) (hl : lv_has ls 4 [(0, .ref (ad p0)), (1, .int x1), (2, .int x2), (3, .int x3)]) (hf : zfix (b_X8_markOwnWord_2 N G p0 p0_0 p0_1) nn (x1, x2, x3, V, L) = some r'), RG M (zC D cy ad n K N G) V L 2 ls [] := by
  induction nn with
  | zero => intro x1 x2 x3 V L ls hl hf; cases hf
  | succ nn ih =>
  intro x1 x2 x3 V L ls hl hf
  have hk2 : ∀ (x1 : Int32) (x2 : Int32) (x3 : Int32) (V : zI) (L : zL) (ls : Array Slot), lv_has ls 4 [(0, .ref (ad p0)), (1, .int x1), (2, .int x2), (3, .int x3)] → zfix (b_X8_markOwnWord_2 N G p0 p0_0 p0_1) nn (x1, x2, x3, V, L) = some r' → RG M (zC D cy ad n K N G) V L 2 ls [] := ih
  have hf : b_X8_markOwnWord_2 N G p0 p0_0 p0_1 (zfix (b_X8_markOwnWord_2 N G p0 p0_0 p0_1) nn) (x1, x2, x3, V, L) = some r' := hf
  generalize zfix (b_X8_markOwnWord_2 N G p0 p0_0 p0_1) nn = k2 at hk2 hf
  clear ih
  unfold b_X8_markOwnWord_2 at hf
  refine z_iload_n X.1 dX8_markOwnWord_2 rfl (lv_at hl 3 rfl) ?_
  refine z_aload_n X.1 dX8_markOwnWord_3 rfl (lv_at hl 0 rfl) ?_
  refine c_geti X hp0 cf_X8_7 dX8_markOwnWord_4 ?_
  refine z_icmp_ge (tgt := 50) X.1 dX8_markOwnWord_7 (by decide) (fun c_ => ?_) (fun c_ => ?_)
  · have hf := (if_pos c_).symm.trans hf
    exact c_vret X Z hf dX8_markOwnWord_50
  · have hf := (if_neg c_).symm.trans hf
    refine z_aload_n X.1 dX8_markOwnWord_10 rfl (lv_at hl 0 rfl) ?_
    refine c_geta X hp0 cf_X8_19 ep0_0 dX8_markOwnWord_11 ?_
    refine z_iload_n X.1 dX8_markOwnWord_14 rfl (lv_at hl 3 rfl) ?_
    obtain ⟨hb1, hf⟩ := z_ite hf
    refine c_iald X hp0_0 hb1 dX8_markOwnWord_15 ?_
    refine z_iconst (v := 3) X.1 dX8_markOwnWord_16 (by decide) ?_
    refine z_icmp_ne (tgt := 44) X.1 dX8_markOwnWord_17 (by decide) (fun c_ => ?_) (fun c_ => ?_)
    · have hf := (if_neg c_).symm.trans hf
      refine z_iinc (v := x3 + 1) (k0 := 3) (lv' := [(3, .int (x3 + 1)), (0, .ref (ad p0)), (1, .int x1), (2, .int x2)]) X.1 dX8_markOwnWord_44 hl rfl rfl (by decide) rfl (fun ls hl => ?_)
      refine z_goto (tgt := 2) X.1 dX8_markOwnWord_47 (by decide) ?_
      exact hk2 x1 x2 (x3 + 1) V L ls (lv_sub hl [1, 2, 3, 0] rfl) hf
    · have hf := (if_pos c_).symm.trans hf
      refine z_aload_n X.1 dX8_markOwnWord_20 rfl (lv_at hl 0 rfl) ?_
      refine c_geta X hp0 cf_X8_23 ep0_1 dX8_markOwnWord_21 ?_
      refine z_iload_n X.1 dX8_markOwnWord_24 rfl (lv_at hl 3 rfl) ?_
      obtain ⟨hb2, hf⟩ := z_ite hf
      refine c_iald X hp0_1 hb2 dX8_markOwnWord_25 ?_
      refine z_iload_n X.1 dX8_markOwnWord_26 rfl (lv_at hl 1 rfl) ?_
      refine z_icmp_ne (tgt := 44) X.1 dX8_markOwnWord_27 (by decide) (fun c_ => ?_) (fun c_ => ?_)
      · have hf := (if_neg c_).symm.trans hf
        refine z_iinc (v := x3 + 1) (k0 := 3) (lv' := [(3, .int (x3 + 1)), (0, .ref (ad p0)), (1, .int x1), (2, .int x2)]) X.1 dX8_markOwnWord_44 hl rfl rfl (by decide) rfl (fun ls hl => ?_)
        refine z_goto (tgt := 2) X.1 dX8_markOwnWord_47 (by decide) ?_
        exact hk2 x1 x2 (x3 + 1) V L ls (lv_sub hl [1, 2, 3, 0] rfl) hf
      · have hf := (if_pos c_).symm.trans hf
        refine z_aload_n X.1 dX8_markOwnWord_30 rfl (lv_at hl 0 rfl) ?_
        refine c_geta X hp0 cf_X8_19 ep0_0 dX8_markOwnWord_31 ?_
        refine z_iload_n X.1 dX8_markOwnWord_34 rfl (lv_at hl 3 rfl) ?_
        refine z_iconst (v := 4) X.1 dX8_markOwnWord_35 (by decide) ?_
        obtain ⟨hb3, hf⟩ := z_ite hf
        refine c_iast X hp0_0 hb3 dX8_markOwnWord_36 ?_
        refine z_aload_n X.1 dX8_markOwnWord_37 rfl (lv_at hl 0 rfl) ?_
        refine c_geta X hp0 cf_X8_23 ep0_1 dX8_markOwnWord_38 ?_
        refine z_iload_n X.1 dX8_markOwnWord_41 rfl (lv_at hl 3 rfl) ?_
        refine z_iload_n X.1 dX8_markOwnWord_42 rfl (lv_at hl 2 rfl) ?_
        obtain ⟨hb4, hf⟩ := z_ite hf
        refine c_iast X hp0_1 hb4 dX8_markOwnWord_43 ?_
        refine z_iinc (v := x3 + 1) (k0 := 3) (lv' := [(3, .int (x3 + 1)), (0, .ref (ad p0)), (1, .int x1), (2, .int x2)]) X.1 dX8_markOwnWord_44 hl rfl rfl (by decide) rfl (fun ls hl => ?_)
        refine z_goto (tgt := 2) X.1 dX8_markOwnWord_47 (by decide) ?_
        exact hk2 x1 x2 (x3 + 1) (z_uI (z_uI V p0_0 x3.toNatClampNeg 4) p0_1 x3.toNatClampNeg x2) L ls (lv_sub hl [1, 2, 3, 0] rfl) hf

set_option maxHeartbeats 4000000 in
set_option maxRecDepth 100000 in
theorem w_X8_markOwnWord {M : zM} {D : va_G} {cy : Nat → ClassId} {ad : Nat → Nat} {n : Nat} {K N : Nat → Nat} {G : zG} {r' : zI × zL} (X : RXc M D cy ad n K N G cX8_markOwnWord 4 RX8 0 0) (Z : RZv M (zC D cy ad n K N G) r'.1 r'.2) {p0 : Nat} (hp0 : p0 < n ∧ K p0 = 6) {p0_0 : Nat} (hp0_0 : p0_0 < n ∧ K p0_0 = 100) (ep0_0 : G p0 0 = some p0_0) {p0_1 : Nat} (hp0_1 : p0_1 < n ∧ K p0_1 = 100) (ep0_1 : G p0 1 = some p0_1) (x1 : Int32) (x2 : Int32) (V : zI) (L : zL) (ls : Array Slot) (hl : lv_has ls 4 [(0, .ref (ad p0)), (1, .int x1), (2, .int x2)]) (hf : g_X8_markOwnWord N G p0 p0_0 p0_1 x1 x2 V L = some r') : RG M (zC D cy ad n K N G) V L 0 ls [] := by
  unfold g_X8_markOwnWord at hf
  refine z_iconst (v := 0) X.1 dX8_markOwnWord_0 (by decide) ?_
  refine z_istore_n (lv' := [(3, .int 0), (0, .ref (ad p0)), (1, .int x1), (2, .int x2)]) X.1 dX8_markOwnWord_1 rfl hl (by decide) rfl (fun ls hl => ?_)
  exact w_X8_markOwnWord_2 X Z hp0 hp0_0 ep0_0 hp0_1 ep0_1 FU x1 x2 0 V L ls (lv_sub hl [1, 2, 3, 0] rfl) hf

theorem c_X8_markOwnWord (D : va_G) (cy : Nat → ClassId) (ad : Nat → Nat) {n : Nat} {K N : Nat → Nat} {G : zG} (hWF : zWF n K G) {p0 : Nat} {x1 : Int32} {x2 : Int32} {V : zI} {L : zL} (hp0 : p0 < n ∧ K p0 = 6) {r' : zI × zL} (hf : f_X8_markOwnWord N G p0 x1 x2 V L = some r') : RCv (zC D cy ad n K N G) yX8_markOwnWord cX8_markOwnWord 4 0 0 [.ref (ad p0), .int x1, .int x2] V L r'.1 r'.2 := by
  unfold f_X8_markOwnWord at hf
  obtain ⟨p0_0, ep0_0, hf⟩ := z_bind hf
  have hp0_0 := hWF.get hp0 (k := 0) (c := 100) rfl ep0_0
  obtain ⟨p0_1, ep0_1, hf⟩ := z_bind hf
  have hp0_1 := hWF.get hp0 (k := 1) (c := 100) rfl ep0_1
  exact RCv.of (by decide) hWF (Nat.le_of_ble_eq_true rfl) (fun M X Z ls hl => w_X8_markOwnWord X Z hp0 hp0_0 ep0_0 hp0_1 ep0_1 x1 x2 V L ls hl hf)
def g_X5_take (N : Nat → Nat) (G : zG) (p0 : Nat) (p0_0 : Nat) (p0_0_0 : Nat) (p0_0_1 : Nat) (p0_0_2 : Nat) (V : zI) (L : zL) : Option (zI × zL) :=
  (if (V p0 10) = 0 then (if ((V p0_0 3) - 1) ≤ (V p0 1) then some (V, L) else if inB ((z_uI V p0 1 ((V p0 1) + 1)) p0 1) (N p0_0_0) then if inB ((z_uI (z_uI V p0 1 ((V p0 1) + 1)) p0 2 ((z_uI V p0 1 ((V p0 1) + 1)) p0_0_0 ((z_uI V p0 1 ((V p0 1) + 1)) p0 1).toNatClampNeg)) p0 1) (N p0_0_1) then if inB ((z_uI (z_uI (z_uI V p0 1 ((V p0 1) + 1)) p0 2 ((z_uI V p0 1 ((V p0 1) + 1)) p0_0_0 ((z_uI V p0 1 ((V p0 1) + 1)) p0 1).toNatClampNeg)) p0 3 ((z_uI (z_uI V p0 1 ((V p0 1) + 1)) p0 2 ((z_uI V p0 1 ((V p0 1) + 1)) p0_0_0 ((z_uI V p0 1 ((V p0 1) + 1)) p0 1).toNatClampNeg)) p0_0_1 ((z_uI (z_uI V p0 1 ((V p0 1) + 1)) p0 2 ((z_uI V p0 1 ((V p0 1) + 1)) p0_0_0 ((z_uI V p0 1 ((V p0 1) + 1)) p0 1).toNatClampNeg)) p0 1).toNatClampNeg)) p0 1) (N p0_0_2) then some (z_uI (z_uI (z_uI (z_uI V p0 1 ((V p0 1) + 1)) p0 2 ((z_uI V p0 1 ((V p0 1) + 1)) p0_0_0 ((z_uI V p0 1 ((V p0 1) + 1)) p0 1).toNatClampNeg)) p0 3 ((z_uI (z_uI V p0 1 ((V p0 1) + 1)) p0 2 ((z_uI V p0 1 ((V p0 1) + 1)) p0_0_0 ((z_uI V p0 1 ((V p0 1) + 1)) p0 1).toNatClampNeg)) p0_0_1 ((z_uI (z_uI V p0 1 ((V p0 1) + 1)) p0 2 ((z_uI V p0 1 ((V p0 1) + 1)) p0_0_0 ((z_uI V p0 1 ((V p0 1) + 1)) p0 1).toNatClampNeg)) p0 1).toNatClampNeg)) p0 4 ((z_uI (z_uI (z_uI V p0 1 ((V p0 1) + 1)) p0 2 ((z_uI V p0 1 ((V p0 1) + 1)) p0_0_0 ((z_uI V p0 1 ((V p0 1) + 1)) p0 1).toNatClampNeg)) p0 3 ((z_uI (z_uI V p0 1 ((V p0 1) + 1)) p0 2 ((z_uI V p0 1 ((V p0 1) + 1)) p0_0_0 ((z_uI V p0 1 ((V p0 1) + 1)) p0 1).toNatClampNeg)) p0_0_1 ((z_uI (z_uI V p0 1 ((V p0 1) + 1)) p0 2 ((z_uI V p0 1 ((V p0 1) + 1)) p0_0_0 ((z_uI V p0 1 ((V p0 1) + 1)) p0 1).toNatClampNeg)) p0 1).toNatClampNeg)) p0_0_2 ((z_uI (z_uI (z_uI V p0 1 ((V p0 1) + 1)) p0 2 ((z_uI V p0 1 ((V p0 1) + 1)) p0_0_0 ((z_uI V p0 1 ((V p0 1) + 1)) p0 1).toNatClampNeg)) p0 3 ((z_uI (z_uI V p0 1 ((V p0 1) + 1)) p0 2 ((z_uI V p0 1 ((V p0 1) + 1)) p0_0_0 ((z_uI V p0 1 ((V p0 1) + 1)) p0 1).toNatClampNeg)) p0_0_1 ((z_uI (z_uI V p0 1 ((V p0 1) + 1)) p0 2 ((z_uI V p0 1 ((V p0 1) + 1)) p0_0_0 ((z_uI V p0 1 ((V p0 1) + 1)) p0 1).toNatClampNeg)) p0 1).toNatClampNeg)) p0 1).toNatClampNeg), L) else none else none else none) else some (V, L))
def f_X5_take (N : Nat → Nat) (G : zG) (p0 : Nat) (V : zI) (L : zL) : Option (zI × zL) :=
  (G p0 0).bind fun p0_0 => (G p0_0 0).bind fun p0_0_0 => (G p0_0 1).bind fun p0_0_1 => (G p0_0 2).bind fun p0_0_2 => g_X5_take N G p0 p0_0 p0_0_0 p0_0_1 p0_0_2 V L
set_option maxHeartbeats 4000000 in
set_option maxRecDepth 100000 in
theorem w_X5_take {M : zM} {D : va_G} {cy : Nat → ClassId} {ad : Nat → Nat} {n : Nat} {K N : Nat → Nat} {G : zG} {r' : zI × zL} (X : RXc M D cy ad n K N G cX5_take 1 RX5 0 0) (Z : RZv M (zC D cy ad n K N G) r'.1 r'.2) {p0 : Nat} (hp0 : p0 < n ∧ K p0 = 4) {p0_0 : Nat} (hp0_0 : p0_0 < n ∧ K p0_0 = 6) (ep0_0 : G p0 0 = some p0_0) {p0_0_0 : Nat} (hp0_0_0 : p0_0_0 < n ∧ K p0_0_0 = 100) (ep0_0_0 : G p0_0 0 = some p0_0_0) {p0_0_1 : Nat} (hp0_0_1 : p0_0_1 < n ∧ K p0_0_1 = 100) (ep0_0_1 : G p0_0 1 = some p0_0_1) {p0_0_2 : Nat} (hp0_0_2 : p0_0_2 < n ∧ K p0_0_2 = 100) (ep0_0_2 : G p0_0 2 = some p0_0_2)  (V : zI) (L : zL) (ls : Array Slot) (hl : lv_has ls 1 [(0, .ref (ad p0))]) (hf : g_X5_take N G p0 p0_0 p0_0_0 p0_0_1 p0_0_2 V L = some r') : RG M (zC D cy ad n K N G) V L 0 ls [] := by
  unfold g_X5_take at hf
  refine z_aload_n X.1 dX5_take_0 rfl (lv_at hl 0 rfl) ?_
  refine c_geti X hp0 cf_X5_43 dX5_take_1 ?_
  refine z_if_ne (tgt := 81) X.1 dX5_take_4 (by decide) (fun c_ => ?_) (fun c_ => ?_)
  · have hf := (if_neg c_).symm.trans hf
    exact c_vret X Z hf dX5_take_81
  · have hf := (if_pos c_).symm.trans hf
    refine z_aload_n X.1 dX5_take_7 rfl (lv_at hl 0 rfl) ?_
    refine c_geti X hp0 cf_X5_9 dX5_take_8 ?_
    refine z_aload_n X.1 dX5_take_11 rfl (lv_at hl 0 rfl) ?_
    refine c_geta X hp0 cf_X5_52 ep0_0 dX5_take_12 ?_
    refine c_geti X hp0_0 cf_X5_204 dX5_take_15 ?_
    refine z_iconst (v := 1) X.1 dX5_take_18 (by decide) ?_
    refine z_isub X.1 dX5_take_19 ?_
    refine z_icmp_ge (tgt := 81) X.1 dX5_take_20 (by decide) (fun c_ => ?_) (fun c_ => ?_)
    · have hf := (if_pos c_).symm.trans hf
      exact c_vret X Z hf dX5_take_81
    · have hf := (if_neg c_).symm.trans hf
      refine z_aload_n X.1 dX5_take_23 rfl (lv_at hl 0 rfl) ?_
      refine z_dup X.1 dX5_take_24 rfl ?_
      refine c_geti X hp0 cf_X5_9 dX5_take_25 ?_
      refine z_iconst (v := 1) X.1 dX5_take_28 (by decide) ?_
      refine z_iadd X.1 dX5_take_29 ?_
      refine c_puti X hp0 cf_X5_9 cg_X5 cp_X5_1 rfl rfl dX5_take_30 ?_
      refine z_aload_n X.1 dX5_take_33 rfl (lv_at hl 0 rfl) ?_
      refine z_aload_n X.1 dX5_take_34 rfl (lv_at hl 0 rfl) ?_
      refine c_geta X hp0 cf_X5_52 ep0_0 dX5_take_35 ?_
      refine c_geta X hp0_0 cf_X5_207 ep0_0_0 dX5_take_38 ?_
      refine z_aload_n X.1 dX5_take_41 rfl (lv_at hl 0 rfl) ?_
      refine c_geti X hp0 cf_X5_9 dX5_take_42 ?_
      obtain ⟨hb1, hf⟩ := z_ite hf
      refine c_iald X hp0_0_0 hb1 dX5_take_45 ?_
      refine c_puti X hp0 cf_X5_17 cg_X5 cp_X5_2 rfl rfl dX5_take_46 ?_
      refine z_aload_n X.1 dX5_take_49 rfl (lv_at hl 0 rfl) ?_
      refine z_aload_n X.1 dX5_take_50 rfl (lv_at hl 0 rfl) ?_
      refine c_geta X hp0 cf_X5_52 ep0_0 dX5_take_51 ?_
      refine c_geta X hp0_0 cf_X5_209 ep0_0_1 dX5_take_54 ?_
      refine z_aload_n X.1 dX5_take_57 rfl (lv_at hl 0 rfl) ?_
      refine c_geti X hp0 cf_X5_9 dX5_take_58 ?_
      obtain ⟨hb2, hf⟩ := z_ite hf
      refine c_iald X hp0_0_1 hb2 dX5_take_61 ?_
      refine c_puti X hp0 cf_X5_20 cg_X5 cp_X5_3 rfl rfl dX5_take_62 ?_
      refine z_aload_n X.1 dX5_take_65 rfl (lv_at hl 0 rfl) ?_
      refine z_aload_n X.1 dX5_take_66 rfl (lv_at hl 0 rfl) ?_
      refine c_geta X hp0 cf_X5_52 ep0_0 dX5_take_67 ?_
      refine c_geta X hp0_0 cf_X5_211 ep0_0_2 dX5_take_70 ?_
      refine z_aload_n X.1 dX5_take_73 rfl (lv_at hl 0 rfl) ?_
      refine c_geti X hp0 cf_X5_9 dX5_take_74 ?_
      obtain ⟨hb3, hf⟩ := z_ite hf
      refine c_iald X hp0_0_2 hb3 dX5_take_77 ?_
      refine c_puti X hp0 cf_X5_23 cg_X5 cp_X5_4 rfl rfl dX5_take_78 ?_
      exact c_vret X Z hf dX5_take_81

theorem c_X5_take (D : va_G) (cy : Nat → ClassId) (ad : Nat → Nat) {n : Nat} {K N : Nat → Nat} {G : zG} (hWF : zWF n K G) {p0 : Nat} {V : zI} {L : zL} (hp0 : p0 < n ∧ K p0 = 4) {r' : zI × zL} (hf : f_X5_take N G p0 V L = some r') : RCv (zC D cy ad n K N G) yX5_take cX5_take 1 0 0 [.ref (ad p0)] V L r'.1 r'.2 := by
  unfold f_X5_take at hf
  obtain ⟨p0_0, ep0_0, hf⟩ := z_bind hf
  have hp0_0 := hWF.get hp0 (k := 0) (c := 6) rfl ep0_0
  obtain ⟨p0_0_0, ep0_0_0, hf⟩ := z_bind hf
  have hp0_0_0 := hWF.get hp0_0 (k := 0) (c := 100) rfl ep0_0_0
  obtain ⟨p0_0_1, ep0_0_1, hf⟩ := z_bind hf
  have hp0_0_1 := hWF.get hp0_0 (k := 1) (c := 100) rfl ep0_0_1
  obtain ⟨p0_0_2, ep0_0_2, hf⟩ := z_bind hf
  have hp0_0_2 := hWF.get hp0_0 (k := 2) (c := 100) rfl ep0_0_2
  exact RCv.of (by decide) hWF (Nat.le_of_ble_eq_true rfl) (fun M X Z ls hl => w_X5_take X Z hp0 hp0_0 ep0_0 hp0_0_0 ep0_0_0 hp0_0_1 ep0_0_1 hp0_0_2 ep0_0_2 V L ls hl hf)
def g_X5_fail (N : Nat → Nat) (G : zG) (p0 : Nat) (x1 : Int32) (x2 : Int32) (V : zI) (L : zL) : Option (zI × zL) :=
  (if (V p0 10) = 0 then some (z_uI (z_uI (z_uI V p0 10 x1) p0 11 x2) p0 2 5, L) else some (V, L))
def f_X5_fail (N : Nat → Nat) (G : zG) (p0 : Nat) (x1 : Int32) (x2 : Int32) (V : zI) (L : zL) : Option (zI × zL) :=
  g_X5_fail N G p0 x1 x2 V L
set_option maxHeartbeats 4000000 in
set_option maxRecDepth 100000 in
theorem w_X5_fail {M : zM} {D : va_G} {cy : Nat → ClassId} {ad : Nat → Nat} {n : Nat} {K N : Nat → Nat} {G : zG} {r' : zI × zL} (X : RXc M D cy ad n K N G cX5_fail 3 RX5 0 0) (Z : RZv M (zC D cy ad n K N G) r'.1 r'.2) {p0 : Nat} (hp0 : p0 < n ∧ K p0 = 4) (x1 : Int32) (x2 : Int32) (V : zI) (L : zL) (ls : Array Slot) (hl : lv_has ls 3 [(0, .ref (ad p0)), (1, .int x1), (2, .int x2)]) (hf : g_X5_fail N G p0 x1 x2 V L = some r') : RG M (zC D cy ad n K N G) V L 0 ls [] := by
  unfold g_X5_fail at hf
  refine z_aload_n X.1 dX5_fail_0 rfl (lv_at hl 0 rfl) ?_
  refine c_geti X hp0 cf_X5_43 dX5_fail_1 ?_
  refine z_if_ne (tgt := 22) X.1 dX5_fail_4 (by decide) (fun c_ => ?_) (fun c_ => ?_)
  · have hf := (if_neg c_).symm.trans hf
    exact c_vret X Z hf dX5_fail_22
  · have hf := (if_pos c_).symm.trans hf
    refine z_aload_n X.1 dX5_fail_7 rfl (lv_at hl 0 rfl) ?_
    refine z_iload_n X.1 dX5_fail_8 rfl (lv_at hl 1 rfl) ?_
    refine c_puti X hp0 cf_X5_43 cg_X5 cp_X5_10 rfl rfl dX5_fail_9 ?_
    refine z_aload_n X.1 dX5_fail_12 rfl (lv_at hl 0 rfl) ?_
    refine z_iload_n X.1 dX5_fail_13 rfl (lv_at hl 2 rfl) ?_
    refine c_puti X hp0 cf_X5_46 cg_X5 cp_X5_11 rfl rfl dX5_fail_14 ?_
    refine z_aload_n X.1 dX5_fail_17 rfl (lv_at hl 0 rfl) ?_
    refine z_iconst (v := 5) X.1 dX5_fail_18 (by decide) ?_
    refine c_puti X hp0 cf_X5_17 cg_X5 cp_X5_2 rfl rfl dX5_fail_19 ?_
    exact c_vret X Z hf dX5_fail_22

theorem c_X5_fail (D : va_G) (cy : Nat → ClassId) (ad : Nat → Nat) {n : Nat} {K N : Nat → Nat} {G : zG} (hWF : zWF n K G) {p0 : Nat} {x1 : Int32} {x2 : Int32} {V : zI} {L : zL} (hp0 : p0 < n ∧ K p0 = 4) {r' : zI × zL} (hf : f_X5_fail N G p0 x1 x2 V L = some r') : RCv (zC D cy ad n K N G) yX5_fail cX5_fail 3 0 0 [.ref (ad p0), .int x1, .int x2] V L r'.1 r'.2 := by
  unfold f_X5_fail at hf
  exact RCv.of (by decide) hWF (Nat.le_of_ble_eq_true rfl) (fun M X Z ls hl => w_X5_fail X Z hp0 x1 x2 V L ls hl hf)
def f_X5_failHere_21 (N : Nat → Nat) (G : zG) (p0 : Nat) (s1 : Int32) (s2 : Int32) (V : zI) (L : zL) : Option (zI × zL) :=
  (f_X5_fail N G p0 s1 s2 V L).bind fun r1 => some (r1.1, r1.2)
def g_X5_failHere (N : Nat → Nat) (G : zG) (p0 : Nat) (V : zI) (L : zL) : Option (zI × zL) :=
  (if (V p0 2) = 5 then f_X5_failHere_21 N G p0 1 (V p0 3) V L else f_X5_failHere_21 N G p0 1 (V p0 4) V L)
def f_X5_failHere (N : Nat → Nat) (G : zG) (p0 : Nat) (V : zI) (L : zL) : Option (zI × zL) :=
  g_X5_failHere N G p0 V L
set_option maxHeartbeats 4000000 in
set_option maxRecDepth 100000 in
theorem w_X5_failHere_21 {M : zM} {D : va_G} {cy : Nat → ClassId} {ad : Nat → Nat} {n : Nat} {K N : Nat → Nat} {G : zG} {r' : zI × zL} (X : RXc M D cy ad n K N G cX5_failHere 1 RX5 1 22) (Z : RZv M (zC D cy ad n K N G) r'.1 r'.2) {p0 : Nat} (hp0 : p0 < n ∧ K p0 = 4) (s1 : Int32) (s2 : Int32) (V : zI) (L : zL) (ls : Array Slot) (hl : lv_has ls 1 []) (hf : f_X5_failHere_21 N G p0 s1 s2 V L = some r') : RG M (zC D cy ad n K N G) V L 21 ls [.int s2, .int s1, .ref (ad p0)] := by
  unfold f_X5_failHere_21 at hf
  obtain ⟨r1, hc1, hf⟩ := z_bind hf
  refine c_callVv [.int s1, .int s2] X hl.1 (c_X5_fail D cy ad X.2.2 hp0 hc1) hp0 ⟨by decide, rfl⟩ cm_X5_73 cw_X5_fail rfl cq_X5_fail ⟨by decide, by decide⟩ (Nat.le_of_ble_eq_true rfl) rfl dX5_failHere_21 ?_
  exact c_vret X Z hf dX5_failHere_24

set_option maxHeartbeats 4000000 in
set_option maxRecDepth 100000 in
theorem w_X5_failHere {M : zM} {D : va_G} {cy : Nat → ClassId} {ad : Nat → Nat} {n : Nat} {K N : Nat → Nat} {G : zG} {r' : zI × zL} (X : RXc M D cy ad n K N G cX5_failHere 1 RX5 1 22) (Z : RZv M (zC D cy ad n K N G) r'.1 r'.2) {p0 : Nat} (hp0 : p0 < n ∧ K p0 = 4)  (V : zI) (L : zL) (ls : Array Slot) (hl : lv_has ls 1 [(0, .ref (ad p0))]) (hf : g_X5_failHere N G p0 V L = some r') : RG M (zC D cy ad n K N G) V L 0 ls [] := by
  unfold g_X5_failHere at hf
  refine z_aload_n X.1 dX5_failHere_0 rfl (lv_at hl 0 rfl) ?_
  refine z_iconst (v := 1) X.1 dX5_failHere_1 (by decide) ?_
  refine z_aload_n X.1 dX5_failHere_2 rfl (lv_at hl 0 rfl) ?_
  refine c_geti X hp0 cf_X5_17 dX5_failHere_3 ?_
  refine z_iconst (v := 5) X.1 dX5_failHere_6 (by decide) ?_
  refine z_icmp_ne (tgt := 17) X.1 dX5_failHere_7 (by decide) (fun c_ => ?_) (fun c_ => ?_)
  · have hf := (if_neg c_).symm.trans hf
    refine z_aload_n X.1 dX5_failHere_17 rfl (lv_at hl 0 rfl) ?_
    refine c_geti X hp0 cf_X5_23 dX5_failHere_18 ?_
    exact w_X5_failHere_21 X Z hp0 1 (V p0 4) V L ls (lv_sub hl [] rfl) hf
  · have hf := (if_pos c_).symm.trans hf
    refine z_aload_n X.1 dX5_failHere_10 rfl (lv_at hl 0 rfl) ?_
    refine c_geti X hp0 cf_X5_20 dX5_failHere_11 ?_
    refine z_goto (tgt := 21) X.1 dX5_failHere_14 (by decide) ?_
    exact w_X5_failHere_21 X Z hp0 1 (V p0 3) V L ls (lv_sub hl [] rfl) hf

theorem c_X5_failHere (D : va_G) (cy : Nat → ClassId) (ad : Nat → Nat) {n : Nat} {K N : Nat → Nat} {G : zG} (hWF : zWF n K G) {p0 : Nat} {V : zI} {L : zL} (hp0 : p0 < n ∧ K p0 = 4) {r' : zI × zL} (hf : f_X5_failHere N G p0 V L = some r') : RCv (zC D cy ad n K N G) yX5_failHere cX5_failHere 1 1 22 [.ref (ad p0)] V L r'.1 r'.2 := by
  unfold f_X5_failHere at hf
  exact RCv.of (by decide) hWF (Nat.le_of_ble_eq_true rfl) (fun M X Z ls hl => w_X5_failHere X Z hp0 V L ls hl hf)
def b_X9_townNamed_2 (N : Nat → Nat) (G : zG) (p0 : Nat) (p0_5 : Nat) (V : zI) (L : zL) (k2 : Int32 × Int32 → Option (Int32)) : Int32 × Int32 → Option (Int32) := fun ⟨x1, x2⟩ =>
  (if (V p0 0) ≤ x2 then some (-1) else (if 6 ≤ x2 then some (-1) else if inB x2 (N p0_5) then (if (V p0_5 x2.toNatClampNeg) = x1 then some x2 else k2 (x1, (x2 + 1))) else none))
def g_X9_townNamed (N : Nat → Nat) (G : zG) (p0 : Nat) (p0_5 : Nat) (V : zI) (L : zL) (x1 : Int32) : Option (Int32) :=
  zfix (b_X9_townNamed_2 N G p0 p0_5 V L) FU (x1, 0)
def f_X9_townNamed (N : Nat → Nat) (G : zG) (p0 : Nat) (x1 : Int32) (V : zI) (L : zL) : Option (Int32) :=
  (G p0 5).bind fun p0_5 => g_X9_townNamed N G p0 p0_5 V L x1
set_option maxHeartbeats 4000000 in
set_option maxRecDepth 100000 in
theorem w_X9_townNamed_2 {M : zM} {D : va_G} {cy : Nat → ClassId} {ad : Nat → Nat} {n : Nat} {K N : Nat → Nat} {G : zG} {V : zI} {L : zL} {r' : Int32} (X : RXc M D cy ad n K N G cX9_townNamed 3 RX9 0 0) (Z : RZi M (zC D cy ad n K N G) .int r' V L) {p0 : Nat} (hp0 : p0 < n ∧ K p0 = 7) {p0_5 : Nat} (hp0_5 : p0_5 < n ∧ K p0_5 = 100) (ep0_5 : G p0 5 = some p0_5) (nn : Nat) : ∀ (x1 : Int32) (x2 : Int32) (ls : Array Slot) (hl : lv_has ls 3 [(0, .ref (ad p0)), (1, .int x1), (2, .int x2)]) (hf : zfix (b_X9_townNamed_2 N G p0 p0_5 V L) nn (x1, x2) = some r'), RG M (zC D cy ad n K N G) V L 2 ls [] := by
  induction nn with
  | zero => intro x1 x2 ls hl hf; cases hf
  | succ nn ih =>
  intro x1 x2 ls hl hf
  have hk2 : ∀ (x1 : Int32) (x2 : Int32) (ls : Array Slot), lv_has ls 3 [(0, .ref (ad p0)), (1, .int x1), (2, .int x2)] → zfix (b_X9_townNamed_2 N G p0 p0_5 V L) nn (x1, x2) = some r' → RG M (zC D cy ad n K N G) V L 2 ls [] := ih
  have hf : b_X9_townNamed_2 N G p0 p0_5 V L (zfix (b_X9_townNamed_2 N G p0 p0_5 V L) nn) (x1, x2) = some r' := hf
  generalize zfix (b_X9_townNamed_2 N G p0 p0_5 V L) nn = k2 at hk2 hf
  clear ih
  unfold b_X9_townNamed_2 at hf
  refine z_iload_n X.1 dX9_townNamed_2 rfl (lv_at hl 2 rfl) ?_
  refine z_aload_n X.1 dX9_townNamed_3 rfl (lv_at hl 0 rfl) ?_
  refine c_geti X hp0 cf_X9_9 dX9_townNamed_4 ?_
  refine z_icmp_ge (tgt := 34) X.1 dX9_townNamed_7 (by decide) (fun c_ => ?_) (fun c_ => ?_)
  · have hf := (if_pos c_).symm.trans hf
    refine z_iconst (v := -1) X.1 dX9_townNamed_34 (by decide) ?_
    exact c_iretS X Z hf rfl dX9_townNamed_35
  · have hf := (if_neg c_).symm.trans hf
    refine z_iload_n X.1 dX9_townNamed_10 rfl (lv_at hl 2 rfl) ?_
    refine z_bipush (v := 6) X.1 dX9_townNamed_11 (by decide) ?_
    refine z_icmp_ge (tgt := 34) X.1 dX9_townNamed_13 (by decide) (fun c_ => ?_) (fun c_ => ?_)
    · have hf := (if_pos c_).symm.trans hf
      refine z_iconst (v := -1) X.1 dX9_townNamed_34 (by decide) ?_
      exact c_iretS X Z hf rfl dX9_townNamed_35
    · have hf := (if_neg c_).symm.trans hf
      refine z_aload_n X.1 dX9_townNamed_16 rfl (lv_at hl 0 rfl) ?_
      refine c_geta X hp0 cf_X9_27 ep0_5 dX9_townNamed_17 ?_
      refine z_iload_n X.1 dX9_townNamed_20 rfl (lv_at hl 2 rfl) ?_
      obtain ⟨hb1, hf⟩ := z_ite hf
      refine c_iald X hp0_5 hb1 dX9_townNamed_21 ?_
      refine z_iload_n X.1 dX9_townNamed_22 rfl (lv_at hl 1 rfl) ?_
      refine z_icmp_ne (tgt := 28) X.1 dX9_townNamed_23 (by decide) (fun c_ => ?_) (fun c_ => ?_)
      · have hf := (if_neg c_).symm.trans hf
        refine z_iinc (v := x2 + 1) (k0 := 2) (lv' := [(2, .int (x2 + 1)), (0, .ref (ad p0)), (1, .int x1)]) X.1 dX9_townNamed_28 hl rfl rfl (by decide) rfl (fun ls hl => ?_)
        refine z_goto (tgt := 2) X.1 dX9_townNamed_31 (by decide) ?_
        exact hk2 x1 (x2 + 1) ls (lv_sub hl [1, 2, 0] rfl) hf
      · have hf := (if_pos c_).symm.trans hf
        refine z_iload_n X.1 dX9_townNamed_26 rfl (lv_at hl 2 rfl) ?_
        exact c_iretS X Z hf rfl dX9_townNamed_27

set_option maxHeartbeats 4000000 in
set_option maxRecDepth 100000 in
theorem w_X9_townNamed {M : zM} {D : va_G} {cy : Nat → ClassId} {ad : Nat → Nat} {n : Nat} {K N : Nat → Nat} {G : zG} {V : zI} {L : zL} {r' : Int32} (X : RXc M D cy ad n K N G cX9_townNamed 3 RX9 0 0) (Z : RZi M (zC D cy ad n K N G) .int r' V L) {p0 : Nat} (hp0 : p0 < n ∧ K p0 = 7) {p0_5 : Nat} (hp0_5 : p0_5 < n ∧ K p0_5 = 100) (ep0_5 : G p0 5 = some p0_5) (x1 : Int32) (ls : Array Slot) (hl : lv_has ls 3 [(0, .ref (ad p0)), (1, .int x1)]) (hf : g_X9_townNamed N G p0 p0_5 V L x1 = some r') : RG M (zC D cy ad n K N G) V L 0 ls [] := by
  unfold g_X9_townNamed at hf
  refine z_iconst (v := 0) X.1 dX9_townNamed_0 (by decide) ?_
  refine z_istore_n (lv' := [(2, .int 0), (0, .ref (ad p0)), (1, .int x1)]) X.1 dX9_townNamed_1 rfl hl (by decide) rfl (fun ls hl => ?_)
  exact w_X9_townNamed_2 X Z hp0 hp0_5 ep0_5 FU x1 0 ls (lv_sub hl [1, 2, 0] rfl) hf

theorem c_X9_townNamed (D : va_G) (cy : Nat → ClassId) (ad : Nat → Nat) {n : Nat} {K N : Nat → Nat} {G : zG} (hWF : zWF n K G) {p0 : Nat} {x1 : Int32} {V : zI} {L : zL} (hp0 : p0 < n ∧ K p0 = 7) {r' : Int32} (hf : f_X9_townNamed N G p0 x1 V L = some r') : RCi (zC D cy ad n K N G) yX9_townNamed cX9_townNamed 3 .int 0 0 [.ref (ad p0), .int x1] V L r' V L := by
  unfold f_X9_townNamed at hf
  obtain ⟨p0_5, ep0_5, hf⟩ := z_bind hf
  have hp0_5 := hWF.get hp0 (k := 5) (c := 100) rfl ep0_5
  exact RCi.of (by decide) hWF (Nat.le_of_ble_eq_true rfl) (fun M X Z ls hl => w_X9_townNamed X Z hp0 hp0_5 ep0_5 x1 ls hl hf)
def g_X5_readTown (N : Nat → Nat) (G : zG) (p0 : Nat) (p0_5 : Nat) (p0_5_5 : Nat) (V : zI) (L : zL) : Option (zI × zL) :=
  (if (V p0_5 0) < 6 then (f_X5_take N G p0 V L).bind fun r1 => (if (r1.1 p0 2) = 3 then (f_X9_townNamed N G p0_5 (r1.1 p0 3) r1.1 r1.2).bind fun r2 => (if r2 = (-1) then if inB (r1.1 p0_5 0) (N p0_5_5) then (f_X5_take N G p0 (z_uI (z_uI r1.1 p0_5_5 (r1.1 p0_5 0).toNatClampNeg (r1.1 p0 3)) p0_5 0 (((z_uI r1.1 p0_5_5 (r1.1 p0_5 0).toNatClampNeg (r1.1 p0 3)) p0_5 0) + 1)) r1.2).bind fun r4 => some (r4.1, r4.2) else none else (f_X5_fail N G p0 2 (r1.1 p0 4) r1.1 r1.2).bind fun r5 => some (r5.1, r5.2)) else (f_X5_failHere N G p0 r1.1 r1.2).bind fun r6 => some (r6.1, r6.2)) else (f_X5_fail N G p0 6 (V p0 4) V L).bind fun r7 => some (r7.1, r7.2))
def f_X5_readTown (N : Nat → Nat) (G : zG) (p0 : Nat) (V : zI) (L : zL) : Option (zI × zL) :=
  (G p0 5).bind fun p0_5 => (G p0_5 5).bind fun p0_5_5 => g_X5_readTown N G p0 p0_5 p0_5_5 V L
set_option maxHeartbeats 4000000 in
set_option maxRecDepth 100000 in
theorem w_X5_readTown {M : zM} {D : va_G} {cy : Nat → ClassId} {ad : Nat → Nat} {n : Nat} {K N : Nat → Nat} {G : zG} {r' : zI × zL} (X : RXc M D cy ad n K N G cX5_readTown 1 RX5 2 42) (Z : RZv M (zC D cy ad n K N G) r'.1 r'.2) {p0 : Nat} (hp0 : p0 < n ∧ K p0 = 4) {p0_5 : Nat} (hp0_5 : p0_5 < n ∧ K p0_5 = 7) (ep0_5 : G p0 5 = some p0_5) {p0_5_5 : Nat} (hp0_5_5 : p0_5_5 < n ∧ K p0_5_5 = 100) (ep0_5_5 : G p0_5 5 = some p0_5_5)  (V : zI) (L : zL) (ls : Array Slot) (hl : lv_has ls 1 [(0, .ref (ad p0))]) (hf : g_X5_readTown N G p0 p0_5 p0_5_5 V L = some r') : RG M (zC D cy ad n K N G) V L 0 ls [] := by
  unfold g_X5_readTown at hf
  refine z_aload_n X.1 dX5_readTown_0 rfl (lv_at hl 0 rfl) ?_
  refine c_geta X hp0 cf_X5_29 ep0_5 dX5_readTown_1 ?_
  refine c_geti X hp0_5 cf_X5_120 dX5_readTown_4 ?_
  refine z_bipush (v := 6) X.1 dX5_readTown_7 (by decide) ?_
  refine z_icmp_lt (tgt := 23) X.1 dX5_readTown_9 (by decide) (fun c_ => ?_) (fun c_ => ?_)
  · have hf := (if_pos c_).symm.trans hf
    refine z_aload_n X.1 dX5_readTown_23 rfl (lv_at hl 0 rfl) ?_
    obtain ⟨r1, hc1, hf⟩ := z_bind hf
    refine c_callVv [] X hl.1 (c_X5_take D cy ad X.2.2 hp0 hc1) hp0 ⟨by decide, rfl⟩ cm_X5_70 cw_X5_take rfl cq_X5_take ⟨by decide, by decide⟩ (Nat.le_of_ble_eq_true rfl) rfl dX5_readTown_24 ?_
    refine z_aload_n X.1 dX5_readTown_27 rfl (lv_at hl 0 rfl) ?_
    refine c_geti X hp0 cf_X5_17 dX5_readTown_28 ?_
    refine z_iconst (v := 3) X.1 dX5_readTown_31 (by decide) ?_
    refine z_icmp_eq (tgt := 42) X.1 dX5_readTown_32 (by decide) (fun c_ => ?_) (fun c_ => ?_)
    · have hf := (if_pos c_).symm.trans hf
      refine z_aload_n X.1 dX5_readTown_42 rfl (lv_at hl 0 rfl) ?_
      refine c_geta X hp0 cf_X5_29 ep0_5 dX5_readTown_43 ?_
      refine z_aload_n X.1 dX5_readTown_46 rfl (lv_at hl 0 rfl) ?_
      refine c_geti X hp0 cf_X5_20 dX5_readTown_47 ?_
      obtain ⟨r2, hc2, hf⟩ := z_bind hf
      refine c_callVi [.int (r1.1 p0 3)] X hl.1 (c_X9_townNamed D cy ad X.2.2 hp0_5 hc2) hp0_5 ⟨by decide, rfl⟩ cm_X5_123 cw_X9_townNamed rfl cq_X9_townNamed ⟨by decide, by decide⟩ (Nat.le_of_ble_eq_true rfl) rfl dX5_readTown_50 ?_
      refine z_iconst (v := -1) X.1 dX5_readTown_53 (by decide) ?_
      refine z_icmp_eq (tgt := 69) X.1 dX5_readTown_54 (by decide) (fun c_ => ?_) (fun c_ => ?_)
      · have hf := (if_pos c_).symm.trans hf
        refine z_aload_n X.1 dX5_readTown_69 rfl (lv_at hl 0 rfl) ?_
        refine c_geta X hp0 cf_X5_29 ep0_5 dX5_readTown_70 ?_
        refine c_geta X hp0_5 cf_X5_127 ep0_5_5 dX5_readTown_73 ?_
        refine z_aload_n X.1 dX5_readTown_76 rfl (lv_at hl 0 rfl) ?_
        refine c_geta X hp0 cf_X5_29 ep0_5 dX5_readTown_77 ?_
        refine c_geti X hp0_5 cf_X5_120 dX5_readTown_80 ?_
        refine z_aload_n X.1 dX5_readTown_83 rfl (lv_at hl 0 rfl) ?_
        refine c_geti X hp0 cf_X5_20 dX5_readTown_84 ?_
        obtain ⟨hb3, hf⟩ := z_ite hf
        refine c_iast X hp0_5_5 hb3 dX5_readTown_87 ?_
        refine z_aload_n X.1 dX5_readTown_88 rfl (lv_at hl 0 rfl) ?_
        refine c_geta X hp0 cf_X5_29 ep0_5 dX5_readTown_89 ?_
        refine z_dup X.1 dX5_readTown_92 rfl ?_
        refine c_geti X hp0_5 cf_X5_120 dX5_readTown_93 ?_
        refine z_iconst (v := 1) X.1 dX5_readTown_96 (by decide) ?_
        refine z_iadd X.1 dX5_readTown_97 ?_
        refine c_puti X hp0_5 cf_X5_120 cg_X9 cp_X9_0 rfl rfl dX5_readTown_98 ?_
        refine z_aload_n X.1 dX5_readTown_101 rfl (lv_at hl 0 rfl) ?_
        obtain ⟨r4, hc4, hf⟩ := z_bind hf
        refine c_callVv [] X hl.1 (c_X5_take D cy ad X.2.2 hp0 hc4) hp0 ⟨by decide, rfl⟩ cm_X5_70 cw_X5_take rfl cq_X5_take ⟨by decide, by decide⟩ (Nat.le_of_ble_eq_true rfl) rfl dX5_readTown_102 ?_
        exact c_vret X Z hf dX5_readTown_105
      · have hf := (if_neg c_).symm.trans hf
        refine z_aload_n X.1 dX5_readTown_57 rfl (lv_at hl 0 rfl) ?_
        refine z_iconst (v := 2) X.1 dX5_readTown_58 (by decide) ?_
        refine z_aload_n X.1 dX5_readTown_59 rfl (lv_at hl 0 rfl) ?_
        refine c_geti X hp0 cf_X5_23 dX5_readTown_60 ?_
        obtain ⟨r5, hc5, hf⟩ := z_bind hf
        refine c_callVv [.int 2, .int (r1.1 p0 4)] X hl.1 (c_X5_fail D cy ad X.2.2 hp0 hc5) hp0 ⟨by decide, rfl⟩ cm_X5_73 cw_X5_fail rfl cq_X5_fail ⟨by decide, by decide⟩ (Nat.le_of_ble_eq_true rfl) rfl dX5_readTown_63 ?_
        refine z_goto (tgt := 105) X.1 dX5_readTown_66 (by decide) ?_
        exact c_vret X Z hf dX5_readTown_105
    · have hf := (if_neg c_).symm.trans hf
      refine z_aload_n X.1 dX5_readTown_35 rfl (lv_at hl 0 rfl) ?_
      obtain ⟨r6, hc6, hf⟩ := z_bind hf
      refine c_callVv [] X hl.1 (c_X5_failHere D cy ad X.2.2 hp0 hc6) hp0 ⟨by decide, rfl⟩ cm_X5_117 cw_X5_failHere rfl cq_X5_failHere ⟨by decide, by decide⟩ (Nat.le_of_ble_eq_true rfl) rfl dX5_readTown_36 ?_
      refine z_goto (tgt := 105) X.1 dX5_readTown_39 (by decide) ?_
      exact c_vret X Z hf dX5_readTown_105
  · have hf := (if_neg c_).symm.trans hf
    refine z_aload_n X.1 dX5_readTown_12 rfl (lv_at hl 0 rfl) ?_
    refine z_bipush (v := 6) X.1 dX5_readTown_13 (by decide) ?_
    refine z_aload_n X.1 dX5_readTown_15 rfl (lv_at hl 0 rfl) ?_
    refine c_geti X hp0 cf_X5_23 dX5_readTown_16 ?_
    obtain ⟨r7, hc7, hf⟩ := z_bind hf
    refine c_callVv [.int 6, .int (V p0 4)] X hl.1 (c_X5_fail D cy ad X.2.2 hp0 hc7) hp0 ⟨by decide, rfl⟩ cm_X5_73 cw_X5_fail rfl cq_X5_fail ⟨by decide, by decide⟩ (Nat.le_of_ble_eq_true rfl) rfl dX5_readTown_19 ?_
    exact c_vret X Z hf dX5_readTown_22

theorem c_X5_readTown (D : va_G) (cy : Nat → ClassId) (ad : Nat → Nat) {n : Nat} {K N : Nat → Nat} {G : zG} (hWF : zWF n K G) {p0 : Nat} {V : zI} {L : zL} (hp0 : p0 < n ∧ K p0 = 4) {r' : zI × zL} (hf : f_X5_readTown N G p0 V L = some r') : RCv (zC D cy ad n K N G) yX5_readTown cX5_readTown 1 2 42 [.ref (ad p0)] V L r'.1 r'.2 := by
  unfold f_X5_readTown at hf
  obtain ⟨p0_5, ep0_5, hf⟩ := z_bind hf
  have hp0_5 := hWF.get hp0 (k := 5) (c := 7) rfl ep0_5
  obtain ⟨p0_5_5, ep0_5_5, hf⟩ := z_bind hf
  have hp0_5_5 := hWF.get hp0_5 (k := 5) (c := 100) rfl ep0_5_5
  exact RCv.of (by decide) hWF (Nat.le_of_ble_eq_true rfl) (fun M X Z ls hl => w_X5_readTown X Z hp0 hp0_5 ep0_5 hp0_5_5 ep0_5_5 V L ls hl hf)
def g_X9_isTown (N : Nat → Nat) (G : zG) (p0 : Nat) (V : zI) (L : zL) (x1 : Int32) : Option (Int32) :=
  (if x1 < 0 then some 0 else (if (V p0 0) ≤ x1 then some 0 else (if 6 ≤ x1 then some 0 else some 1)))
def f_X9_isTown (N : Nat → Nat) (G : zG) (p0 : Nat) (x1 : Int32) (V : zI) (L : zL) : Option (Int32) :=
  g_X9_isTown N G p0 V L x1
set_option maxHeartbeats 4000000 in
set_option maxRecDepth 100000 in
theorem w_X9_isTown {M : zM} {D : va_G} {cy : Nat → ClassId} {ad : Nat → Nat} {n : Nat} {K N : Nat → Nat} {G : zG} {V : zI} {L : zL} {r' : Int32} (X : RXc M D cy ad n K N G cX9_isTown 2 RX9 0 0) (Z : RZi M (zC D cy ad n K N G) .boolean r' V L) {p0 : Nat} (hp0 : p0 < n ∧ K p0 = 7) (x1 : Int32) (ls : Array Slot) (hl : lv_has ls 2 [(0, .ref (ad p0)), (1, .int x1)]) (hf : g_X9_isTown N G p0 V L x1 = some r') : RG M (zC D cy ad n K N G) V L 0 ls [] := by
  unfold g_X9_isTown at hf
  refine z_iload_n X.1 dX9_isTown_0 rfl (lv_at hl 1 rfl) ?_
  refine z_if_lt (tgt := 22) X.1 dX9_isTown_1 (by decide) (fun c_ => ?_) (fun c_ => ?_)
  · have hf := (if_pos c_).symm.trans hf
    refine z_iconst (v := 0) X.1 dX9_isTown_22 (by decide) ?_
    exact c_iretS X Z hf (by decide) dX9_isTown_23
  · have hf := (if_neg c_).symm.trans hf
    refine z_iload_n X.1 dX9_isTown_4 rfl (lv_at hl 1 rfl) ?_
    refine z_aload_n X.1 dX9_isTown_5 rfl (lv_at hl 0 rfl) ?_
    refine c_geti X hp0 cf_X9_9 dX9_isTown_6 ?_
    refine z_icmp_ge (tgt := 22) X.1 dX9_isTown_9 (by decide) (fun c_ => ?_) (fun c_ => ?_)
    · have hf := (if_pos c_).symm.trans hf
      refine z_iconst (v := 0) X.1 dX9_isTown_22 (by decide) ?_
      exact c_iretS X Z hf (by decide) dX9_isTown_23
    · have hf := (if_neg c_).symm.trans hf
      refine z_iload_n X.1 dX9_isTown_12 rfl (lv_at hl 1 rfl) ?_
      refine z_bipush (v := 6) X.1 dX9_isTown_13 (by decide) ?_
      refine z_icmp_ge (tgt := 22) X.1 dX9_isTown_15 (by decide) (fun c_ => ?_) (fun c_ => ?_)
      · have hf := (if_pos c_).symm.trans hf
        refine z_iconst (v := 0) X.1 dX9_isTown_22 (by decide) ?_
        exact c_iretS X Z hf (by decide) dX9_isTown_23
      · have hf := (if_neg c_).symm.trans hf
        refine z_iconst (v := 1) X.1 dX9_isTown_18 (by decide) ?_
        refine z_goto (tgt := 23) X.1 dX9_isTown_19 (by decide) ?_
        exact c_iretS X Z hf (by decide) dX9_isTown_23

theorem c_X9_isTown (D : va_G) (cy : Nat → ClassId) (ad : Nat → Nat) {n : Nat} {K N : Nat → Nat} {G : zG} (hWF : zWF n K G) {p0 : Nat} {x1 : Int32} {V : zI} {L : zL} (hp0 : p0 < n ∧ K p0 = 7) {r' : Int32} (hf : f_X9_isTown N G p0 x1 V L = some r') : RCi (zC D cy ad n K N G) yX9_isTown cX9_isTown 2 .boolean 0 0 [.ref (ad p0), .int x1] V L r' V L := by
  unfold f_X9_isTown at hf
  exact RCi.of (by decide) hWF (Nat.le_of_ble_eq_true rfl) (fun M X Z ls hl => w_X9_isTown X Z hp0 x1 ls hl hf)
def g_X9_isPair (N : Nat → Nat) (G : zG) (p0 : Nat) (V : zI) (L : zL) (x1 : Int32) (x2 : Int32) : Option (Int32) :=
  (f_X9_isTown N G p0 x1 V L).bind fun r1 => (if r1 = 0 then some 0 else (f_X9_isTown N G p0 x2 V L).bind fun r2 => (if r2 = 0 then some 0 else (if x1 = x2 then some 0 else some 1)))
def f_X9_isPair (N : Nat → Nat) (G : zG) (p0 : Nat) (x1 : Int32) (x2 : Int32) (V : zI) (L : zL) : Option (Int32) :=
  g_X9_isPair N G p0 V L x1 x2
set_option maxHeartbeats 4000000 in
set_option maxRecDepth 100000 in
theorem w_X9_isPair {M : zM} {D : va_G} {cy : Nat → ClassId} {ad : Nat → Nat} {n : Nat} {K N : Nat → Nat} {G : zG} {V : zI} {L : zL} {r' : Int32} (X : RXc M D cy ad n K N G cX9_isPair 3 RX9 1 21) (Z : RZi M (zC D cy ad n K N G) .boolean r' V L) {p0 : Nat} (hp0 : p0 < n ∧ K p0 = 7) (x1 : Int32) (x2 : Int32) (ls : Array Slot) (hl : lv_has ls 3 [(0, .ref (ad p0)), (1, .int x1), (2, .int x2)]) (hf : g_X9_isPair N G p0 V L x1 x2 = some r') : RG M (zC D cy ad n K N G) V L 0 ls [] := by
  unfold g_X9_isPair at hf
  refine z_aload_n X.1 dX9_isPair_0 rfl (lv_at hl 0 rfl) ?_
  refine z_iload_n X.1 dX9_isPair_1 rfl (lv_at hl 1 rfl) ?_
  obtain ⟨r1, hc1, hf⟩ := z_bind hf
  refine c_callVi [.int x1] X hl.1 (c_X9_isTown D cy ad X.2.2 hp0 hc1) hp0 ⟨by decide, rfl⟩ cm_X9_46 cw_X9_isTown rfl cq_X9_isTown ⟨by decide, by decide⟩ (Nat.le_of_ble_eq_true rfl) rfl dX9_isPair_2 ?_
  refine z_if_eq (tgt := 25) X.1 dX9_isPair_5 (by decide) (fun c_ => ?_) (fun c_ => ?_)
  · have hf := (if_pos c_).symm.trans hf
    refine z_iconst (v := 0) X.1 dX9_isPair_25 (by decide) ?_
    exact c_iretS X Z hf (by decide) dX9_isPair_26
  · have hf := (if_neg c_).symm.trans hf
    refine z_aload_n X.1 dX9_isPair_8 rfl (lv_at hl 0 rfl) ?_
    refine z_iload_n X.1 dX9_isPair_9 rfl (lv_at hl 2 rfl) ?_
    obtain ⟨r2, hc2, hf⟩ := z_bind hf
    refine c_callVi [.int x2] X hl.1 (c_X9_isTown D cy ad X.2.2 hp0 hc2) hp0 ⟨by decide, rfl⟩ cm_X9_46 cw_X9_isTown rfl cq_X9_isTown ⟨by decide, by decide⟩ (Nat.le_of_ble_eq_true rfl) rfl dX9_isPair_10 ?_
    refine z_if_eq (tgt := 25) X.1 dX9_isPair_13 (by decide) (fun c_ => ?_) (fun c_ => ?_)
    · have hf := (if_pos c_).symm.trans hf
      refine z_iconst (v := 0) X.1 dX9_isPair_25 (by decide) ?_
      exact c_iretS X Z hf (by decide) dX9_isPair_26
    · have hf := (if_neg c_).symm.trans hf
      refine z_iload_n X.1 dX9_isPair_16 rfl (lv_at hl 1 rfl) ?_
      refine z_iload_n X.1 dX9_isPair_17 rfl (lv_at hl 2 rfl) ?_
      refine z_icmp_eq (tgt := 25) X.1 dX9_isPair_18 (by decide) (fun c_ => ?_) (fun c_ => ?_)
      · have hf := (if_pos c_).symm.trans hf
        refine z_iconst (v := 0) X.1 dX9_isPair_25 (by decide) ?_
        exact c_iretS X Z hf (by decide) dX9_isPair_26
      · have hf := (if_neg c_).symm.trans hf
        refine z_iconst (v := 1) X.1 dX9_isPair_21 (by decide) ?_
        refine z_goto (tgt := 26) X.1 dX9_isPair_22 (by decide) ?_
        exact c_iretS X Z hf (by decide) dX9_isPair_26

theorem c_X9_isPair (D : va_G) (cy : Nat → ClassId) (ad : Nat → Nat) {n : Nat} {K N : Nat → Nat} {G : zG} (hWF : zWF n K G) {p0 : Nat} {x1 : Int32} {x2 : Int32} {V : zI} {L : zL} (hp0 : p0 < n ∧ K p0 = 7) {r' : Int32} (hf : f_X9_isPair N G p0 x1 x2 V L = some r') : RCi (zC D cy ad n K N G) yX9_isPair cX9_isPair 3 .boolean 1 21 [.ref (ad p0), .int x1, .int x2] V L r' V L := by
  unfold f_X9_isPair at hf
  exact RCi.of (by decide) hWF (Nat.le_of_ble_eq_true rfl) (fun M X Z ls hl => w_X9_isPair X Z hp0 x1 x2 ls hl hf)
def f_X5_readNamed_88 (N : Nat → Nat) (G : zG) (p0 : Nat) (p0_5 : Nat) (p0_5_7 : Nat) (x3 : Int32) (x4 : Int32) (V : zI) (L : zL) : Option (Int32 × zI × zL) :=
  (if x4 = 0 then (f_X5_take N G p0 V L).bind fun r1 => some (x3, r1.1, r1.2) else (f_X5_fail N G p0 3 (V p0 4) V L).bind fun r2 => some ((-1), r2.1, r2.2))
def f_X5_readNamed_86 (N : Nat → Nat) (G : zG) (p0 : Nat) (p0_5 : Nat) (p0_5_7 : Nat) (x3 : Int32) (s0 : Int32) (V : zI) (L : zL) : Option (Int32 × zI × zL) :=
  f_X5_readNamed_88 N G p0 p0_5 p0_5_7 x3 s0 V L
def f_X5_readNamed_41 (N : Nat → Nat) (G : zG) (p0 : Nat) (p0_5 : Nat) (p0_5_7 : Nat) (x1 : Int32) (x2 : Int32) (x3 : Int32) (s0 : Int32) (V : zI) (L : zL) : Option (Int32 × zI × zL) :=
  (if s0 = 0 then (if x2 = 0 then f_X5_readNamed_88 N G p0 p0_5 p0_5_7 x3 s0 V L else (f_X9_isPair N G p0_5 x1 x3 V L).bind fun r1 => (if r1 = 0 then f_X5_readNamed_88 N G p0 p0_5 p0_5_7 x3 s0 V L else if inB ((x1 * 6) + x3) (N p0_5_7) then (if (V p0_5_7 ((x1 * 6) + x3).toNatClampNeg) ≤ 0 then f_X5_readNamed_86 N G p0 p0_5 p0_5_7 x3 0 V L else f_X5_readNamed_86 N G p0 p0_5 p0_5_7 x3 1 V L) else none)) else f_X5_readNamed_88 N G p0 p0_5 p0_5_7 x3 s0 V L)
def f_X5_readNamed_36 (N : Nat → Nat) (G : zG) (p0 : Nat) (p0_5 : Nat) (p0_5_7 : Nat) (x1 : Int32) (x2 : Int32) (x3 : Int32) (V : zI) (L : zL) : Option (Int32 × zI × zL) :=
  f_X5_readNamed_41 N G p0 p0_5 p0_5_7 x1 x2 x3 1 V L
def g_X5_readNamed (N : Nat → Nat) (G : zG) (p0 : Nat) (p0_5 : Nat) (p0_5_7 : Nat) (x1 : Int32) (x2 : Int32) (V : zI) (L : zL) : Option (Int32 × zI × zL) :=
  (if (V p0 2) = 3 then (f_X9_townNamed N G p0_5 (V p0 3) V L).bind fun r1 => (if r1 = (-1) then f_X5_readNamed_36 N G p0 p0_5 p0_5_7 x1 x2 r1 V L else (if r1 = x1 then f_X5_readNamed_36 N G p0 p0_5 p0_5_7 x1 x2 r1 V L else f_X5_readNamed_41 N G p0 p0_5 p0_5_7 x1 x2 r1 0 V L)) else (f_X5_failHere N G p0 V L).bind fun r2 => some ((-1), r2.1, r2.2))
def f_X5_readNamed (N : Nat → Nat) (G : zG) (p0 : Nat) (x1 : Int32) (x2 : Int32) (V : zI) (L : zL) : Option (Int32 × zI × zL) :=
  (G p0 5).bind fun p0_5 => (G p0_5 7).bind fun p0_5_7 => g_X5_readNamed N G p0 p0_5 p0_5_7 x1 x2 V L
set_option maxHeartbeats 4000000 in
set_option maxRecDepth 100000 in
theorem w_X5_readNamed_88 {M : zM} {D : va_G} {cy : Nat → ClassId} {ad : Nat → Nat} {n : Nat} {K N : Nat → Nat} {G : zG} {r' : Int32 × zI × zL} (X : RXc M D cy ad n K N G cX5_readNamed 5 RX5 2 43) (Z : RZi M (zC D cy ad n K N G) .int r'.1 r'.2.1 r'.2.2) {p0 : Nat} (hp0 : p0 < n ∧ K p0 = 4) {p0_5 : Nat} (hp0_5 : p0_5 < n ∧ K p0_5 = 7) (ep0_5 : G p0 5 = some p0_5) {p0_5_7 : Nat} (hp0_5_7 : p0_5_7 < n ∧ K p0_5_7 = 100) (ep0_5_7 : G p0_5 7 = some p0_5_7) (x3 : Int32) (x4 : Int32) (V : zI) (L : zL) (ls : Array Slot) (hl : lv_has ls 5 [(0, .ref (ad p0)), (3, .int x3), (4, .int x4)]) (hf : f_X5_readNamed_88 N G p0 p0_5 p0_5_7 x3 x4 V L = some r') : RG M (zC D cy ad n K N G) V L 88 ls [] := by
  unfold f_X5_readNamed_88 at hf
  refine z_iload X.1 dX5_readNamed_88 (lv_at hl 2 rfl) ?_
  refine z_if_eq (tgt := 104) X.1 dX5_readNamed_90 (by decide) (fun c_ => ?_) (fun c_ => ?_)
  · have hf := (if_pos c_).symm.trans hf
    refine z_aload_n X.1 dX5_readNamed_104 rfl (lv_at hl 0 rfl) ?_
    obtain ⟨r1, hc1, hf⟩ := z_bind hf
    refine c_callVv [] X hl.1 (c_X5_take D cy ad X.2.2 hp0 hc1) hp0 ⟨by decide, rfl⟩ cm_X5_70 cw_X5_take rfl cq_X5_take ⟨by decide, by decide⟩ (Nat.le_of_ble_eq_true rfl) rfl dX5_readNamed_105 ?_
    refine z_iload_n X.1 dX5_readNamed_108 rfl (lv_at hl 1 rfl) ?_
    exact c_iret X Z hf rfl dX5_readNamed_109
  · have hf := (if_neg c_).symm.trans hf
    refine z_aload_n X.1 dX5_readNamed_93 rfl (lv_at hl 0 rfl) ?_
    refine z_iconst (v := 3) X.1 dX5_readNamed_94 (by decide) ?_
    refine z_aload_n X.1 dX5_readNamed_95 rfl (lv_at hl 0 rfl) ?_
    refine c_geti X hp0 cf_X5_23 dX5_readNamed_96 ?_
    obtain ⟨r2, hc2, hf⟩ := z_bind hf
    refine c_callVv [.int 3, .int (V p0 4)] X hl.1 (c_X5_fail D cy ad X.2.2 hp0 hc2) hp0 ⟨by decide, rfl⟩ cm_X5_73 cw_X5_fail rfl cq_X5_fail ⟨by decide, by decide⟩ (Nat.le_of_ble_eq_true rfl) rfl dX5_readNamed_99 ?_
    refine z_iconst (v := -1) X.1 dX5_readNamed_102 (by decide) ?_
    exact c_iret X Z hf rfl dX5_readNamed_103

set_option maxHeartbeats 4000000 in
set_option maxRecDepth 100000 in
theorem w_X5_readNamed_86 {M : zM} {D : va_G} {cy : Nat → ClassId} {ad : Nat → Nat} {n : Nat} {K N : Nat → Nat} {G : zG} {r' : Int32 × zI × zL} (X : RXc M D cy ad n K N G cX5_readNamed 5 RX5 2 43) (Z : RZi M (zC D cy ad n K N G) .int r'.1 r'.2.1 r'.2.2) {p0 : Nat} (hp0 : p0 < n ∧ K p0 = 4) {p0_5 : Nat} (hp0_5 : p0_5 < n ∧ K p0_5 = 7) (ep0_5 : G p0 5 = some p0_5) {p0_5_7 : Nat} (hp0_5_7 : p0_5_7 < n ∧ K p0_5_7 = 100) (ep0_5_7 : G p0_5 7 = some p0_5_7) (x3 : Int32) (s0 : Int32) (V : zI) (L : zL) (ls : Array Slot) (hl : lv_has ls 5 [(0, .ref (ad p0)), (3, .int x3)]) (hf : f_X5_readNamed_86 N G p0 p0_5 p0_5_7 x3 s0 V L = some r') : RG M (zC D cy ad n K N G) V L 86 ls [.int s0] := by
  unfold f_X5_readNamed_86 at hf
  refine z_istore (lv' := [(4, .int s0), (0, .ref (ad p0)), (3, .int x3)]) X.1 dX5_readNamed_86 hl (by decide) rfl (fun ls hl => ?_)
  exact w_X5_readNamed_88 X Z hp0 hp0_5 ep0_5 hp0_5_7 ep0_5_7 x3 s0 V L ls (lv_sub hl [1, 2, 0] rfl) hf

set_option maxHeartbeats 4000000 in
set_option maxRecDepth 100000 in
theorem w_X5_readNamed_41 {M : zM} {D : va_G} {cy : Nat → ClassId} {ad : Nat → Nat} {n : Nat} {K N : Nat → Nat} {G : zG} {r' : Int32 × zI × zL} (X : RXc M D cy ad n K N G cX5_readNamed 5 RX5 2 43) (Z : RZi M (zC D cy ad n K N G) .int r'.1 r'.2.1 r'.2.2) {p0 : Nat} (hp0 : p0 < n ∧ K p0 = 4) {p0_5 : Nat} (hp0_5 : p0_5 < n ∧ K p0_5 = 7) (ep0_5 : G p0 5 = some p0_5) {p0_5_7 : Nat} (hp0_5_7 : p0_5_7 < n ∧ K p0_5_7 = 100) (ep0_5_7 : G p0_5 7 = some p0_5_7) (x1 : Int32) (x2 : Int32) (x3 : Int32) (s0 : Int32) (V : zI) (L : zL) (ls : Array Slot) (hl : lv_has ls 5 [(0, .ref (ad p0)), (1, .int x1), (2, .int x2), (3, .int x3)]) (hf : f_X5_readNamed_41 N G p0 p0_5 p0_5_7 x1 x2 x3 s0 V L = some r') : RG M (zC D cy ad n K N G) V L 41 ls [.int s0] := by
  unfold f_X5_readNamed_41 at hf
  refine z_istore (lv' := [(4, .int s0), (0, .ref (ad p0)), (1, .int x1), (2, .int x2), (3, .int x3)]) X.1 dX5_readNamed_41 hl (by decide) rfl (fun ls hl => ?_)
  refine z_iload X.1 dX5_readNamed_43 (lv_at hl 0 rfl) ?_
  refine z_if_ne (tgt := 88) X.1 dX5_readNamed_45 (by decide) (fun c_ => ?_) (fun c_ => ?_)
  · have hf := (if_neg c_).symm.trans hf
    exact w_X5_readNamed_88 X Z hp0 hp0_5 ep0_5 hp0_5_7 ep0_5_7 x3 s0 V L ls (lv_sub hl [1, 4, 0] rfl) hf
  · have hf := (if_pos c_).symm.trans hf
    refine z_iload_n X.1 dX5_readNamed_48 rfl (lv_at hl 3 rfl) ?_
    refine z_if_eq (tgt := 88) X.1 dX5_readNamed_49 (by decide) (fun c_ => ?_) (fun c_ => ?_)
    · have hf := (if_pos c_).symm.trans hf
      exact w_X5_readNamed_88 X Z hp0 hp0_5 ep0_5 hp0_5_7 ep0_5_7 x3 s0 V L ls (lv_sub hl [1, 4, 0] rfl) hf
    · have hf := (if_neg c_).symm.trans hf
      refine z_aload_n X.1 dX5_readNamed_52 rfl (lv_at hl 1 rfl) ?_
      refine c_geta X hp0 cf_X5_29 ep0_5 dX5_readNamed_53 ?_
      refine z_iload_n X.1 dX5_readNamed_56 rfl (lv_at hl 2 rfl) ?_
      refine z_iload_n X.1 dX5_readNamed_57 rfl (lv_at hl 4 rfl) ?_
      obtain ⟨r1, hc1, hf⟩ := z_bind hf
      refine c_callVi [.int x1, .int x3] X hl.1 (c_X9_isPair D cy ad X.2.2 hp0_5 hc1) hp0_5 ⟨by decide, rfl⟩ cm_X5_140 cw_X9_isPair rfl cq_X9_isPair ⟨by decide, by decide⟩ (Nat.le_of_ble_eq_true rfl) rfl dX5_readNamed_58 ?_
      refine z_if_eq (tgt := 88) X.1 dX5_readNamed_61 (by decide) (fun c_ => ?_) (fun c_ => ?_)
      · have hf := (if_pos c_).symm.trans hf
        exact w_X5_readNamed_88 X Z hp0 hp0_5 ep0_5 hp0_5_7 ep0_5_7 x3 s0 V L ls (lv_sub hl [1, 4, 0] rfl) hf
      · have hf := (if_neg c_).symm.trans hf
        refine z_aload_n X.1 dX5_readNamed_64 rfl (lv_at hl 1 rfl) ?_
        refine c_geta X hp0 cf_X5_29 ep0_5 dX5_readNamed_65 ?_
        refine c_geta X hp0_5 cf_X5_144 ep0_5_7 dX5_readNamed_68 ?_
        refine z_iload_n X.1 dX5_readNamed_71 rfl (lv_at hl 2 rfl) ?_
        refine z_bipush (v := 6) X.1 dX5_readNamed_72 (by decide) ?_
        refine z_imul X.1 dX5_readNamed_74 ?_
        refine z_iload_n X.1 dX5_readNamed_75 rfl (lv_at hl 4 rfl) ?_
        refine z_iadd X.1 dX5_readNamed_76 ?_
        obtain ⟨hb2, hf⟩ := z_ite hf
        refine c_iald X hp0_5_7 hb2 dX5_readNamed_77 ?_
        refine z_if_le (tgt := 85) X.1 dX5_readNamed_78 (by decide) (fun c_ => ?_) (fun c_ => ?_)
        · have hf := (if_pos c_).symm.trans hf
          refine z_iconst (v := 0) X.1 dX5_readNamed_85 (by decide) ?_
          exact w_X5_readNamed_86 X Z hp0 hp0_5 ep0_5 hp0_5_7 ep0_5_7 x3 0 V L ls (lv_sub hl [1, 4] rfl) hf
        · have hf := (if_neg c_).symm.trans hf
          refine z_iconst (v := 1) X.1 dX5_readNamed_81 (by decide) ?_
          refine z_goto (tgt := 86) X.1 dX5_readNamed_82 (by decide) ?_
          exact w_X5_readNamed_86 X Z hp0 hp0_5 ep0_5 hp0_5_7 ep0_5_7 x3 1 V L ls (lv_sub hl [1, 4] rfl) hf

set_option maxHeartbeats 4000000 in
set_option maxRecDepth 100000 in
theorem w_X5_readNamed_36 {M : zM} {D : va_G} {cy : Nat → ClassId} {ad : Nat → Nat} {n : Nat} {K N : Nat → Nat} {G : zG} {r' : Int32 × zI × zL} (X : RXc M D cy ad n K N G cX5_readNamed 5 RX5 2 43) (Z : RZi M (zC D cy ad n K N G) .int r'.1 r'.2.1 r'.2.2) {p0 : Nat} (hp0 : p0 < n ∧ K p0 = 4) {p0_5 : Nat} (hp0_5 : p0_5 < n ∧ K p0_5 = 7) (ep0_5 : G p0 5 = some p0_5) {p0_5_7 : Nat} (hp0_5_7 : p0_5_7 < n ∧ K p0_5_7 = 100) (ep0_5_7 : G p0_5 7 = some p0_5_7) (x1 : Int32) (x2 : Int32) (x3 : Int32) (V : zI) (L : zL) (ls : Array Slot) (hl : lv_has ls 5 [(0, .ref (ad p0)), (1, .int x1), (2, .int x2), (3, .int x3)]) (hf : f_X5_readNamed_36 N G p0 p0_5 p0_5_7 x1 x2 x3 V L = some r') : RG M (zC D cy ad n K N G) V L 36 ls [] := by
  unfold f_X5_readNamed_36 at hf
  refine z_iconst (v := 1) X.1 dX5_readNamed_36 (by decide) ?_
  refine z_goto (tgt := 41) X.1 dX5_readNamed_37 (by decide) ?_
  exact w_X5_readNamed_41 X Z hp0 hp0_5 ep0_5 hp0_5_7 ep0_5_7 x1 x2 x3 1 V L ls (lv_sub hl [0, 1, 2, 3] rfl) hf

set_option maxHeartbeats 4000000 in
set_option maxRecDepth 100000 in
theorem w_X5_readNamed {M : zM} {D : va_G} {cy : Nat → ClassId} {ad : Nat → Nat} {n : Nat} {K N : Nat → Nat} {G : zG} {r' : Int32 × zI × zL} (X : RXc M D cy ad n K N G cX5_readNamed 5 RX5 2 43) (Z : RZi M (zC D cy ad n K N G) .int r'.1 r'.2.1 r'.2.2) {p0 : Nat} (hp0 : p0 < n ∧ K p0 = 4) {p0_5 : Nat} (hp0_5 : p0_5 < n ∧ K p0_5 = 7) (ep0_5 : G p0 5 = some p0_5) {p0_5_7 : Nat} (hp0_5_7 : p0_5_7 < n ∧ K p0_5_7 = 100) (ep0_5_7 : G p0_5 7 = some p0_5_7) (x1 : Int32) (x2 : Int32) (V : zI) (L : zL) (ls : Array Slot) (hl : lv_has ls 5 [(0, .ref (ad p0)), (1, .int x1), (2, .int x2)]) (hf : g_X5_readNamed N G p0 p0_5 p0_5_7 x1 x2 V L = some r') : RG M (zC D cy ad n K N G) V L 0 ls [] := by
  unfold g_X5_readNamed at hf
  refine z_aload_n X.1 dX5_readNamed_0 rfl (lv_at hl 0 rfl) ?_
  refine c_geti X hp0 cf_X5_17 dX5_readNamed_1 ?_
  refine z_iconst (v := 3) X.1 dX5_readNamed_4 (by decide) ?_
  refine z_icmp_eq (tgt := 14) X.1 dX5_readNamed_5 (by decide) (fun c_ => ?_) (fun c_ => ?_)
  · have hf := (if_pos c_).symm.trans hf
    refine z_aload_n X.1 dX5_readNamed_14 rfl (lv_at hl 0 rfl) ?_
    refine c_geta X hp0 cf_X5_29 ep0_5 dX5_readNamed_15 ?_
    refine z_aload_n X.1 dX5_readNamed_18 rfl (lv_at hl 0 rfl) ?_
    refine c_geti X hp0 cf_X5_20 dX5_readNamed_19 ?_
    obtain ⟨r1, hc1, hf⟩ := z_bind hf
    refine c_callVi [.int (V p0 3)] X hl.1 (c_X9_townNamed D cy ad X.2.2 hp0_5 hc1) hp0_5 ⟨by decide, rfl⟩ cm_X5_123 cw_X9_townNamed rfl cq_X9_townNamed ⟨by decide, by decide⟩ (Nat.le_of_ble_eq_true rfl) rfl dX5_readNamed_22 ?_
    refine z_istore_n (lv' := [(3, .int r1), (0, .ref (ad p0)), (1, .int x1), (2, .int x2)]) X.1 dX5_readNamed_25 rfl hl (by decide) rfl (fun ls hl => ?_)
    refine z_iload_n X.1 dX5_readNamed_26 rfl (lv_at hl 0 rfl) ?_
    refine z_iconst (v := -1) X.1 dX5_readNamed_27 (by decide) ?_
    refine z_icmp_eq (tgt := 36) X.1 dX5_readNamed_28 (by decide) (fun c_ => ?_) (fun c_ => ?_)
    · have hf := (if_pos c_).symm.trans hf
      exact w_X5_readNamed_36 X Z hp0 hp0_5 ep0_5 hp0_5_7 ep0_5_7 x1 x2 r1 V L ls (lv_sub hl [1, 2, 3, 0] rfl) hf
    · have hf := (if_neg c_).symm.trans hf
      refine z_iload_n X.1 dX5_readNamed_31 rfl (lv_at hl 0 rfl) ?_
      refine z_iload_n X.1 dX5_readNamed_32 rfl (lv_at hl 2 rfl) ?_
      refine z_icmp_ne (tgt := 40) X.1 dX5_readNamed_33 (by decide) (fun c_ => ?_) (fun c_ => ?_)
      · have hf := (if_neg c_).symm.trans hf
        refine z_iconst (v := 0) X.1 dX5_readNamed_40 (by decide) ?_
        exact w_X5_readNamed_41 X Z hp0 hp0_5 ep0_5 hp0_5_7 ep0_5_7 x1 x2 r1 0 V L ls (lv_sub hl [1, 2, 3, 0] rfl) hf
      · have hf := (if_pos c_).symm.trans hf
        exact w_X5_readNamed_36 X Z hp0 hp0_5 ep0_5 hp0_5_7 ep0_5_7 x1 x2 r1 V L ls (lv_sub hl [1, 2, 3, 0] rfl) hf
  · have hf := (if_neg c_).symm.trans hf
    refine z_aload_n X.1 dX5_readNamed_8 rfl (lv_at hl 0 rfl) ?_
    obtain ⟨r2, hc2, hf⟩ := z_bind hf
    refine c_callVv [] X hl.1 (c_X5_failHere D cy ad X.2.2 hp0 hc2) hp0 ⟨by decide, rfl⟩ cm_X5_117 cw_X5_failHere rfl cq_X5_failHere ⟨by decide, by decide⟩ (Nat.le_of_ble_eq_true rfl) rfl dX5_readNamed_9 ?_
    refine z_iconst (v := -1) X.1 dX5_readNamed_12 (by decide) ?_
    exact c_iret X Z hf rfl dX5_readNamed_13

theorem c_X5_readNamed (D : va_G) (cy : Nat → ClassId) (ad : Nat → Nat) {n : Nat} {K N : Nat → Nat} {G : zG} (hWF : zWF n K G) {p0 : Nat} {x1 : Int32} {x2 : Int32} {V : zI} {L : zL} (hp0 : p0 < n ∧ K p0 = 4) {r' : Int32 × zI × zL} (hf : f_X5_readNamed N G p0 x1 x2 V L = some r') : RCi (zC D cy ad n K N G) yX5_readNamed cX5_readNamed 5 .int 2 43 [.ref (ad p0), .int x1, .int x2] V L r'.1 r'.2.1 r'.2.2 := by
  unfold f_X5_readNamed at hf
  obtain ⟨p0_5, ep0_5, hf⟩ := z_bind hf
  have hp0_5 := hWF.get hp0 (k := 5) (c := 7) rfl ep0_5
  obtain ⟨p0_5_7, ep0_5_7, hf⟩ := z_bind hf
  have hp0_5_7 := hWF.get hp0_5 (k := 7) (c := 100) rfl ep0_5_7
  exact RCi.of (by decide) hWF (Nat.le_of_ble_eq_true rfl) (fun M X Z ls hl => w_X5_readNamed X Z hp0 hp0_5 ep0_5 hp0_5_7 ep0_5_7 x1 x2 V L ls hl hf)
def g_X5_isOwn (N : Nat → Nat) (G : zG) (p0 : Nat) (V : zI) (L : zL) (x1 : Int32) : Option (Int32) :=
  (if (V p0 2) = 4 then (if (V p0 3) = x1 then some 1 else some 0) else some 0)
def f_X5_isOwn (N : Nat → Nat) (G : zG) (p0 : Nat) (x1 : Int32) (V : zI) (L : zL) : Option (Int32) :=
  g_X5_isOwn N G p0 V L x1
set_option maxHeartbeats 4000000 in
set_option maxRecDepth 100000 in
theorem w_X5_isOwn {M : zM} {D : va_G} {cy : Nat → ClassId} {ad : Nat → Nat} {n : Nat} {K N : Nat → Nat} {G : zG} {V : zI} {L : zL} {r' : Int32} (X : RXc M D cy ad n K N G cX5_isOwn 2 RX5 0 0) (Z : RZi M (zC D cy ad n K N G) .boolean r' V L) {p0 : Nat} (hp0 : p0 < n ∧ K p0 = 4) (x1 : Int32) (ls : Array Slot) (hl : lv_has ls 2 [(0, .ref (ad p0)), (1, .int x1)]) (hf : g_X5_isOwn N G p0 V L x1 = some r') : RG M (zC D cy ad n K N G) V L 0 ls [] := by
  unfold g_X5_isOwn at hf
  refine z_aload_n X.1 dX5_isOwn_0 rfl (lv_at hl 0 rfl) ?_
  refine c_geti X hp0 cf_X5_17 dX5_isOwn_1 ?_
  refine z_iconst (v := 4) X.1 dX5_isOwn_4 (by decide) ?_
  refine z_icmp_ne (tgt := 20) X.1 dX5_isOwn_5 (by decide) (fun c_ => ?_) (fun c_ => ?_)
  · have hf := (if_neg c_).symm.trans hf
    refine z_iconst (v := 0) X.1 dX5_isOwn_20 (by decide) ?_
    exact c_iretS X Z hf (by decide) dX5_isOwn_21
  · have hf := (if_pos c_).symm.trans hf
    refine z_aload_n X.1 dX5_isOwn_8 rfl (lv_at hl 0 rfl) ?_
    refine c_geti X hp0 cf_X5_20 dX5_isOwn_9 ?_
    refine z_iload_n X.1 dX5_isOwn_12 rfl (lv_at hl 1 rfl) ?_
    refine z_icmp_ne (tgt := 20) X.1 dX5_isOwn_13 (by decide) (fun c_ => ?_) (fun c_ => ?_)
    · have hf := (if_neg c_).symm.trans hf
      refine z_iconst (v := 0) X.1 dX5_isOwn_20 (by decide) ?_
      exact c_iretS X Z hf (by decide) dX5_isOwn_21
    · have hf := (if_pos c_).symm.trans hf
      refine z_iconst (v := 1) X.1 dX5_isOwn_16 (by decide) ?_
      refine z_goto (tgt := 21) X.1 dX5_isOwn_17 (by decide) ?_
      exact c_iretS X Z hf (by decide) dX5_isOwn_21

theorem c_X5_isOwn (D : va_G) (cy : Nat → ClassId) (ad : Nat → Nat) {n : Nat} {K N : Nat → Nat} {G : zG} (hWF : zWF n K G) {p0 : Nat} {x1 : Int32} {V : zI} {L : zL} (hp0 : p0 < n ∧ K p0 = 4) {r' : Int32} (hf : f_X5_isOwn N G p0 x1 V L = some r') : RCi (zC D cy ad n K N G) yX5_isOwn cX5_isOwn 2 .boolean 0 0 [.ref (ad p0), .int x1] V L r' V L := by
  unfold f_X5_isOwn at hf
  exact RCi.of (by decide) hWF (Nat.le_of_ble_eq_true rfl) (fun M X Z ls hl => w_X5_isOwn X Z hp0 x1 ls hl hf)
def g_X5_skipOwn (N : Nat → Nat) (G : zG) (p0 : Nat) (x1 : Int32) (V : zI) (L : zL) : Option (zI × zL) :=
  (f_X5_isOwn N G p0 x1 V L).bind fun r1 => (if r1 = 0 then (f_X5_failHere N G p0 V L).bind fun r2 => some (r2.1, r2.2) else (f_X5_take N G p0 V L).bind fun r3 => some (r3.1, r3.2))
def f_X5_skipOwn (N : Nat → Nat) (G : zG) (p0 : Nat) (x1 : Int32) (V : zI) (L : zL) : Option (zI × zL) :=
  g_X5_skipOwn N G p0 x1 V L
set_option maxHeartbeats 4000000 in
set_option maxRecDepth 100000 in
theorem w_X5_skipOwn {M : zM} {D : va_G} {cy : Nat → ClassId} {ad : Nat → Nat} {n : Nat} {K N : Nat → Nat} {G : zG} {r' : zI × zL} (X : RXc M D cy ad n K N G cX5_skipOwn 2 RX5 2 42) (Z : RZv M (zC D cy ad n K N G) r'.1 r'.2) {p0 : Nat} (hp0 : p0 < n ∧ K p0 = 4) (x1 : Int32) (V : zI) (L : zL) (ls : Array Slot) (hl : lv_has ls 2 [(0, .ref (ad p0)), (1, .int x1)]) (hf : g_X5_skipOwn N G p0 x1 V L = some r') : RG M (zC D cy ad n K N G) V L 0 ls [] := by
  unfold g_X5_skipOwn at hf
  refine z_aload_n X.1 dX5_skipOwn_0 rfl (lv_at hl 0 rfl) ?_
  refine z_iload_n X.1 dX5_skipOwn_1 rfl (lv_at hl 1 rfl) ?_
  obtain ⟨r1, hc1, hf⟩ := z_bind hf
  refine c_callVi [.int x1] X hl.1 (c_X5_isOwn D cy ad X.2.2 hp0 hc1) hp0 ⟨by decide, rfl⟩ cm_X5_164 cw_X5_isOwn rfl cq_X5_isOwn ⟨by decide, by decide⟩ (Nat.le_of_ble_eq_true rfl) rfl dX5_skipOwn_2 ?_
  refine z_if_eq (tgt := 15) X.1 dX5_skipOwn_5 (by decide) (fun c_ => ?_) (fun c_ => ?_)
  · have hf := (if_pos c_).symm.trans hf
    refine z_aload_n X.1 dX5_skipOwn_15 rfl (lv_at hl 0 rfl) ?_
    obtain ⟨r2, hc2, hf⟩ := z_bind hf
    refine c_callVv [] X hl.1 (c_X5_failHere D cy ad X.2.2 hp0 hc2) hp0 ⟨by decide, rfl⟩ cm_X5_117 cw_X5_failHere rfl cq_X5_failHere ⟨by decide, by decide⟩ (Nat.le_of_ble_eq_true rfl) rfl dX5_skipOwn_16 ?_
    exact c_vret X Z hf dX5_skipOwn_19
  · have hf := (if_neg c_).symm.trans hf
    refine z_aload_n X.1 dX5_skipOwn_8 rfl (lv_at hl 0 rfl) ?_
    obtain ⟨r3, hc3, hf⟩ := z_bind hf
    refine c_callVv [] X hl.1 (c_X5_take D cy ad X.2.2 hp0 hc3) hp0 ⟨by decide, rfl⟩ cm_X5_70 cw_X5_take rfl cq_X5_take ⟨by decide, by decide⟩ (Nat.le_of_ble_eq_true rfl) rfl dX5_skipOwn_9 ?_
    refine z_goto (tgt := 19) X.1 dX5_skipOwn_12 (by decide) ?_
    exact c_vret X Z hf dX5_skipOwn_19

theorem c_X5_skipOwn (D : va_G) (cy : Nat → ClassId) (ad : Nat → Nat) {n : Nat} {K N : Nat → Nat} {G : zG} (hWF : zWF n K G) {p0 : Nat} {x1 : Int32} {V : zI} {L : zL} (hp0 : p0 < n ∧ K p0 = 4) {r' : zI × zL} (hf : f_X5_skipOwn N G p0 x1 V L = some r') : RCv (zC D cy ad n K N G) yX5_skipOwn cX5_skipOwn 2 2 42 [.ref (ad p0), .int x1] V L r'.1 r'.2 := by
  unfold f_X5_skipOwn at hf
  exact RCv.of (by decide) hWF (Nat.le_of_ble_eq_true rfl) (fun M X Z ls hl => w_X5_skipOwn X Z hp0 x1 V L ls hl hf)
def f_X5_readNumber_29 (N : Nat → Nat) (G : zG) (p0 : Nat) (V : zI) (L : zL) : Option (Int32 × zI × zL) :=
  (f_X5_fail N G p0 4 (V p0 4) V L).bind fun r1 => some (0, r1.1, r1.2)
def g_X5_readNumber (N : Nat → Nat) (G : zG) (p0 : Nat) (x1 : Int32) (x2 : Int32) (V : zI) (L : zL) : Option (Int32 × zI × zL) :=
  (if (V p0 2) = 2 then (if (V p0 3) < x1 then f_X5_readNumber_29 N G p0 V L else (if (V p0 3) ≤ x2 then (f_X5_take N G p0 V L).bind fun r1 => some (V p0 3, r1.1, r1.2) else f_X5_readNumber_29 N G p0 V L)) else (f_X5_failHere N G p0 V L).bind fun r2 => some (0, r2.1, r2.2))
def f_X5_readNumber (N : Nat → Nat) (G : zG) (p0 : Nat) (x1 : Int32) (x2 : Int32) (V : zI) (L : zL) : Option (Int32 × zI × zL) :=
  g_X5_readNumber N G p0 x1 x2 V L
set_option maxHeartbeats 4000000 in
set_option maxRecDepth 100000 in
theorem w_X5_readNumber_29 {M : zM} {D : va_G} {cy : Nat → ClassId} {ad : Nat → Nat} {n : Nat} {K N : Nat → Nat} {G : zG} {r' : Int32 × zI × zL} (X : RXc M D cy ad n K N G cX5_readNumber 4 RX5 2 42) (Z : RZi M (zC D cy ad n K N G) .int r'.1 r'.2.1 r'.2.2) {p0 : Nat} (hp0 : p0 < n ∧ K p0 = 4)  (V : zI) (L : zL) (ls : Array Slot) (hl : lv_has ls 4 [(0, .ref (ad p0))]) (hf : f_X5_readNumber_29 N G p0 V L = some r') : RG M (zC D cy ad n K N G) V L 29 ls [] := by
  unfold f_X5_readNumber_29 at hf
  refine z_aload_n X.1 dX5_readNumber_29 rfl (lv_at hl 0 rfl) ?_
  refine z_iconst (v := 4) X.1 dX5_readNumber_30 (by decide) ?_
  refine z_aload_n X.1 dX5_readNumber_31 rfl (lv_at hl 0 rfl) ?_
  refine c_geti X hp0 cf_X5_23 dX5_readNumber_32 ?_
  obtain ⟨r1, hc1, hf⟩ := z_bind hf
  refine c_callVv [.int 4, .int (V p0 4)] X hl.1 (c_X5_fail D cy ad X.2.2 hp0 hc1) hp0 ⟨by decide, rfl⟩ cm_X5_73 cw_X5_fail rfl cq_X5_fail ⟨by decide, by decide⟩ (Nat.le_of_ble_eq_true rfl) rfl dX5_readNumber_35 ?_
  refine z_iconst (v := 0) X.1 dX5_readNumber_38 (by decide) ?_
  exact c_iret X Z hf rfl dX5_readNumber_39

set_option maxHeartbeats 4000000 in
set_option maxRecDepth 100000 in
theorem w_X5_readNumber {M : zM} {D : va_G} {cy : Nat → ClassId} {ad : Nat → Nat} {n : Nat} {K N : Nat → Nat} {G : zG} {r' : Int32 × zI × zL} (X : RXc M D cy ad n K N G cX5_readNumber 4 RX5 2 42) (Z : RZi M (zC D cy ad n K N G) .int r'.1 r'.2.1 r'.2.2) {p0 : Nat} (hp0 : p0 < n ∧ K p0 = 4) (x1 : Int32) (x2 : Int32) (V : zI) (L : zL) (ls : Array Slot) (hl : lv_has ls 4 [(0, .ref (ad p0)), (1, .int x1), (2, .int x2)]) (hf : g_X5_readNumber N G p0 x1 x2 V L = some r') : RG M (zC D cy ad n K N G) V L 0 ls [] := by
  unfold g_X5_readNumber at hf
  refine z_aload_n X.1 dX5_readNumber_0 rfl (lv_at hl 0 rfl) ?_
  refine c_geti X hp0 cf_X5_17 dX5_readNumber_1 ?_
  refine z_iconst (v := 2) X.1 dX5_readNumber_4 (by decide) ?_
  refine z_icmp_eq (tgt := 14) X.1 dX5_readNumber_5 (by decide) (fun c_ => ?_) (fun c_ => ?_)
  · have hf := (if_pos c_).symm.trans hf
    refine z_aload_n X.1 dX5_readNumber_14 rfl (lv_at hl 0 rfl) ?_
    refine c_geti X hp0 cf_X5_20 dX5_readNumber_15 ?_
    refine z_istore_n (lv' := [(3, .int (V p0 3)), (0, .ref (ad p0)), (1, .int x1), (2, .int x2)]) X.1 dX5_readNumber_18 rfl hl (by decide) rfl (fun ls hl => ?_)
    refine z_iload_n X.1 dX5_readNumber_19 rfl (lv_at hl 0 rfl) ?_
    refine z_iload_n X.1 dX5_readNumber_20 rfl (lv_at hl 2 rfl) ?_
    refine z_icmp_lt (tgt := 29) X.1 dX5_readNumber_21 (by decide) (fun c_ => ?_) (fun c_ => ?_)
    · have hf := (if_pos c_).symm.trans hf
      exact w_X5_readNumber_29 X Z hp0 V L ls (lv_sub hl [1] rfl) hf
    · have hf := (if_neg c_).symm.trans hf
      refine z_iload_n X.1 dX5_readNumber_24 rfl (lv_at hl 0 rfl) ?_
      refine z_iload_n X.1 dX5_readNumber_25 rfl (lv_at hl 3 rfl) ?_
      refine z_icmp_le (tgt := 40) X.1 dX5_readNumber_26 (by decide) (fun c_ => ?_) (fun c_ => ?_)
      · have hf := (if_pos c_).symm.trans hf
        refine z_aload_n X.1 dX5_readNumber_40 rfl (lv_at hl 1 rfl) ?_
        obtain ⟨r1, hc1, hf⟩ := z_bind hf
        refine c_callVv [] X hl.1 (c_X5_take D cy ad X.2.2 hp0 hc1) hp0 ⟨by decide, rfl⟩ cm_X5_70 cw_X5_take rfl cq_X5_take ⟨by decide, by decide⟩ (Nat.le_of_ble_eq_true rfl) rfl dX5_readNumber_41 ?_
        refine z_iload_n X.1 dX5_readNumber_44 rfl (lv_at hl 0 rfl) ?_
        exact c_iret X Z hf rfl dX5_readNumber_45
      · have hf := (if_neg c_).symm.trans hf
        exact w_X5_readNumber_29 X Z hp0 V L ls (lv_sub hl [1] rfl) hf
  · have hf := (if_neg c_).symm.trans hf
    refine z_aload_n X.1 dX5_readNumber_8 rfl (lv_at hl 0 rfl) ?_
    obtain ⟨r2, hc2, hf⟩ := z_bind hf
    refine c_callVv [] X hl.1 (c_X5_failHere D cy ad X.2.2 hp0 hc2) hp0 ⟨by decide, rfl⟩ cm_X5_117 cw_X5_failHere rfl cq_X5_failHere ⟨by decide, by decide⟩ (Nat.le_of_ble_eq_true rfl) rfl dX5_readNumber_9 ?_
    refine z_iconst (v := 0) X.1 dX5_readNumber_12 (by decide) ?_
    exact c_iret X Z hf rfl dX5_readNumber_13

theorem c_X5_readNumber (D : va_G) (cy : Nat → ClassId) (ad : Nat → Nat) {n : Nat} {K N : Nat → Nat} {G : zG} (hWF : zWF n K G) {p0 : Nat} {x1 : Int32} {x2 : Int32} {V : zI} {L : zL} (hp0 : p0 < n ∧ K p0 = 4) {r' : Int32 × zI × zL} (hf : f_X5_readNumber N G p0 x1 x2 V L = some r') : RCi (zC D cy ad n K N G) yX5_readNumber cX5_readNumber 4 .int 2 42 [.ref (ad p0), .int x1, .int x2] V L r'.1 r'.2.1 r'.2.2 := by
  unfold f_X5_readNumber at hf
  exact RCi.of (by decide) hWF (Nat.le_of_ble_eq_true rfl) (fun M X Z ls hl => w_X5_readNumber X Z hp0 x1 x2 V L ls hl hf)
def g_X5_readCart (N : Nat → Nat) (G : zG) (p0 : Nat) (p0_5 : Nat) (p0_5_7 : Nat) (V : zI) (L : zL) : Option (zI × zL) :=
  (if (V p0_5 1) < 12 then (f_X5_take N G p0 V L).bind fun r1 => (f_X5_readNamed N G p0 (-1) 1 r1.1 r1.2).bind fun r2 => (f_X5_skipOwn N G p0 2 r2.2.1 r2.2.2).bind fun r3 => (f_X5_readNamed N G p0 r2.1 1 r3.1 r3.2).bind fun r4 => (f_X5_skipOwn N G p0 3 r4.2.1 r4.2.2).bind fun r5 => (f_X5_readNumber N G p0 1 9 r5.1 r5.2).bind fun r6 => (if (r6.2.1 p0 10) = 0 then (f_X9_isPair N G p0_5 r2.1 r4.1 r6.2.1 r6.2.2).bind fun r7 => (if r7 = 0 then some (r6.2.1, r6.2.2) else if inB ((r2.1 * 6) + r4.1) (N p0_5_7) then if inB ((r4.1 * 6) + r2.1) (N p0_5_7) then some (z_uI (z_uI (z_uI r6.2.1 p0_5_7 ((r2.1 * 6) + r4.1).toNatClampNeg r6.1) p0_5_7 ((r4.1 * 6) + r2.1).toNatClampNeg r6.1) p0_5 1 (((z_uI (z_uI r6.2.1 p0_5_7 ((r2.1 * 6) + r4.1).toNatClampNeg r6.1) p0_5_7 ((r4.1 * 6) + r2.1).toNatClampNeg r6.1) p0_5 1) + 1), r6.2.2) else none else none) else some (r6.2.1, r6.2.2)) else (f_X5_fail N G p0 6 (V p0 4) V L).bind fun r10 => some (r10.1, r10.2))
def f_X5_readCart (N : Nat → Nat) (G : zG) (p0 : Nat) (V : zI) (L : zL) : Option (zI × zL) :=
  (G p0 5).bind fun p0_5 => (G p0_5 7).bind fun p0_5_7 => g_X5_readCart N G p0 p0_5 p0_5_7 V L
set_option maxHeartbeats 4000000 in
set_option maxRecDepth 100000 in
theorem w_X5_readCart {M : zM} {D : va_G} {cy : Nat → ClassId} {ad : Nat → Nat} {n : Nat} {K N : Nat → Nat} {G : zG} {r' : zI × zL} (X : RXc M D cy ad n K N G cX5_readCart 4 RX5 3 67) (Z : RZv M (zC D cy ad n K N G) r'.1 r'.2) {p0 : Nat} (hp0 : p0 < n ∧ K p0 = 4) {p0_5 : Nat} (hp0_5 : p0_5 < n ∧ K p0_5 = 7) (ep0_5 : G p0 5 = some p0_5) {p0_5_7 : Nat} (hp0_5_7 : p0_5_7 < n ∧ K p0_5_7 = 100) (ep0_5_7 : G p0_5 7 = some p0_5_7)  (V : zI) (L : zL) (ls : Array Slot) (hl : lv_has ls 4 [(0, .ref (ad p0))]) (hf : g_X5_readCart N G p0 p0_5 p0_5_7 V L = some r') : RG M (zC D cy ad n K N G) V L 0 ls [] := by
  unfold g_X5_readCart at hf
  refine z_aload_n X.1 dX5_readCart_0 rfl (lv_at hl 0 rfl) ?_
  refine c_geta X hp0 cf_X5_29 ep0_5 dX5_readCart_1 ?_
  refine c_geti X hp0_5 cf_X5_130 dX5_readCart_4 ?_
  refine z_bipush (v := 12) X.1 dX5_readCart_7 (by decide) ?_
  refine z_icmp_lt (tgt := 23) X.1 dX5_readCart_9 (by decide) (fun c_ => ?_) (fun c_ => ?_)
  · have hf := (if_pos c_).symm.trans hf
    refine z_aload_n X.1 dX5_readCart_23 rfl (lv_at hl 0 rfl) ?_
    obtain ⟨r1, hc1, hf⟩ := z_bind hf
    refine c_callVv [] X hl.1 (c_X5_take D cy ad X.2.2 hp0 hc1) hp0 ⟨by decide, rfl⟩ cm_X5_70 cw_X5_take rfl cq_X5_take ⟨by decide, by decide⟩ (Nat.le_of_ble_eq_true rfl) rfl dX5_readCart_24 ?_
    refine z_aload_n X.1 dX5_readCart_27 rfl (lv_at hl 0 rfl) ?_
    refine z_iconst (v := -1) X.1 dX5_readCart_28 (by decide) ?_
    refine z_iconst (v := 1) X.1 dX5_readCart_29 (by decide) ?_
    obtain ⟨r2, hc2, hf⟩ := z_bind hf
    refine c_callVi [.int (-1), .int 1] X hl.1 (c_X5_readNamed D cy ad X.2.2 hp0 hc2) hp0 ⟨by decide, rfl⟩ cm_X5_133 cw_X5_readNamed rfl cq_X5_readNamed ⟨by decide, by decide⟩ (Nat.le_of_ble_eq_true rfl) rfl dX5_readCart_30 ?_
    refine z_istore_n (lv' := [(1, .int r2.1), (0, .ref (ad p0))]) X.1 dX5_readCart_33 rfl hl (by decide) rfl (fun ls hl => ?_)
    refine z_aload_n X.1 dX5_readCart_34 rfl (lv_at hl 1 rfl) ?_
    refine z_iconst (v := 2) X.1 dX5_readCart_35 (by decide) ?_
    obtain ⟨r3, hc3, hf⟩ := z_bind hf
    refine c_callVv [.int 2] X hl.1 (c_X5_skipOwn D cy ad X.2.2 hp0 hc3) hp0 ⟨by decide, rfl⟩ cm_X5_137 cw_X5_skipOwn rfl cq_X5_skipOwn ⟨by decide, by decide⟩ (Nat.le_of_ble_eq_true rfl) rfl dX5_readCart_36 ?_
    refine z_aload_n X.1 dX5_readCart_39 rfl (lv_at hl 1 rfl) ?_
    refine z_iload_n X.1 dX5_readCart_40 rfl (lv_at hl 0 rfl) ?_
    refine z_iconst (v := 1) X.1 dX5_readCart_41 (by decide) ?_
    obtain ⟨r4, hc4, hf⟩ := z_bind hf
    refine c_callVi [.int r2.1, .int 1] X hl.1 (c_X5_readNamed D cy ad X.2.2 hp0 hc4) hp0 ⟨by decide, rfl⟩ cm_X5_133 cw_X5_readNamed rfl cq_X5_readNamed ⟨by decide, by decide⟩ (Nat.le_of_ble_eq_true rfl) rfl dX5_readCart_42 ?_
    refine z_istore_n (lv' := [(2, .int r4.1), (1, .int r2.1), (0, .ref (ad p0))]) X.1 dX5_readCart_45 rfl hl (by decide) rfl (fun ls hl => ?_)
    refine z_aload_n X.1 dX5_readCart_46 rfl (lv_at hl 2 rfl) ?_
    refine z_iconst (v := 3) X.1 dX5_readCart_47 (by decide) ?_
    obtain ⟨r5, hc5, hf⟩ := z_bind hf
    refine c_callVv [.int 3] X hl.1 (c_X5_skipOwn D cy ad X.2.2 hp0 hc5) hp0 ⟨by decide, rfl⟩ cm_X5_137 cw_X5_skipOwn rfl cq_X5_skipOwn ⟨by decide, by decide⟩ (Nat.le_of_ble_eq_true rfl) rfl dX5_readCart_48 ?_
    refine z_aload_n X.1 dX5_readCart_51 rfl (lv_at hl 2 rfl) ?_
    refine z_iconst (v := 1) X.1 dX5_readCart_52 (by decide) ?_
    refine z_bipush (v := 9) X.1 dX5_readCart_53 (by decide) ?_
    obtain ⟨r6, hc6, hf⟩ := z_bind hf
    refine c_callVi [.int 1, .int 9] X hl.1 (c_X5_readNumber D cy ad X.2.2 hp0 hc6) hp0 ⟨by decide, rfl⟩ cm_X5_108 cw_X5_readNumber rfl cq_X5_readNumber ⟨by decide, by decide⟩ (Nat.le_of_ble_eq_true rfl) rfl dX5_readCart_55 ?_
    refine z_istore_n (lv' := [(3, .int r6.1), (2, .int r4.1), (1, .int r2.1), (0, .ref (ad p0))]) X.1 dX5_readCart_58 rfl hl (by decide) rfl (fun ls hl => ?_)
    refine z_aload_n X.1 dX5_readCart_59 rfl (lv_at hl 3 rfl) ?_
    refine c_geti X hp0 cf_X5_43 dX5_readCart_60 ?_
    refine z_if_ne (tgt := 121) X.1 dX5_readCart_63 (by decide) (fun c_ => ?_) (fun c_ => ?_)
    · have hf := (if_neg c_).symm.trans hf
      exact c_vret X Z hf dX5_readCart_121
    · have hf := (if_pos c_).symm.trans hf
      refine z_aload_n X.1 dX5_readCart_66 rfl (lv_at hl 3 rfl) ?_
      refine c_geta X hp0 cf_X5_29 ep0_5 dX5_readCart_67 ?_
      refine z_iload_n X.1 dX5_readCart_70 rfl (lv_at hl 2 rfl) ?_
      refine z_iload_n X.1 dX5_readCart_71 rfl (lv_at hl 1 rfl) ?_
      obtain ⟨r7, hc7, hf⟩ := z_bind hf
      refine c_callVi [.int r2.1, .int r4.1] X hl.1 (c_X9_isPair D cy ad X.2.2 hp0_5 hc7) hp0_5 ⟨by decide, rfl⟩ cm_X5_140 cw_X9_isPair rfl cq_X9_isPair ⟨by decide, by decide⟩ (Nat.le_of_ble_eq_true rfl) rfl dX5_readCart_72 ?_
      refine z_if_eq (tgt := 121) X.1 dX5_readCart_75 (by decide) (fun c_ => ?_) (fun c_ => ?_)
      · have hf := (if_pos c_).symm.trans hf
        exact c_vret X Z hf dX5_readCart_121
      · have hf := (if_neg c_).symm.trans hf
        refine z_aload_n X.1 dX5_readCart_78 rfl (lv_at hl 3 rfl) ?_
        refine c_geta X hp0 cf_X5_29 ep0_5 dX5_readCart_79 ?_
        refine c_geta X hp0_5 cf_X5_144 ep0_5_7 dX5_readCart_82 ?_
        refine z_iload_n X.1 dX5_readCart_85 rfl (lv_at hl 2 rfl) ?_
        refine z_bipush (v := 6) X.1 dX5_readCart_86 (by decide) ?_
        refine z_imul X.1 dX5_readCart_88 ?_
        refine z_iload_n X.1 dX5_readCart_89 rfl (lv_at hl 1 rfl) ?_
        refine z_iadd X.1 dX5_readCart_90 ?_
        refine z_iload_n X.1 dX5_readCart_91 rfl (lv_at hl 0 rfl) ?_
        obtain ⟨hb8, hf⟩ := z_ite hf
        refine c_iast X hp0_5_7 hb8 dX5_readCart_92 ?_
        refine z_aload_n X.1 dX5_readCart_93 rfl (lv_at hl 3 rfl) ?_
        refine c_geta X hp0 cf_X5_29 ep0_5 dX5_readCart_94 ?_
        refine c_geta X hp0_5 cf_X5_144 ep0_5_7 dX5_readCart_97 ?_
        refine z_iload_n X.1 dX5_readCart_100 rfl (lv_at hl 1 rfl) ?_
        refine z_bipush (v := 6) X.1 dX5_readCart_101 (by decide) ?_
        refine z_imul X.1 dX5_readCart_103 ?_
        refine z_iload_n X.1 dX5_readCart_104 rfl (lv_at hl 2 rfl) ?_
        refine z_iadd X.1 dX5_readCart_105 ?_
        refine z_iload_n X.1 dX5_readCart_106 rfl (lv_at hl 0 rfl) ?_
        obtain ⟨hb9, hf⟩ := z_ite hf
        refine c_iast X hp0_5_7 hb9 dX5_readCart_107 ?_
        refine z_aload_n X.1 dX5_readCart_108 rfl (lv_at hl 3 rfl) ?_
        refine c_geta X hp0 cf_X5_29 ep0_5 dX5_readCart_109 ?_
        refine z_dup X.1 dX5_readCart_112 rfl ?_
        refine c_geti X hp0_5 cf_X5_130 dX5_readCart_113 ?_
        refine z_iconst (v := 1) X.1 dX5_readCart_116 (by decide) ?_
        refine z_iadd X.1 dX5_readCart_117 ?_
        refine c_puti X hp0_5 cf_X5_130 cg_X9 cp_X9_1 rfl rfl dX5_readCart_118 ?_
        exact c_vret X Z hf dX5_readCart_121
  · have hf := (if_neg c_).symm.trans hf
    refine z_aload_n X.1 dX5_readCart_12 rfl (lv_at hl 0 rfl) ?_
    refine z_bipush (v := 6) X.1 dX5_readCart_13 (by decide) ?_
    refine z_aload_n X.1 dX5_readCart_15 rfl (lv_at hl 0 rfl) ?_
    refine c_geti X hp0 cf_X5_23 dX5_readCart_16 ?_
    obtain ⟨r10, hc10, hf⟩ := z_bind hf
    refine c_callVv [.int 6, .int (V p0 4)] X hl.1 (c_X5_fail D cy ad X.2.2 hp0 hc10) hp0 ⟨by decide, rfl⟩ cm_X5_73 cw_X5_fail rfl cq_X5_fail ⟨by decide, by decide⟩ (Nat.le_of_ble_eq_true rfl) rfl dX5_readCart_19 ?_
    exact c_vret X Z hf dX5_readCart_22

theorem c_X5_readCart (D : va_G) (cy : Nat → ClassId) (ad : Nat → Nat) {n : Nat} {K N : Nat → Nat} {G : zG} (hWF : zWF n K G) {p0 : Nat} {V : zI} {L : zL} (hp0 : p0 < n ∧ K p0 = 4) {r' : zI × zL} (hf : f_X5_readCart N G p0 V L = some r') : RCv (zC D cy ad n K N G) yX5_readCart cX5_readCart 4 3 67 [.ref (ad p0)] V L r'.1 r'.2 := by
  unfold f_X5_readCart at hf
  obtain ⟨p0_5, ep0_5, hf⟩ := z_bind hf
  have hp0_5 := hWF.get hp0 (k := 5) (c := 7) rfl ep0_5
  obtain ⟨p0_5_7, ep0_5_7, hf⟩ := z_bind hf
  have hp0_5_7 := hWF.get hp0_5 (k := 7) (c := 100) rfl ep0_5_7
  exact RCv.of (by decide) hWF (Nat.le_of_ble_eq_true rfl) (fun M X Z ls hl => w_X5_readCart X Z hp0 hp0_5 ep0_5 hp0_5_7 ep0_5_7 V L ls hl hf)
