def f_is (x0 : Int32) (x1 : Int32) (x2 : Int32) : Option (Int32) :=
  (if x0 < x1 then some 0 else (if x2 < x0 then some 0 else some 1))
set_option maxHeartbeats 4000000 in
set_option maxRecDepth 100000 in
theorem w_is {M : zM} {D : va_G} {cy : Nat → ClassId} {ad : Nat → Nat} {V : zI} {L : zL} {r' : Int32} (X : RX M (zR D cy ad) cX11_is 3 RX11 0 0) (Z : RZi M (zR D cy ad) .boolean r' V L) (x0 : Int32) (x1 : Int32) (x2 : Int32) (ls : Array Slot) (hl : lv_has ls 3 [(0, .int x0), (1, .int x1), (2, .int x2)]) (hf : f_is x0 x1 x2 = some r') : RG M (zR D cy ad) V L 0 ls [] := by
  unfold f_is at hf
  refine z_iload_n X dX11_is_0 rfl (lv_at hl 0 rfl) ?_
  refine z_iload_n X dX11_is_1 rfl (lv_at hl 1 rfl) ?_
  refine z_icmp_lt (tgt := 14) X dX11_is_2 (by decide) (fun c_ => ?_) (fun c_ => ?_)
  · have hf := (if_pos c_).symm.trans hf
    refine z_iconst (v := 0) X dX11_is_14 (by decide) ?_
    exact m_iretS X Z hf (by decide) dX11_is_15
  · have hf := (if_neg c_).symm.trans hf
    refine z_iload_n X dX11_is_5 rfl (lv_at hl 0 rfl) ?_
    refine z_iload_n X dX11_is_6 rfl (lv_at hl 2 rfl) ?_
    refine z_icmp_gt (tgt := 14) X dX11_is_7 (by decide) (fun c_ => ?_) (fun c_ => ?_)
    · have hf := (if_pos c_).symm.trans hf
      refine z_iconst (v := 0) X dX11_is_14 (by decide) ?_
      exact m_iretS X Z hf (by decide) dX11_is_15
    · have hf := (if_neg c_).symm.trans hf
      refine z_iconst (v := 1) X dX11_is_10 (by decide) ?_
      refine z_goto (tgt := 15) X dX11_is_11 (by decide) ?_
      exact m_iretS X Z hf (by decide) dX11_is_15

theorem c_is (D : va_G) (cy : Nat → ClassId) (ad : Nat → Nat) {x0 : Int32} {x1 : Int32} {x2 : Int32} {V : zI} {L : zL} {r' : Int32} (hf : f_is x0 x1 x2 = some r') : RMi (zR D cy ad) yX11_is cX11_is 3 .boolean 0 0 [.int x0, .int x1, .int x2] V L r' V L :=
  RMi.of (by decide) zR_nd (Nat.le_of_ble_eq_true rfl) (fun M X Z ls hl => w_is X Z x0 x1 x2 ls hl hf)
def b_put_3 (k3 : Int32 × Int32 × zI × zL → Option (zI × zL)) : Int32 × Int32 × zI × zL → Option (zI × zL) := fun ⟨x1, x2, V, L⟩ =>
  (if x2 < 0 then some (V, L) else if inB (V 0 1) 1800 then k3 (x1, (x2 + Int32.ofInt (-8)), z_uI (z_uI V 1 (V 0 1).toNatClampNeg ((x1 >>> (x2 &&& 31)) &&& 255)) 0 1 (((z_uI V 1 (V 0 1).toNatClampNeg ((x1 >>> (x2 &&& 31)) &&& 255)) 0 1) + 1), L) else none)
def f_put (x1 : Int32) (V : zI) (L : zL) : Option (zI × zL) :=
  zfix (b_put_3) FU (x1, 24, V, L)
set_option maxHeartbeats 4000000 in
set_option maxRecDepth 100000 in
theorem w_put_3 {M : zM} {D : va_G} {cy : Nat → ClassId} {ad : Nat → Nat} {r' : zI × zL} (X : RX M (zR D cy ad) cX11_put 3 RX11 0 0) (Z : RZv M (zR D cy ad) r'.1 r'.2) (n : Nat) : ∀ (x1 : Int32) (x2 : Int32) (V : zI) (L : zL) (ls : Array Slot) (hl : lv_has ls 3 [(0, .ref (ad 0)), (1, .int x1), (2, .int x2)]) (hf : zfix (b_put_3) n (x1, x2, V, L) = some r'), RG M (zR D cy ad) V L 3 ls [] := by
  induction n with
  | zero => intro x1 x2 V L ls hl hf; cases hf
  | succ n ih =>
  intro x1 x2 V L ls hl hf
  have hk3 : ∀ (x1 : Int32) (x2 : Int32) (V : zI) (L : zL) (ls : Array Slot), lv_has ls 3 [(0, .ref (ad 0)), (1, .int x1), (2, .int x2)] → zfix (b_put_3) n (x1, x2, V, L) = some r' → RG M (zR D cy ad) V L 3 ls [] := ih
  have hf : b_put_3 (zfix (b_put_3) n) (x1, x2, V, L) = some r' := hf
  generalize zfix (b_put_3) n = k3 at hk3 hf
  unfold b_put_3 at hf
  clear ih
  refine z_iload_n X dX11_put_3 rfl (lv_at hl 2 rfl) ?_
  refine z_if_lt (tgt := 39) X dX11_put_4 (by decide) (fun c_ => ?_) (fun c_ => ?_)
  · have hf := (if_pos c_).symm.trans hf
    exact m_vret X Z hf dX11_put_39
  · have hf := (if_neg c_).symm.trans hf
    refine z_aload_n X dX11_put_7 rfl (lv_at hl 0 rfl) ?_
    refine m_geta X ff_0 dX11_put_8 ?_
    refine z_aload_n X dX11_put_11 rfl (lv_at hl 0 rfl) ?_
    refine m_geti X ff_1 dX11_put_12 ?_
    refine z_iload_n X dX11_put_15 rfl (lv_at hl 1 rfl) ?_
    refine z_iload_n X dX11_put_16 rfl (lv_at hl 2 rfl) ?_
    refine z_ishr X dX11_put_17 ?_
    refine z_sipush (v := 255) X dX11_put_18 (by decide) ?_
    refine z_iand X dX11_put_21 ?_
    obtain ⟨hb1, hf⟩ := z_ite hf
    refine m_iast X pa_1 hb1 dX11_put_22 ?_
    refine z_aload_n X dX11_put_23 rfl (lv_at hl 0 rfl) ?_
    refine z_dup X dX11_put_24 rfl ?_
    refine m_geti X ff_1 dX11_put_25 ?_
    refine z_iconst (v := 1) X dX11_put_28 (by decide) ?_
    refine z_iadd X dX11_put_29 ?_
    refine m_puti X fp_1 dX11_put_30 ?_
    refine z_iinc (v := x2 + Int32.ofInt (-8)) (k0 := 2) (lv' := [(2, .int (x2 + Int32.ofInt (-8))), (0, .ref (ad 0)), (1, .int x1)]) X dX11_put_33 hl rfl rfl (by decide) rfl (fun ls hl => ?_)
    refine z_goto (tgt := 3) X dX11_put_36 (by decide) ?_
    exact hk3 x1 (x2 + Int32.ofInt (-8)) (z_uI (z_uI V 1 (V 0 1).toNatClampNeg ((x1 >>> (x2 &&& 31)) &&& 255)) 0 1 (((z_uI V 1 (V 0 1).toNatClampNeg ((x1 >>> (x2 &&& 31)) &&& 255)) 0 1) + 1)) L ls (lv_sub hl [1, 2, 0] rfl) hf

set_option maxHeartbeats 4000000 in
set_option maxRecDepth 100000 in
theorem w_put {M : zM} {D : va_G} {cy : Nat → ClassId} {ad : Nat → Nat} {r' : zI × zL} (X : RX M (zR D cy ad) cX11_put 3 RX11 0 0) (Z : RZv M (zR D cy ad) r'.1 r'.2) (x1 : Int32) (V : zI) (L : zL) (ls : Array Slot) (hl : lv_has ls 3 [(0, .ref (ad 0)), (1, .int x1)]) (hf : f_put x1 V L = some r') : RG M (zR D cy ad) V L 0 ls [] := by
  unfold f_put at hf
  refine z_bipush (v := 24) X dX11_put_0 (by decide) ?_
  refine z_istore_n (lv' := [(2, .int 24), (0, .ref (ad 0)), (1, .int x1)]) X dX11_put_2 rfl hl (by decide) rfl (fun ls hl => ?_)
  exact w_put_3 X Z FU x1 24 V L ls (lv_sub hl [1, 2, 0] rfl) hf

theorem c_put (D : va_G) (cy : Nat → ClassId) (ad : Nat → Nat) {x1 : Int32} {V : zI} {L : zL} {r' : zI × zL} (hf : f_put x1 V L = some r') : RMv (zR D cy ad) yX11_put cX11_put 3 0 0 [.ref (ad 0), .int x1] V L r'.1 r'.2 :=
  RMv.of (by decide) zR_nd (Nat.le_of_ble_eq_true rfl) (fun M X Z ls hl => w_put X Z x1 V L ls hl hf)
def f_refuses (x1 : Int32) (V : zI) (L : zL) : Option (Int32 × zI × zL) :=
  if inB x1 6 then if inB x1 6 then some ((-1), z_uI V 19 x1.toNatClampNeg ((V 19 x1.toNatClampNeg) + 1), L) else none else none
set_option maxHeartbeats 4000000 in
set_option maxRecDepth 100000 in
theorem w_refuses {M : zM} {D : va_G} {cy : Nat → ClassId} {ad : Nat → Nat} {r' : Int32 × zI × zL} (X : RX M (zR D cy ad) cX11_refuses 2 RX11 0 0) (Z : RZi M (zR D cy ad) .int r'.1 r'.2.1 r'.2.2) (x1 : Int32) (V : zI) (L : zL) (ls : Array Slot) (hl : lv_has ls 2 [(0, .ref (ad 0)), (1, .int x1)]) (hf : f_refuses x1 V L = some r') : RG M (zR D cy ad) V L 0 ls [] := by
  unfold f_refuses at hf
  refine z_aload_n X dX11_refuses_0 rfl (lv_at hl 0 rfl) ?_
  refine m_geta X ff_38 dX11_refuses_1 ?_
  refine z_iload_n X dX11_refuses_4 rfl (lv_at hl 1 rfl) ?_
  refine z_dup2 X dX11_refuses_5 rfl rfl ?_
  obtain ⟨hb1, hf⟩ := z_ite hf
  refine m_iald X pa_19 hb1 dX11_refuses_6 ?_
  refine z_iconst (v := 1) X dX11_refuses_7 (by decide) ?_
  refine z_iadd X dX11_refuses_8 ?_
  obtain ⟨hb2, hf⟩ := z_ite hf
  refine m_iast X pa_19 hb2 dX11_refuses_9 ?_
  refine z_iconst (v := -1) X dX11_refuses_10 (by decide) ?_
  exact m_iret X Z hf rfl dX11_refuses_11

theorem c_refuses (D : va_G) (cy : Nat → ClassId) (ad : Nat → Nat) {x1 : Int32} {V : zI} {L : zL} {r' : Int32 × zI × zL} (hf : f_refuses x1 V L = some r') : RMi (zR D cy ad) yX11_refuses cX11_refuses 2 .int 0 0 [.ref (ad 0), .int x1] V L r'.1 r'.2.1 r'.2.2 :=
  RMi.of (by decide) zR_nd (Nat.le_of_ble_eq_true rfl) (fun M X Z ls hl => w_refuses X Z x1 V L ls hl hf)
def f_feed (x1 : Int32) (x2 : Int32) (x3 : Int32) (x4 : Int32) (x5 : Int32) (V : zI) (L : zL) : Option (Int32 × zI × zL) :=
  (if ((V 0 1) + 20) ≤ 1600 then (f_put x1 V L).bind fun r1 => (f_put x2 r1.1 r1.2).bind fun r2 => (f_put x3 r2.1 r2.2).bind fun r3 => (f_put x4 r3.1 r3.2).bind fun r4 => (f_put x5 r4.1 r4.2).bind fun r5 => some (r5.1 0 1, r5.1, r5.2) else (f_refuses 0 V L).bind fun r6 => some (r6.1, r6.2.1, r6.2.2))
set_option maxHeartbeats 4000000 in
set_option maxRecDepth 100000 in
theorem w_feed {M : zM} {D : va_G} {cy : Nat → ClassId} {ad : Nat → Nat} {r' : Int32 × zI × zL} (X : RX M (zR D cy ad) cX11_feed 6 RX11 1 22) (Z : RZi M (zR D cy ad) .int r'.1 r'.2.1 r'.2.2) (x1 : Int32) (x2 : Int32) (x3 : Int32) (x4 : Int32) (x5 : Int32) (V : zI) (L : zL) (ls : Array Slot) (hl : lv_has ls 6 [(0, .ref (ad 0)), (1, .int x1), (2, .int x2), (3, .int x3), (4, .int x4), (5, .int x5)]) (hf : f_feed x1 x2 x3 x4 x5 V L = some r') : RG M (zR D cy ad) V L 0 ls [] := by
  unfold f_feed at hf
  refine z_aload_n X dX11_feed_0 rfl (lv_at hl 0 rfl) ?_
  refine m_geti X ff_1 dX11_feed_1 ?_
  refine z_bipush (v := 20) X dX11_feed_4 (by decide) ?_
  refine z_iadd X dX11_feed_6 ?_
  refine z_sipush (v := 1600) X dX11_feed_7 (by decide) ?_
  refine z_icmp_le (tgt := 19) X dX11_feed_10 (by decide) (fun c_ => ?_) (fun c_ => ?_)
  · have hf := (if_pos c_).symm.trans hf
    refine z_aload_n X dX11_feed_19 rfl (lv_at hl 0 rfl) ?_
    refine z_iload_n X dX11_feed_20 rfl (lv_at hl 1 rfl) ?_
    obtain ⟨r1, hc1, hf⟩ := z_bind hf
    refine m_callVv [.int x1] X hl.1 (c_put D cy ad hc1) gm_put pd_put rfl ⟨by decide, by decide⟩ (Nat.le_of_ble_eq_true rfl) rfl dX11_feed_21 ?_
    refine z_aload_n X dX11_feed_24 rfl (lv_at hl 0 rfl) ?_
    refine z_iload_n X dX11_feed_25 rfl (lv_at hl 2 rfl) ?_
    obtain ⟨r2, hc2, hf⟩ := z_bind hf
    refine m_callVv [.int x2] X hl.1 (c_put D cy ad hc2) gm_put pd_put rfl ⟨by decide, by decide⟩ (Nat.le_of_ble_eq_true rfl) rfl dX11_feed_26 ?_
    refine z_aload_n X dX11_feed_29 rfl (lv_at hl 0 rfl) ?_
    refine z_iload_n X dX11_feed_30 rfl (lv_at hl 3 rfl) ?_
    obtain ⟨r3, hc3, hf⟩ := z_bind hf
    refine m_callVv [.int x3] X hl.1 (c_put D cy ad hc3) gm_put pd_put rfl ⟨by decide, by decide⟩ (Nat.le_of_ble_eq_true rfl) rfl dX11_feed_31 ?_
    refine z_aload_n X dX11_feed_34 rfl (lv_at hl 0 rfl) ?_
    refine z_iload X dX11_feed_35 (lv_at hl 4 rfl) ?_
    obtain ⟨r4, hc4, hf⟩ := z_bind hf
    refine m_callVv [.int x4] X hl.1 (c_put D cy ad hc4) gm_put pd_put rfl ⟨by decide, by decide⟩ (Nat.le_of_ble_eq_true rfl) rfl dX11_feed_37 ?_
    refine z_aload_n X dX11_feed_40 rfl (lv_at hl 0 rfl) ?_
    refine z_iload X dX11_feed_41 (lv_at hl 5 rfl) ?_
    obtain ⟨r5, hc5, hf⟩ := z_bind hf
    refine m_callVv [.int x5] X hl.1 (c_put D cy ad hc5) gm_put pd_put rfl ⟨by decide, by decide⟩ (Nat.le_of_ble_eq_true rfl) rfl dX11_feed_43 ?_
    refine z_aload_n X dX11_feed_46 rfl (lv_at hl 0 rfl) ?_
    refine m_geti X ff_1 dX11_feed_47 ?_
    exact m_iret X Z hf rfl dX11_feed_50
  · have hf := (if_neg c_).symm.trans hf
    refine z_aload_n X dX11_feed_13 rfl (lv_at hl 0 rfl) ?_
    refine z_iconst (v := 0) X dX11_feed_14 (by decide) ?_
    obtain ⟨r6, hc6, hf⟩ := z_bind hf
    refine m_callVi [.int 0] X hl.1 (c_refuses D cy ad hc6) gm_refuses pd_refuses rfl ⟨by decide, by decide⟩ (Nat.le_of_ble_eq_true rfl) rfl dX11_feed_15 ?_
    exact m_iret X Z hf rfl dX11_feed_18

theorem c_feed (D : va_G) (cy : Nat → ClassId) (ad : Nat → Nat) {x1 : Int32} {x2 : Int32} {x3 : Int32} {x4 : Int32} {x5 : Int32} {V : zI} {L : zL} {r' : Int32 × zI × zL} (hf : f_feed x1 x2 x3 x4 x5 V L = some r') : RMi (zR D cy ad) yX11_feed cX11_feed 6 .int 1 22 [.ref (ad 0), .int x1, .int x2, .int x3, .int x4, .int x5] V L r'.1 r'.2.1 r'.2.2 :=
  RMi.of (by decide) zR_nd (Nat.le_of_ble_eq_true rfl) (fun M X Z ls hl => w_feed X Z x1 x2 x3 x4 x5 V L ls hl hf)
def f_end_12 (V : zI) (L : zL) : Option (Int32 × zI × zL) :=
  (f_refuses 0 V L).bind fun r1 => (if r1.1 < 0 then some (0, r1.2.1, r1.2.2) else some (1, r1.2.1, r1.2.2))
def f_end (x1 : Int32) (V : zI) (L : zL) : Option (Int32 × zI × zL) :=
  (if x1 < 0 then f_end_12 V L else (if x1 ≤ (V 0 1) then some (1, z_uI V 0 1 x1, L) else f_end_12 V L))
set_option maxHeartbeats 4000000 in
set_option maxRecDepth 100000 in
theorem w_end_12 {M : zM} {D : va_G} {cy : Nat → ClassId} {ad : Nat → Nat} {r' : Int32 × zI × zL} (X : RX M (zR D cy ad) cX11_end 2 RX11 1 21) (Z : RZi M (zR D cy ad) .boolean r'.1 r'.2.1 r'.2.2)  (V : zI) (L : zL) (ls : Array Slot) (hl : lv_has ls 2 [(0, .ref (ad 0))]) (hf : f_end_12 V L = some r') : RG M (zR D cy ad) V L 12 ls [] := by
  unfold f_end_12 at hf
  refine z_aload_n X dX11_end_12 rfl (lv_at hl 0 rfl) ?_
  refine z_iconst (v := 0) X dX11_end_13 (by decide) ?_
  obtain ⟨r1, hc1, hf⟩ := z_bind hf
  refine m_callVi [.int 0] X hl.1 (c_refuses D cy ad hc1) gm_refuses pd_refuses rfl ⟨by decide, by decide⟩ (Nat.le_of_ble_eq_true rfl) rfl dX11_end_14 ?_
  refine z_if_lt (tgt := 24) X dX11_end_17 (by decide) (fun c_ => ?_) (fun c_ => ?_)
  · have hf := (if_pos c_).symm.trans hf
    refine z_iconst (v := 0) X dX11_end_24 (by decide) ?_
    exact m_iret X Z hf (by decide) dX11_end_25
  · have hf := (if_neg c_).symm.trans hf
    refine z_iconst (v := 1) X dX11_end_20 (by decide) ?_
    refine z_goto (tgt := 25) X dX11_end_21 (by decide) ?_
    exact m_iret X Z hf (by decide) dX11_end_25

set_option maxHeartbeats 4000000 in
set_option maxRecDepth 100000 in
theorem w_end {M : zM} {D : va_G} {cy : Nat → ClassId} {ad : Nat → Nat} {r' : Int32 × zI × zL} (X : RX M (zR D cy ad) cX11_end 2 RX11 1 21) (Z : RZi M (zR D cy ad) .boolean r'.1 r'.2.1 r'.2.2) (x1 : Int32) (V : zI) (L : zL) (ls : Array Slot) (hl : lv_has ls 2 [(0, .ref (ad 0)), (1, .int x1)]) (hf : f_end x1 V L = some r') : RG M (zR D cy ad) V L 0 ls [] := by
  unfold f_end at hf
  refine z_iload_n X dX11_end_0 rfl (lv_at hl 1 rfl) ?_
  refine z_if_lt (tgt := 12) X dX11_end_1 (by decide) (fun c_ => ?_) (fun c_ => ?_)
  · have hf := (if_pos c_).symm.trans hf
    exact w_end_12 X Z V L ls (lv_sub hl [0] rfl) hf
  · have hf := (if_neg c_).symm.trans hf
    refine z_iload_n X dX11_end_4 rfl (lv_at hl 1 rfl) ?_
    refine z_aload_n X dX11_end_5 rfl (lv_at hl 0 rfl) ?_
    refine m_geti X ff_1 dX11_end_6 ?_
    refine z_icmp_le (tgt := 26) X dX11_end_9 (by decide) (fun c_ => ?_) (fun c_ => ?_)
    · have hf := (if_pos c_).symm.trans hf
      refine z_aload_n X dX11_end_26 rfl (lv_at hl 0 rfl) ?_
      refine z_iload_n X dX11_end_27 rfl (lv_at hl 1 rfl) ?_
      refine m_puti X fp_1 dX11_end_28 ?_
      refine z_iconst (v := 1) X dX11_end_31 (by decide) ?_
      exact m_iret X Z hf (by decide) dX11_end_32
    · have hf := (if_neg c_).symm.trans hf
      exact w_end_12 X Z V L ls (lv_sub hl [0] rfl) hf

theorem c_end (D : va_G) (cy : Nat → ClassId) (ad : Nat → Nat) {x1 : Int32} {V : zI} {L : zL} {r' : Int32 × zI × zL} (hf : f_end x1 V L = some r') : RMi (zR D cy ad) yX11_end cX11_end 2 .boolean 1 21 [.ref (ad 0), .int x1] V L r'.1 r'.2.1 r'.2.2 :=
  RMi.of (by decide) zR_nd (Nat.le_of_ble_eq_true rfl) (fun M X Z ls hl => w_end X Z x1 V L ls hl hf)
