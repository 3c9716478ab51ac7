def f_is (x0 : Int32) (x1 : Int32) (x2 : Int32) : Option (Int32) :=
  (if x0 < x1 then some 0 else (if x2 < x0 then some 0 else some 1))
set_option maxHeartbeats 4000000 in
set_option maxRecDepth 100000 in
theorem w_is {M : zM} {D : va_G} {cy : Nat → ClassId} {ad : Nat → Nat} {V : zI} {L : zL} {r' : Int32} (X : RX M (zR D cy ad) cX11_is 3 RX11 0 0) (Z : RZi M (zR D cy ad) .boolean r' V L) (x0 : Int32) (x1 : Int32) (x2 : Int32) (ls : Array Slot) (hl : lv_has ls 3 [(0, .int x0), (1, .int x1), (2, .int x2)]) (hf : f_is x0 x1 x2 = some r') : RG M (zR D cy ad) V L 0 ls [] := by
  unfold f_is at hf
  refine z_iload_n X dX11_is_0 rfl (lv_at hl 0 rfl) ?_
  refine z_iload_n X dX11_is_1 rfl (lv_at hl 1 rfl) ?_
  refine z_icmp_lt (tgt := 14) X dX11_is_2 (by decide) (fun c_ => ?_) (fun c_ => ?_)
  · have hf := (if_pos c_).symm.trans hf
    refine z_iconst (v := 0) X dX11_is_14 (by decide) ?_
    exact m_iretS X Z hf (by decide) dX11_is_15
  · have hf := (if_neg c_).symm.trans hf
    refine z_iload_n X dX11_is_5 rfl (lv_at hl 0 rfl) ?_
    refine z_iload_n X dX11_is_6 rfl (lv_at hl 2 rfl) ?_
    refine z_icmp_gt (tgt := 14) X dX11_is_7 (by decide) (fun c_ => ?_) (fun c_ => ?_)
    · have hf := (if_pos c_).symm.trans hf
      refine z_iconst (v := 0) X dX11_is_14 (by decide) ?_
      exact m_iretS X Z hf (by decide) dX11_is_15
    · have hf := (if_neg c_).symm.trans hf
      refine z_iconst (v := 1) X dX11_is_10 (by decide) ?_
      refine z_goto (tgt := 15) X dX11_is_11 (by decide) ?_
      exact m_iretS X Z hf (by decide) dX11_is_15

theorem c_is (D : va_G) (cy : Nat → ClassId) (ad : Nat → Nat) {x0 : Int32} {x1 : Int32} {x2 : Int32} {V : zI} {L : zL} {r' : Int32} (hf : f_is x0 x1 x2 = some r') : RMi (zR D cy ad) yX11_is cX11_is 3 .boolean 0 0 [.int x0, .int x1, .int x2] V L r' V L :=
  RMi.of (by decide) zR_nd (Nat.le_of_ble_eq_true rfl) (fun M X Z ls hl => w_is X Z x0 x1 x2 ls hl hf)
def b_put_3 (k3 : Int32 × Int32 × zI × zL → Option (zI × zL)) : Int32 × Int32 × zI × zL → Option (zI × zL) := fun ⟨x1, x2, V, L⟩ =>
  (if x2 < 0 then some (V, L) else if inB (V 0 1) 1800 then k3 (x1, (x2 + Int32.ofInt (-8)), z_uI (z_uI V 1 (V 0 1).toNatClampNeg ((x1 >>> (x2 &&& 31)) &&& 255)) 0 1 (((z_uI V 1 (V 0 1).toNatClampNeg ((x1 >>> (x2 &&& 31)) &&& 255)) 0 1) + 1), L) else none)
def f_put (x1 : Int32) (V : zI) (L : zL) : Option (zI × zL) :=
  zfix (b_put_3) FU (x1, 24, V, L)
set_option maxHeartbeats 4000000 in
set_option maxRecDepth 100000 in
theorem w_put_3 {M : zM} {D : va_G} {cy : Nat → ClassId} {ad : Nat → Nat} {r' : zI × zL} (X : RX M (zR D cy ad) cX11_put 3 RX11 0 0) (Z : RZv M (zR D cy ad) r'.1 r'.2) (n : Nat) : ∀ (x1 : Int32) (x2 : Int32) (V : zI) (L : zL) (ls : Array Slot) (hl : lv_has ls 3 [(0, .ref (ad 0)), (1, .int x1), (2, .int x2)]) (hf : zfix (b_put_3) n (x1, x2, V, L) = some r'), RG M (zR D cy ad) V L 3 ls [] := by
  induction n with
  | zero => intro x1 x2 V L ls hl hf; cases hf
  | succ n ih =>
  intro x1 x2 V L ls hl hf
  have hk3 : ∀ (x1 : Int32) (x2 : Int32) (V : zI) (L : zL) (ls : Array Slot), lv_has ls 3 [(0, .ref (ad 0)), (1, .int x1), (2, .int x2)] → zfix (b_put_3) n (x1, x2, V, L) = some r' → RG M (zR D cy ad) V L 3 ls [] := ih
  have hf : b_put_3 (zfix (b_put_3) n) (x1, x2, V, L) = some r' := hf
  generalize zfix (b_put_3) n = k3 at hk3 hf
  unfold b_put_3 at hf
  clear ih
  refine z_iload_n X dX11_put_3 rfl (lv_at hl 2 rfl) ?_
  refine z_if_lt (tgt := 39) X dX11_put_4 (by decide) (fun c_ => ?_) (fun c_ => ?_)
  · have hf := (if_pos c_).symm.trans hf
    exact m_vret X Z hf dX11_put_39
  · have hf := (if_neg c_).symm.trans hf
    refine z_aload_n X dX11_put_7 rfl (lv_at hl 0 rfl) ?_
    refine m_geta X ff_0 dX11_put_8 ?_
    refine z_aload_n X dX11_put_11 rfl (lv_at hl 0 rfl) ?_
    refine m_geti X ff_1 dX11_put_12 ?_
    refine z_iload_n X dX11_put_15 rfl (lv_at hl 1 rfl) ?_
    refine z_iload_n X dX11_put_16 rfl (lv_at hl 2 rfl) ?_
    refine z_ishr X dX11_put_17 ?_
    refine z_sipush (v := 255) X dX11_put_18 (by decide) ?_
    refine z_iand X dX11_put_21 ?_
    obtain ⟨hb1, hf⟩ := z_ite hf
    refine m_iast X pa_1 hb1 dX11_put_22 ?_
    refine z_aload_n X dX11_put_23 rfl (lv_at hl 0 rfl) ?_
    refine z_dup X dX11_put_24 rfl ?_
    refine m_geti X ff_1 dX11_put_25 ?_
    refine z_iconst (v := 1) X dX11_put_28 (by decide) ?_
    refine z_iadd X dX11_put_29 ?_
    refine m_puti X fp_1 dX11_put_30 ?_
    refine z_iinc (v := x2 + Int32.ofInt (-8)) (k0 := 2) (lv' := [(2, .int (x2 + Int32.ofInt (-8))), (0, .ref (ad 0)), (1, .int x1)]) X dX11_put_33 hl rfl rfl (by decide) rfl (fun ls hl => ?_)
    refine z_goto (tgt := 3) X dX11_put_36 (by decide) ?_
    exact hk3 x1 (x2 + Int32.ofInt (-8)) (z_uI (z_uI V 1 (V 0 1).toNatClampNeg ((x1 >>> (x2 &&& 31)) &&& 255)) 0 1 (((z_uI V 1 (V 0 1).toNatClampNeg ((x1 >>> (x2 &&& 31)) &&& 255)) 0 1) + 1)) L ls (lv_sub hl [1, 2, 0] rfl) hf

set_option maxHeartbeats 4000000 in
set_option maxRecDepth 100000 in
theorem w_put {M : zM} {D : va_G} {cy : Nat → ClassId} {ad : Nat → Nat} {r' : zI × zL} (X : RX M (zR D cy ad) cX11_put 3 RX11 0 0) (Z : RZv M (zR D cy ad) r'.1 r'.2) (x1 : Int32) (V : zI) (L : zL) (ls : Array Slot) (hl : lv_has ls 3 [(0, .ref (ad 0)), (1, .int x1)]) (hf : f_put x1 V L = some r') : RG M (zR D cy ad) V L 0 ls [] := by
  unfold f_put at hf
  refine z_bipush (v := 24) X dX11_put_0 (by decide) ?_
  refine z_istore_n (lv' := [(2, .int 24), (0, .ref (ad 0)), (1, .int x1)]) X dX11_put_2 rfl hl (by decide) rfl (fun ls hl => ?_)
  exact w_put_3 X Z FU x1 24 V L ls (lv_sub hl [1, 2, 0] rfl) hf

theorem c_put (D : va_G) (cy : Nat → ClassId) (ad : Nat → Nat) {x1 : Int32} {V : zI} {L : zL} {r' : zI × zL} (hf : f_put x1 V L = some r') : RMv (zR D cy ad) yX11_put cX11_put 3 0 0 [.ref (ad 0), .int x1] V L r'.1 r'.2 :=
  RMv.of (by decide) zR_nd (Nat.le_of_ble_eq_true rfl) (fun M X Z ls hl => w_put X Z x1 V L ls hl hf)
def f_refuses (x1 : Int32) (V : zI) (L : zL) : Option (Int32 × zI × zL) :=
  if inB x1 6 then if inB x1 6 then some ((-1), z_uI V 19 x1.toNatClampNeg ((V 19 x1.toNatClampNeg) + 1), L) else none else none
set_option maxHeartbeats 4000000 in
set_option maxRecDepth 100000 in
theorem w_refuses {M : zM} {D : va_G} {cy : Nat → ClassId} {ad : Nat → Nat} {r' : Int32 × zI × zL} (X : RX M (zR D cy ad) cX11_refuses 2 RX11 0 0) (Z : RZi M (zR D cy ad) .int r'.1 r'.2.1 r'.2.2) (x1 : Int32) (V : zI) (L : zL) (ls : Array Slot) (hl : lv_has ls 2 [(0, .ref (ad 0)), (1, .int x1)]) (hf : f_refuses x1 V L = some r') : RG M (zR D cy ad) V L 0 ls [] := by
  unfold f_refuses at hf
  refine z_aload_n X dX11_refuses_0 rfl (lv_at hl 0 rfl) ?_
  refine m_geta X ff_38 dX11_refuses_1 ?_
  refine z_iload_n X dX11_refuses_4 rfl (lv_at hl 1 rfl) ?_
  refine z_dup2 X dX11_refuses_5 rfl rfl ?_
  obtain ⟨hb1, hf⟩ := z_ite hf
  refine m_iald X pa_19 hb1 dX11_refuses_6 ?_
  refine z_iconst (v := 1) X dX11_refuses_7 (by decide) ?_
  refine z_iadd X dX11_refuses_8 ?_
  obtain ⟨hb2, hf⟩ := z_ite hf
  refine m_iast X pa_19 hb2 dX11_refuses_9 ?_
  refine z_iconst (v := -1) X dX11_refuses_10 (by decide) ?_
  exact m_iret X Z hf rfl dX11_refuses_11

theorem c_refuses (D : va_G) (cy : Nat → ClassId) (ad : Nat → Nat) {x1 : Int32} {V : zI} {L : zL} {r' : Int32 × zI × zL} (hf : f_refuses x1 V L = some r') : RMi (zR D cy ad) yX11_refuses cX11_refuses 2 .int 0 0 [.ref (ad 0), .int x1] V L r'.1 r'.2.1 r'.2.2 :=
  RMi.of (by decide) zR_nd (Nat.le_of_ble_eq_true rfl) (fun M X Z ls hl => w_refuses X Z x1 V L ls hl hf)
def f_feed (x1 : Int32) (x2 : Int32) (x3 : Int32) (x4 : Int32) (x5 : Int32) (V : zI) (L : zL) : Option (Int32 × zI × zL) :=
  (if ((V 0 1) + 20) ≤ 1600 then (f_put x1 V L).bind fun r1 => (f_put x2 r1.1 r1.2).bind fun r2 => (f_put x3 r2.1 r2.2).bind fun r3 => (f_put x4 r3.1 r3.2).bind fun r4 => (f_put x5 r4.1 r4.2).bind fun r5 => some (r5.1 0 1, r5.1, r5.2) else (f_refuses 0 V L).bind fun r6 => some (r6.1, r6.2.1, r6.2.2))
set_option maxHeartbeats 4000000 in
set_option maxRecDepth 100000 in
theorem w_feed {M : zM} {D : va_G} {cy : Nat → ClassId} {ad : Nat → Nat} {r' : Int32 × zI × zL} (X : RX M (zR D cy ad) cX11_feed 6 RX11 1 22) (Z : RZi M (zR D cy ad) .int r'.1 r'.2.1 r'.2.2) (x1 : Int32) (x2 : Int32) (x3 : Int32) (x4 : Int32) (x5 : Int32) (V : zI) (L : zL) (ls : Array Slot) (hl : lv_has ls 6 [(0, .ref (ad 0)), (1, .int x1), (2, .int x2), (3, .int x3), (4, .int x4), (5, .int x5)]) (hf : f_feed x1 x2 x3 x4 x5 V L = some r') : RG M (zR D cy ad) V L 0 ls [] := by
  unfold f_feed at hf
  refine z_aload_n X dX11_feed_0 rfl (lv_at hl 0 rfl) ?_
  refine m_geti X ff_1 dX11_feed_1 ?_
  refine z_bipush (v := 20) X dX11_feed_4 (by decide) ?_
  refine z_iadd X dX11_feed_6 ?_
  refine z_sipush (v := 1600) X dX11_feed_7 (by decide) ?_
  refine z_icmp_le (tgt := 19) X dX11_feed_10 (by decide) (fun c_ => ?_) (fun c_ => ?_)
  · have hf := (if_pos c_).symm.trans hf
    refine z_aload_n X dX11_feed_19 rfl (lv_at hl 0 rfl) ?_
    refine z_iload_n X dX11_feed_20 rfl (lv_at hl 1 rfl) ?_
    obtain ⟨r1, hc1, hf⟩ := z_bind hf
    refine m_callVv [.int x1] X hl.1 (c_put D cy ad hc1) gm_put pd_put rfl ⟨by decide, by decide⟩ (Nat.le_of_ble_eq_true rfl) rfl dX11_feed_21 ?_
    refine z_aload_n X dX11_feed_24 rfl (lv_at hl 0 rfl) ?_
    refine z_iload_n X dX11_feed_25 rfl (lv_at hl 2 rfl) ?_
    obtain ⟨r2, hc2, hf⟩ := z_bind hf
    refine m_callVv [.int x2] X hl.1 (c_put D cy ad hc2) gm_put pd_put rfl ⟨by decide, by decide⟩ (Nat.le_of_ble_eq_true rfl) rfl dX11_feed_26 ?_
    refine z_aload_n X dX11_feed_29 rfl (lv_at hl 0 rfl) ?_
    refine z_iload_n X dX11_feed_30 rfl (lv_at hl 3 rfl) ?_
    obtain ⟨r3, hc3, hf⟩ := z_bind hf
    refine m_callVv [.int x3] X hl.1 (c_put D cy ad hc3) gm_put pd_put rfl ⟨by decide, by decide⟩ (Nat.le_of_ble_eq_true rfl) rfl dX11_feed_31 ?_
    refine z_aload_n X dX11_feed_34 rfl (lv_at hl 0 rfl) ?_
    refine z_iload X dX11_feed_35 (lv_at hl 4 rfl) ?_
    obtain ⟨r4, hc4, hf⟩ := z_bind hf
    refine m_callVv [.int x4] X hl.1 (c_put D cy ad hc4) gm_put pd_put rfl ⟨by decide, by decide⟩ (Nat.le_of_ble_eq_true rfl) rfl dX11_feed_37 ?_
    refine z_aload_n X dX11_feed_40 rfl (lv_at hl 0 rfl) ?_
    refine z_iload X dX11_feed_41 (lv_at hl 5 rfl) ?_
    obtain ⟨r5, hc5, hf⟩ := z_bind hf
    refine m_callVv [.int x5] X hl.1 (c_put D cy ad hc5) gm_put pd_put rfl ⟨by decide, by decide⟩ (Nat.le_of_ble_eq_true rfl) rfl dX11_feed_43 ?_
    refine z_aload_n X dX11_feed_46 rfl (lv_at hl 0 rfl) ?_
    refine m_geti X ff_1 dX11_feed_47 ?_
    exact m_iret X Z hf rfl dX11_feed_50
  · have hf := (if_neg c_).symm.trans hf
    refine z_aload_n X dX11_feed_13 rfl (lv_at hl 0 rfl) ?_
    refine z_iconst (v := 0) X dX11_feed_14 (by decide) ?_
    obtain ⟨r6, hc6, hf⟩ := z_bind hf
    refine m_callVi [.int 0] X hl.1 (c_refuses D cy ad hc6) gm_refuses pd_refuses rfl ⟨by decide, by decide⟩ (Nat.le_of_ble_eq_true rfl) rfl dX11_feed_15 ?_
    exact m_iret X Z hf rfl dX11_feed_18

theorem c_feed (D : va_G) (cy : Nat → ClassId) (ad : Nat → Nat) {x1 : Int32} {x2 : Int32} {x3 : Int32} {x4 : Int32} {x5 : Int32} {V : zI} {L : zL} {r' : Int32 × zI × zL} (hf : f_feed x1 x2 x3 x4 x5 V L = some r') : RMi (zR D cy ad) yX11_feed cX11_feed 6 .int 1 22 [.ref (ad 0), .int x1, .int x2, .int x3, .int x4, .int x5] V L r'.1 r'.2.1 r'.2.2 :=
  RMi.of (by decide) zR_nd (Nat.le_of_ble_eq_true rfl) (fun M X Z ls hl => w_feed X Z x1 x2 x3 x4 x5 V L ls hl hf)
def f_end_12 (V : zI) (L : zL) : Option (Int32 × zI × zL) :=
  (f_refuses 0 V L).bind fun r1 => (if r1.1 < 0 then some (0, r1.2.1, r1.2.2) else some (1, r1.2.1, r1.2.2))
def f_end (x1 : Int32) (V : zI) (L : zL) : Option (Int32 × zI × zL) :=
  (if x1 < 0 then f_end_12 V L else (if x1 ≤ (V 0 1) then some (1, z_uI V 0 1 x1, L) else f_end_12 V L))
set_option maxHeartbeats 4000000 in
set_option maxRecDepth 100000 in
theorem w_end_12 {M : zM} {D : va_G} {cy : Nat → ClassId} {ad : Nat → Nat} {r' : Int32 × zI × zL} (X : RX M (zR D cy ad) cX11_end 2 RX11 1 21) (Z : RZi M (zR D cy ad) .boolean r'.1 r'.2.1 r'.2.2)  (V : zI) (L : zL) (ls : Array Slot) (hl : lv_has ls 2 [(0, .ref (ad 0))]) (hf : f_end_12 V L = some r') : RG M (zR D cy ad) V L 12 ls [] := by
  unfold f_end_12 at hf
  refine z_aload_n X dX11_end_12 rfl (lv_at hl 0 rfl) ?_
  refine z_iconst (v := 0) X dX11_end_13 (by decide) ?_
  obtain ⟨r1, hc1, hf⟩ := z_bind hf
  refine m_callVi [.int 0] X hl.1 (c_refuses D cy ad hc1) gm_refuses pd_refuses rfl ⟨by decide, by decide⟩ (Nat.le_of_ble_eq_true rfl) rfl dX11_end_14 ?_
  refine z_if_lt (tgt := 24) X dX11_end_17 (by decide) (fun c_ => ?_) (fun c_ => ?_)
  · have hf := (if_pos c_).symm.trans hf
    refine z_iconst (v := 0) X dX11_end_24 (by decide) ?_
    exact m_iret X Z hf (by decide) dX11_end_25
  · have hf := (if_neg c_).symm.trans hf
    refine z_iconst (v := 1) X dX11_end_20 (by decide) ?_
    refine z_goto (tgt := 25) X dX11_end_21 (by decide) ?_
    exact m_iret X Z hf (by decide) dX11_end_25

set_option maxHeartbeats 4000000 in
set_option maxRecDepth 100000 in
theorem w_end {M : zM} {D : va_G} {cy : Nat → ClassId} {ad : Nat → Nat} {r' : Int32 × zI × zL} (X : RX M (zR D cy ad) cX11_end 2 RX11 1 21) (Z : RZi M (zR D cy ad) .boolean r'.1 r'.2.1 r'.2.2) (x1 : Int32) (V : zI) (L : zL) (ls : Array Slot) (hl : lv_has ls 2 [(0, .ref (ad 0)), (1, .int x1)]) (hf : f_end x1 V L = some r') : RG M (zR D cy ad) V L 0 ls [] := by
  unfold f_end at hf
  refine z_iload_n X dX11_end_0 rfl (lv_at hl 1 rfl) ?_
  refine z_if_lt (tgt := 12) X dX11_end_1 (by decide) (fun c_ => ?_) (fun c_ => ?_)
  · have hf := (if_pos c_).symm.trans hf
    exact w_end_12 X Z V L ls (lv_sub hl [0] rfl) hf
  · have hf := (if_neg c_).symm.trans hf
    refine z_iload_n X dX11_end_4 rfl (lv_at hl 1 rfl) ?_
    refine z_aload_n X dX11_end_5 rfl (lv_at hl 0 rfl) ?_
    refine m_geti X ff_1 dX11_end_6 ?_
    refine z_icmp_le (tgt := 26) X dX11_end_9 (by decide) (fun c_ => ?_) (fun c_ => ?_)
    · have hf := (if_pos c_).symm.trans hf
      refine z_aload_n X dX11_end_26 rfl (lv_at hl 0 rfl) ?_
      refine z_iload_n X dX11_end_27 rfl (lv_at hl 1 rfl) ?_
      refine m_puti X fp_1 dX11_end_28 ?_
      refine z_iconst (v := 1) X dX11_end_31 (by decide) ?_
      exact m_iret X Z hf (by decide) dX11_end_32
    · have hf := (if_neg c_).symm.trans hf
      exact w_end_12 X Z V L ls (lv_sub hl [0] rfl) hf

theorem c_end (D : va_G) (cy : Nat → ClassId) (ad : Nat → Nat) {x1 : Int32} {V : zI} {L : zL} {r' : Int32 × zI × zL} (hf : f_end x1 V L = some r') : RMi (zR D cy ad) yX11_end cX11_end 2 .boolean 1 21 [.ref (ad 0), .int x1] V L r'.1 r'.2.1 r'.2.2 :=
  RMi.of (by decide) zR_nd (Nat.le_of_ble_eq_true rfl) (fun M X Z ls hl => w_end X Z x1 V L ls hl hf)
def f_blame (x1 : Int32) (x2 : Int32) (V : zI) (L : zL) : Option (zI × zL) :=
  (if (V 0 8) ≤ 0 then some (z_uI (z_uI V 0 8 x1) 0 9 x2, L) else some (V, L))
set_option maxHeartbeats 4000000 in
set_option maxRecDepth 100000 in
theorem w_blame {M : zM} {D : va_G} {cy : Nat → ClassId} {ad : Nat → Nat} {r' : zI × zL} (X : RX M (zR D cy ad) cX11_blame 3 RX11 0 0) (Z : RZv M (zR D cy ad) r'.1 r'.2) (x1 : Int32) (x2 : Int32) (V : zI) (L : zL) (ls : Array Slot) (hl : lv_has ls 3 [(0, .ref (ad 0)), (1, .int x1), (2, .int x2)]) (hf : f_blame x1 x2 V L = some r') : RG M (zR D cy ad) V L 0 ls [] := by
  unfold f_blame at hf
  refine z_aload_n X dX11_blame_0 rfl (lv_at hl 0 rfl) ?_
  refine m_geti X ff_8 dX11_blame_1 ?_
  refine z_if_le (tgt := 8) X dX11_blame_4 (by decide) (fun c_ => ?_) (fun c_ => ?_)
  · have hf := (if_pos c_).symm.trans hf
    refine z_aload_n X dX11_blame_8 rfl (lv_at hl 0 rfl) ?_
    refine z_iload_n X dX11_blame_9 rfl (lv_at hl 1 rfl) ?_
    refine m_puti X fp_8 dX11_blame_10 ?_
    refine z_aload_n X dX11_blame_13 rfl (lv_at hl 0 rfl) ?_
    refine z_iload_n X dX11_blame_14 rfl (lv_at hl 2 rfl) ?_
    refine m_puti X fp_9 dX11_blame_15 ?_
    exact m_vret X Z hf dX11_blame_18
  · have hf := (if_neg c_).symm.trans hf
    exact m_vret X Z hf dX11_blame_7

theorem c_blame (D : va_G) (cy : Nat → ClassId) (ad : Nat → Nat) {x1 : Int32} {x2 : Int32} {V : zI} {L : zL} {r' : zI × zL} (hf : f_blame x1 x2 V L = some r') : RMv (zR D cy ad) yX11_blame cX11_blame 3 0 0 [.ref (ad 0), .int x1, .int x2] V L r'.1 r'.2 :=
  RMv.of (by decide) zR_nd (Nat.le_of_ble_eq_true rfl) (fun M X Z ls hl => w_blame X Z x1 x2 V L ls hl hf)
def f_isLetter (x0 : Int32) : Option (Int32) :=
  (if x0 < 97 then some 0 else (if 122 < x0 then some 0 else some 1))
set_option maxHeartbeats 4000000 in
set_option maxRecDepth 100000 in
theorem w_isLetter {M : zM} {D : va_G} {cy : Nat → ClassId} {ad : Nat → Nat} {V : zI} {L : zL} {r' : Int32} (X : RX M (zR D cy ad) cX11_isLetter 1 RX11 0 0) (Z : RZi M (zR D cy ad) .boolean r' V L) (x0 : Int32) (ls : Array Slot) (hl : lv_has ls 1 [(0, .int x0)]) (hf : f_isLetter x0 = some r') : RG M (zR D cy ad) V L 0 ls [] := by
  unfold f_isLetter at hf
  refine z_iload_n X dX11_isLetter_0 rfl (lv_at hl 0 rfl) ?_
  refine z_bipush (v := 97) X dX11_isLetter_1 (by decide) ?_
  refine z_icmp_lt (tgt := 16) X dX11_isLetter_3 (by decide) (fun c_ => ?_) (fun c_ => ?_)
  · have hf := (if_pos c_).symm.trans hf
    refine z_iconst (v := 0) X dX11_isLetter_16 (by decide) ?_
    exact m_iretS X Z hf (by decide) dX11_isLetter_17
  · have hf := (if_neg c_).symm.trans hf
    refine z_iload_n X dX11_isLetter_6 rfl (lv_at hl 0 rfl) ?_
    refine z_bipush (v := 122) X dX11_isLetter_7 (by decide) ?_
    refine z_icmp_gt (tgt := 16) X dX11_isLetter_9 (by decide) (fun c_ => ?_) (fun c_ => ?_)
    · have hf := (if_pos c_).symm.trans hf
      refine z_iconst (v := 0) X dX11_isLetter_16 (by decide) ?_
      exact m_iretS X Z hf (by decide) dX11_isLetter_17
    · have hf := (if_neg c_).symm.trans hf
      refine z_iconst (v := 1) X dX11_isLetter_12 (by decide) ?_
      refine z_goto (tgt := 17) X dX11_isLetter_13 (by decide) ?_
      exact m_iretS X Z hf (by decide) dX11_isLetter_17

theorem c_isLetter (D : va_G) (cy : Nat → ClassId) (ad : Nat → Nat) {x0 : Int32} {V : zI} {L : zL} {r' : Int32} (hf : f_isLetter x0 = some r') : RMi (zR D cy ad) yX11_isLetter cX11_isLetter 1 .boolean 0 0 [.int x0] V L r' V L :=
  RMi.of (by decide) zR_nd (Nat.le_of_ble_eq_true rfl) (fun M X Z ls hl => w_isLetter X Z x0 ls hl hf)
def f_isDigit (x0 : Int32) : Option (Int32) :=
  (if x0 < 48 then some 0 else (if 57 < x0 then some 0 else some 1))
set_option maxHeartbeats 4000000 in
set_option maxRecDepth 100000 in
theorem w_isDigit {M : zM} {D : va_G} {cy : Nat → ClassId} {ad : Nat → Nat} {V : zI} {L : zL} {r' : Int32} (X : RX M (zR D cy ad) cX11_isDigit 1 RX11 0 0) (Z : RZi M (zR D cy ad) .boolean r' V L) (x0 : Int32) (ls : Array Slot) (hl : lv_has ls 1 [(0, .int x0)]) (hf : f_isDigit x0 = some r') : RG M (zR D cy ad) V L 0 ls [] := by
  unfold f_isDigit at hf
  refine z_iload_n X dX11_isDigit_0 rfl (lv_at hl 0 rfl) ?_
  refine z_bipush (v := 48) X dX11_isDigit_1 (by decide) ?_
  refine z_icmp_lt (tgt := 16) X dX11_isDigit_3 (by decide) (fun c_ => ?_) (fun c_ => ?_)
  · have hf := (if_pos c_).symm.trans hf
    refine z_iconst (v := 0) X dX11_isDigit_16 (by decide) ?_
    exact m_iretS X Z hf (by decide) dX11_isDigit_17
  · have hf := (if_neg c_).symm.trans hf
    refine z_iload_n X dX11_isDigit_6 rfl (lv_at hl 0 rfl) ?_
    refine z_bipush (v := 57) X dX11_isDigit_7 (by decide) ?_
    refine z_icmp_gt (tgt := 16) X dX11_isDigit_9 (by decide) (fun c_ => ?_) (fun c_ => ?_)
    · have hf := (if_pos c_).symm.trans hf
      refine z_iconst (v := 0) X dX11_isDigit_16 (by decide) ?_
      exact m_iretS X Z hf (by decide) dX11_isDigit_17
    · have hf := (if_neg c_).symm.trans hf
      refine z_iconst (v := 1) X dX11_isDigit_12 (by decide) ?_
      refine z_goto (tgt := 17) X dX11_isDigit_13 (by decide) ?_
      exact m_iretS X Z hf (by decide) dX11_isDigit_17

theorem c_isDigit (D : va_G) (cy : Nat → ClassId) (ad : Nat → Nat) {x0 : Int32} {V : zI} {L : zL} {r' : Int32} (hf : f_isDigit x0 = some r') : RMi (zR D cy ad) yX11_isDigit cX11_isDigit 1 .boolean 0 0 [.int x0] V L r' V L :=
  RMi.of (by decide) zR_nd (Nat.le_of_ble_eq_true rfl) (fun M X Z ls hl => w_isDigit X Z x0 ls hl hf)
def f_lex (V : zI) (L : zL) : Option (zI × zL) :=
  (if (V 0 12) = (-1) then some (V, L) else (f_blame 1 (V 0 12) V L).bind fun r1 => some (r1.1, r1.2))
set_option maxHeartbeats 4000000 in
set_option maxRecDepth 100000 in
theorem w_lex {M : zM} {D : va_G} {cy : Nat → ClassId} {ad : Nat → Nat} {r' : zI × zL} (X : RX M (zR D cy ad) cX11_lex 1 RX11 1 22) (Z : RZv M (zR D cy ad) r'.1 r'.2)  (V : zI) (L : zL) (ls : Array Slot) (hl : lv_has ls 1 [(0, .ref (ad 0))]) (hf : f_lex V L = some r') : RG M (zR D cy ad) V L 0 ls [] := by
  unfold f_lex at hf
  refine z_aload_n X dX11_lex_0 rfl (lv_at hl 0 rfl) ?_
  refine m_geti X ff_12 dX11_lex_1 ?_
  refine z_iconst (v := -1) X dX11_lex_4 (by decide) ?_
  refine z_icmp_eq (tgt := 17) X dX11_lex_5 (by decide) (fun c_ => ?_) (fun c_ => ?_)
  · have hf := (if_pos c_).symm.trans hf
    exact m_vret X Z hf dX11_lex_17
  · have hf := (if_neg c_).symm.trans hf
    refine z_aload_n X dX11_lex_8 rfl (lv_at hl 0 rfl) ?_
    refine z_iconst (v := 1) X dX11_lex_9 (by decide) ?_
    refine z_aload_n X dX11_lex_10 rfl (lv_at hl 0 rfl) ?_
    refine m_geti X ff_12 dX11_lex_11 ?_
    obtain ⟨r1, hc1, hf⟩ := z_bind hf
    refine m_callVv [.int 1, .int (V 0 12)] X hl.1 (c_blame D cy ad hc1) gm_blame pd_blame rfl ⟨by decide, by decide⟩ (Nat.le_of_ble_eq_true rfl) rfl dX11_lex_14 ?_
    exact m_vret X Z hf dX11_lex_17

theorem c_lex (D : va_G) (cy : Nat → ClassId) (ad : Nat → Nat)  {V : zI} {L : zL} {r' : zI × zL} (hf : f_lex V L = some r') : RMv (zR D cy ad) yX11_lex cX11_lex 1 1 22 [.ref (ad 0)] V L r'.1 r'.2 :=
  RMv.of (by decide) zR_nd (Nat.le_of_ble_eq_true rfl) (fun M X Z ls hl => w_lex X Z V L ls hl hf)
def f_ahead_293 (k204 : Int32 × Int32 × Int32 × Int32 × Int32 × zI × zL → Option (zI × zL)) (x1 : Int32) (x2 : Int32) (x3 : Int32) (x4 : Int32) (x5 : Int32) (V : zI) (L : zL) : Option (zI × zL) :=
  (if x4 ≤ x5 then k204 ((x1 + 1), x2, x3, x4, (x5 + 1), V, L) else (if x3 = 0 then k204 ((x1 + 1), x2, x3, x4, (x5 + 1), V, L) else if inB x1 1800 then k204 ((x1 + 1), x2, x3, x4, (x5 + 1), z_uI V 0 6 ((((10 : Int32) * (V 0 6)) + (V 1 x1.toNatClampNeg)) - 48), L) else none))
def f_ahead_263 (k204 : Int32 × Int32 × Int32 × Int32 × Int32 × zI × zL → Option (zI × zL)) (x1 : Int32) (x2 : Int32) (x3 : Int32) (x4 : Int32) (x5 : Int32) (V : zI) (L : zL) : Option (zI × zL) :=
  (if x4 ≤ x5 then f_ahead_293 k204 x1 x2 x3 x4 x5 V L else (if x2 = 0 then f_ahead_293 k204 x1 x2 x3 x4 x5 V L else if inB x1 1800 then f_ahead_293 k204 x1 x2 x3 x4 x5 V (z_uL L 0 7 (((L 0 7) <<< ((8 : Int32).toInt64 &&& 63)) ||| ((V 1 x1.toNatClampNeg).toInt64))) else none))
def f_ahead_243 (k204 : Int32 × Int32 × Int32 × Int32 × Int32 × zI × zL → Option (zI × zL)) (x1 : Int32) (x2 : Int32) (x3 : Int32) (x4 : Int32) (x5 : Int32) (V : zI) (L : zL) : Option (zI × zL) :=
  (if x5 = x4 then (if (V 0 12) = (-1) then f_ahead_263 k204 x1 x2 x3 x4 x5 (z_uI V 0 12 x1) L else f_ahead_263 k204 x1 x2 x3 x4 x5 V L) else f_ahead_263 k204 x1 x2 x3 x4 x5 V L)
def b_ahead_204 (k204 : Int32 × Int32 × Int32 × Int32 × Int32 × zI × zL → Option (zI × zL)) : Int32 × Int32 × Int32 × Int32 × Int32 × zI × zL → Option (zI × zL) := fun ⟨x1, x2, x3, x4, x5, V, L⟩ =>
  (if (V 0 2) ≤ x1 then some (z_uI V 0 5 x1, L) else (if x2 = 0 then if inB x1 1800 then (f_isDigit (V 1 x1.toNatClampNeg)).bind fun r2 => (if r2 = 0 then some (z_uI V 0 5 x1, L) else f_ahead_243 k204 x1 x2 x3 x4 x5 V L) else none else if inB x1 1800 then (f_isLetter (V 1 x1.toNatClampNeg)).bind fun r4 => (if r4 = 0 then some (z_uI V 0 5 x1, L) else f_ahead_243 k204 x1 x2 x3 x4 x5 V L) else none))
def f_ahead_199 (x1 : Int32) (x2 : Int32) (x3 : Int32) (s0 : Int32) (V : zI) (L : zL) : Option (zI × zL) :=
  zfix (b_ahead_204) FU (x1, x2, x3, s0, 0, V, L)
def f_ahead_186 (x1 : Int32) (x2 : Int32) (x3 : Int32) (s1 : Int32) (V : zI) (L : zL) : Option (zI × zL) :=
  (if x2 = 0 then f_ahead_199 x1 x2 x3 4 (z_uI V 0 3 s1) L else f_ahead_199 x1 x2 x3 6 (z_uI V 0 3 s1) L)
def f_ahead_176 (x1 : Int32) (x2 : Int32) (x3 : Int32) (V : zI) (L : zL) : Option (zI × zL) :=
  (if x2 = 0 then f_ahead_186 x1 x2 x3 2 V L else f_ahead_186 x1 x2 x3 1 V L)
def f_ahead_135 (x1 : Int32) (x2 : Int32) (x3 : Int32) (V : zI) (L : zL) : Option (zI × zL) :=
  (if x2 = 0 then (if x3 = 0 then if inB x1 1800 then some (z_uI (z_uI (z_uI (z_uI V 0 6 0) 0 3 3) 0 5 (x1 + 1)) 0 6 ((z_uI (z_uI (z_uI V 0 6 0) 0 3 3) 0 5 (x1 + 1)) 1 x1.toNatClampNeg), z_uL L 0 7 0) else none else f_ahead_176 x1 x2 x3 (z_uI (z_uI (z_uI V 0 6 0) 0 3 3) 0 5 (x1 + 1)) (z_uL L 0 7 0)) else f_ahead_176 x1 x2 x3 (z_uI (z_uI (z_uI V 0 6 0) 0 3 3) 0 5 (x1 + 1)) (z_uL L 0 7 0))
def f_ahead_130 (x1 : Int32) (x2 : Int32) (x3 : Int32) (V : zI) (L : zL) : Option (zI × zL) :=
  f_ahead_135 x1 x2 x3 (z_uI V 0 12 x1) L
def f_ahead_98 (x1 : Int32) (x2 : Int32) (x3 : Int32) (V : zI) (L : zL) : Option (zI × zL) :=
  (if x1 ≤ 0 then f_ahead_135 x1 x2 x3 V L else if inB (x1 - 1) 1800 then (f_isLetter (V 1 (x1 - 1).toNatClampNeg)).bind fun r2 => (if r2 = 0 then if inB (x1 - 1) 1800 then (f_isDigit (V 1 (x1 - 1).toNatClampNeg)).bind fun r4 => (if r4 = 0 then f_ahead_135 x1 x2 x3 V L else f_ahead_130 x1 x2 x3 V L) else none else f_ahead_130 x1 x2 x3 V L) else none)
def f_ahead_41 (x1 : Int32) (V : zI) (L : zL) : Option (zI × zL) :=
  (if x1 < ((z_uI (z_uI (z_uI (z_uI V 0 4 x1) 0 5 x1) 0 3 0) 0 12 (-1)) 0 2) then if inB x1 1800 then (f_isLetter ((z_uI (z_uI (z_uI (z_uI V 0 4 x1) 0 5 x1) 0 3 0) 0 12 (-1)) 1 x1.toNatClampNeg)).bind fun r2 => if inB x1 1800 then (f_isDigit ((z_uI (z_uI (z_uI (z_uI V 0 4 x1) 0 5 x1) 0 3 0) 0 12 (-1)) 1 x1.toNatClampNeg)).bind fun r4 => (if r2 = 0 then (if r4 = 0 then f_ahead_135 x1 r2 r4 (z_uI (z_uI (z_uI (z_uI V 0 4 x1) 0 5 x1) 0 3 0) 0 12 (-1)) L else f_ahead_98 x1 r2 r4 (z_uI (z_uI (z_uI (z_uI V 0 4 x1) 0 5 x1) 0 3 0) 0 12 (-1)) L) else f_ahead_98 x1 r2 r4 (z_uI (z_uI (z_uI (z_uI V 0 4 x1) 0 5 x1) 0 3 0) 0 12 (-1)) L) else none else none else some (z_uI (z_uI (z_uI (z_uI V 0 4 x1) 0 5 x1) 0 3 0) 0 12 (-1), L))
def b_ahead_5 (k5 : Int32 × zI × zL → Option (zI × zL)) : Int32 × zI × zL → Option (zI × zL) := fun ⟨x1, V, L⟩ =>
  (if (V 0 2) ≤ x1 then f_ahead_41 x1 V L else if inB x1 1800 then (if (V 1 x1.toNatClampNeg) = 32 then k5 ((x1 + 1), V, L) else if inB x1 1800 then (if (V 1 x1.toNatClampNeg) = 10 then k5 ((x1 + 1), V, L) else f_ahead_41 x1 V L) else none) else none)
def f_ahead (V : zI) (L : zL) : Option (zI × zL) :=
  zfix (b_ahead_5) FU ((V 0 5), V, L)
set_option maxHeartbeats 4000000 in
set_option maxRecDepth 100000 in
theorem w_ahead_293 {M : zM} {D : va_G} {cy : Nat → ClassId} {ad : Nat → Nat} {r' : zI × zL} (X : RX M (zR D cy ad) cX11_ahead 6 RX11 1 20) (Z : RZv M (zR D cy ad) r'.1 r'.2) {k204 : Int32 × Int32 × Int32 × Int32 × Int32 × zI × zL → Option (zI × zL)} (hk204 : ∀ (x1 : Int32) (x2 : Int32) (x3 : Int32) (x4 : Int32) (x5 : Int32) (V : zI) (L : zL) (ls : Array Slot), lv_has ls 6 [(0, .ref (ad 0)), (1, .int x1), (2, .int x2), (3, .int x3), (4, .int x4), (5, .int x5)] → k204 (x1, x2, x3, x4, x5, V, L) = some r' → RG M (zR D cy ad) V L 204 ls []) (x1 : Int32) (x2 : Int32) (x3 : Int32) (x4 : Int32) (x5 : Int32) (V : zI) (L : zL) (ls : Array Slot) (hl : lv_has ls 6 [(0, .ref (ad 0)), (1, .int x1), (2, .int x2), (3, .int x3), (4, .int x4), (5, .int x5)]) (hf : f_ahead_293 k204 x1 x2 x3 x4 x5 V L = some r') : RG M (zR D cy ad) V L 293 ls [] := by
  unfold f_ahead_293 at hf
  refine z_iload X dX11_ahead_293 (lv_at hl 5 rfl) ?_
  refine z_iload X dX11_ahead_295 (lv_at hl 4 rfl) ?_
  refine z_icmp_ge (tgt := 325) X dX11_ahead_297 (by decide) (fun c_ => ?_) (fun c_ => ?_)
  · have hf := (if_pos c_).symm.trans hf
    refine z_iinc (v := x5 + 1) (k0 := 5) (lv' := [(5, .int (x5 + 1)), (0, .ref (ad 0)), (1, .int x1), (2, .int x2), (3, .int x3), (4, .int x4)]) X dX11_ahead_325 hl rfl rfl (by decide) rfl (fun ls hl => ?_)
    refine z_iinc (v := x1 + 1) (k0 := 2) (lv' := [(1, .int (x1 + 1)), (5, .int (x5 + 1)), (0, .ref (ad 0)), (2, .int x2), (3, .int x3), (4, .int x4)]) X dX11_ahead_328 hl rfl rfl (by decide) rfl (fun ls hl => ?_)
    refine z_goto (tgt := 204) X dX11_ahead_331 (by decide) ?_
    exact hk204 (x1 + 1) x2 x3 x4 (x5 + 1) V L ls (lv_sub hl [2, 0, 3, 4, 5, 1] rfl) hf
  · have hf := (if_neg c_).symm.trans hf
    refine z_iload_n X dX11_ahead_300 rfl (lv_at hl 3 rfl) ?_
    refine z_if_eq (tgt := 325) X dX11_ahead_301 (by decide) (fun c_ => ?_) (fun c_ => ?_)
    · have hf := (if_pos c_).symm.trans hf
      refine z_iinc (v := x5 + 1) (k0 := 5) (lv' := [(5, .int (x5 + 1)), (0, .ref (ad 0)), (1, .int x1), (2, .int x2), (3, .int x3), (4, .int x4)]) X dX11_ahead_325 hl rfl rfl (by decide) rfl (fun ls hl => ?_)
      refine z_iinc (v := x1 + 1) (k0 := 2) (lv' := [(1, .int (x1 + 1)), (5, .int (x5 + 1)), (0, .ref (ad 0)), (2, .int x2), (3, .int x3), (4, .int x4)]) X dX11_ahead_328 hl rfl rfl (by decide) rfl (fun ls hl => ?_)
      refine z_goto (tgt := 204) X dX11_ahead_331 (by decide) ?_
      exact hk204 (x1 + 1) x2 x3 x4 (x5 + 1) V L ls (lv_sub hl [2, 0, 3, 4, 5, 1] rfl) hf
    · have hf := (if_neg c_).symm.trans hf
      refine z_aload_n X dX11_ahead_304 rfl (lv_at hl 0 rfl) ?_
      refine z_bipush (v := 10) X dX11_ahead_305 (by decide) ?_
      refine z_aload_n X dX11_ahead_307 rfl (lv_at hl 0 rfl) ?_
      refine m_geti X ff_6 dX11_ahead_308 ?_
      refine z_imul X dX11_ahead_311 ?_
      refine z_aload_n X dX11_ahead_312 rfl (lv_at hl 0 rfl) ?_
      refine m_geta X ff_0 dX11_ahead_313 ?_
      refine z_iload_n X dX11_ahead_316 rfl (lv_at hl 1 rfl) ?_
      obtain ⟨hb1, hf⟩ := z_ite hf
      refine m_iald X pa_1 hb1 dX11_ahead_317 ?_
      refine z_iadd X dX11_ahead_318 ?_
      refine z_bipush (v := 48) X dX11_ahead_319 (by decide) ?_
      refine z_isub X dX11_ahead_321 ?_
      refine m_puti X fp_6 dX11_ahead_322 ?_
      refine z_iinc (v := x5 + 1) (k0 := 5) (lv' := [(5, .int (x5 + 1)), (0, .ref (ad 0)), (1, .int x1), (2, .int x2), (3, .int x3), (4, .int x4)]) X dX11_ahead_325 hl rfl rfl (by decide) rfl (fun ls hl => ?_)
      refine z_iinc (v := x1 + 1) (k0 := 2) (lv' := [(1, .int (x1 + 1)), (5, .int (x5 + 1)), (0, .ref (ad 0)), (2, .int x2), (3, .int x3), (4, .int x4)]) X dX11_ahead_328 hl rfl rfl (by decide) rfl (fun ls hl => ?_)
      refine z_goto (tgt := 204) X dX11_ahead_331 (by decide) ?_
      exact hk204 (x1 + 1) x2 x3 x4 (x5 + 1) (z_uI V 0 6 ((((10 : Int32) * (V 0 6)) + (V 1 x1.toNatClampNeg)) - 48)) L ls (lv_sub hl [2, 0, 3, 4, 5, 1] rfl) hf

set_option maxHeartbeats 4000000 in
set_option maxRecDepth 100000 in
theorem w_ahead_263 {M : zM} {D : va_G} {cy : Nat → ClassId} {ad : Nat → Nat} {r' : zI × zL} (X : RX M (zR D cy ad) cX11_ahead 6 RX11 1 20) (Z : RZv M (zR D cy ad) r'.1 r'.2) {k204 : Int32 × Int32 × Int32 × Int32 × Int32 × zI × zL → Option (zI × zL)} (hk204 : ∀ (x1 : Int32) (x2 : Int32) (x3 : Int32) (x4 : Int32) (x5 : Int32) (V : zI) (L : zL) (ls : Array Slot), lv_has ls 6 [(0, .ref (ad 0)), (1, .int x1), (2, .int x2), (3, .int x3), (4, .int x4), (5, .int x5)] → k204 (x1, x2, x3, x4, x5, V, L) = some r' → RG M (zR D cy ad) V L 204 ls []) (x1 : Int32) (x2 : Int32) (x3 : Int32) (x4 : Int32) (x5 : Int32) (V : zI) (L : zL) (ls : Array Slot) (hl : lv_has ls 6 [(0, .ref (ad 0)), (1, .int x1), (2, .int x2), (3, .int x3), (4, .int x4), (5, .int x5)]) (hf : f_ahead_263 k204 x1 x2 x3 x4 x5 V L = some r') : RG M (zR D cy ad) V L 263 ls [] := by
  unfold f_ahead_263 at hf
  refine z_iload X dX11_ahead_263 (lv_at hl 5 rfl) ?_
  refine z_iload X dX11_ahead_265 (lv_at hl 4 rfl) ?_
  refine z_icmp_ge (tgt := 293) X dX11_ahead_267 (by decide) (fun c_ => ?_) (fun c_ => ?_)
  · have hf := (if_pos c_).symm.trans hf
    exact w_ahead_293 X Z hk204 x1 x2 x3 x4 x5 V L ls (lv_sub hl [0, 1, 2, 3, 4, 5] rfl) hf
  · have hf := (if_neg c_).symm.trans hf
    refine z_iload_n X dX11_ahead_270 rfl (lv_at hl 2 rfl) ?_
    refine z_if_eq (tgt := 293) X dX11_ahead_271 (by decide) (fun c_ => ?_) (fun c_ => ?_)
    · have hf := (if_pos c_).symm.trans hf
      exact w_ahead_293 X Z hk204 x1 x2 x3 x4 x5 V L ls (lv_sub hl [0, 1, 2, 3, 4, 5] rfl) hf
    · have hf := (if_neg c_).symm.trans hf
      refine z_aload_n X dX11_ahead_274 rfl (lv_at hl 0 rfl) ?_
      refine z_aload_n X dX11_ahead_275 rfl (lv_at hl 0 rfl) ?_
      refine m_getl X ff_7 dX11_ahead_276 ?_
      refine z_bipush (v := 8) X dX11_ahead_279 (by decide) ?_
      refine z_lshl X dX11_ahead_281 ?_
      refine z_aload_n X dX11_ahead_282 rfl (lv_at hl 0 rfl) ?_
      refine m_geta X ff_0 dX11_ahead_283 ?_
      refine z_iload_n X dX11_ahead_286 rfl (lv_at hl 1 rfl) ?_
      obtain ⟨hb1, hf⟩ := z_ite hf
      refine m_iald X pa_1 hb1 dX11_ahead_287 ?_
      refine z_i2l X dX11_ahead_288 ?_
      refine z_lor X dX11_ahead_289 ?_
      refine m_putl X fp_7 dX11_ahead_290 ?_
      exact w_ahead_293 X Z hk204 x1 x2 x3 x4 x5 V (z_uL L 0 7 (((L 0 7) <<< ((8 : Int32).toInt64 &&& 63)) ||| ((V 1 x1.toNatClampNeg).toInt64))) ls (lv_sub hl [0, 1, 2, 3, 4, 5] rfl) hf

set_option maxHeartbeats 4000000 in
set_option maxRecDepth 100000 in
theorem w_ahead_243 {M : zM} {D : va_G} {cy : Nat → ClassId} {ad : Nat → Nat} {r' : zI × zL} (X : RX M (zR D cy ad) cX11_ahead 6 RX11 1 20) (Z : RZv M (zR D cy ad) r'.1 r'.2) {k204 : Int32 × Int32 × Int32 × Int32 × Int32 × zI × zL → Option (zI × zL)} (hk204 : ∀ (x1 : Int32) (x2 : Int32) (x3 : Int32) (x4 : Int32) (x5 : Int32) (V : zI) (L : zL) (ls : Array Slot), lv_has ls 6 [(0, .ref (ad 0)), (1, .int x1), (2, .int x2), (3, .int x3), (4, .int x4), (5, .int x5)] → k204 (x1, x2, x3, x4, x5, V, L) = some r' → RG M (zR D cy ad) V L 204 ls []) (x1 : Int32) (x2 : Int32) (x3 : Int32) (x4 : Int32) (x5 : Int32) (V : zI) (L : zL) (ls : Array Slot) (hl : lv_has ls 6 [(0, .ref (ad 0)), (1, .int x1), (2, .int x2), (3, .int x3), (4, .int x4), (5, .int x5)]) (hf : f_ahead_243 k204 x1 x2 x3 x4 x5 V L = some r') : RG M (zR D cy ad) V L 243 ls [] := by
  unfold f_ahead_243 at hf
  refine z_iload X dX11_ahead_243 (lv_at hl 5 rfl) ?_
  refine z_iload X dX11_ahead_245 (lv_at hl 4 rfl) ?_
  refine z_icmp_ne (tgt := 263) X dX11_ahead_247 (by decide) (fun c_ => ?_) (fun c_ => ?_)
  · have hf := (if_neg c_).symm.trans hf
    exact w_ahead_263 X Z hk204 x1 x2 x3 x4 x5 V L ls (lv_sub hl [0, 1, 2, 3, 4, 5] rfl) hf
  · have hf := (if_pos c_).symm.trans hf
    refine z_aload_n X dX11_ahead_250 rfl (lv_at hl 0 rfl) ?_
    refine m_geti X ff_12 dX11_ahead_251 ?_
    refine z_iconst (v := -1) X dX11_ahead_254 (by decide) ?_
    refine z_icmp_ne (tgt := 263) X dX11_ahead_255 (by decide) (fun c_ => ?_) (fun c_ => ?_)
    · have hf := (if_neg c_).symm.trans hf
      exact w_ahead_263 X Z hk204 x1 x2 x3 x4 x5 V L ls (lv_sub hl [0, 1, 2, 3, 4, 5] rfl) hf
    · have hf := (if_pos c_).symm.trans hf
      refine z_aload_n X dX11_ahead_258 rfl (lv_at hl 0 rfl) ?_
      refine z_iload_n X dX11_ahead_259 rfl (lv_at hl 1 rfl) ?_
      refine m_puti X fp_12 dX11_ahead_260 ?_
      exact w_ahead_263 X Z hk204 x1 x2 x3 x4 x5 (z_uI V 0 12 x1) L ls (lv_sub hl [0, 1, 2, 3, 4, 5] rfl) hf

set_option maxHeartbeats 4000000 in
set_option maxRecDepth 100000 in
theorem w_ahead_204 {M : zM} {D : va_G} {cy : Nat → ClassId} {ad : Nat → Nat} {r' : zI × zL} (X : RX M (zR D cy ad) cX11_ahead 6 RX11 1 20) (Z : RZv M (zR D cy ad) r'.1 r'.2) (n : Nat) : ∀ (x1 : Int32) (x2 : Int32) (x3 : Int32) (x4 : Int32) (x5 : Int32) (V : zI) (L : zL) (ls : Array Slot) (hl : lv_has ls 6 [(0, .ref (ad 0)), (1, .int x1), (2, .int x2), (3, .int x3), (4, .int x4), (5, .int x5)]) (hf : zfix (b_ahead_204) n (x1, x2, x3, x4, x5, V, L) = some r'), RG M (zR D cy ad) V L 204 ls [] := by
  induction n with
  | zero => intro x1 x2 x3 x4 x5 V L ls hl hf; cases hf
  | succ n ih =>
  intro x1 x2 x3 x4 x5 V L ls hl hf
  have hk204 : ∀ (x1 : Int32) (x2 : Int32) (x3 : Int32) (x4 : Int32) (x5 : Int32) (V : zI) (L : zL) (ls : Array Slot), lv_has ls 6 [(0, .ref (ad 0)), (1, .int x1), (2, .int x2), (3, .int x3), (4, .int x4), (5, .int x5)] → zfix (b_ahead_204) n (x1, x2, x3, x4, x5, V, L) = some r' → RG M (zR D cy ad) V L 204 ls [] := ih
  have hf : b_ahead_204 (zfix (b_ahead_204) n) (x1, x2, x3, x4, x5, V, L) = some r' := hf
  generalize zfix (b_ahead_204) n = k204 at hk204 hf
  unfold b_ahead_204 at hf
  clear ih
  refine z_iload_n X dX11_ahead_204 rfl (lv_at hl 1 rfl) ?_
  refine z_aload_n X dX11_ahead_205 rfl (lv_at hl 0 rfl) ?_
  refine m_geti X ff_2 dX11_ahead_206 ?_
  refine z_icmp_ge (tgt := 334) X dX11_ahead_209 (by decide) (fun c_ => ?_) (fun c_ => ?_)
  · have hf := (if_pos c_).symm.trans hf
    refine z_aload_n X dX11_ahead_334 rfl (lv_at hl 0 rfl) ?_
    refine z_iload_n X dX11_ahead_335 rfl (lv_at hl 1 rfl) ?_
    refine m_puti X fp_5 dX11_ahead_336 ?_
    exact m_vret X Z hf dX11_ahead_339
  · have hf := (if_neg c_).symm.trans hf
    refine z_iload_n X dX11_ahead_212 rfl (lv_at hl 2 rfl) ?_
    refine z_if_eq (tgt := 231) X dX11_ahead_213 (by decide) (fun c_ => ?_) (fun c_ => ?_)
    · have hf := (if_pos c_).symm.trans hf
      refine z_aload_n X dX11_ahead_231 rfl (lv_at hl 0 rfl) ?_
      refine m_geta X ff_0 dX11_ahead_232 ?_
      refine z_iload_n X dX11_ahead_235 rfl (lv_at hl 1 rfl) ?_
      obtain ⟨hb1, hf⟩ := z_ite hf
      refine m_iald X pa_1 hb1 dX11_ahead_236 ?_
      obtain ⟨r2, hc2, hf⟩ := z_bind hf
      refine m_callSi [.int (V 1 x1.toNatClampNeg)] X hl.1 (c_isDigit D cy ad hc2) gm_isDigit pd_isDigit rfl ⟨by decide, by decide⟩ (Nat.le_of_ble_eq_true rfl) rfl dX11_ahead_237 ?_
      refine z_if_eq (tgt := 334) X dX11_ahead_240 (by decide) (fun c_ => ?_) (fun c_ => ?_)
      · have hf := (if_pos c_).symm.trans hf
        refine z_aload_n X dX11_ahead_334 rfl (lv_at hl 0 rfl) ?_
        refine z_iload_n X dX11_ahead_335 rfl (lv_at hl 1 rfl) ?_
        refine m_puti X fp_5 dX11_ahead_336 ?_
        exact m_vret X Z hf dX11_ahead_339
      · have hf := (if_neg c_).symm.trans hf
        exact w_ahead_243 X Z hk204 x1 x2 x3 x4 x5 V L ls (lv_sub hl [0, 1, 2, 3, 4, 5] rfl) hf
    · have hf := (if_neg c_).symm.trans hf
      refine z_aload_n X dX11_ahead_216 rfl (lv_at hl 0 rfl) ?_
      refine m_geta X ff_0 dX11_ahead_217 ?_
      refine z_iload_n X dX11_ahead_220 rfl (lv_at hl 1 rfl) ?_
      obtain ⟨hb3, hf⟩ := z_ite hf
      refine m_iald X pa_1 hb3 dX11_ahead_221 ?_
      obtain ⟨r4, hc4, hf⟩ := z_bind hf
      refine m_callSi [.int (V 1 x1.toNatClampNeg)] X hl.1 (c_isLetter D cy ad hc4) gm_isLetter pd_isLetter rfl ⟨by decide, by decide⟩ (Nat.le_of_ble_eq_true rfl) rfl dX11_ahead_222 ?_
      refine z_if_eq (tgt := 334) X dX11_ahead_225 (by decide) (fun c_ => ?_) (fun c_ => ?_)
      · have hf := (if_pos c_).symm.trans hf
        refine z_aload_n X dX11_ahead_334 rfl (lv_at hl 0 rfl) ?_
        refine z_iload_n X dX11_ahead_335 rfl (lv_at hl 1 rfl) ?_
        refine m_puti X fp_5 dX11_ahead_336 ?_
        exact m_vret X Z hf dX11_ahead_339
      · have hf := (if_neg c_).symm.trans hf
        refine z_goto (tgt := 243) X dX11_ahead_228 (by decide) ?_
        exact w_ahead_243 X Z hk204 x1 x2 x3 x4 x5 V L ls (lv_sub hl [0, 1, 2, 3, 4, 5] rfl) hf

set_option maxHeartbeats 4000000 in
set_option maxRecDepth 100000 in
theorem w_ahead_199 {M : zM} {D : va_G} {cy : Nat → ClassId} {ad : Nat → Nat} {r' : zI × zL} (X : RX M (zR D cy ad) cX11_ahead 6 RX11 1 20) (Z : RZv M (zR D cy ad) r'.1 r'.2) (x1 : Int32) (x2 : Int32) (x3 : Int32) (s0 : Int32) (V : zI) (L : zL) (ls : Array Slot) (hl : lv_has ls 6 [(0, .ref (ad 0)), (1, .int x1), (2, .int x2), (3, .int x3)]) (hf : f_ahead_199 x1 x2 x3 s0 V L = some r') : RG M (zR D cy ad) V L 199 ls [.int s0] := by
  unfold f_ahead_199 at hf
  refine z_istore (lv' := [(4, .int s0), (0, .ref (ad 0)), (1, .int x1), (2, .int x2), (3, .int x3)]) X dX11_ahead_199 hl (by decide) rfl (fun ls hl => ?_)
  refine z_iconst (v := 0) X dX11_ahead_201 (by decide) ?_
  refine z_istore (lv' := [(5, .int 0), (4, .int s0), (0, .ref (ad 0)), (1, .int x1), (2, .int x2), (3, .int x3)]) X dX11_ahead_202 hl (by decide) rfl (fun ls hl => ?_)
  exact w_ahead_204 X Z FU x1 x2 x3 s0 0 V L ls (lv_sub hl [2, 3, 4, 5, 1, 0] rfl) hf

set_option maxHeartbeats 4000000 in
set_option maxRecDepth 100000 in
theorem w_ahead_186 {M : zM} {D : va_G} {cy : Nat → ClassId} {ad : Nat → Nat} {r' : zI × zL} (X : RX M (zR D cy ad) cX11_ahead 6 RX11 1 20) (Z : RZv M (zR D cy ad) r'.1 r'.2) (x1 : Int32) (x2 : Int32) (x3 : Int32) (s1 : Int32) (V : zI) (L : zL) (ls : Array Slot) (hl : lv_has ls 6 [(0, .ref (ad 0)), (1, .int x1), (2, .int x2), (3, .int x3)]) (hf : f_ahead_186 x1 x2 x3 s1 V L = some r') : RG M (zR D cy ad) V L 186 ls [.int s1, .ref (ad 0)] := by
  unfold f_ahead_186 at hf
  refine m_puti X fp_3 dX11_ahead_186 ?_
  refine z_iload_n X dX11_ahead_189 rfl (lv_at hl 2 rfl) ?_
  refine z_if_eq (tgt := 198) X dX11_ahead_190 (by decide) (fun c_ => ?_) (fun c_ => ?_)
  · have hf := (if_pos c_).symm.trans hf
    refine z_iconst (v := 4) X dX11_ahead_198 (by decide) ?_
    exact w_ahead_199 X Z x1 x2 x3 4 (z_uI V 0 3 s1) L ls (lv_sub hl [0, 1, 2, 3] rfl) hf
  · have hf := (if_neg c_).symm.trans hf
    refine z_bipush (v := 6) X dX11_ahead_193 (by decide) ?_
    refine z_goto (tgt := 199) X dX11_ahead_195 (by decide) ?_
    exact w_ahead_199 X Z x1 x2 x3 6 (z_uI V 0 3 s1) L ls (lv_sub hl [0, 1, 2, 3] rfl) hf

set_option maxHeartbeats 4000000 in
set_option maxRecDepth 100000 in
theorem w_ahead_176 {M : zM} {D : va_G} {cy : Nat → ClassId} {ad : Nat → Nat} {r' : zI × zL} (X : RX M (zR D cy ad) cX11_ahead 6 RX11 1 20) (Z : RZv M (zR D cy ad) r'.1 r'.2) (x1 : Int32) (x2 : Int32) (x3 : Int32) (V : zI) (L : zL) (ls : Array Slot) (hl : lv_has ls 6 [(0, .ref (ad 0)), (1, .int x1), (2, .int x2), (3, .int x3)]) (hf : f_ahead_176 x1 x2 x3 V L = some r') : RG M (zR D cy ad) V L 176 ls [] := by
  unfold f_ahead_176 at hf
  refine z_aload_n X dX11_ahead_176 rfl (lv_at hl 0 rfl) ?_
  refine z_iload_n X dX11_ahead_177 rfl (lv_at hl 2 rfl) ?_
  refine z_if_eq (tgt := 185) X dX11_ahead_178 (by decide) (fun c_ => ?_) (fun c_ => ?_)
  · have hf := (if_pos c_).symm.trans hf
    refine z_iconst (v := 2) X dX11_ahead_185 (by decide) ?_
    exact w_ahead_186 X Z x1 x2 x3 2 V L ls (lv_sub hl [0, 1, 2, 3] rfl) hf
  · have hf := (if_neg c_).symm.trans hf
    refine z_iconst (v := 1) X dX11_ahead_181 (by decide) ?_
    refine z_goto (tgt := 186) X dX11_ahead_182 (by decide) ?_
    exact w_ahead_186 X Z x1 x2 x3 1 V L ls (lv_sub hl [0, 1, 2, 3] rfl) hf

set_option maxHeartbeats 4000000 in
set_option maxRecDepth 100000 in
theorem w_ahead_135 {M : zM} {D : va_G} {cy : Nat → ClassId} {ad : Nat → Nat} {r' : zI × zL} (X : RX M (zR D cy ad) cX11_ahead 6 RX11 1 20) (Z : RZv M (zR D cy ad) r'.1 r'.2) (x1 : Int32) (x2 : Int32) (x3 : Int32) (V : zI) (L : zL) (ls : Array Slot) (hl : lv_has ls 6 [(0, .ref (ad 0)), (1, .int x1), (2, .int x2), (3, .int x3)]) (hf : f_ahead_135 x1 x2 x3 V L = some r') : RG M (zR D cy ad) V L 135 ls [] := by
  unfold f_ahead_135 at hf
  refine z_aload_n X dX11_ahead_135 rfl (lv_at hl 0 rfl) ?_
  refine z_iconst (v := 0) X dX11_ahead_136 (by decide) ?_
  refine m_puti X fp_6 dX11_ahead_137 ?_
  refine z_aload_n X dX11_ahead_140 rfl (lv_at hl 0 rfl) ?_
  refine z_lconst (v := 0) X dX11_ahead_141 (by decide) ?_
  refine m_putl X fp_7 dX11_ahead_142 ?_
  refine z_aload_n X dX11_ahead_145 rfl (lv_at hl 0 rfl) ?_
  refine z_iconst (v := 3) X dX11_ahead_146 (by decide) ?_
  refine m_puti X fp_3 dX11_ahead_147 ?_
  refine z_aload_n X dX11_ahead_150 rfl (lv_at hl 0 rfl) ?_
  refine z_iload_n X dX11_ahead_151 rfl (lv_at hl 1 rfl) ?_
  refine z_iconst (v := 1) X dX11_ahead_152 (by decide) ?_
  refine z_iadd X dX11_ahead_153 ?_
  refine m_puti X fp_5 dX11_ahead_154 ?_
  refine z_iload_n X dX11_ahead_157 rfl (lv_at hl 2 rfl) ?_
  refine z_if_ne (tgt := 176) X dX11_ahead_158 (by decide) (fun c_ => ?_) (fun c_ => ?_)
  · have hf := (if_neg c_).symm.trans hf
    exact w_ahead_176 X Z x1 x2 x3 (z_uI (z_uI (z_uI V 0 6 0) 0 3 3) 0 5 (x1 + 1)) (z_uL L 0 7 0) ls (lv_sub hl [0, 1, 2, 3] rfl) hf
  · have hf := (if_pos c_).symm.trans hf
    refine z_iload_n X dX11_ahead_161 rfl (lv_at hl 3 rfl) ?_
    refine z_if_ne (tgt := 176) X dX11_ahead_162 (by decide) (fun c_ => ?_) (fun c_ => ?_)
    · have hf := (if_neg c_).symm.trans hf
      exact w_ahead_176 X Z x1 x2 x3 (z_uI (z_uI (z_uI V 0 6 0) 0 3 3) 0 5 (x1 + 1)) (z_uL L 0 7 0) ls (lv_sub hl [0, 1, 2, 3] rfl) hf
    · have hf := (if_pos c_).symm.trans hf
      refine z_aload_n X dX11_ahead_165 rfl (lv_at hl 0 rfl) ?_
      refine z_aload_n X dX11_ahead_166 rfl (lv_at hl 0 rfl) ?_
      refine m_geta X ff_0 dX11_ahead_167 ?_
      refine z_iload_n X dX11_ahead_170 rfl (lv_at hl 1 rfl) ?_
      obtain ⟨hb1, hf⟩ := z_ite hf
      refine m_iald X pa_1 hb1 dX11_ahead_171 ?_
      refine m_puti X fp_6 dX11_ahead_172 ?_
      exact m_vret X Z hf dX11_ahead_175

set_option maxHeartbeats 4000000 in
set_option maxRecDepth 100000 in
theorem w_ahead_130 {M : zM} {D : va_G} {cy : Nat → ClassId} {ad : Nat → Nat} {r' : zI × zL} (X : RX M (zR D cy ad) cX11_ahead 6 RX11 1 20) (Z : RZv M (zR D cy ad) r'.1 r'.2) (x1 : Int32) (x2 : Int32) (x3 : Int32) (V : zI) (L : zL) (ls : Array Slot) (hl : lv_has ls 6 [(0, .ref (ad 0)), (1, .int x1), (2, .int x2), (3, .int x3)]) (hf : f_ahead_130 x1 x2 x3 V L = some r') : RG M (zR D cy ad) V L 130 ls [] := by
  unfold f_ahead_130 at hf
  refine z_aload_n X dX11_ahead_130 rfl (lv_at hl 0 rfl) ?_
  refine z_iload_n X dX11_ahead_131 rfl (lv_at hl 1 rfl) ?_
  refine m_puti X fp_12 dX11_ahead_132 ?_
  exact w_ahead_135 X Z x1 x2 x3 (z_uI V 0 12 x1) L ls (lv_sub hl [0, 1, 2, 3] rfl) hf

set_option maxHeartbeats 4000000 in
set_option maxRecDepth 100000 in
theorem w_ahead_98 {M : zM} {D : va_G} {cy : Nat → ClassId} {ad : Nat → Nat} {r' : zI × zL} (X : RX M (zR D cy ad) cX11_ahead 6 RX11 1 20) (Z : RZv M (zR D cy ad) r'.1 r'.2) (x1 : Int32) (x2 : Int32) (x3 : Int32) (V : zI) (L : zL) (ls : Array Slot) (hl : lv_has ls 6 [(0, .ref (ad 0)), (1, .int x1), (2, .int x2), (3, .int x3)]) (hf : f_ahead_98 x1 x2 x3 V L = some r') : RG M (zR D cy ad) V L 98 ls [] := by
  unfold f_ahead_98 at hf
  refine z_iload_n X dX11_ahead_98 rfl (lv_at hl 1 rfl) ?_
  refine z_if_le (tgt := 135) X dX11_ahead_99 (by decide) (fun c_ => ?_) (fun c_ => ?_)
  · have hf := (if_pos c_).symm.trans hf
    exact w_ahead_135 X Z x1 x2 x3 V L ls (lv_sub hl [0, 1, 2, 3] rfl) hf
  · have hf := (if_neg c_).symm.trans hf
    refine z_aload_n X dX11_ahead_102 rfl (lv_at hl 0 rfl) ?_
    refine m_geta X ff_0 dX11_ahead_103 ?_
    refine z_iload_n X dX11_ahead_106 rfl (lv_at hl 1 rfl) ?_
    refine z_iconst (v := 1) X dX11_ahead_107 (by decide) ?_
    refine z_isub X dX11_ahead_108 ?_
    obtain ⟨hb1, hf⟩ := z_ite hf
    refine m_iald X pa_1 hb1 dX11_ahead_109 ?_
    obtain ⟨r2, hc2, hf⟩ := z_bind hf
    refine m_callSi [.int (V 1 (x1 - 1).toNatClampNeg)] X hl.1 (c_isLetter D cy ad hc2) gm_isLetter pd_isLetter rfl ⟨by decide, by decide⟩ (Nat.le_of_ble_eq_true rfl) rfl dX11_ahead_110 ?_
    refine z_if_ne (tgt := 130) X dX11_ahead_113 (by decide) (fun c_ => ?_) (fun c_ => ?_)
    · have hf := (if_neg c_).symm.trans hf
      exact w_ahead_130 X Z x1 x2 x3 V L ls (lv_sub hl [0, 1, 2, 3] rfl) hf
    · have hf := (if_pos c_).symm.trans hf
      refine z_aload_n X dX11_ahead_116 rfl (lv_at hl 0 rfl) ?_
      refine m_geta X ff_0 dX11_ahead_117 ?_
      refine z_iload_n X dX11_ahead_120 rfl (lv_at hl 1 rfl) ?_
      refine z_iconst (v := 1) X dX11_ahead_121 (by decide) ?_
      refine z_isub X dX11_ahead_122 ?_
      obtain ⟨hb3, hf⟩ := z_ite hf
      refine m_iald X pa_1 hb3 dX11_ahead_123 ?_
      obtain ⟨r4, hc4, hf⟩ := z_bind hf
      refine m_callSi [.int (V 1 (x1 - 1).toNatClampNeg)] X hl.1 (c_isDigit D cy ad hc4) gm_isDigit pd_isDigit rfl ⟨by decide, by decide⟩ (Nat.le_of_ble_eq_true rfl) rfl dX11_ahead_124 ?_
      refine z_if_eq (tgt := 135) X dX11_ahead_127 (by decide) (fun c_ => ?_) (fun c_ => ?_)
      · have hf := (if_pos c_).symm.trans hf
        exact w_ahead_135 X Z x1 x2 x3 V L ls (lv_sub hl [0, 1, 2, 3] rfl) hf
      · have hf := (if_neg c_).symm.trans hf
        exact w_ahead_130 X Z x1 x2 x3 V L ls (lv_sub hl [0, 1, 2, 3] rfl) hf

set_option maxHeartbeats 4000000 in
set_option maxRecDepth 100000 in
theorem w_ahead_41 {M : zM} {D : va_G} {cy : Nat → ClassId} {ad : Nat → Nat} {r' : zI × zL} (X : RX M (zR D cy ad) cX11_ahead 6 RX11 1 20) (Z : RZv M (zR D cy ad) r'.1 r'.2) (x1 : Int32) (V : zI) (L : zL) (ls : Array Slot) (hl : lv_has ls 6 [(0, .ref (ad 0)), (1, .int x1)]) (hf : f_ahead_41 x1 V L = some r') : RG M (zR D cy ad) V L 41 ls [] := by
  unfold f_ahead_41 at hf
  refine z_aload_n X dX11_ahead_41 rfl (lv_at hl 0 rfl) ?_
  refine z_iload_n X dX11_ahead_42 rfl (lv_at hl 1 rfl) ?_
  refine m_puti X fp_4 dX11_ahead_43 ?_
  refine z_aload_n X dX11_ahead_46 rfl (lv_at hl 0 rfl) ?_
  refine z_iload_n X dX11_ahead_47 rfl (lv_at hl 1 rfl) ?_
  refine m_puti X fp_5 dX11_ahead_48 ?_
  refine z_aload_n X dX11_ahead_51 rfl (lv_at hl 0 rfl) ?_
  refine z_iconst (v := 0) X dX11_ahead_52 (by decide) ?_
  refine m_puti X fp_3 dX11_ahead_53 ?_
  refine z_aload_n X dX11_ahead_56 rfl (lv_at hl 0 rfl) ?_
  refine z_iconst (v := -1) X dX11_ahead_57 (by decide) ?_
  refine m_puti X fp_12 dX11_ahead_58 ?_
  refine z_iload_n X dX11_ahead_61 rfl (lv_at hl 1 rfl) ?_
  refine z_aload_n X dX11_ahead_62 rfl (lv_at hl 0 rfl) ?_
  refine m_geti X ff_2 dX11_ahead_63 ?_
  refine z_icmp_lt (tgt := 70) X dX11_ahead_66 (by decide) (fun c_ => ?_) (fun c_ => ?_)
  · have hf := (if_pos c_).symm.trans hf
    refine z_aload_n X dX11_ahead_70 rfl (lv_at hl 0 rfl) ?_
    refine m_geta X ff_0 dX11_ahead_71 ?_
    refine z_iload_n X dX11_ahead_74 rfl (lv_at hl 1 rfl) ?_
    obtain ⟨hb1, hf⟩ := z_ite hf
    refine m_iald X pa_1 hb1 dX11_ahead_75 ?_
    obtain ⟨r2, hc2, hf⟩ := z_bind hf
    refine m_callSi [.int ((z_uI (z_uI (z_uI (z_uI V 0 4 x1) 0 5 x1) 0 3 0) 0 12 (-1)) 1 x1.toNatClampNeg)] X hl.1 (c_isLetter D cy ad hc2) gm_isLetter pd_isLetter rfl ⟨by decide, by decide⟩ (Nat.le_of_ble_eq_true rfl) rfl dX11_ahead_76 ?_
    refine z_istore_n (lv' := [(2, .int r2), (0, .ref (ad 0)), (1, .int x1)]) X dX11_ahead_79 rfl hl (by decide) rfl (fun ls hl => ?_)
    refine z_aload_n X dX11_ahead_80 rfl (lv_at hl 1 rfl) ?_
    refine m_geta X ff_0 dX11_ahead_81 ?_
    refine z_iload_n X dX11_ahead_84 rfl (lv_at hl 2 rfl) ?_
    obtain ⟨hb3, hf⟩ := z_ite hf
    refine m_iald X pa_1 hb3 dX11_ahead_85 ?_
    obtain ⟨r4, hc4, hf⟩ := z_bind hf
    refine m_callSi [.int ((z_uI (z_uI (z_uI (z_uI V 0 4 x1) 0 5 x1) 0 3 0) 0 12 (-1)) 1 x1.toNatClampNeg)] X hl.1 (c_isDigit D cy ad hc4) gm_isDigit pd_isDigit rfl ⟨by decide, by decide⟩ (Nat.le_of_ble_eq_true rfl) rfl dX11_ahead_86 ?_
    refine z_istore_n (lv' := [(3, .int r4), (2, .int r2), (0, .ref (ad 0)), (1, .int x1)]) X dX11_ahead_89 rfl hl (by decide) rfl (fun ls hl => ?_)
    refine z_iload_n X dX11_ahead_90 rfl (lv_at hl 1 rfl) ?_
    refine z_if_ne (tgt := 98) X dX11_ahead_91 (by decide) (fun c_ => ?_) (fun c_ => ?_)
    · have hf := (if_neg c_).symm.trans hf
      exact w_ahead_98 X Z x1 r2 r4 (z_uI (z_uI (z_uI (z_uI V 0 4 x1) 0 5 x1) 0 3 0) 0 12 (-1)) L ls (lv_sub hl [2, 3, 1, 0] rfl) hf
    · have hf := (if_pos c_).symm.trans hf
      refine z_iload_n X dX11_ahead_94 rfl (lv_at hl 0 rfl) ?_
      refine z_if_eq (tgt := 135) X dX11_ahead_95 (by decide) (fun c_ => ?_) (fun c_ => ?_)
      · have hf := (if_pos c_).symm.trans hf
        exact w_ahead_135 X Z x1 r2 r4 (z_uI (z_uI (z_uI (z_uI V 0 4 x1) 0 5 x1) 0 3 0) 0 12 (-1)) L ls (lv_sub hl [2, 3, 1, 0] rfl) hf
      · have hf := (if_neg c_).symm.trans hf
        exact w_ahead_98 X Z x1 r2 r4 (z_uI (z_uI (z_uI (z_uI V 0 4 x1) 0 5 x1) 0 3 0) 0 12 (-1)) L ls (lv_sub hl [2, 3, 1, 0] rfl) hf
  · have hf := (if_neg c_).symm.trans hf
    exact m_vret X Z hf dX11_ahead_69

set_option maxHeartbeats 4000000 in
set_option maxRecDepth 100000 in
theorem w_ahead_5 {M : zM} {D : va_G} {cy : Nat → ClassId} {ad : Nat → Nat} {r' : zI × zL} (X : RX M (zR D cy ad) cX11_ahead 6 RX11 1 20) (Z : RZv M (zR D cy ad) r'.1 r'.2) (n : Nat) : ∀ (x1 : Int32) (V : zI) (L : zL) (ls : Array Slot) (hl : lv_has ls 6 [(0, .ref (ad 0)), (1, .int x1)]) (hf : zfix (b_ahead_5) n (x1, V, L) = some r'), RG M (zR D cy ad) V L 5 ls [] := by
  induction n with
  | zero => intro x1 V L ls hl hf; cases hf
  | succ n ih =>
  intro x1 V L ls hl hf
  have hk5 : ∀ (x1 : Int32) (V : zI) (L : zL) (ls : Array Slot), lv_has ls 6 [(0, .ref (ad 0)), (1, .int x1)] → zfix (b_ahead_5) n (x1, V, L) = some r' → RG M (zR D cy ad) V L 5 ls [] := ih
  have hf : b_ahead_5 (zfix (b_ahead_5) n) (x1, V, L) = some r' := hf
  generalize zfix (b_ahead_5) n = k5 at hk5 hf
  unfold b_ahead_5 at hf
  clear ih
  refine z_iload_n X dX11_ahead_5 rfl (lv_at hl 1 rfl) ?_
  refine z_aload_n X dX11_ahead_6 rfl (lv_at hl 0 rfl) ?_
  refine m_geti X ff_2 dX11_ahead_7 ?_
  refine z_icmp_ge (tgt := 41) X dX11_ahead_10 (by decide) (fun c_ => ?_) (fun c_ => ?_)
  · have hf := (if_pos c_).symm.trans hf
    exact w_ahead_41 X Z x1 V L ls (lv_sub hl [0, 1] rfl) hf
  · have hf := (if_neg c_).symm.trans hf
    refine z_aload_n X dX11_ahead_13 rfl (lv_at hl 0 rfl) ?_
    refine m_geta X ff_0 dX11_ahead_14 ?_
    refine z_iload_n X dX11_ahead_17 rfl (lv_at hl 1 rfl) ?_
    obtain ⟨hb1, hf⟩ := z_ite hf
    refine m_iald X pa_1 hb1 dX11_ahead_18 ?_
    refine z_bipush (v := 32) X dX11_ahead_19 (by decide) ?_
    refine z_icmp_eq (tgt := 35) X dX11_ahead_21 (by decide) (fun c_ => ?_) (fun c_ => ?_)
    · have hf := (if_pos c_).symm.trans hf
      refine z_iinc (v := x1 + 1) (k0 := 1) (lv' := [(1, .int (x1 + 1)), (0, .ref (ad 0))]) X dX11_ahead_35 hl rfl rfl (by decide) rfl (fun ls hl => ?_)
      refine z_goto (tgt := 5) X dX11_ahead_38 (by decide) ?_
      exact hk5 (x1 + 1) V L ls (lv_sub hl [1, 0] rfl) hf
    · have hf := (if_neg c_).symm.trans hf
      refine z_aload_n X dX11_ahead_24 rfl (lv_at hl 0 rfl) ?_
      refine m_geta X ff_0 dX11_ahead_25 ?_
      refine z_iload_n X dX11_ahead_28 rfl (lv_at hl 1 rfl) ?_
      obtain ⟨hb2, hf⟩ := z_ite hf
      refine m_iald X pa_1 hb2 dX11_ahead_29 ?_
      refine z_bipush (v := 10) X dX11_ahead_30 (by decide) ?_
      refine z_icmp_ne (tgt := 41) X dX11_ahead_32 (by decide) (fun c_ => ?_) (fun c_ => ?_)
      · have hf := (if_neg c_).symm.trans hf
        exact w_ahead_41 X Z x1 V L ls (lv_sub hl [0, 1] rfl) hf
      · have hf := (if_pos c_).symm.trans hf
        refine z_iinc (v := x1 + 1) (k0 := 1) (lv' := [(1, .int (x1 + 1)), (0, .ref (ad 0))]) X dX11_ahead_35 hl rfl rfl (by decide) rfl (fun ls hl => ?_)
        refine z_goto (tgt := 5) X dX11_ahead_38 (by decide) ?_
        exact hk5 (x1 + 1) V L ls (lv_sub hl [1, 0] rfl) hf

set_option maxHeartbeats 4000000 in
set_option maxRecDepth 100000 in
theorem w_ahead {M : zM} {D : va_G} {cy : Nat → ClassId} {ad : Nat → Nat} {r' : zI × zL} (X : RX M (zR D cy ad) cX11_ahead 6 RX11 1 20) (Z : RZv M (zR D cy ad) r'.1 r'.2)  (V : zI) (L : zL) (ls : Array Slot) (hl : lv_has ls 6 [(0, .ref (ad 0))]) (hf : f_ahead V L = some r') : RG M (zR D cy ad) V L 0 ls [] := by
  unfold f_ahead at hf
  refine z_aload_n X dX11_ahead_0 rfl (lv_at hl 0 rfl) ?_
  refine m_geti X ff_5 dX11_ahead_1 ?_
  refine z_istore_n (lv' := [(1, .int (V 0 5)), (0, .ref (ad 0))]) X dX11_ahead_4 rfl hl (by decide) rfl (fun ls hl => ?_)
  exact w_ahead_5 X Z FU (V 0 5) V L ls (lv_sub hl [1, 0] rfl) hf

theorem c_ahead (D : va_G) (cy : Nat → ClassId) (ad : Nat → Nat)  {V : zI} {L : zL} {r' : zI × zL} (hf : f_ahead V L = some r') : RMv (zR D cy ad) yX11_ahead cX11_ahead 6 1 20 [.ref (ad 0)] V L r'.1 r'.2 :=
  RMv.of (by decide) zR_nd (Nat.le_of_ble_eq_true rfl) (fun M X Z ls hl => w_ahead X Z V L ls hl hf)
def f_isSign (x1 : Int32) (V : zI) (L : zL) : Option (Int32 × zI × zL) :=
  (if (V 0 3) = 3 then (if (V 0 6) = x1 then some (1, V, L) else some (0, V, L)) else some (0, V, L))
set_option maxHeartbeats 4000000 in
set_option maxRecDepth 100000 in
theorem w_isSign {M : zM} {D : va_G} {cy : Nat → ClassId} {ad : Nat → Nat} {r' : Int32 × zI × zL} (X : RX M (zR D cy ad) cX11_isSign 2 RX11 0 0) (Z : RZi M (zR D cy ad) .boolean r'.1 r'.2.1 r'.2.2) (x1 : Int32) (V : zI) (L : zL) (ls : Array Slot) (hl : lv_has ls 2 [(0, .ref (ad 0)), (1, .int x1)]) (hf : f_isSign x1 V L = some r') : RG M (zR D cy ad) V L 0 ls [] := by
  unfold f_isSign at hf
  refine z_aload_n X dX11_isSign_0 rfl (lv_at hl 0 rfl) ?_
  refine m_geti X ff_3 dX11_isSign_1 ?_
  refine z_iconst (v := 3) X dX11_isSign_4 (by decide) ?_
  refine z_icmp_ne (tgt := 20) X dX11_isSign_5 (by decide) (fun c_ => ?_) (fun c_ => ?_)
  · have hf := (if_neg c_).symm.trans hf
    refine z_iconst (v := 0) X dX11_isSign_20 (by decide) ?_
    exact m_iret X Z hf (by decide) dX11_isSign_21
  · have hf := (if_pos c_).symm.trans hf
    refine z_aload_n X dX11_isSign_8 rfl (lv_at hl 0 rfl) ?_
    refine m_geti X ff_6 dX11_isSign_9 ?_
    refine z_iload_n X dX11_isSign_12 rfl (lv_at hl 1 rfl) ?_
    refine z_icmp_ne (tgt := 20) X dX11_isSign_13 (by decide) (fun c_ => ?_) (fun c_ => ?_)
    · have hf := (if_neg c_).symm.trans hf
      refine z_iconst (v := 0) X dX11_isSign_20 (by decide) ?_
      exact m_iret X Z hf (by decide) dX11_isSign_21
    · have hf := (if_pos c_).symm.trans hf
      refine z_iconst (v := 1) X dX11_isSign_16 (by decide) ?_
      refine z_goto (tgt := 21) X dX11_isSign_17 (by decide) ?_
      exact m_iret X Z hf (by decide) dX11_isSign_21

theorem c_isSign (D : va_G) (cy : Nat → ClassId) (ad : Nat → Nat) {x1 : Int32} {V : zI} {L : zL} {r' : Int32 × zI × zL} (hf : f_isSign x1 V L = some r') : RMi (zR D cy ad) yX11_isSign cX11_isSign 2 .boolean 0 0 [.ref (ad 0), .int x1] V L r'.1 r'.2.1 r'.2.2 :=
  RMi.of (by decide) zR_nd (Nat.le_of_ble_eq_true rfl) (fun M X Z ls hl => w_isSign X Z x1 V L ls hl hf)
def f_isWord (x1 : Int64) (V : zI) (L : zL) : Option (Int32 × zI × zL) :=
  (if (V 0 3) = 1 then (if (lg_cmp (L 0 7) x1) = 0 then some (1, V, L) else some (0, V, L)) else some (0, V, L))
set_option maxHeartbeats 4000000 in
set_option maxRecDepth 100000 in
theorem w_isWord {M : zM} {D : va_G} {cy : Nat → ClassId} {ad : Nat → Nat} {r' : Int32 × zI × zL} (X : RX M (zR D cy ad) cX11_isWord 3 RX11 0 0) (Z : RZi M (zR D cy ad) .boolean r'.1 r'.2.1 r'.2.2) (x1 : Int64) (V : zI) (L : zL) (ls : Array Slot) (hl : lv_has ls 3 [(0, .ref (ad 0)), (1, .long x1)]) (hf : f_isWord x1 V L = some r') : RG M (zR D cy ad) V L 0 ls [] := by
  unfold f_isWord at hf
  refine z_aload_n X dX11_isWord_0 rfl (lv_at hl 0 rfl) ?_
  refine m_geti X ff_3 dX11_isWord_1 ?_
  refine z_iconst (v := 1) X dX11_isWord_4 (by decide) ?_
  refine z_icmp_ne (tgt := 21) X dX11_isWord_5 (by decide) (fun c_ => ?_) (fun c_ => ?_)
  · have hf := (if_neg c_).symm.trans hf
    refine z_iconst (v := 0) X dX11_isWord_21 (by decide) ?_
    exact m_iret X Z hf (by decide) dX11_isWord_22
  · have hf := (if_pos c_).symm.trans hf
    refine z_aload_n X dX11_isWord_8 rfl (lv_at hl 0 rfl) ?_
    refine m_getl X ff_7 dX11_isWord_9 ?_
    refine z_lload_n X dX11_isWord_12 rfl (lv_at hl 1 rfl) ?_
    refine z_lcmp X dX11_isWord_13 ?_
    refine z_if_ne (tgt := 21) X dX11_isWord_14 (by decide) (fun c_ => ?_) (fun c_ => ?_)
    · have hf := (if_neg c_).symm.trans hf
      refine z_iconst (v := 0) X dX11_isWord_21 (by decide) ?_
      exact m_iret X Z hf (by decide) dX11_isWord_22
    · have hf := (if_pos c_).symm.trans hf
      refine z_iconst (v := 1) X dX11_isWord_17 (by decide) ?_
      refine z_goto (tgt := 22) X dX11_isWord_18 (by decide) ?_
      exact m_iret X Z hf (by decide) dX11_isWord_22

theorem c_isWord (D : va_G) (cy : Nat → ClassId) (ad : Nat → Nat) {x1 : Int64} {V : zI} {L : zL} {r' : Int32 × zI × zL} (hf : f_isWord x1 V L = some r') : RMi (zR D cy ad) yX11_isWord cX11_isWord 3 .boolean 0 0 [.ref (ad 0), .long x1] V L r'.1 r'.2.1 r'.2.2 :=
  RMi.of (by decide) zR_nd (Nat.le_of_ble_eq_true rfl) (fun M X Z ls hl => w_isWord X Z x1 V L ls hl hf)
def f_must_21 (V : zI) (L : zL) : Option (zI × zL) :=
  (if (V 0 8) = 0 then (f_ahead V L).bind fun r1 => some (r1.1, r1.2) else some (V, L))
def f_must (x1 : Int32) (V : zI) (L : zL) : Option (zI × zL) :=
  (f_lex V L).bind fun r1 => (f_isSign x1 r1.1 r1.2).bind fun r2 => (if r2.1 = 0 then (f_blame 1 (r2.2.1 0 4) r2.2.1 r2.2.2).bind fun r3 => f_must_21 r3.1 r3.2 else f_must_21 r2.2.1 r2.2.2)
set_option maxHeartbeats 4000000 in
set_option maxRecDepth 100000 in
theorem w_must_21 {M : zM} {D : va_G} {cy : Nat → ClassId} {ad : Nat → Nat} {r' : zI × zL} (X : RX M (zR D cy ad) cX11_must 2 RX11 2 45) (Z : RZv M (zR D cy ad) r'.1 r'.2)  (V : zI) (L : zL) (ls : Array Slot) (hl : lv_has ls 2 [(0, .ref (ad 0))]) (hf : f_must_21 V L = some r') : RG M (zR D cy ad) V L 21 ls [] := by
  unfold f_must_21 at hf
  refine z_aload_n X dX11_must_21 rfl (lv_at hl 0 rfl) ?_
  refine m_geti X ff_8 dX11_must_22 ?_
  refine z_if_ne (tgt := 32) X dX11_must_25 (by decide) (fun c_ => ?_) (fun c_ => ?_)
  · have hf := (if_neg c_).symm.trans hf
    exact m_vret X Z hf dX11_must_32
  · have hf := (if_pos c_).symm.trans hf
    refine z_aload_n X dX11_must_28 rfl (lv_at hl 0 rfl) ?_
    obtain ⟨r1, hc1, hf⟩ := z_bind hf
    refine m_callVv [] X hl.1 (c_ahead D cy ad hc1) gm_ahead pd_ahead rfl ⟨by decide, by decide⟩ (Nat.le_of_ble_eq_true rfl) rfl dX11_must_29 ?_
    exact m_vret X Z hf dX11_must_32

set_option maxHeartbeats 4000000 in
set_option maxRecDepth 100000 in
theorem w_must {M : zM} {D : va_G} {cy : Nat → ClassId} {ad : Nat → Nat} {r' : zI × zL} (X : RX M (zR D cy ad) cX11_must 2 RX11 2 45) (Z : RZv M (zR D cy ad) r'.1 r'.2) (x1 : Int32) (V : zI) (L : zL) (ls : Array Slot) (hl : lv_has ls 2 [(0, .ref (ad 0)), (1, .int x1)]) (hf : f_must x1 V L = some r') : RG M (zR D cy ad) V L 0 ls [] := by
  unfold f_must at hf
  refine z_aload_n X dX11_must_0 rfl (lv_at hl 0 rfl) ?_
  obtain ⟨r1, hc1, hf⟩ := z_bind hf
  refine m_callVv [] X hl.1 (c_lex D cy ad hc1) gm_lex pd_lex rfl ⟨by decide, by decide⟩ (Nat.le_of_ble_eq_true rfl) rfl dX11_must_1 ?_
  refine z_aload_n X dX11_must_4 rfl (lv_at hl 0 rfl) ?_
  refine z_iload_n X dX11_must_5 rfl (lv_at hl 1 rfl) ?_
  obtain ⟨r2, hc2, hf⟩ := z_bind hf
  refine m_callVi [.int x1] X hl.1 (c_isSign D cy ad hc2) gm_isSign pd_isSign rfl ⟨by decide, by decide⟩ (Nat.le_of_ble_eq_true rfl) rfl dX11_must_6 ?_
  refine z_if_ne (tgt := 21) X dX11_must_9 (by decide) (fun c_ => ?_) (fun c_ => ?_)
  · have hf := (if_neg c_).symm.trans hf
    exact w_must_21 X Z r2.2.1 r2.2.2 ls (lv_sub hl [0] rfl) hf
  · have hf := (if_pos c_).symm.trans hf
    refine z_aload_n X dX11_must_12 rfl (lv_at hl 0 rfl) ?_
    refine z_iconst (v := 1) X dX11_must_13 (by decide) ?_
    refine z_aload_n X dX11_must_14 rfl (lv_at hl 0 rfl) ?_
    refine m_geti X ff_4 dX11_must_15 ?_
    obtain ⟨r3, hc3, hf⟩ := z_bind hf
    refine m_callVv [.int 1, .int (r2.2.1 0 4)] X hl.1 (c_blame D cy ad hc3) gm_blame pd_blame rfl ⟨by decide, by decide⟩ (Nat.le_of_ble_eq_true rfl) rfl dX11_must_18 ?_
    exact w_must_21 X Z r3.1 r3.2 ls (lv_sub hl [0] rfl) hf

theorem c_must (D : va_G) (cy : Nat → ClassId) (ad : Nat → Nat) {x1 : Int32} {V : zI} {L : zL} {r' : zI × zL} (hf : f_must x1 V L = some r') : RMv (zR D cy ad) yX11_must cX11_must 2 2 45 [.ref (ad 0), .int x1] V L r'.1 r'.2 :=
  RMv.of (by decide) zR_nd (Nat.le_of_ble_eq_true rfl) (fun M X Z ls hl => w_must X Z x1 V L ls hl hf)
def f_isOwn (x1 : Int64) (V : zI) (L : zL) : Option (Int32 × zI × zL) :=
  (if (lg_cmp x1 1953462126) = 0 then some (1, V, L) else (if (lg_cmp x1 1667330676) = 0 then some (1, V, L) else (if (lg_cmp x1 29807) = 0 then some (1, V, L) else (if (lg_cmp x1 1684109683) = 0 then some (1, V, L) else (if (lg_cmp x1 448545973363) = 0 then some (1, V, L) else (if (lg_cmp x1 28518) = 0 then some (1, V, L) else (if (lg_cmp x1 131333279212915) = 0 then some (1, V, L) else (if (lg_cmp x1 465625113971) = 0 then some (1, V, L) else (if (lg_cmp x1 512970880104) = 0 then some (1, V, L) else (if (lg_cmp x1 1701733228) = 0 then some (1, V, L) else (if (lg_cmp x1 1819243380) = 0 then some (1, V, L) else (if (lg_cmp x1 1751477348) = 0 then some (1, V, L) else (if (lg_cmp x1 6709618) = 0 then some (1, V, L) else (if (lg_cmp x1 6578553) = 0 then some (1, V, L) else (if (lg_cmp x1 1936027252) = 0 then some (1, V, L) else (if (lg_cmp x1 6778740) = 0 then some (1, V, L) else (if (lg_cmp x1 26982) = 0 then some (1, V, L) else (if (lg_cmp x1 28530) = 0 then some (1, V, L) else (if (lg_cmp x1 6385252) = 0 then some (1, V, L) else (if (lg_cmp x1 7237492) = 0 then some (1, V, L) else (if (lg_cmp x1 6384748) = 0 then some (1, V, L) else (if (lg_cmp x1 7170414) = 0 then some (1, V, L) else (if (lg_cmp x1 7168376) = 0 then some (1, V, L) else some (0, V, L))))))))))))))))))))))))
set_option maxHeartbeats 4000000 in
set_option maxRecDepth 100000 in
theorem w_isOwn {M : zM} {D : va_G} {cy : Nat → ClassId} {ad : Nat → Nat} {r' : Int32 × zI × zL} (X : RX M (zR D cy ad) cX11_isOwn 3 RX11 0 0) (Z : RZi M (zR D cy ad) .boolean r'.1 r'.2.1 r'.2.2) (x1 : Int64) (V : zI) (L : zL) (ls : Array Slot) (hl : lv_has ls 3 [(0, .ref (ad 0)), (1, .long x1)]) (hf : f_isOwn x1 V L = some r') : RG M (zR D cy ad) V L 0 ls [] := by
  unfold f_isOwn at hf
  refine z_lload_n X dX11_isOwn_0 rfl (lv_at hl 1 rfl) ?_
  refine z_ldc2 X dX11_isOwn_1 kc_241 ?_
  refine z_lcmp X dX11_isOwn_4 ?_
  refine z_if_eq (tgt := 40) X dX11_isOwn_5 (by decide) (fun c_ => ?_) (fun c_ => ?_)
  · have hf := (if_pos c_).symm.trans hf
    refine z_iconst (v := 1) X dX11_isOwn_40 (by decide) ?_
    exact m_iret X Z hf (by decide) dX11_isOwn_41
  · have hf := (if_neg c_).symm.trans hf
    refine z_lload_n X dX11_isOwn_8 rfl (lv_at hl 1 rfl) ?_
    refine z_ldc2 X dX11_isOwn_9 kc_243 ?_
    refine z_lcmp X dX11_isOwn_12 ?_
    refine z_if_eq (tgt := 40) X dX11_isOwn_13 (by decide) (fun c_ => ?_) (fun c_ => ?_)
    · have hf := (if_pos c_).symm.trans hf
      refine z_iconst (v := 1) X dX11_isOwn_40 (by decide) ?_
      exact m_iret X Z hf (by decide) dX11_isOwn_41
    · have hf := (if_neg c_).symm.trans hf
      refine z_lload_n X dX11_isOwn_16 rfl (lv_at hl 1 rfl) ?_
      refine z_ldc2 X dX11_isOwn_17 kc_245 ?_
      refine z_lcmp X dX11_isOwn_20 ?_
      refine z_if_eq (tgt := 40) X dX11_isOwn_21 (by decide) (fun c_ => ?_) (fun c_ => ?_)
      · have hf := (if_pos c_).symm.trans hf
        refine z_iconst (v := 1) X dX11_isOwn_40 (by decide) ?_
        exact m_iret X Z hf (by decide) dX11_isOwn_41
      · have hf := (if_neg c_).symm.trans hf
        refine z_lload_n X dX11_isOwn_24 rfl (lv_at hl 1 rfl) ?_
        refine z_ldc2 X dX11_isOwn_25 kc_247 ?_
        refine z_lcmp X dX11_isOwn_28 ?_
        refine z_if_eq (tgt := 40) X dX11_isOwn_29 (by decide) (fun c_ => ?_) (fun c_ => ?_)
        · have hf := (if_pos c_).symm.trans hf
          refine z_iconst (v := 1) X dX11_isOwn_40 (by decide) ?_
          exact m_iret X Z hf (by decide) dX11_isOwn_41
        · have hf := (if_neg c_).symm.trans hf
          refine z_lload_n X dX11_isOwn_32 rfl (lv_at hl 1 rfl) ?_
          refine z_ldc2 X dX11_isOwn_33 kc_249 ?_
          refine z_lcmp X dX11_isOwn_36 ?_
          refine z_if_ne (tgt := 42) X dX11_isOwn_37 (by decide) (fun c_ => ?_) (fun c_ => ?_)
          · have hf := (if_neg c_).symm.trans hf
            refine z_lload_n X dX11_isOwn_42 rfl (lv_at hl 1 rfl) ?_
            refine z_ldc2 X dX11_isOwn_43 kc_251 ?_
            refine z_lcmp X dX11_isOwn_46 ?_
            refine z_if_eq (tgt := 82) X dX11_isOwn_47 (by decide) (fun c_ => ?_) (fun c_ => ?_)
            · have hf := (if_pos c_).symm.trans hf
              refine z_iconst (v := 1) X dX11_isOwn_82 (by decide) ?_
              exact m_iret X Z hf (by decide) dX11_isOwn_83
            · have hf := (if_neg c_).symm.trans hf
              refine z_lload_n X dX11_isOwn_50 rfl (lv_at hl 1 rfl) ?_
              refine z_ldc2 X dX11_isOwn_51 kc_253 ?_
              refine z_lcmp X dX11_isOwn_54 ?_
              refine z_if_eq (tgt := 82) X dX11_isOwn_55 (by decide) (fun c_ => ?_) (fun c_ => ?_)
              · have hf := (if_pos c_).symm.trans hf
                refine z_iconst (v := 1) X dX11_isOwn_82 (by decide) ?_
                exact m_iret X Z hf (by decide) dX11_isOwn_83
              · have hf := (if_neg c_).symm.trans hf
                refine z_lload_n X dX11_isOwn_58 rfl (lv_at hl 1 rfl) ?_
                refine z_ldc2 X dX11_isOwn_59 kc_255 ?_
                refine z_lcmp X dX11_isOwn_62 ?_
                refine z_if_eq (tgt := 82) X dX11_isOwn_63 (by decide) (fun c_ => ?_) (fun c_ => ?_)
                · have hf := (if_pos c_).symm.trans hf
                  refine z_iconst (v := 1) X dX11_isOwn_82 (by decide) ?_
                  exact m_iret X Z hf (by decide) dX11_isOwn_83
                · have hf := (if_neg c_).symm.trans hf
                  refine z_lload_n X dX11_isOwn_66 rfl (lv_at hl 1 rfl) ?_
                  refine z_ldc2 X dX11_isOwn_67 kc_257 ?_
                  refine z_lcmp X dX11_isOwn_70 ?_
                  refine z_if_eq (tgt := 82) X dX11_isOwn_71 (by decide) (fun c_ => ?_) (fun c_ => ?_)
                  · have hf := (if_pos c_).symm.trans hf
                    refine z_iconst (v := 1) X dX11_isOwn_82 (by decide) ?_
                    exact m_iret X Z hf (by decide) dX11_isOwn_83
                  · have hf := (if_neg c_).symm.trans hf
                    refine z_lload_n X dX11_isOwn_74 rfl (lv_at hl 1 rfl) ?_
                    refine z_ldc2 X dX11_isOwn_75 kc_259 ?_
                    refine z_lcmp X dX11_isOwn_78 ?_
                    refine z_if_ne (tgt := 84) X dX11_isOwn_79 (by decide) (fun c_ => ?_) (fun c_ => ?_)
                    · have hf := (if_neg c_).symm.trans hf
                      refine z_lload_n X dX11_isOwn_84 rfl (lv_at hl 1 rfl) ?_
                      refine z_ldc2 X dX11_isOwn_85 kc_261 ?_
                      refine z_lcmp X dX11_isOwn_88 ?_
                      refine z_if_eq (tgt := 124) X dX11_isOwn_89 (by decide) (fun c_ => ?_) (fun c_ => ?_)
                      · have hf := (if_pos c_).symm.trans hf
                        refine z_iconst (v := 1) X dX11_isOwn_124 (by decide) ?_
                        exact m_iret X Z hf (by decide) dX11_isOwn_125
                      · have hf := (if_neg c_).symm.trans hf
                        refine z_lload_n X dX11_isOwn_92 rfl (lv_at hl 1 rfl) ?_
                        refine z_ldc2 X dX11_isOwn_93 kc_263 ?_
                        refine z_lcmp X dX11_isOwn_96 ?_
                        refine z_if_eq (tgt := 124) X dX11_isOwn_97 (by decide) (fun c_ => ?_) (fun c_ => ?_)
                        · have hf := (if_pos c_).symm.trans hf
                          refine z_iconst (v := 1) X dX11_isOwn_124 (by decide) ?_
                          exact m_iret X Z hf (by decide) dX11_isOwn_125
                        · have hf := (if_neg c_).symm.trans hf
                          refine z_lload_n X dX11_isOwn_100 rfl (lv_at hl 1 rfl) ?_
                          refine z_ldc2 X dX11_isOwn_101 kc_265 ?_
                          refine z_lcmp X dX11_isOwn_104 ?_
                          refine z_if_eq (tgt := 124) X dX11_isOwn_105 (by decide) (fun c_ => ?_) (fun c_ => ?_)
                          · have hf := (if_pos c_).symm.trans hf
                            refine z_iconst (v := 1) X dX11_isOwn_124 (by decide) ?_
                            exact m_iret X Z hf (by decide) dX11_isOwn_125
                          · have hf := (if_neg c_).symm.trans hf
                            refine z_lload_n X dX11_isOwn_108 rfl (lv_at hl 1 rfl) ?_
                            refine z_ldc2 X dX11_isOwn_109 kc_267 ?_
                            refine z_lcmp X dX11_isOwn_112 ?_
                            refine z_if_eq (tgt := 124) X dX11_isOwn_113 (by decide) (fun c_ => ?_) (fun c_ => ?_)
                            · have hf := (if_pos c_).symm.trans hf
                              refine z_iconst (v := 1) X dX11_isOwn_124 (by decide) ?_
                              exact m_iret X Z hf (by decide) dX11_isOwn_125
                            · have hf := (if_neg c_).symm.trans hf
                              refine z_lload_n X dX11_isOwn_116 rfl (lv_at hl 1 rfl) ?_
                              refine z_ldc2 X dX11_isOwn_117 kc_269 ?_
                              refine z_lcmp X dX11_isOwn_120 ?_
                              refine z_if_ne (tgt := 126) X dX11_isOwn_121 (by decide) (fun c_ => ?_) (fun c_ => ?_)
                              · have hf := (if_neg c_).symm.trans hf
                                refine z_lload_n X dX11_isOwn_126 rfl (lv_at hl 1 rfl) ?_
                                refine z_ldc2 X dX11_isOwn_127 kc_271 ?_
                                refine z_lcmp X dX11_isOwn_130 ?_
                                refine z_if_eq (tgt := 166) X dX11_isOwn_131 (by decide) (fun c_ => ?_) (fun c_ => ?_)
                                · have hf := (if_pos c_).symm.trans hf
                                  refine z_iconst (v := 1) X dX11_isOwn_166 (by decide) ?_
                                  exact m_iret X Z hf (by decide) dX11_isOwn_167
                                · have hf := (if_neg c_).symm.trans hf
                                  refine z_lload_n X dX11_isOwn_134 rfl (lv_at hl 1 rfl) ?_
                                  refine z_ldc2 X dX11_isOwn_135 kc_273 ?_
                                  refine z_lcmp X dX11_isOwn_138 ?_
                                  refine z_if_eq (tgt := 166) X dX11_isOwn_139 (by decide) (fun c_ => ?_) (fun c_ => ?_)
                                  · have hf := (if_pos c_).symm.trans hf
                                    refine z_iconst (v := 1) X dX11_isOwn_166 (by decide) ?_
                                    exact m_iret X Z hf (by decide) dX11_isOwn_167
                                  · have hf := (if_neg c_).symm.trans hf
                                    refine z_lload_n X dX11_isOwn_142 rfl (lv_at hl 1 rfl) ?_
                                    refine z_ldc2 X dX11_isOwn_143 kc_275 ?_
                                    refine z_lcmp X dX11_isOwn_146 ?_
                                    refine z_if_eq (tgt := 166) X dX11_isOwn_147 (by decide) (fun c_ => ?_) (fun c_ => ?_)
                                    · have hf := (if_pos c_).symm.trans hf
                                      refine z_iconst (v := 1) X dX11_isOwn_166 (by decide) ?_
                                      exact m_iret X Z hf (by decide) dX11_isOwn_167
                                    · have hf := (if_neg c_).symm.trans hf
                                      refine z_lload_n X dX11_isOwn_150 rfl (lv_at hl 1 rfl) ?_
                                      refine z_ldc2 X dX11_isOwn_151 kc_277 ?_
                                      refine z_lcmp X dX11_isOwn_154 ?_
                                      refine z_if_eq (tgt := 166) X dX11_isOwn_155 (by decide) (fun c_ => ?_) (fun c_ => ?_)
                                      · have hf := (if_pos c_).symm.trans hf
                                        refine z_iconst (v := 1) X dX11_isOwn_166 (by decide) ?_
                                        exact m_iret X Z hf (by decide) dX11_isOwn_167
                                      · have hf := (if_neg c_).symm.trans hf
                                        refine z_lload_n X dX11_isOwn_158 rfl (lv_at hl 1 rfl) ?_
                                        refine z_ldc2 X dX11_isOwn_159 kc_279 ?_
                                        refine z_lcmp X dX11_isOwn_162 ?_
                                        refine z_if_ne (tgt := 168) X dX11_isOwn_163 (by decide) (fun c_ => ?_) (fun c_ => ?_)
                                        · have hf := (if_neg c_).symm.trans hf
                                          refine z_lload_n X dX11_isOwn_168 rfl (lv_at hl 1 rfl) ?_
                                          refine z_ldc2 X dX11_isOwn_169 kc_281 ?_
                                          refine z_lcmp X dX11_isOwn_172 ?_
                                          refine z_if_eq (tgt := 192) X dX11_isOwn_173 (by decide) (fun c_ => ?_) (fun c_ => ?_)
                                          · have hf := (if_pos c_).symm.trans hf
                                            refine z_iconst (v := 1) X dX11_isOwn_192 (by decide) ?_
                                            exact m_iret X Z hf (by decide) dX11_isOwn_193
                                          · have hf := (if_neg c_).symm.trans hf
                                            refine z_lload_n X dX11_isOwn_176 rfl (lv_at hl 1 rfl) ?_
                                            refine z_ldc2 X dX11_isOwn_177 kc_283 ?_
                                            refine z_lcmp X dX11_isOwn_180 ?_
                                            refine z_if_eq (tgt := 192) X dX11_isOwn_181 (by decide) (fun c_ => ?_) (fun c_ => ?_)
                                            · have hf := (if_pos c_).symm.trans hf
                                              refine z_iconst (v := 1) X dX11_isOwn_192 (by decide) ?_
                                              exact m_iret X Z hf (by decide) dX11_isOwn_193
                                            · have hf := (if_neg c_).symm.trans hf
                                              refine z_lload_n X dX11_isOwn_184 rfl (lv_at hl 1 rfl) ?_
                                              refine z_ldc2 X dX11_isOwn_185 kc_285 ?_
                                              refine z_lcmp X dX11_isOwn_188 ?_
                                              refine z_if_ne (tgt := 194) X dX11_isOwn_189 (by decide) (fun c_ => ?_) (fun c_ => ?_)
                                              · have hf := (if_neg c_).symm.trans hf
                                                refine z_iconst (v := 0) X dX11_isOwn_194 (by decide) ?_
                                                exact m_iret X Z hf (by decide) dX11_isOwn_195
                                              · have hf := (if_pos c_).symm.trans hf
                                                refine z_iconst (v := 1) X dX11_isOwn_192 (by decide) ?_
                                                exact m_iret X Z hf (by decide) dX11_isOwn_193
                                        · have hf := (if_pos c_).symm.trans hf
                                          refine z_iconst (v := 1) X dX11_isOwn_166 (by decide) ?_
                                          exact m_iret X Z hf (by decide) dX11_isOwn_167
                              · have hf := (if_pos c_).symm.trans hf
                                refine z_iconst (v := 1) X dX11_isOwn_124 (by decide) ?_
                                exact m_iret X Z hf (by decide) dX11_isOwn_125
                    · have hf := (if_pos c_).symm.trans hf
                      refine z_iconst (v := 1) X dX11_isOwn_82 (by decide) ?_
                      exact m_iret X Z hf (by decide) dX11_isOwn_83
          · have hf := (if_pos c_).symm.trans hf
            refine z_iconst (v := 1) X dX11_isOwn_40 (by decide) ?_
            exact m_iret X Z hf (by decide) dX11_isOwn_41

theorem c_isOwn (D : va_G) (cy : Nat → ClassId) (ad : Nat → Nat) {x1 : Int64} {V : zI} {L : zL} {r' : Int32 × zI × zL} (hf : f_isOwn x1 V L = some r') : RMi (zR D cy ad) yX11_isOwn cX11_isOwn 3 .boolean 0 0 [.ref (ad 0), .long x1] V L r'.1 r'.2.1 r'.2.2 :=
  RMi.of (by decide) zR_nd (Nat.le_of_ble_eq_true rfl) (fun M X Z ls hl => w_isOwn X Z x1 V L ls hl hf)
def b_isDefault_24 (k24 : Int32 × Int32 × zI × zL → Option (zI × zL)) : Int32 × Int32 × zI × zL → Option (zI × zL) := fun ⟨x1, x2, V, L⟩ =>
  (if 36 ≤ x2 then some (V, L) else if inB (((36 : Int32) * x1) + x2) 72 then if inB (((36 : Int32) * x1) + x2) 72 then k24 (x1, (x2 + 1), z_uI (z_uI V 4 (((36 : Int32) * x1) + x2).toNatClampNeg 0) 6 (((36 : Int32) * x1) + x2).toNatClampNeg 0, L) else none else none)
def f_isDefault (x1 : Int32) (V : zI) (L : zL) : Option (zI × zL) :=
  if inB (((2 : Int32) * x1) + 0) 4 then if inB (((2 : Int32) * x1) + 1) 4 then zfix (b_isDefault_24) FU (x1, 0, z_uI (z_uI V 7 (((2 : Int32) * x1) + 0).toNatClampNeg 1) 7 (((2 : Int32) * x1) + 1).toNatClampNeg 0, L) else none else none
set_option maxHeartbeats 4000000 in
set_option maxRecDepth 100000 in
theorem w_isDefault_24 {M : zM} {D : va_G} {cy : Nat → ClassId} {ad : Nat → Nat} {r' : zI × zL} (X : RX M (zR D cy ad) cX11_isDefault 3 RX11 0 0) (Z : RZv M (zR D cy ad) r'.1 r'.2) (n : Nat) : ∀ (x1 : Int32) (x2 : Int32) (V : zI) (L : zL) (ls : Array Slot) (hl : lv_has ls 3 [(0, .ref (ad 0)), (1, .int x1), (2, .int x2)]) (hf : zfix (b_isDefault_24) n (x1, x2, V, L) = some r'), RG M (zR D cy ad) V L 24 ls [] := by
  induction n with
  | zero => intro x1 x2 V L ls hl hf; cases hf
  | succ n ih =>
  intro x1 x2 V L ls hl hf
  have hk24 : ∀ (x1 : Int32) (x2 : Int32) (V : zI) (L : zL) (ls : Array Slot), lv_has ls 3 [(0, .ref (ad 0)), (1, .int x1), (2, .int x2)] → zfix (b_isDefault_24) n (x1, x2, V, L) = some r' → RG M (zR D cy ad) V L 24 ls [] := ih
  have hf : b_isDefault_24 (zfix (b_isDefault_24) n) (x1, x2, V, L) = some r' := hf
  generalize zfix (b_isDefault_24) n = k24 at hk24 hf
  unfold b_isDefault_24 at hf
  clear ih
  refine z_iload_n X dX11_isDefault_24 rfl (lv_at hl 2 rfl) ?_
  refine z_bipush (v := 36) X dX11_isDefault_25 (by decide) ?_
  refine z_icmp_ge (tgt := 60) X dX11_isDefault_27 (by decide) (fun c_ => ?_) (fun c_ => ?_)
  · have hf := (if_pos c_).symm.trans hf
    exact m_vret X Z hf dX11_isDefault_60
  · have hf := (if_neg c_).symm.trans hf
    refine z_aload_n X dX11_isDefault_30 rfl (lv_at hl 0 rfl) ?_
    refine m_geta X ff_16 dX11_isDefault_31 ?_
    refine z_bipush (v := 36) X dX11_isDefault_34 (by decide) ?_
    refine z_iload_n X dX11_isDefault_36 rfl (lv_at hl 1 rfl) ?_
    refine z_imul X dX11_isDefault_37 ?_
    refine z_iload_n X dX11_isDefault_38 rfl (lv_at hl 2 rfl) ?_
    refine z_iadd X dX11_isDefault_39 ?_
    refine z_iconst (v := 0) X dX11_isDefault_40 (by decide) ?_
    obtain ⟨hb1, hf⟩ := z_ite hf
    refine m_iast X pa_4 hb1 dX11_isDefault_41 ?_
    refine z_aload_n X dX11_isDefault_42 rfl (lv_at hl 0 rfl) ?_
    refine m_geta X ff_18 dX11_isDefault_43 ?_
    refine z_bipush (v := 36) X dX11_isDefault_46 (by decide) ?_
    refine z_iload_n X dX11_isDefault_48 rfl (lv_at hl 1 rfl) ?_
    refine z_imul X dX11_isDefault_49 ?_
    refine z_iload_n X dX11_isDefault_50 rfl (lv_at hl 2 rfl) ?_
    refine z_iadd X dX11_isDefault_51 ?_
    refine z_iconst (v := 0) X dX11_isDefault_52 (by decide) ?_
    obtain ⟨hb2, hf⟩ := z_ite hf
    refine m_iast X pa_6 hb2 dX11_isDefault_53 ?_
    refine z_iinc (v := x2 + 1) (k0 := 2) (lv' := [(2, .int (x2 + 1)), (0, .ref (ad 0)), (1, .int x1)]) X dX11_isDefault_54 hl rfl rfl (by decide) rfl (fun ls hl => ?_)
    refine z_goto (tgt := 24) X dX11_isDefault_57 (by decide) ?_
    exact hk24 x1 (x2 + 1) (z_uI (z_uI V 4 (((36 : Int32) * x1) + x2).toNatClampNeg 0) 6 (((36 : Int32) * x1) + x2).toNatClampNeg 0) L ls (lv_sub hl [1, 2, 0] rfl) hf

set_option maxHeartbeats 4000000 in
set_option maxRecDepth 100000 in
theorem w_isDefault {M : zM} {D : va_G} {cy : Nat → ClassId} {ad : Nat → Nat} {r' : zI × zL} (X : RX M (zR D cy ad) cX11_isDefault 3 RX11 0 0) (Z : RZv M (zR D cy ad) r'.1 r'.2) (x1 : Int32) (V : zI) (L : zL) (ls : Array Slot) (hl : lv_has ls 3 [(0, .ref (ad 0)), (1, .int x1)]) (hf : f_isDefault x1 V L = some r') : RG M (zR D cy ad) V L 0 ls [] := by
  unfold f_isDefault at hf
  refine z_aload_n X dX11_isDefault_0 rfl (lv_at hl 0 rfl) ?_
  refine m_geta X ff_19 dX11_isDefault_1 ?_
  refine z_iconst (v := 2) X dX11_isDefault_4 (by decide) ?_
  refine z_iload_n X dX11_isDefault_5 rfl (lv_at hl 1 rfl) ?_
  refine z_imul X dX11_isDefault_6 ?_
  refine z_iconst (v := 0) X dX11_isDefault_7 (by decide) ?_
  refine z_iadd X dX11_isDefault_8 ?_
  refine z_iconst (v := 1) X dX11_isDefault_9 (by decide) ?_
  obtain ⟨hb1, hf⟩ := z_ite hf
  refine m_iast X pa_7 hb1 dX11_isDefault_10 ?_
  refine z_aload_n X dX11_isDefault_11 rfl (lv_at hl 0 rfl) ?_
  refine m_geta X ff_19 dX11_isDefault_12 ?_
  refine z_iconst (v := 2) X dX11_isDefault_15 (by decide) ?_
  refine z_iload_n X dX11_isDefault_16 rfl (lv_at hl 1 rfl) ?_
  refine z_imul X dX11_isDefault_17 ?_
  refine z_iconst (v := 1) X dX11_isDefault_18 (by decide) ?_
  refine z_iadd X dX11_isDefault_19 ?_
  refine z_iconst (v := 0) X dX11_isDefault_20 (by decide) ?_
  obtain ⟨hb2, hf⟩ := z_ite hf
  refine m_iast X pa_7 hb2 dX11_isDefault_21 ?_
  refine z_iconst (v := 0) X dX11_isDefault_22 (by decide) ?_
  refine z_istore_n (lv' := [(2, .int 0), (0, .ref (ad 0)), (1, .int x1)]) X dX11_isDefault_23 rfl hl (by decide) rfl (fun ls hl => ?_)
  exact w_isDefault_24 X Z FU x1 0 (z_uI (z_uI V 7 (((2 : Int32) * x1) + 0).toNatClampNeg 1) 7 (((2 : Int32) * x1) + 1).toNatClampNeg 0) L ls (lv_sub hl [1, 2, 0] rfl) hf

theorem c_isDefault (D : va_G) (cy : Nat → ClassId) (ad : Nat → Nat) {x1 : Int32} {V : zI} {L : zL} {r' : zI × zL} (hf : f_isDefault x1 V L = some r') : RMv (zR D cy ad) yX11_isDefault cX11_isDefault 3 0 0 [.ref (ad 0), .int x1] V L r'.1 r'.2 :=
  RMv.of (by decide) zR_nd (Nat.le_of_ble_eq_true rfl) (fun M X Z ls hl => w_isDefault X Z x1 V L ls hl hf)
def f_toldOf (x1 : Int32) (V : zI) (L : zL) : Option (Int32 × zI × zL) :=
  if inB (((2 : Int32) * (V 0 13)) + x1) 4 then some (V 7 (((2 : Int32) * (V 0 13)) + x1).toNatClampNeg, V, L) else none
set_option maxHeartbeats 4000000 in
set_option maxRecDepth 100000 in
theorem w_toldOf {M : zM} {D : va_G} {cy : Nat → ClassId} {ad : Nat → Nat} {r' : Int32 × zI × zL} (X : RX M (zR D cy ad) cX11_toldOf 2 RX11 0 0) (Z : RZi M (zR D cy ad) .int r'.1 r'.2.1 r'.2.2) (x1 : Int32) (V : zI) (L : zL) (ls : Array Slot) (hl : lv_has ls 2 [(0, .ref (ad 0)), (1, .int x1)]) (hf : f_toldOf x1 V L = some r') : RG M (zR D cy ad) V L 0 ls [] := by
  unfold f_toldOf at hf
  refine z_aload_n X dX11_toldOf_0 rfl (lv_at hl 0 rfl) ?_
  refine m_geta X ff_19 dX11_toldOf_1 ?_
  refine z_iconst (v := 2) X dX11_toldOf_4 (by decide) ?_
  refine z_aload_n X dX11_toldOf_5 rfl (lv_at hl 0 rfl) ?_
  refine m_geti X ff_13 dX11_toldOf_6 ?_
  refine z_imul X dX11_toldOf_9 ?_
  refine z_iload_n X dX11_toldOf_10 rfl (lv_at hl 1 rfl) ?_
  refine z_iadd X dX11_toldOf_11 ?_
  obtain ⟨hb1, hf⟩ := z_ite hf
  refine m_iald X pa_7 hb1 dX11_toldOf_12 ?_
  exact m_iret X Z hf rfl dX11_toldOf_13

theorem c_toldOf (D : va_G) (cy : Nat → ClassId) (ad : Nat → Nat) {x1 : Int32} {V : zI} {L : zL} {r' : Int32 × zI × zL} (hf : f_toldOf x1 V L = some r') : RMi (zR D cy ad) yX11_toldOf cX11_toldOf 2 .int 0 0 [.ref (ad 0), .int x1] V L r'.1 r'.2.1 r'.2.2 :=
  RMi.of (by decide) zR_nd (Nat.le_of_ble_eq_true rfl) (fun M X Z ls hl => w_toldOf X Z x1 V L ls hl hf)
def b_named_2 (k2 : Int64 × Int32 × zI × zL → Option (Int32 × zI × zL)) : Int64 × Int32 × zI × zL → Option (Int32 × zI × zL) := fun ⟨x1, x3, V, L⟩ =>
  if inB (V 0 26) 2 then (if (V 2 (V 0 26).toNatClampNeg) ≤ x3 then some ((-1), V, L) else if inB (((6 : Int32) * (V 0 26)) + x3) 12 then (if (lg_cmp (L 12 (((6 : Int32) * (V 0 26)) + x3).toNatClampNeg) x1) = 0 then some (x3, V, L) else k2 (x1, (x3 + 1), V, L)) else none) else none
def f_named (x1 : Int64) (V : zI) (L : zL) : Option (Int32 × zI × zL) :=
  zfix (b_named_2) FU (x1, 0, V, L)
set_option maxHeartbeats 4000000 in
set_option maxRecDepth 100000 in
theorem w_named_2 {M : zM} {D : va_G} {cy : Nat → ClassId} {ad : Nat → Nat} {r' : Int32 × zI × zL} (X : RX M (zR D cy ad) cX11_named 4 RX11 0 0) (Z : RZi M (zR D cy ad) .int r'.1 r'.2.1 r'.2.2) (n : Nat) : ∀ (x1 : Int64) (x3 : Int32) (V : zI) (L : zL) (ls : Array Slot) (hl : lv_has ls 4 [(0, .ref (ad 0)), (1, .long x1), (3, .int x3)]) (hf : zfix (b_named_2) n (x1, x3, V, L) = some r'), RG M (zR D cy ad) V L 2 ls [] := by
  induction n with
  | zero => intro x1 x3 V L ls hl hf; cases hf
  | succ n ih =>
  intro x1 x3 V L ls hl hf
  have hk2 : ∀ (x1 : Int64) (x3 : Int32) (V : zI) (L : zL) (ls : Array Slot), lv_has ls 4 [(0, .ref (ad 0)), (1, .long x1), (3, .int x3)] → zfix (b_named_2) n (x1, x3, V, L) = some r' → RG M (zR D cy ad) V L 2 ls [] := ih
  have hf : b_named_2 (zfix (b_named_2) n) (x1, x3, V, L) = some r' := hf
  generalize zfix (b_named_2) n = k2 at hk2 hf
  unfold b_named_2 at hf
  clear ih
  refine z_iload_n X dX11_named_2 rfl (lv_at hl 2 rfl) ?_
  refine z_aload_n X dX11_named_3 rfl (lv_at hl 0 rfl) ?_
  refine m_geta X ff_14 dX11_named_4 ?_
  refine z_aload_n X dX11_named_7 rfl (lv_at hl 0 rfl) ?_
  refine m_geti X ff_26 dX11_named_8 ?_
  obtain ⟨hb1, hf⟩ := z_ite hf
  refine m_iald X pa_2 hb1 dX11_named_11 ?_
  refine z_icmp_ge (tgt := 42) X dX11_named_12 (by decide) (fun c_ => ?_) (fun c_ => ?_)
  · have hf := (if_pos c_).symm.trans hf
    refine z_iconst (v := -1) X dX11_named_42 (by decide) ?_
    exact m_iret X Z hf rfl dX11_named_43
  · have hf := (if_neg c_).symm.trans hf
    refine z_aload_n X dX11_named_15 rfl (lv_at hl 0 rfl) ?_
    refine m_geta X ff_24 dX11_named_16 ?_
    refine z_bipush (v := 6) X dX11_named_19 (by decide) ?_
    refine z_aload_n X dX11_named_21 rfl (lv_at hl 0 rfl) ?_
    refine m_geti X ff_26 dX11_named_22 ?_
    refine z_imul X dX11_named_25 ?_
    refine z_iload_n X dX11_named_26 rfl (lv_at hl 2 rfl) ?_
    refine z_iadd X dX11_named_27 ?_
    obtain ⟨hb2, hf⟩ := z_ite hf
    refine m_lald X pa_12 hb2 dX11_named_28 ?_
    refine z_lload_n X dX11_named_29 rfl (lv_at hl 1 rfl) ?_
    refine z_lcmp X dX11_named_30 ?_
    refine z_if_ne (tgt := 36) X dX11_named_31 (by decide) (fun c_ => ?_) (fun c_ => ?_)
    · have hf := (if_neg c_).symm.trans hf
      refine z_iinc (v := x3 + 1) (k0 := 2) (lv' := [(3, .int (x3 + 1)), (0, .ref (ad 0)), (1, .long x1)]) X dX11_named_36 hl rfl rfl (by decide) rfl (fun ls hl => ?_)
      refine z_goto (tgt := 2) X dX11_named_39 (by decide) ?_
      exact hk2 x1 (x3 + 1) V L ls (lv_sub hl [1, 2, 0] rfl) hf
    · have hf := (if_pos c_).symm.trans hf
      refine z_iload_n X dX11_named_34 rfl (lv_at hl 2 rfl) ?_
      exact m_iret X Z hf rfl dX11_named_35

set_option maxHeartbeats 4000000 in
set_option maxRecDepth 100000 in
theorem w_named {M : zM} {D : va_G} {cy : Nat → ClassId} {ad : Nat → Nat} {r' : Int32 × zI × zL} (X : RX M (zR D cy ad) cX11_named 4 RX11 0 0) (Z : RZi M (zR D cy ad) .int r'.1 r'.2.1 r'.2.2) (x1 : Int64) (V : zI) (L : zL) (ls : Array Slot) (hl : lv_has ls 4 [(0, .ref (ad 0)), (1, .long x1)]) (hf : f_named x1 V L = some r') : RG M (zR D cy ad) V L 0 ls [] := by
  unfold f_named at hf
  refine z_iconst (v := 0) X dX11_named_0 (by decide) ?_
  refine z_istore_n (lv' := [(3, .int 0), (0, .ref (ad 0)), (1, .long x1)]) X dX11_named_1 rfl hl (by decide) rfl (fun ls hl => ?_)
  exact w_named_2 X Z FU x1 0 V L ls (lv_sub hl [1, 2, 0] rfl) hf

theorem c_named (D : va_G) (cy : Nat → ClassId) (ad : Nat → Nat) {x1 : Int64} {V : zI} {L : zL} {r' : Int32 × zI × zL} (hf : f_named x1 V L = some r') : RMi (zR D cy ad) yX11_named cX11_named 4 .int 0 0 [.ref (ad 0), .long x1] V L r'.1 r'.2.1 r'.2.2 :=
  RMi.of (by decide) zR_nd (Nat.le_of_ble_eq_true rfl) (fun M X Z ls hl => w_named X Z x1 V L ls hl hf)
def f_number_58 (V : zI) (L : zL) : Option (Int32 × zI × zL) :=
  (if (V 0 8) = 0 then (f_ahead V L).bind fun r1 => some (V 0 6, r1.1, r1.2) else some (V 0 6, V, L))
def f_number_30 (x1 : Int32) (x2 : Int32) (V : zI) (L : zL) : Option (Int32 × zI × zL) :=
  (if (V 0 8) = 0 then (f_is (V 0 6) x1 x2).bind fun r1 => (if r1 = 0 then (f_blame 4 (V 0 4) V L).bind fun r2 => f_number_58 r2.1 r2.2 else f_number_58 V L) else f_number_58 V L)
def f_number (x1 : Int32) (x2 : Int32) (V : zI) (L : zL) : Option (Int32 × zI × zL) :=
  (f_lex V L).bind fun r1 => (if (r1.1 0 8) ≤ 0 then (if (r1.1 0 3) = 2 then f_number_30 x1 x2 r1.1 r1.2 else (f_blame 1 (r1.1 0 4) r1.1 r1.2).bind fun r2 => f_number_30 x1 x2 r2.1 r2.2) else some (0, r1.1, r1.2))
set_option maxHeartbeats 4000000 in
set_option maxRecDepth 100000 in
theorem w_number_58 {M : zM} {D : va_G} {cy : Nat → ClassId} {ad : Nat → Nat} {r' : Int32 × zI × zL} (X : RX M (zR D cy ad) cX11_number 4 RX11 2 45) (Z : RZi M (zR D cy ad) .int r'.1 r'.2.1 r'.2.2)  (V : zI) (L : zL) (ls : Array Slot) (hl : lv_has ls 4 [(0, .ref (ad 0))]) (hf : f_number_58 V L = some r') : RG M (zR D cy ad) V L 58 ls [] := by
  unfold f_number_58 at hf
  refine z_aload_n X dX11_number_58 rfl (lv_at hl 0 rfl) ?_
  refine m_geti X ff_6 dX11_number_59 ?_
  refine z_istore_n (lv' := [(3, .int (V 0 6)), (0, .ref (ad 0))]) X dX11_number_62 rfl hl (by decide) rfl (fun ls hl => ?_)
  refine z_aload_n X dX11_number_63 rfl (lv_at hl 1 rfl) ?_
  refine m_geti X ff_8 dX11_number_64 ?_
  refine z_if_ne (tgt := 74) X dX11_number_67 (by decide) (fun c_ => ?_) (fun c_ => ?_)
  · have hf := (if_neg c_).symm.trans hf
    refine z_iload_n X dX11_number_74 rfl (lv_at hl 0 rfl) ?_
    exact m_iret X Z hf rfl dX11_number_75
  · have hf := (if_pos c_).symm.trans hf
    refine z_aload_n X dX11_number_70 rfl (lv_at hl 1 rfl) ?_
    obtain ⟨r1, hc1, hf⟩ := z_bind hf
    refine m_callVv [] X hl.1 (c_ahead D cy ad hc1) gm_ahead pd_ahead rfl ⟨by decide, by decide⟩ (Nat.le_of_ble_eq_true rfl) rfl dX11_number_71 ?_
    refine z_iload_n X dX11_number_74 rfl (lv_at hl 0 rfl) ?_
    exact m_iret X Z hf rfl dX11_number_75

set_option maxHeartbeats 4000000 in
set_option maxRecDepth 100000 in
theorem w_number_30 {M : zM} {D : va_G} {cy : Nat → ClassId} {ad : Nat → Nat} {r' : Int32 × zI × zL} (X : RX M (zR D cy ad) cX11_number 4 RX11 2 45) (Z : RZi M (zR D cy ad) .int r'.1 r'.2.1 r'.2.2) (x1 : Int32) (x2 : Int32) (V : zI) (L : zL) (ls : Array Slot) (hl : lv_has ls 4 [(0, .ref (ad 0)), (1, .int x1), (2, .int x2)]) (hf : f_number_30 x1 x2 V L = some r') : RG M (zR D cy ad) V L 30 ls [] := by
  unfold f_number_30 at hf
  refine z_aload_n X dX11_number_30 rfl (lv_at hl 0 rfl) ?_
  refine m_geti X ff_8 dX11_number_31 ?_
  refine z_if_ne (tgt := 58) X dX11_number_34 (by decide) (fun c_ => ?_) (fun c_ => ?_)
  · have hf := (if_neg c_).symm.trans hf
    exact w_number_58 X Z V L ls (lv_sub hl [0] rfl) hf
  · have hf := (if_pos c_).symm.trans hf
    refine z_aload_n X dX11_number_37 rfl (lv_at hl 0 rfl) ?_
    refine m_geti X ff_6 dX11_number_38 ?_
    refine z_iload_n X dX11_number_41 rfl (lv_at hl 1 rfl) ?_
    refine z_iload_n X dX11_number_42 rfl (lv_at hl 2 rfl) ?_
    obtain ⟨r1, hc1, hf⟩ := z_bind hf
    refine m_callSi [.int (V 0 6), .int x1, .int x2] X hl.1 (c_is D cy ad hc1) gm_is pd_is rfl ⟨by decide, by decide⟩ (Nat.le_of_ble_eq_true rfl) rfl dX11_number_43 ?_
    refine z_if_ne (tgt := 58) X dX11_number_46 (by decide) (fun c_ => ?_) (fun c_ => ?_)
    · have hf := (if_neg c_).symm.trans hf
      exact w_number_58 X Z V L ls (lv_sub hl [0] rfl) hf
    · have hf := (if_pos c_).symm.trans hf
      refine z_aload_n X dX11_number_49 rfl (lv_at hl 0 rfl) ?_
      refine z_iconst (v := 4) X dX11_number_50 (by decide) ?_
      refine z_aload_n X dX11_number_51 rfl (lv_at hl 0 rfl) ?_
      refine m_geti X ff_4 dX11_number_52 ?_
      obtain ⟨r2, hc2, hf⟩ := z_bind hf
      refine m_callVv [.int 4, .int (V 0 4)] X hl.1 (c_blame D cy ad hc2) gm_blame pd_blame rfl ⟨by decide, by decide⟩ (Nat.le_of_ble_eq_true rfl) rfl dX11_number_55 ?_
      exact w_number_58 X Z r2.1 r2.2 ls (lv_sub hl [0] rfl) hf

set_option maxHeartbeats 4000000 in
set_option maxRecDepth 100000 in
theorem w_number {M : zM} {D : va_G} {cy : Nat → ClassId} {ad : Nat → Nat} {r' : Int32 × zI × zL} (X : RX M (zR D cy ad) cX11_number 4 RX11 2 45) (Z : RZi M (zR D cy ad) .int r'.1 r'.2.1 r'.2.2) (x1 : Int32) (x2 : Int32) (V : zI) (L : zL) (ls : Array Slot) (hl : lv_has ls 4 [(0, .ref (ad 0)), (1, .int x1), (2, .int x2)]) (hf : f_number x1 x2 V L = some r') : RG M (zR D cy ad) V L 0 ls [] := by
  unfold f_number at hf
  refine z_aload_n X dX11_number_0 rfl (lv_at hl 0 rfl) ?_
  obtain ⟨r1, hc1, hf⟩ := z_bind hf
  refine m_callVv [] X hl.1 (c_lex D cy ad hc1) gm_lex pd_lex rfl ⟨by decide, by decide⟩ (Nat.le_of_ble_eq_true rfl) rfl dX11_number_1 ?_
  refine z_aload_n X dX11_number_4 rfl (lv_at hl 0 rfl) ?_
  refine m_geti X ff_8 dX11_number_5 ?_
  refine z_if_le (tgt := 13) X dX11_number_8 (by decide) (fun c_ => ?_) (fun c_ => ?_)
  · have hf := (if_pos c_).symm.trans hf
    refine z_aload_n X dX11_number_13 rfl (lv_at hl 0 rfl) ?_
    refine m_geti X ff_3 dX11_number_14 ?_
    refine z_iconst (v := 2) X dX11_number_17 (by decide) ?_
    refine z_icmp_eq (tgt := 30) X dX11_number_18 (by decide) (fun c_ => ?_) (fun c_ => ?_)
    · have hf := (if_pos c_).symm.trans hf
      exact w_number_30 X Z x1 x2 r1.1 r1.2 ls (lv_sub hl [0, 1, 2] rfl) hf
    · have hf := (if_neg c_).symm.trans hf
      refine z_aload_n X dX11_number_21 rfl (lv_at hl 0 rfl) ?_
      refine z_iconst (v := 1) X dX11_number_22 (by decide) ?_
      refine z_aload_n X dX11_number_23 rfl (lv_at hl 0 rfl) ?_
      refine m_geti X ff_4 dX11_number_24 ?_
      obtain ⟨r2, hc2, hf⟩ := z_bind hf
      refine m_callVv [.int 1, .int (r1.1 0 4)] X hl.1 (c_blame D cy ad hc2) gm_blame pd_blame rfl ⟨by decide, by decide⟩ (Nat.le_of_ble_eq_true rfl) rfl dX11_number_27 ?_
      exact w_number_30 X Z x1 x2 r2.1 r2.2 ls (lv_sub hl [0, 1, 2] rfl) hf
  · have hf := (if_neg c_).symm.trans hf
    refine z_iconst (v := 0) X dX11_number_11 (by decide) ?_
    exact m_iret X Z hf rfl dX11_number_12

theorem c_number (D : va_G) (cy : Nat → ClassId) (ad : Nat → Nat) {x1 : Int32} {x2 : Int32} {V : zI} {L : zL} {r' : Int32 × zI × zL} (hf : f_number x1 x2 V L = some r') : RMi (zR D cy ad) yX11_number cX11_number 4 .int 2 45 [.ref (ad 0), .int x1, .int x2] V L r'.1 r'.2.1 r'.2.2 :=
  RMi.of (by decide) zR_nd (Nat.le_of_ble_eq_true rfl) (fun M X Z ls hl => w_number X Z x1 x2 V L ls hl hf)
def f_add (x1 : Int32) (x2 : Int32) (V : zI) (L : zL) : Option (zI × zL) :=
  if inB (((1600 : Int32) * (V 0 26)) + (V 0 25)) 3200 then if inB (((1600 : Int32) * ((z_uI V 10 (((1600 : Int32) * (V 0 26)) + (V 0 25)).toNatClampNeg x1) 0 26)) + ((z_uI V 10 (((1600 : Int32) * (V 0 26)) + (V 0 25)).toNatClampNeg x1) 0 25)) 3200 then some (z_uI (z_uI (z_uI V 10 (((1600 : Int32) * (V 0 26)) + (V 0 25)).toNatClampNeg x1) 11 (((1600 : Int32) * ((z_uI V 10 (((1600 : Int32) * (V 0 26)) + (V 0 25)).toNatClampNeg x1) 0 26)) + ((z_uI V 10 (((1600 : Int32) * (V 0 26)) + (V 0 25)).toNatClampNeg x1) 0 25)).toNatClampNeg x2) 0 25 (((z_uI (z_uI V 10 (((1600 : Int32) * (V 0 26)) + (V 0 25)).toNatClampNeg x1) 11 (((1600 : Int32) * ((z_uI V 10 (((1600 : Int32) * (V 0 26)) + (V 0 25)).toNatClampNeg x1) 0 26)) + ((z_uI V 10 (((1600 : Int32) * (V 0 26)) + (V 0 25)).toNatClampNeg x1) 0 25)).toNatClampNeg x2) 0 25) + 1), L) else none else none
set_option maxHeartbeats 4000000 in
set_option maxRecDepth 100000 in
theorem w_add {M : zM} {D : va_G} {cy : Nat → ClassId} {ad : Nat → Nat} {r' : zI × zL} (X : RX M (zR D cy ad) cX11_add 3 RX11 0 0) (Z : RZv M (zR D cy ad) r'.1 r'.2) (x1 : Int32) (x2 : Int32) (V : zI) (L : zL) (ls : Array Slot) (hl : lv_has ls 3 [(0, .ref (ad 0)), (1, .int x1), (2, .int x2)]) (hf : f_add x1 x2 V L = some r') : RG M (zR D cy ad) V L 0 ls [] := by
  unfold f_add at hf
  refine z_aload_n X dX11_add_0 rfl (lv_at hl 0 rfl) ?_
  refine m_geta X ff_22 dX11_add_1 ?_
  refine z_sipush (v := 1600) X dX11_add_4 (by decide) ?_
  refine z_aload_n X dX11_add_7 rfl (lv_at hl 0 rfl) ?_
  refine m_geti X ff_26 dX11_add_8 ?_
  refine z_imul X dX11_add_11 ?_
  refine z_aload_n X dX11_add_12 rfl (lv_at hl 0 rfl) ?_
  refine m_geti X ff_25 dX11_add_13 ?_
  refine z_iadd X dX11_add_16 ?_
  refine z_iload_n X dX11_add_17 rfl (lv_at hl 1 rfl) ?_
  obtain ⟨hb1, hf⟩ := z_ite hf
  refine m_iast X pa_10 hb1 dX11_add_18 ?_
  refine z_aload_n X dX11_add_19 rfl (lv_at hl 0 rfl) ?_
  refine m_geta X ff_23 dX11_add_20 ?_
  refine z_sipush (v := 1600) X dX11_add_23 (by decide) ?_
  refine z_aload_n X dX11_add_26 rfl (lv_at hl 0 rfl) ?_
  refine m_geti X ff_26 dX11_add_27 ?_
  refine z_imul X dX11_add_30 ?_
  refine z_aload_n X dX11_add_31 rfl (lv_at hl 0 rfl) ?_
  refine m_geti X ff_25 dX11_add_32 ?_
  refine z_iadd X dX11_add_35 ?_
  refine z_iload_n X dX11_add_36 rfl (lv_at hl 2 rfl) ?_
  obtain ⟨hb2, hf⟩ := z_ite hf
  refine m_iast X pa_11 hb2 dX11_add_37 ?_
  refine z_aload_n X dX11_add_38 rfl (lv_at hl 0 rfl) ?_
  refine z_dup X dX11_add_39 rfl ?_
  refine m_geti X ff_25 dX11_add_40 ?_
  refine z_iconst (v := 1) X dX11_add_43 (by decide) ?_
  refine z_iadd X dX11_add_44 ?_
  refine m_puti X fp_25 dX11_add_45 ?_
  exact m_vret X Z hf dX11_add_48

theorem c_add (D : va_G) (cy : Nat → ClassId) (ad : Nat → Nat) {x1 : Int32} {x2 : Int32} {V : zI} {L : zL} {r' : zI × zL} (hf : f_add x1 x2 V L = some r') : RMv (zR D cy ad) yX11_add cX11_add 3 0 0 [.ref (ad 0), .int x1, .int x2] V L r'.1 r'.2 :=
  RMv.of (by decide) zR_nd (Nat.le_of_ble_eq_true rfl) (fun M X Z ls hl => w_add X Z x1 x2 V L ls hl hf)
def f_rank (x0 : Int32) : Option (Int32) :=
  (if x0 = 42 then some 1 else (if x0 = 41 then some 2 else (if x0 = 43 then some 3 else (if x0 = 38 then some 4 else (if x0 = 39 then some 4 else (if x0 = 40 then some 4 else (if x0 = 31 then some 5 else (if x0 = 32 then some 5 else some 6))))))))
set_option maxHeartbeats 4000000 in
set_option maxRecDepth 100000 in
theorem w_rank {M : zM} {D : va_G} {cy : Nat → ClassId} {ad : Nat → Nat} {V : zI} {L : zL} {r' : Int32} (X : RX M (zR D cy ad) cX11_rank 1 RX11 0 0) (Z : RZi M (zR D cy ad) .int r' V L) (x0 : Int32) (ls : Array Slot) (hl : lv_has ls 1 [(0, .int x0)]) (hf : f_rank x0 = some r') : RG M (zR D cy ad) V L 0 ls [] := by
  unfold f_rank at hf
  refine z_iload_n X dX11_rank_0 rfl (lv_at hl 0 rfl) ?_
  refine z_bipush (v := 42) X dX11_rank_1 (by decide) ?_
  refine z_icmp_ne (tgt := 10) X dX11_rank_3 (by decide) (fun c_ => ?_) (fun c_ => ?_)
  · have hf := (if_neg c_).symm.trans hf
    refine z_iload_n X dX11_rank_10 rfl (lv_at hl 0 rfl) ?_
    refine z_bipush (v := 41) X dX11_rank_11 (by decide) ?_
    refine z_icmp_ne (tgt := 20) X dX11_rank_13 (by decide) (fun c_ => ?_) (fun c_ => ?_)
    · have hf := (if_neg c_).symm.trans hf
      refine z_iload_n X dX11_rank_20 rfl (lv_at hl 0 rfl) ?_
      refine z_bipush (v := 43) X dX11_rank_21 (by decide) ?_
      refine z_icmp_ne (tgt := 30) X dX11_rank_23 (by decide) (fun c_ => ?_) (fun c_ => ?_)
      · have hf := (if_neg c_).symm.trans hf
        refine z_iload_n X dX11_rank_30 rfl (lv_at hl 0 rfl) ?_
        refine z_bipush (v := 38) X dX11_rank_31 (by decide) ?_
        refine z_icmp_eq (tgt := 48) X dX11_rank_33 (by decide) (fun c_ => ?_) (fun c_ => ?_)
        · have hf := (if_pos c_).symm.trans hf
          refine z_iconst (v := 4) X dX11_rank_48 (by decide) ?_
          refine z_goto (tgt := 70) X dX11_rank_49 (by decide) ?_
          exact m_iretS X Z hf rfl dX11_rank_70
        · have hf := (if_neg c_).symm.trans hf
          refine z_iload_n X dX11_rank_36 rfl (lv_at hl 0 rfl) ?_
          refine z_bipush (v := 39) X dX11_rank_37 (by decide) ?_
          refine z_icmp_eq (tgt := 48) X dX11_rank_39 (by decide) (fun c_ => ?_) (fun c_ => ?_)
          · have hf := (if_pos c_).symm.trans hf
            refine z_iconst (v := 4) X dX11_rank_48 (by decide) ?_
            refine z_goto (tgt := 70) X dX11_rank_49 (by decide) ?_
            exact m_iretS X Z hf rfl dX11_rank_70
          · have hf := (if_neg c_).symm.trans hf
            refine z_iload_n X dX11_rank_42 rfl (lv_at hl 0 rfl) ?_
            refine z_bipush (v := 40) X dX11_rank_43 (by decide) ?_
            refine z_icmp_ne (tgt := 52) X dX11_rank_45 (by decide) (fun c_ => ?_) (fun c_ => ?_)
            · have hf := (if_neg c_).symm.trans hf
              refine z_iload_n X dX11_rank_52 rfl (lv_at hl 0 rfl) ?_
              refine z_bipush (v := 31) X dX11_rank_53 (by decide) ?_
              refine z_icmp_eq (tgt := 64) X dX11_rank_55 (by decide) (fun c_ => ?_) (fun c_ => ?_)
              · have hf := (if_pos c_).symm.trans hf
                refine z_iconst (v := 5) X dX11_rank_64 (by decide) ?_
                refine z_goto (tgt := 70) X dX11_rank_65 (by decide) ?_
                exact m_iretS X Z hf rfl dX11_rank_70
              · have hf := (if_neg c_).symm.trans hf
                refine z_iload_n X dX11_rank_58 rfl (lv_at hl 0 rfl) ?_
                refine z_bipush (v := 32) X dX11_rank_59 (by decide) ?_
                refine z_icmp_ne (tgt := 68) X dX11_rank_61 (by decide) (fun c_ => ?_) (fun c_ => ?_)
                · have hf := (if_neg c_).symm.trans hf
                  refine z_bipush (v := 6) X dX11_rank_68 (by decide) ?_
                  exact m_iretS X Z hf rfl dX11_rank_70
                · have hf := (if_pos c_).symm.trans hf
                  refine z_iconst (v := 5) X dX11_rank_64 (by decide) ?_
                  refine z_goto (tgt := 70) X dX11_rank_65 (by decide) ?_
                  exact m_iretS X Z hf rfl dX11_rank_70
            · have hf := (if_pos c_).symm.trans hf
              refine z_iconst (v := 4) X dX11_rank_48 (by decide) ?_
              refine z_goto (tgt := 70) X dX11_rank_49 (by decide) ?_
              exact m_iretS X Z hf rfl dX11_rank_70
      · have hf := (if_pos c_).symm.trans hf
        refine z_iconst (v := 3) X dX11_rank_26 (by decide) ?_
        refine z_goto (tgt := 70) X dX11_rank_27 (by decide) ?_
        exact m_iretS X Z hf rfl dX11_rank_70
    · have hf := (if_pos c_).symm.trans hf
      refine z_iconst (v := 2) X dX11_rank_16 (by decide) ?_
      refine z_goto (tgt := 70) X dX11_rank_17 (by decide) ?_
      exact m_iretS X Z hf rfl dX11_rank_70
  · have hf := (if_pos c_).symm.trans hf
    refine z_iconst (v := 1) X dX11_rank_6 (by decide) ?_
    refine z_goto (tgt := 70) X dX11_rank_7 (by decide) ?_
    exact m_iretS X Z hf rfl dX11_rank_70

theorem c_rank (D : va_G) (cy : Nat → ClassId) (ad : Nat → Nat) {x0 : Int32} {V : zI} {L : zL} {r' : Int32} (hf : f_rank x0 = some r') : RMi (zR D cy ad) yX11_rank cX11_rank 1 .int 0 0 [.int x0] V L r' V L :=
  RMi.of (by decide) zR_nd (Nat.le_of_ble_eq_true rfl) (fun M X Z ls hl => w_rank X Z x0 ls hl hf)
def b_joins_0 (k0 : Int32 × zI × zL → Option (zI × zL)) : Int32 × zI × zL → Option (zI × zL) := fun ⟨x1, V, L⟩ =>
  if inB ((V 0 33) - 1) 20 then (if (V 0 36) ≤ (V 17 ((V 0 33) - 1).toNatClampNeg) then some (V, L) else if inB ((V 0 36) - 1) 500 then (f_rank (V 18 ((V 0 36) - 1).toNatClampNeg)).bind fun r3 => (if r3 < x1 then some (V, L) else if inB ((z_uI V 0 36 ((V 0 36) - 1)) 0 36) 500 then (f_add ((z_uI V 0 36 ((V 0 36) - 1)) 18 ((z_uI V 0 36 ((V 0 36) - 1)) 0 36).toNatClampNeg) 0 (z_uI V 0 36 ((V 0 36) - 1)) L).bind fun r5 => if inB (r5.1 0 36) 500 then (if (r5.1 18 (r5.1 0 36).toNatClampNeg) = 43 then k0 (x1, z_uI r5.1 0 34 ((r5.1 0 34) - 1), r5.2) else k0 (x1, r5.1, r5.2)) else none else none) else none) else none
def f_joins (x1 : Int32) (V : zI) (L : zL) : Option (zI × zL) :=
  zfix (b_joins_0) FU (x1, V, L)
set_option maxHeartbeats 4000000 in
set_option maxRecDepth 100000 in
theorem w_joins_0 {M : zM} {D : va_G} {cy : Nat → ClassId} {ad : Nat → Nat} {r' : zI × zL} (X : RX M (zR D cy ad) cX11_joins 2 RX11 1 22) (Z : RZv M (zR D cy ad) r'.1 r'.2) (n : Nat) : ∀ (x1 : Int32) (V : zI) (L : zL) (ls : Array Slot) (hl : lv_has ls 2 [(0, .ref (ad 0)), (1, .int x1)]) (hf : zfix (b_joins_0) n (x1, V, L) = some r'), RG M (zR D cy ad) V L 0 ls [] := by
  induction n with
  | zero => intro x1 V L ls hl hf; cases hf
  | succ n ih =>
  intro x1 V L ls hl hf
  have hk0 : ∀ (x1 : Int32) (V : zI) (L : zL) (ls : Array Slot), lv_has ls 2 [(0, .ref (ad 0)), (1, .int x1)] → zfix (b_joins_0) n (x1, V, L) = some r' → RG M (zR D cy ad) V L 0 ls [] := ih
  have hf : b_joins_0 (zfix (b_joins_0) n) (x1, V, L) = some r' := hf
  generalize zfix (b_joins_0) n = k0 at hk0 hf
  unfold b_joins_0 at hf
  clear ih
  refine z_aload_n X dX11_joins_0 rfl (lv_at hl 0 rfl) ?_
  refine m_geti X ff_36 dX11_joins_1 ?_
  refine z_aload_n X dX11_joins_4 rfl (lv_at hl 0 rfl) ?_
  refine m_geta X ff_32 dX11_joins_5 ?_
  refine z_aload_n X dX11_joins_8 rfl (lv_at hl 0 rfl) ?_
  refine m_geti X ff_33 dX11_joins_9 ?_
  refine z_iconst (v := 1) X dX11_joins_12 (by decide) ?_
  refine z_isub X dX11_joins_13 ?_
  obtain ⟨hb1, hf⟩ := z_ite hf
  refine m_iald X pa_17 hb1 dX11_joins_14 ?_
  refine z_icmp_le (tgt := 87) X dX11_joins_15 (by decide) (fun c_ => ?_) (fun c_ => ?_)
  · have hf := (if_pos c_).symm.trans hf
    exact m_vret X Z hf dX11_joins_87
  · have hf := (if_neg c_).symm.trans hf
    refine z_aload_n X dX11_joins_18 rfl (lv_at hl 0 rfl) ?_
    refine m_geta X ff_35 dX11_joins_19 ?_
    refine z_aload_n X dX11_joins_22 rfl (lv_at hl 0 rfl) ?_
    refine m_geti X ff_36 dX11_joins_23 ?_
    refine z_iconst (v := 1) X dX11_joins_26 (by decide) ?_
    refine z_isub X dX11_joins_27 ?_
    obtain ⟨hb2, hf⟩ := z_ite hf
    refine m_iald X pa_18 hb2 dX11_joins_28 ?_
    obtain ⟨r3, hc3, hf⟩ := z_bind hf
    refine m_callSi [.int (V 18 ((V 0 36) - 1).toNatClampNeg)] X hl.1 (c_rank D cy ad hc3) gm_rank pd_rank rfl ⟨by decide, by decide⟩ (Nat.le_of_ble_eq_true rfl) rfl dX11_joins_29 ?_
    refine z_iload_n X dX11_joins_32 rfl (lv_at hl 1 rfl) ?_
    refine z_icmp_lt (tgt := 87) X dX11_joins_33 (by decide) (fun c_ => ?_) (fun c_ => ?_)
    · have hf := (if_pos c_).symm.trans hf
      exact m_vret X Z hf dX11_joins_87
    · have hf := (if_neg c_).symm.trans hf
      refine z_aload_n X dX11_joins_36 rfl (lv_at hl 0 rfl) ?_
      refine z_dup X dX11_joins_37 rfl ?_
      refine m_geti X ff_36 dX11_joins_38 ?_
      refine z_iconst (v := 1) X dX11_joins_41 (by decide) ?_
      refine z_isub X dX11_joins_42 ?_
      refine m_puti X fp_36 dX11_joins_43 ?_
      refine z_aload_n X dX11_joins_46 rfl (lv_at hl 0 rfl) ?_
      refine z_aload_n X dX11_joins_47 rfl (lv_at hl 0 rfl) ?_
      refine m_geta X ff_35 dX11_joins_48 ?_
      refine z_aload_n X dX11_joins_51 rfl (lv_at hl 0 rfl) ?_
      refine m_geti X ff_36 dX11_joins_52 ?_
      obtain ⟨hb4, hf⟩ := z_ite hf
      refine m_iald X pa_18 hb4 dX11_joins_55 ?_
      refine z_iconst (v := 0) X dX11_joins_56 (by decide) ?_
      obtain ⟨r5, hc5, hf⟩ := z_bind hf
      refine m_callVv [.int ((z_uI V 0 36 ((V 0 36) - 1)) 18 ((z_uI V 0 36 ((V 0 36) - 1)) 0 36).toNatClampNeg), .int 0] X hl.1 (c_add D cy ad hc5) gm_add pd_add rfl ⟨by decide, by decide⟩ (Nat.le_of_ble_eq_true rfl) rfl dX11_joins_57 ?_
      refine z_aload_n X dX11_joins_60 rfl (lv_at hl 0 rfl) ?_
      refine m_geta X ff_35 dX11_joins_61 ?_
      refine z_aload_n X dX11_joins_64 rfl (lv_at hl 0 rfl) ?_
      refine m_geti X ff_36 dX11_joins_65 ?_
      obtain ⟨hb6, hf⟩ := z_ite hf
      refine m_iald X pa_18 hb6 dX11_joins_68 ?_
      refine z_bipush (v := 43) X dX11_joins_69 (by decide) ?_
      refine z_icmp_ne (tgt := 0) X dX11_joins_71 (by decide) (fun c_ => ?_) (fun c_ => ?_)
      · have hf := (if_neg c_).symm.trans hf
        exact hk0 x1 r5.1 r5.2 ls (lv_sub hl [0, 1] rfl) hf
      · have hf := (if_pos c_).symm.trans hf
        refine z_aload_n X dX11_joins_74 rfl (lv_at hl 0 rfl) ?_
        refine z_dup X dX11_joins_75 rfl ?_
        refine m_geti X ff_34 dX11_joins_76 ?_
        refine z_iconst (v := 1) X dX11_joins_79 (by decide) ?_
        refine z_isub X dX11_joins_80 ?_
        refine m_puti X fp_34 dX11_joins_81 ?_
        refine z_goto (tgt := 0) X dX11_joins_84 (by decide) ?_
        exact hk0 x1 (z_uI r5.1 0 34 ((r5.1 0 34) - 1)) r5.2 ls (lv_sub hl [0, 1] rfl) hf

set_option maxHeartbeats 4000000 in
set_option maxRecDepth 100000 in
theorem w_joins {M : zM} {D : va_G} {cy : Nat → ClassId} {ad : Nat → Nat} {r' : zI × zL} (X : RX M (zR D cy ad) cX11_joins 2 RX11 1 22) (Z : RZv M (zR D cy ad) r'.1 r'.2) (x1 : Int32) (V : zI) (L : zL) (ls : Array Slot) (hl : lv_has ls 2 [(0, .ref (ad 0)), (1, .int x1)]) (hf : f_joins x1 V L = some r') : RG M (zR D cy ad) V L 0 ls [] := by
  unfold f_joins at hf
  exact w_joins_0 X Z FU x1 V L ls (lv_sub hl [0, 1] rfl) hf

theorem c_joins (D : va_G) (cy : Nat → ClassId) (ad : Nat → Nat) {x1 : Int32} {V : zI} {L : zL} {r' : zI × zL} (hf : f_joins x1 V L = some r') : RMv (zR D cy ad) yX11_joins cX11_joins 2 1 22 [.ref (ad 0), .int x1] V L r'.1 r'.2 :=
  RMv.of (by decide) zR_nd (Nat.le_of_ble_eq_true rfl) (fun M X Z ls hl => w_joins X Z x1 V L ls hl hf)
def f_holdsBack (x1 : Int32) (V : zI) (L : zL) : Option (zI × zL) :=
  if inB (V 0 36) 500 then some (z_uI (z_uI V 18 (V 0 36).toNatClampNeg x1) 0 36 (((z_uI V 18 (V 0 36).toNatClampNeg x1) 0 36) + 1), L) else none
set_option maxHeartbeats 4000000 in
set_option maxRecDepth 100000 in
theorem w_holdsBack {M : zM} {D : va_G} {cy : Nat → ClassId} {ad : Nat → Nat} {r' : zI × zL} (X : RX M (zR D cy ad) cX11_holdsBack 2 RX11 0 0) (Z : RZv M (zR D cy ad) r'.1 r'.2) (x1 : Int32) (V : zI) (L : zL) (ls : Array Slot) (hl : lv_has ls 2 [(0, .ref (ad 0)), (1, .int x1)]) (hf : f_holdsBack x1 V L = some r') : RG M (zR D cy ad) V L 0 ls [] := by
  unfold f_holdsBack at hf
  refine z_aload_n X dX11_holdsBack_0 rfl (lv_at hl 0 rfl) ?_
  refine m_geta X ff_35 dX11_holdsBack_1 ?_
  refine z_aload_n X dX11_holdsBack_4 rfl (lv_at hl 0 rfl) ?_
  refine m_geti X ff_36 dX11_holdsBack_5 ?_
  refine z_iload_n X dX11_holdsBack_8 rfl (lv_at hl 1 rfl) ?_
  obtain ⟨hb1, hf⟩ := z_ite hf
  refine m_iast X pa_18 hb1 dX11_holdsBack_9 ?_
  refine z_aload_n X dX11_holdsBack_10 rfl (lv_at hl 0 rfl) ?_
  refine z_dup X dX11_holdsBack_11 rfl ?_
  refine m_geti X ff_36 dX11_holdsBack_12 ?_
  refine z_iconst (v := 1) X dX11_holdsBack_15 (by decide) ?_
  refine z_iadd X dX11_holdsBack_16 ?_
  refine m_puti X fp_36 dX11_holdsBack_17 ?_
  exact m_vret X Z hf dX11_holdsBack_20

theorem c_holdsBack (D : va_G) (cy : Nat → ClassId) (ad : Nat → Nat) {x1 : Int32} {V : zI} {L : zL} {r' : zI × zL} (hf : f_holdsBack x1 V L = some r') : RMv (zR D cy ad) yX11_holdsBack cX11_holdsBack 2 0 0 [.ref (ad 0), .int x1] V L r'.1 r'.2 :=
  RMv.of (by decide) zR_nd (Nat.le_of_ble_eq_true rfl) (fun M X Z ls hl => w_holdsBack X Z x1 V L ls hl hf)
