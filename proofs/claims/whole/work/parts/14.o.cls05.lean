def g_X10_octet (N : Nat → Nat) (G : zG) (p0 : Nat) (p0_14 : Nat) (V : zI) (L : zL) (x1 : Int32) : Option (Int32) :=
  (if x1 < 0 then some (-1) else (if (V p0 15) ≤ x1 then some (-1) else if inB x1 (N p0_14) then some (V p0_14 x1.toNatClampNeg) else none))
def f_X10_octet (N : Nat → Nat) (G : zG) (p0 : Nat) (x1 : Int32) (V : zI) (L : zL) : Option (Int32) :=
  (G p0 14).bind fun p0_14 => g_X10_octet N G p0 p0_14 V L x1
set_option maxHeartbeats 4000000 in
set_option maxRecDepth 100000 in
theorem w_X10_octet {M : zM} {D : va_G} {cy : Nat → ClassId} {ad : Nat → Nat} {n : Nat} {K N : Nat → Nat} {G : zG} {V : zI} {L : zL} {r' : Int32} (X : RXc M D cy ad n K N G cX10_octet 2 RX10 0 0) (Z : RZi M (zC D cy ad n K N G) .int r' V L) {p0 : Nat} (hp0 : p0 < n ∧ K p0 = 8) {p0_14 : Nat} (hp0_14 : p0_14 < n ∧ K p0_14 = 100) (ep0_14 : G p0 14 = some p0_14) (x1 : Int32) (ls : Array Slot) (hl : lv_has ls 2 [(0, .ref (ad p0)), (1, .int x1)]) (hf : g_X10_octet N G p0 p0_14 V L x1 = some r') : RG M (zC D cy ad n K N G) V L 0 ls [] := by
  unfold g_X10_octet at hf
  refine z_iload_n X.1 dX10_octet_0 rfl (lv_at hl 1 rfl) ?_
  refine z_if_lt (tgt := 21) X.1 dX10_octet_1 (by decide) (fun c_ => ?_) (fun c_ => ?_)
  · have hf := (if_pos c_).symm.trans hf
    refine z_iconst (v := -1) X.1 dX10_octet_21 (by decide) ?_
    exact c_iretS X Z hf rfl dX10_octet_22
  · have hf := (if_neg c_).symm.trans hf
    refine z_iload_n X.1 dX10_octet_4 rfl (lv_at hl 1 rfl) ?_
    refine z_aload_n X.1 dX10_octet_5 rfl (lv_at hl 0 rfl) ?_
    refine c_geti X hp0 cf_X10_74 dX10_octet_6 ?_
    refine z_icmp_ge (tgt := 21) X.1 dX10_octet_9 (by decide) (fun c_ => ?_) (fun c_ => ?_)
    · have hf := (if_pos c_).symm.trans hf
      refine z_iconst (v := -1) X.1 dX10_octet_21 (by decide) ?_
      exact c_iretS X Z hf rfl dX10_octet_22
    · have hf := (if_neg c_).symm.trans hf
      refine z_aload_n X.1 dX10_octet_12 rfl (lv_at hl 0 rfl) ?_
      refine c_geta X hp0 cf_X10_71 ep0_14 dX10_octet_13 ?_
      refine z_iload_n X.1 dX10_octet_16 rfl (lv_at hl 1 rfl) ?_
      obtain ⟨hb1, hf⟩ := z_ite hf
      refine c_iald X hp0_14 hb1 dX10_octet_17 ?_
      refine z_goto (tgt := 22) X.1 dX10_octet_18 (by decide) ?_
      exact c_iretS X Z hf rfl dX10_octet_22

theorem c_X10_octet (D : va_G) (cy : Nat → ClassId) (ad : Nat → Nat) {n : Nat} {K N : Nat → Nat} {G : zG} (hWF : zWF n K G) {p0 : Nat} {x1 : Int32} {V : zI} {L : zL} (hp0 : p0 < n ∧ K p0 = 8) {r' : Int32} (hf : f_X10_octet N G p0 x1 V L = some r') : RCi (zC D cy ad n K N G) yX10_octet cX10_octet 2 .int 0 0 [.ref (ad p0), .int x1] V L r' V L := by
  unfold f_X10_octet at hf
  obtain ⟨p0_14, ep0_14, hf⟩ := z_bind hf
  have hp0_14 := hWF.get hp0 (k := 14) (c := 100) rfl ep0_14
  exact RCi.of (by decide) hWF (Nat.le_of_ble_eq_true rfl) (fun M X Z ls hl => w_X10_octet X Z hp0 hp0_14 ep0_14 x1 ls hl hf)
def f_X3_checkFits_37 (N : Nat → Nat) (G : zG) (p0 : Nat) (V : zI) (L : zL) (x1 : Int32) (x2 : Int32) : Option (Int32) :=
  (if x1 ≤ 0 then some 0 else (if (Int32.ofNat (N p0)) < x1 then some 0 else if inB (x1 - 1) (N p0) then (if x2 = ((V p0 (x1 - 1).toNatClampNeg) &&& 255) then some 1 else some 0) else none))
def b_X3_checkFits_6 (N : Nat → Nat) (G : zG) (p0 : Nat) (V : zI) (L : zL) (k6 : Int32 × Int32 × Int32 → Option (Int32)) : Int32 × Int32 × Int32 → Option (Int32) := fun ⟨x1, x2, x3⟩ =>
  (if (x1 - 1) ≤ x3 then f_X3_checkFits_37 N G p0 V L x1 x2 else (if (Int32.ofNat (N p0)) ≤ x3 then f_X3_checkFits_37 N G p0 V L x1 x2 else if inB x3 (N p0) then (f_X3_checkOn x2 ((V p0 x3.toNatClampNeg) &&& 255)).bind fun r2 => k6 (x1, r2, (x3 + 1)) else none))
def g_X3_checkFits (N : Nat → Nat) (G : zG) (p0 : Nat) (V : zI) (L : zL) (x1 : Int32) : Option (Int32) :=
  zfix (b_X3_checkFits_6 N G p0 V L) FU (x1, 191, 0)
def f_X3_checkFits (N : Nat → Nat) (G : zG) (p0 : Nat) (x1 : Int32) (V : zI) (L : zL) : Option (Int32) :=
  g_X3_checkFits N G p0 V L x1
set_option maxHeartbeats 4000000 in
set_option maxRecDepth 100000 in
theorem w_X3_checkFits_37 {M : zM} {D : va_G} {cy : Nat → ClassId} {ad : Nat → Nat} {n : Nat} {K N : Nat → Nat} {G : zG} {V : zI} {L : zL} {r' : Int32} (X : RXc M D cy ad n K N G cX3_checkFits 4 RX3 1 21) (Z : RZi M (zC D cy ad n K N G) .boolean r' V L) {p0 : Nat} (hp0 : p0 < n ∧ K p0 = 101) (x1 : Int32) (x2 : Int32) (ls : Array Slot) (hl : lv_has ls 4 [(0, .ref (ad p0)), (1, .int x1), (2, .int x2)]) (hf : f_X3_checkFits_37 N G p0 V L x1 x2 = some r') : RG M (zC D cy ad n K N G) V L 37 ls [] := by
  unfold f_X3_checkFits_37 at hf
  refine z_iload_n X.1 dX3_checkFits_37 rfl (lv_at hl 1 rfl) ?_
  refine z_if_le (tgt := 64) X.1 dX3_checkFits_38 (by decide) (fun c_ => ?_) (fun c_ => ?_)
  · have hf := (if_pos c_).symm.trans hf
    refine z_iconst (v := 0) X.1 dX3_checkFits_64 (by decide) ?_
    exact c_iretS X Z hf (by decide) dX3_checkFits_65
  · have hf := (if_neg c_).symm.trans hf
    refine z_iload_n X.1 dX3_checkFits_41 rfl (lv_at hl 1 rfl) ?_
    refine z_aload_n X.1 dX3_checkFits_42 rfl (lv_at hl 0 rfl) ?_
    refine c_alen101 X hp0 dX3_checkFits_43 ?_
    refine z_icmp_gt (tgt := 64) X.1 dX3_checkFits_44 (by decide) (fun c_ => ?_) (fun c_ => ?_)
    · have hf := (if_pos c_).symm.trans hf
      refine z_iconst (v := 0) X.1 dX3_checkFits_64 (by decide) ?_
      exact c_iretS X Z hf (by decide) dX3_checkFits_65
    · have hf := (if_neg c_).symm.trans hf
      refine z_iload_n X.1 dX3_checkFits_47 rfl (lv_at hl 2 rfl) ?_
      refine z_aload_n X.1 dX3_checkFits_48 rfl (lv_at hl 0 rfl) ?_
      refine z_iload_n X.1 dX3_checkFits_49 rfl (lv_at hl 1 rfl) ?_
      refine z_iconst (v := 1) X.1 dX3_checkFits_50 (by decide) ?_
      refine z_isub X.1 dX3_checkFits_51 ?_
      obtain ⟨hb1, hf⟩ := z_ite hf
      refine c_bald X hp0 hb1 dX3_checkFits_52 ?_
      refine z_sipush (v := 255) X.1 dX3_checkFits_53 (by decide) ?_
      refine z_iand X.1 dX3_checkFits_56 ?_
      refine z_icmp_ne (tgt := 64) X.1 dX3_checkFits_57 (by decide) (fun c_ => ?_) (fun c_ => ?_)
      · have hf := (if_neg c_).symm.trans hf
        refine z_iconst (v := 0) X.1 dX3_checkFits_64 (by decide) ?_
        exact c_iretS X Z hf (by decide) dX3_checkFits_65
      · have hf := (if_pos c_).symm.trans hf
        refine z_iconst (v := 1) X.1 dX3_checkFits_60 (by decide) ?_
        refine z_goto (tgt := 65) X.1 dX3_checkFits_61 (by decide) ?_
        exact c_iretS X Z hf (by decide) dX3_checkFits_65

set_option maxHeartbeats 4000000 in
set_option maxRecDepth 100000 in
theorem w_X3_checkFits_6 {M : zM} {D : va_G} {cy : Nat → ClassId} {ad : Nat → Nat} {n : Nat} {K N : Nat → Nat} {G : zG} {V : zI} {L : zL} {r' : Int32} (X : RXc M D cy ad n K N G cX3_checkFits 4 RX3 1 21) (Z : RZi M (zC D cy ad n K N G) .boolean r' V L) {p0 : Nat} (hp0 : p0 < n ∧ K p0 = 101) (nn : Nat) : ∀ (x1 : Int32) (x2 : Int32) (x3 : Int32) (ls : Array Slot) (hl : lv_has ls 4 [(0, .ref (ad p0)), (1, .int x1), (2, .int x2), (3, .int x3)]) (hf : zfix (b_X3_checkFits_6 N G p0 V L) nn (x1, x2, x3) = some r'), RG M (zC D cy ad n K N G) V L 6 ls [] := by
  induction nn with
  | zero => intro x1 x2 x3 ls hl hf; cases hf
  | succ nn ih =>
  intro x1 x2 x3 ls hl hf
  have hk6 : ∀ (x1 : Int32) (x2 : Int32) (x3 : Int32) (ls : Array Slot), lv_has ls 4 [(0, .ref (ad p0)), (1, .int x1), (2, .int x2), (3, .int x3)] → zfix (b_X3_checkFits_6 N G p0 V L) nn (x1, x2, x3) = some r' → RG M (zC D cy ad n K N G) V L 6 ls [] := ih
  have hf : b_X3_checkFits_6 N G p0 V L (zfix (b_X3_checkFits_6 N G p0 V L) nn) (x1, x2, x3) = some r' := hf
  generalize zfix (b_X3_checkFits_6 N G p0 V L) nn = k6 at hk6 hf
  clear ih
  unfold b_X3_checkFits_6 at hf
  refine z_iload_n X.1 dX3_checkFits_6 rfl (lv_at hl 3 rfl) ?_
  refine z_iload_n X.1 dX3_checkFits_7 rfl (lv_at hl 1 rfl) ?_
  refine z_iconst (v := 1) X.1 dX3_checkFits_8 (by decide) ?_
  refine z_isub X.1 dX3_checkFits_9 ?_
  refine z_icmp_ge (tgt := 37) X.1 dX3_checkFits_10 (by decide) (fun c_ => ?_) (fun c_ => ?_)
  · have hf := (if_pos c_).symm.trans hf
    exact w_X3_checkFits_37 X Z hp0 x1 x2 ls (lv_sub hl [0, 1, 2] rfl) hf
  · have hf := (if_neg c_).symm.trans hf
    refine z_iload_n X.1 dX3_checkFits_13 rfl (lv_at hl 3 rfl) ?_
    refine z_aload_n X.1 dX3_checkFits_14 rfl (lv_at hl 0 rfl) ?_
    refine c_alen101 X hp0 dX3_checkFits_15 ?_
    refine z_icmp_ge (tgt := 37) X.1 dX3_checkFits_16 (by decide) (fun c_ => ?_) (fun c_ => ?_)
    · have hf := (if_pos c_).symm.trans hf
      exact w_X3_checkFits_37 X Z hp0 x1 x2 ls (lv_sub hl [0, 1, 2] rfl) hf
    · have hf := (if_neg c_).symm.trans hf
      refine z_iload_n X.1 dX3_checkFits_19 rfl (lv_at hl 2 rfl) ?_
      refine z_aload_n X.1 dX3_checkFits_20 rfl (lv_at hl 0 rfl) ?_
      refine z_iload_n X.1 dX3_checkFits_21 rfl (lv_at hl 3 rfl) ?_
      obtain ⟨hb1, hf⟩ := z_ite hf
      refine c_bald X hp0 hb1 dX3_checkFits_22 ?_
      refine z_sipush (v := 255) X.1 dX3_checkFits_23 (by decide) ?_
      refine z_iand X.1 dX3_checkFits_26 ?_
      obtain ⟨r2, hc2, hf⟩ := z_bind hf
      refine c_callSi [.int x2, .int ((V p0 x3.toNatClampNeg) &&& 255)] X hl.1 (c_X3_checkOn D cy ad X.2.2 hc2) cm_X3_45 cw_X3_checkOn rfl cq_X3_checkOn ⟨by decide, by decide⟩ (Nat.le_of_ble_eq_true rfl) rfl dX3_checkFits_27 ?_
      refine z_istore_n (lv' := [(2, .int r2), (0, .ref (ad p0)), (1, .int x1), (3, .int x3)]) X.1 dX3_checkFits_30 rfl hl (by decide) rfl (fun ls hl => ?_)
      refine z_iinc (v := x3 + 1) (k0 := 3) (lv' := [(3, .int (x3 + 1)), (2, .int r2), (0, .ref (ad p0)), (1, .int x1)]) X.1 dX3_checkFits_31 hl rfl rfl (by decide) rfl (fun ls hl => ?_)
      refine z_goto (tgt := 6) X.1 dX3_checkFits_34 (by decide) ?_
      exact hk6 x1 r2 (x3 + 1) ls (lv_sub hl [2, 3, 1, 0] rfl) hf

set_option maxHeartbeats 4000000 in
set_option maxRecDepth 100000 in
theorem w_X3_checkFits {M : zM} {D : va_G} {cy : Nat → ClassId} {ad : Nat → Nat} {n : Nat} {K N : Nat → Nat} {G : zG} {V : zI} {L : zL} {r' : Int32} (X : RXc M D cy ad n K N G cX3_checkFits 4 RX3 1 21) (Z : RZi M (zC D cy ad n K N G) .boolean r' V L) {p0 : Nat} (hp0 : p0 < n ∧ K p0 = 101) (x1 : Int32) (ls : Array Slot) (hl : lv_has ls 4 [(0, .ref (ad p0)), (1, .int x1)]) (hf : g_X3_checkFits N G p0 V L x1 = some r') : RG M (zC D cy ad n K N G) V L 0 ls [] := by
  unfold g_X3_checkFits at hf
  refine z_sipush (v := 191) X.1 dX3_checkFits_0 (by decide) ?_
  refine z_istore_n (lv' := [(2, .int 191), (0, .ref (ad p0)), (1, .int x1)]) X.1 dX3_checkFits_3 rfl hl (by decide) rfl (fun ls hl => ?_)
  refine z_iconst (v := 0) X.1 dX3_checkFits_4 (by decide) ?_
  refine z_istore_n (lv' := [(3, .int 0), (2, .int 191), (0, .ref (ad p0)), (1, .int x1)]) X.1 dX3_checkFits_5 rfl hl (by decide) rfl (fun ls hl => ?_)
  exact w_X3_checkFits_6 X Z hp0 FU x1 191 0 ls (lv_sub hl [2, 3, 1, 0] rfl) hf

theorem c_X3_checkFits (D : va_G) (cy : Nat → ClassId) (ad : Nat → Nat) {n : Nat} {K N : Nat → Nat} {G : zG} (hWF : zWF n K G) {p0 : Nat} {x1 : Int32} {V : zI} {L : zL} (hp0 : p0 < n ∧ K p0 = 101) {r' : Int32} (hf : f_X3_checkFits N G p0 x1 V L = some r') : RCi (zC D cy ad n K N G) yX3_checkFits cX3_checkFits 4 .boolean 1 21 [.ref (ad p0), .int x1] V L r' V L := by
  unfold f_X3_checkFits at hf
  exact RCi.of (by decide) hWF (Nat.le_of_ble_eq_true rfl) (fun M X Z ls hl => w_X3_checkFits X Z hp0 x1 ls hl hf)
def b_X3_readCounts_5 (N : Nat → Nat) (G : zG) (p0 : Nat) (p1 : Nat) (p2 : Nat) (p2_1 : Nat) (p2_2 : Nat) (p2_3 : Nat) (k5 : Int32 × Int32 × zI × zL → Option (Int32 × zI × zL)) : Int32 × Int32 × zI × zL → Option (Int32 × zI × zL) := fun ⟨x3, x4, V, L⟩ =>
  (if 36 ≤ x4 then some (1, V, L) else (f_X9_isPair N G p1 (x4 / 6) (x4 - x4 / 6 * 6) V L).bind fun r1 => (if r1 = 0 then k5 (x3, (x4 + 1), V, L) else (if (Int32.ofNat (N p0)) ≤ (x3 + 2) then k5 (x3, (x4 + 1), V, L) else if inB x3 (N p0) then if inB x4 (N p2_1) then if inB (x3 + 1) (N p0) then if inB x4 (N p2_2) then if inB (x3 + 2) (N p0) then if inB x4 (N p2_3) then if inB x4 (N p2_1) then if inB x4 (N p2_2) then if inB x4 (N p2_3) then (if (if ((z_uI (z_uI (z_uI V p2_1 x4.toNatClampNeg ((V p0 x3.toNatClampNeg) &&& 255)) p2_2 x4.toNatClampNeg (((z_uI V p2_1 x4.toNatClampNeg ((V p0 x3.toNatClampNeg) &&& 255)) p0 (x3 + 1).toNatClampNeg) &&& 255)) p2_3 x4.toNatClampNeg (((z_uI (z_uI V p2_1 x4.toNatClampNeg ((V p0 x3.toNatClampNeg) &&& 255)) p2_2 x4.toNatClampNeg (((z_uI V p2_1 x4.toNatClampNeg ((V p0 x3.toNatClampNeg) &&& 255)) p0 (x3 + 1).toNatClampNeg) &&& 255)) p0 (x3 + 2).toNatClampNeg) &&& 255)) p2_1 x4.toNatClampNeg) < (if ((z_uI (z_uI (z_uI V p2_1 x4.toNatClampNeg ((V p0 x3.toNatClampNeg) &&& 255)) p2_2 x4.toNatClampNeg (((z_uI V p2_1 x4.toNatClampNeg ((V p0 x3.toNatClampNeg) &&& 255)) p0 (x3 + 1).toNatClampNeg) &&& 255)) p2_3 x4.toNatClampNeg (((z_uI (z_uI V p2_1 x4.toNatClampNeg ((V p0 x3.toNatClampNeg) &&& 255)) p2_2 x4.toNatClampNeg (((z_uI V p2_1 x4.toNatClampNeg ((V p0 x3.toNatClampNeg) &&& 255)) p0 (x3 + 1).toNatClampNeg) &&& 255)) p0 (x3 + 2).toNatClampNeg) &&& 255)) p2_2 x4.toNatClampNeg) < ((z_uI (z_uI (z_uI V p2_1 x4.toNatClampNeg ((V p0 x3.toNatClampNeg) &&& 255)) p2_2 x4.toNatClampNeg (((z_uI V p2_1 x4.toNatClampNeg ((V p0 x3.toNatClampNeg) &&& 255)) p0 (x3 + 1).toNatClampNeg) &&& 255)) p2_3 x4.toNatClampNeg (((z_uI (z_uI V p2_1 x4.toNatClampNeg ((V p0 x3.toNatClampNeg) &&& 255)) p2_2 x4.toNatClampNeg (((z_uI V p2_1 x4.toNatClampNeg ((V p0 x3.toNatClampNeg) &&& 255)) p0 (x3 + 1).toNatClampNeg) &&& 255)) p0 (x3 + 2).toNatClampNeg) &&& 255)) p2_3 x4.toNatClampNeg) then ((z_uI (z_uI (z_uI V p2_1 x4.toNatClampNeg ((V p0 x3.toNatClampNeg) &&& 255)) p2_2 x4.toNatClampNeg (((z_uI V p2_1 x4.toNatClampNeg ((V p0 x3.toNatClampNeg) &&& 255)) p0 (x3 + 1).toNatClampNeg) &&& 255)) p2_3 x4.toNatClampNeg (((z_uI (z_uI V p2_1 x4.toNatClampNeg ((V p0 x3.toNatClampNeg) &&& 255)) p2_2 x4.toNatClampNeg (((z_uI V p2_1 x4.toNatClampNeg ((V p0 x3.toNatClampNeg) &&& 255)) p0 (x3 + 1).toNatClampNeg) &&& 255)) p0 (x3 + 2).toNatClampNeg) &&& 255)) p2_3 x4.toNatClampNeg) else ((z_uI (z_uI (z_uI V p2_1 x4.toNatClampNeg ((V p0 x3.toNatClampNeg) &&& 255)) p2_2 x4.toNatClampNeg (((z_uI V p2_1 x4.toNatClampNeg ((V p0 x3.toNatClampNeg) &&& 255)) p0 (x3 + 1).toNatClampNeg) &&& 255)) p2_3 x4.toNatClampNeg (((z_uI (z_uI V p2_1 x4.toNatClampNeg ((V p0 x3.toNatClampNeg) &&& 255)) p2_2 x4.toNatClampNeg (((z_uI V p2_1 x4.toNatClampNeg ((V p0 x3.toNatClampNeg) &&& 255)) p0 (x3 + 1).toNatClampNeg) &&& 255)) p0 (x3 + 2).toNatClampNeg) &&& 255)) p2_2 x4.toNatClampNeg)) then (if ((z_uI (z_uI (z_uI V p2_1 x4.toNatClampNeg ((V p0 x3.toNatClampNeg) &&& 255)) p2_2 x4.toNatClampNeg (((z_uI V p2_1 x4.toNatClampNeg ((V p0 x3.toNatClampNeg) &&& 255)) p0 (x3 + 1).toNatClampNeg) &&& 255)) p2_3 x4.toNatClampNeg (((z_uI (z_uI V p2_1 x4.toNatClampNeg ((V p0 x3.toNatClampNeg) &&& 255)) p2_2 x4.toNatClampNeg (((z_uI V p2_1 x4.toNatClampNeg ((V p0 x3.toNatClampNeg) &&& 255)) p0 (x3 + 1).toNatClampNeg) &&& 255)) p0 (x3 + 2).toNatClampNeg) &&& 255)) p2_2 x4.toNatClampNeg) < ((z_uI (z_uI (z_uI V p2_1 x4.toNatClampNeg ((V p0 x3.toNatClampNeg) &&& 255)) p2_2 x4.toNatClampNeg (((z_uI V p2_1 x4.toNatClampNeg ((V p0 x3.toNatClampNeg) &&& 255)) p0 (x3 + 1).toNatClampNeg) &&& 255)) p2_3 x4.toNatClampNeg (((z_uI (z_uI V p2_1 x4.toNatClampNeg ((V p0 x3.toNatClampNeg) &&& 255)) p2_2 x4.toNatClampNeg (((z_uI V p2_1 x4.toNatClampNeg ((V p0 x3.toNatClampNeg) &&& 255)) p0 (x3 + 1).toNatClampNeg) &&& 255)) p0 (x3 + 2).toNatClampNeg) &&& 255)) p2_3 x4.toNatClampNeg) then ((z_uI (z_uI (z_uI V p2_1 x4.toNatClampNeg ((V p0 x3.toNatClampNeg) &&& 255)) p2_2 x4.toNatClampNeg (((z_uI V p2_1 x4.toNatClampNeg ((V p0 x3.toNatClampNeg) &&& 255)) p0 (x3 + 1).toNatClampNeg) &&& 255)) p2_3 x4.toNatClampNeg (((z_uI (z_uI V p2_1 x4.toNatClampNeg ((V p0 x3.toNatClampNeg) &&& 255)) p2_2 x4.toNatClampNeg (((z_uI V p2_1 x4.toNatClampNeg ((V p0 x3.toNatClampNeg) &&& 255)) p0 (x3 + 1).toNatClampNeg) &&& 255)) p0 (x3 + 2).toNatClampNeg) &&& 255)) p2_3 x4.toNatClampNeg) else ((z_uI (z_uI (z_uI V p2_1 x4.toNatClampNeg ((V p0 x3.toNatClampNeg) &&& 255)) p2_2 x4.toNatClampNeg (((z_uI V p2_1 x4.toNatClampNeg ((V p0 x3.toNatClampNeg) &&& 255)) p0 (x3 + 1).toNatClampNeg) &&& 255)) p2_3 x4.toNatClampNeg (((z_uI (z_uI V p2_1 x4.toNatClampNeg ((V p0 x3.toNatClampNeg) &&& 255)) p2_2 x4.toNatClampNeg (((z_uI V p2_1 x4.toNatClampNeg ((V p0 x3.toNatClampNeg) &&& 255)) p0 (x3 + 1).toNatClampNeg) &&& 255)) p0 (x3 + 2).toNatClampNeg) &&& 255)) p2_2 x4.toNatClampNeg)) else ((z_uI (z_uI (z_uI V p2_1 x4.toNatClampNeg ((V p0 x3.toNatClampNeg) &&& 255)) p2_2 x4.toNatClampNeg (((z_uI V p2_1 x4.toNatClampNeg ((V p0 x3.toNatClampNeg) &&& 255)) p0 (x3 + 1).toNatClampNeg) &&& 255)) p2_3 x4.toNatClampNeg (((z_uI (z_uI V p2_1 x4.toNatClampNeg ((V p0 x3.toNatClampNeg) &&& 255)) p2_2 x4.toNatClampNeg (((z_uI V p2_1 x4.toNatClampNeg ((V p0 x3.toNatClampNeg) &&& 255)) p0 (x3 + 1).toNatClampNeg) &&& 255)) p0 (x3 + 2).toNatClampNeg) &&& 255)) p2_1 x4.toNatClampNeg)) ≤ 99 then k5 ((x3 + 3), (x4 + 1), z_uI (z_uI (z_uI V p2_1 x4.toNatClampNeg ((V p0 x3.toNatClampNeg) &&& 255)) p2_2 x4.toNatClampNeg (((z_uI V p2_1 x4.toNatClampNeg ((V p0 x3.toNatClampNeg) &&& 255)) p0 (x3 + 1).toNatClampNeg) &&& 255)) p2_3 x4.toNatClampNeg (((z_uI (z_uI V p2_1 x4.toNatClampNeg ((V p0 x3.toNatClampNeg) &&& 255)) p2_2 x4.toNatClampNeg (((z_uI V p2_1 x4.toNatClampNeg ((V p0 x3.toNatClampNeg) &&& 255)) p0 (x3 + 1).toNatClampNeg) &&& 255)) p0 (x3 + 2).toNatClampNeg) &&& 255), L) else some (0, z_uI (z_uI (z_uI V p2_1 x4.toNatClampNeg ((V p0 x3.toNatClampNeg) &&& 255)) p2_2 x4.toNatClampNeg (((z_uI V p2_1 x4.toNatClampNeg ((V p0 x3.toNatClampNeg) &&& 255)) p0 (x3 + 1).toNatClampNeg) &&& 255)) p2_3 x4.toNatClampNeg (((z_uI (z_uI V p2_1 x4.toNatClampNeg ((V p0 x3.toNatClampNeg) &&& 255)) p2_2 x4.toNatClampNeg (((z_uI V p2_1 x4.toNatClampNeg ((V p0 x3.toNatClampNeg) &&& 255)) p0 (x3 + 1).toNatClampNeg) &&& 255)) p0 (x3 + 2).toNatClampNeg) &&& 255), L)) else none else none else none else none else none else none else none else none else none)))
def g_X3_readCounts (N : Nat → Nat) (G : zG) (p0 : Nat) (p1 : Nat) (p2 : Nat) (p2_1 : Nat) (p2_2 : Nat) (p2_3 : Nat) (V : zI) (L : zL) : Option (Int32 × zI × zL) :=
  zfix (b_X3_readCounts_5 N G p0 p1 p2 p2_1 p2_2 p2_3) FU (2, 0, V, L)
def f_X3_readCounts (N : Nat → Nat) (G : zG) (p0 : Nat) (p1 : Nat) (p2 : Nat) (V : zI) (L : zL) : Option (Int32 × zI × zL) :=
  (G p2 1).bind fun p2_1 => (G p2 2).bind fun p2_2 => (G p2 3).bind fun p2_3 => g_X3_readCounts N G p0 p1 p2 p2_1 p2_2 p2_3 V L
set_option maxHeartbeats 4000000 in
set_option maxRecDepth 100000 in
theorem w_X3_readCounts_5 {M : zM} {D : va_G} {cy : Nat → ClassId} {ad : Nat → Nat} {n : Nat} {K N : Nat → Nat} {G : zG} {r' : Int32 × zI × zL} (X : RXc M D cy ad n K N G cX3_readCounts 6 RX3 2 43) (Z : RZi M (zC D cy ad n K N G) .boolean r'.1 r'.2.1 r'.2.2) {p0 : Nat} (hp0 : p0 < n ∧ K p0 = 101) {p1 : Nat} (hp1 : p1 < n ∧ K p1 = 7) {p2 : Nat} (hp2 : p2 < n ∧ K p2 = 5) {p2_1 : Nat} (hp2_1 : p2_1 < n ∧ K p2_1 = 100) (ep2_1 : G p2 1 = some p2_1) {p2_2 : Nat} (hp2_2 : p2_2 < n ∧ K p2_2 = 100) (ep2_2 : G p2 2 = some p2_2) {p2_3 : Nat} (hp2_3 : p2_3 < n ∧ K p2_3 = 100) (ep2_3 : G p2 3 = some p2_3) (nn : Nat) : ∀ (x3 : Int32) (x4 : Int32) (V : zI) (L : zL) (ls : Array Slot) (hl : lv_has ls 6 [(0, .ref (ad p0)), (1, .ref (ad p1)), (2, .ref (ad p2)), (3, .int x3), (4, .int x4)]) (hf : zfix (b_X3_readCounts_5 N G p0 p1 p2 p2_1 p2_2 p2_3) nn (x3, x4, V, L) = some r'), RG M (zC D cy ad n K N G) V L 5 ls [] := by
  induction nn with
  | zero => intro x3 x4 V L ls hl hf; cases hf
  | succ nn ih =>
  intro x3 x4 V L ls hl hf
  have hk5 : ∀ (x3 : Int32) (x4 : Int32) (V : zI) (L : zL) (ls : Array Slot), lv_has ls 6 [(0, .ref (ad p0)), (1, .ref (ad p1)), (2, .ref (ad p2)), (3, .int x3), (4, .int x4)] → zfix (b_X3_readCounts_5 N G p0 p1 p2 p2_1 p2_2 p2_3) nn (x3, x4, V, L) = some r' → RG M (zC D cy ad n K N G) V L 5 ls [] := ih
  have hf : b_X3_readCounts_5 N G p0 p1 p2 p2_1 p2_2 p2_3 (zfix (b_X3_readCounts_5 N G p0 p1 p2 p2_1 p2_2 p2_3) nn) (x3, x4, V, L) = some r' := hf
  generalize zfix (b_X3_readCounts_5 N G p0 p1 p2 p2_1 p2_2 p2_3) nn = k5 at hk5 hf
  clear ih
  unfold b_X3_readCounts_5 at hf
  refine z_iload X.1 dX3_readCounts_5 (lv_at hl 4 rfl) ?_
  refine z_bipush (v := 36) X.1 dX3_readCounts_7 (by decide) ?_
  refine z_icmp_ge (tgt := 130) X.1 dX3_readCounts_9 (by decide) (fun c_ => ?_) (fun c_ => ?_)
  · have hf := (if_pos c_).symm.trans hf
    refine z_iconst (v := 1) X.1 dX3_readCounts_130 (by decide) ?_
    exact c_iret X Z hf (by decide) dX3_readCounts_131
  · have hf := (if_neg c_).symm.trans hf
    refine z_aload_n X.1 dX3_readCounts_12 rfl (lv_at hl 1 rfl) ?_
    refine z_iload X.1 dX3_readCounts_13 (lv_at hl 4 rfl) ?_
    refine z_bipush (v := 6) X.1 dX3_readCounts_15 (by decide) ?_
    refine z_idiv X.1 dX3_readCounts_17 (by decide) ?_
    refine z_iload X.1 dX3_readCounts_18 (lv_at hl 4 rfl) ?_
    refine z_bipush (v := 6) X.1 dX3_readCounts_20 (by decide) ?_
    refine z_irem X.1 dX3_readCounts_22 (by decide) ?_
    obtain ⟨r1, hc1, hf⟩ := z_bind hf
    refine c_callVi [.int (x4 / 6), .int (x4 - x4 / 6 * 6)] X hl.1 (c_X9_isPair D cy ad X.2.2 hp1 hc1) hp1 ⟨by decide, rfl⟩ cm_X3_49 cw_X9_isPair rfl cq_X9_isPair ⟨by decide, by decide⟩ (Nat.le_of_ble_eq_true rfl) rfl dX3_readCounts_23 ?_
    refine z_if_eq (tgt := 124) X.1 dX3_readCounts_26 (by decide) (fun c_ => ?_) (fun c_ => ?_)
    · have hf := (if_pos c_).symm.trans hf
      refine z_iinc (v := x4 + 1) (k0 := 4) (lv' := [(4, .int (x4 + 1)), (0, .ref (ad p0)), (1, .ref (ad p1)), (2, .ref (ad p2)), (3, .int x3)]) X.1 dX3_readCounts_124 hl rfl rfl (by decide) rfl (fun ls hl => ?_)
      refine z_goto (tgt := 5) X.1 dX3_readCounts_127 (by decide) ?_
      exact hk5 x3 (x4 + 1) V L ls (lv_sub hl [1, 2, 3, 4, 0] rfl) hf
    · have hf := (if_neg c_).symm.trans hf
      refine z_iload_n X.1 dX3_readCounts_29 rfl (lv_at hl 3 rfl) ?_
      refine z_iconst (v := 2) X.1 dX3_readCounts_30 (by decide) ?_
      refine z_iadd X.1 dX3_readCounts_31 ?_
      refine z_aload_n X.1 dX3_readCounts_32 rfl (lv_at hl 0 rfl) ?_
      refine c_alen101 X hp0 dX3_readCounts_33 ?_
      refine z_icmp_ge (tgt := 124) X.1 dX3_readCounts_34 (by decide) (fun c_ => ?_) (fun c_ => ?_)
      · have hf := (if_pos c_).symm.trans hf
        refine z_iinc (v := x4 + 1) (k0 := 4) (lv' := [(4, .int (x4 + 1)), (0, .ref (ad p0)), (1, .ref (ad p1)), (2, .ref (ad p2)), (3, .int x3)]) X.1 dX3_readCounts_124 hl rfl rfl (by decide) rfl (fun ls hl => ?_)
        refine z_goto (tgt := 5) X.1 dX3_readCounts_127 (by decide) ?_
        exact hk5 x3 (x4 + 1) V L ls (lv_sub hl [1, 2, 3, 4, 0] rfl) hf
      · have hf := (if_neg c_).symm.trans hf
        refine z_aload_n X.1 dX3_readCounts_37 rfl (lv_at hl 2 rfl) ?_
        refine c_geta X hp2 cf_X3_53 ep2_1 dX3_readCounts_38 ?_
        refine z_iload X.1 dX3_readCounts_41 (lv_at hl 4 rfl) ?_
        refine z_aload_n X.1 dX3_readCounts_43 rfl (lv_at hl 0 rfl) ?_
        refine z_iload_n X.1 dX3_readCounts_44 rfl (lv_at hl 3 rfl) ?_
        obtain ⟨hb2, hf⟩ := z_ite hf
        refine c_bald X hp0 hb2 dX3_readCounts_45 ?_
        refine z_sipush (v := 255) X.1 dX3_readCounts_46 (by decide) ?_
        refine z_iand X.1 dX3_readCounts_49 ?_
        obtain ⟨hb3, hf⟩ := z_ite hf
        refine c_iast X hp2_1 hb3 dX3_readCounts_50 ?_
        refine z_aload_n X.1 dX3_readCounts_51 rfl (lv_at hl 2 rfl) ?_
        refine c_geta X hp2 cf_X3_56 ep2_2 dX3_readCounts_52 ?_
        refine z_iload X.1 dX3_readCounts_55 (lv_at hl 4 rfl) ?_
        refine z_aload_n X.1 dX3_readCounts_57 rfl (lv_at hl 0 rfl) ?_
        refine z_iload_n X.1 dX3_readCounts_58 rfl (lv_at hl 3 rfl) ?_
        refine z_iconst (v := 1) X.1 dX3_readCounts_59 (by decide) ?_
        refine z_iadd X.1 dX3_readCounts_60 ?_
        obtain ⟨hb4, hf⟩ := z_ite hf
        refine c_bald X hp0 hb4 dX3_readCounts_61 ?_
        refine z_sipush (v := 255) X.1 dX3_readCounts_62 (by decide) ?_
        refine z_iand X.1 dX3_readCounts_65 ?_
        obtain ⟨hb5, hf⟩ := z_ite hf
        refine c_iast X hp2_2 hb5 dX3_readCounts_66 ?_
        refine z_aload_n X.1 dX3_readCounts_67 rfl (lv_at hl 2 rfl) ?_
        refine c_geta X hp2 cf_X3_59 ep2_3 dX3_readCounts_68 ?_
        refine z_iload X.1 dX3_readCounts_71 (lv_at hl 4 rfl) ?_
        refine z_aload_n X.1 dX3_readCounts_73 rfl (lv_at hl 0 rfl) ?_
        refine z_iload_n X.1 dX3_readCounts_74 rfl (lv_at hl 3 rfl) ?_
        refine z_iconst (v := 2) X.1 dX3_readCounts_75 (by decide) ?_
        refine z_iadd X.1 dX3_readCounts_76 ?_
        obtain ⟨hb6, hf⟩ := z_ite hf
        refine c_bald X hp0 hb6 dX3_readCounts_77 ?_
        refine z_sipush (v := 255) X.1 dX3_readCounts_78 (by decide) ?_
        refine z_iand X.1 dX3_readCounts_81 ?_
        obtain ⟨hb7, hf⟩ := z_ite hf
        refine c_iast X hp2_3 hb7 dX3_readCounts_82 ?_
        refine z_iinc (v := x3 + 3) (k0 := 3) (lv' := [(3, .int (x3 + 3)), (0, .ref (ad p0)), (1, .ref (ad p1)), (2, .ref (ad p2)), (4, .int x4)]) X.1 dX3_readCounts_83 hl rfl rfl (by decide) rfl (fun ls hl => ?_)
        refine z_aload_n X.1 dX3_readCounts_86 rfl (lv_at hl 3 rfl) ?_
        refine c_geta X hp2 cf_X3_53 ep2_1 dX3_readCounts_87 ?_
        refine z_iload X.1 dX3_readCounts_90 (lv_at hl 4 rfl) ?_
        obtain ⟨hb8, hf⟩ := z_ite hf
        refine c_iald X hp2_1 hb8 dX3_readCounts_92 ?_
        refine z_aload_n X.1 dX3_readCounts_93 rfl (lv_at hl 3 rfl) ?_
        refine c_geta X hp2 cf_X3_56 ep2_2 dX3_readCounts_94 ?_
        refine z_iload X.1 dX3_readCounts_97 (lv_at hl 4 rfl) ?_
        obtain ⟨hb9, hf⟩ := z_ite hf
        refine c_iald X hp2_2 hb9 dX3_readCounts_99 ?_
        refine z_aload_n X.1 dX3_readCounts_100 rfl (lv_at hl 3 rfl) ?_
        refine c_geta X hp2 cf_X3_59 ep2_3 dX3_readCounts_101 ?_
        refine z_iload X.1 dX3_readCounts_104 (lv_at hl 4 rfl) ?_
        obtain ⟨hb10, hf⟩ := z_ite hf
        refine c_iald X hp2_3 hb10 dX3_readCounts_106 ?_
        refine c_max X hl.1 cj_X3_62 ⟨by decide, Nat.le_of_ble_eq_true rfl⟩ dX3_readCounts_107 ?_
        refine c_max X hl.1 cj_X3_62 ⟨by decide, Nat.le_of_ble_eq_true rfl⟩ dX3_readCounts_110 ?_
        refine z_istore (lv' := [(5, .int (if ((z_uI (z_uI (z_uI V p2_1 x4.toNatClampNeg ((V p0 x3.toNatClampNeg) &&& 255)) p2_2 x4.toNatClampNeg (((z_uI V p2_1 x4.toNatClampNeg ((V p0 x3.toNatClampNeg) &&& 255)) p0 (x3 + 1).toNatClampNeg) &&& 255)) p2_3 x4.toNatClampNeg (((z_uI (z_uI V p2_1 x4.toNatClampNeg ((V p0 x3.toNatClampNeg) &&& 255)) p2_2 x4.toNatClampNeg (((z_uI V p2_1 x4.toNatClampNeg ((V p0 x3.toNatClampNeg) &&& 255)) p0 (x3 + 1).toNatClampNeg) &&& 255)) p0 (x3 + 2).toNatClampNeg) &&& 255)) p2_1 x4.toNatClampNeg) < (if ((z_uI (z_uI (z_uI V p2_1 x4.toNatClampNeg ((V p0 x3.toNatClampNeg) &&& 255)) p2_2 x4.toNatClampNeg (((z_uI V p2_1 x4.toNatClampNeg ((V p0 x3.toNatClampNeg) &&& 255)) p0 (x3 + 1).toNatClampNeg) &&& 255)) p2_3 x4.toNatClampNeg (((z_uI (z_uI V p2_1 x4.toNatClampNeg ((V p0 x3.toNatClampNeg) &&& 255)) p2_2 x4.toNatClampNeg (((z_uI V p2_1 x4.toNatClampNeg ((V p0 x3.toNatClampNeg) &&& 255)) p0 (x3 + 1).toNatClampNeg) &&& 255)) p0 (x3 + 2).toNatClampNeg) &&& 255)) p2_2 x4.toNatClampNeg) < ((z_uI (z_uI (z_uI V p2_1 x4.toNatClampNeg ((V p0 x3.toNatClampNeg) &&& 255)) p2_2 x4.toNatClampNeg (((z_uI V p2_1 x4.toNatClampNeg ((V p0 x3.toNatClampNeg) &&& 255)) p0 (x3 + 1).toNatClampNeg) &&& 255)) p2_3 x4.toNatClampNeg (((z_uI (z_uI V p2_1 x4.toNatClampNeg ((V p0 x3.toNatClampNeg) &&& 255)) p2_2 x4.toNatClampNeg (((z_uI V p2_1 x4.toNatClampNeg ((V p0 x3.toNatClampNeg) &&& 255)) p0 (x3 + 1).toNatClampNeg) &&& 255)) p0 (x3 + 2).toNatClampNeg) &&& 255)) p2_3 x4.toNatClampNeg) then ((z_uI (z_uI (z_uI V p2_1 x4.toNatClampNeg ((V p0 x3.toNatClampNeg) &&& 255)) p2_2 x4.toNatClampNeg (((z_uI V p2_1 x4.toNatClampNeg ((V p0 x3.toNatClampNeg) &&& 255)) p0 (x3 + 1).toNatClampNeg) &&& 255)) p2_3 x4.toNatClampNeg (((z_uI (z_uI V p2_1 x4.toNatClampNeg ((V p0 x3.toNatClampNeg) &&& 255)) p2_2 x4.toNatClampNeg (((z_uI V p2_1 x4.toNatClampNeg ((V p0 x3.toNatClampNeg) &&& 255)) p0 (x3 + 1).toNatClampNeg) &&& 255)) p0 (x3 + 2).toNatClampNeg) &&& 255)) p2_3 x4.toNatClampNeg) else ((z_uI (z_uI (z_uI V p2_1 x4.toNatClampNeg ((V p0 x3.toNatClampNeg) &&& 255)) p2_2 x4.toNatClampNeg (((z_uI V p2_1 x4.toNatClampNeg ((V p0 x3.toNatClampNeg) &&& 255)) p0 (x3 + 1).toNatClampNeg) &&& 255)) p2_3 x4.toNatClampNeg (((z_uI (z_uI V p2_1 x4.toNatClampNeg ((V p0 x3.toNatClampNeg) &&& 255)) p2_2 x4.toNatClampNeg (((z_uI V p2_1 x4.toNatClampNeg ((V p0 x3.toNatClampNeg) &&& 255)) p0 (x3 + 1).toNatClampNeg) &&& 255)) p0 (x3 + 2).toNatClampNeg) &&& 255)) p2_2 x4.toNatClampNeg)) then (if ((z_uI (z_uI (z_uI V p2_1 x4.toNatClampNeg ((V p0 x3.toNatClampNeg) &&& 255)) p2_2 x4.toNatClampNeg (((z_uI V p2_1 x4.toNatClampNeg ((V p0 x3.toNatClampNeg) &&& 255)) p0 (x3 + 1).toNatClampNeg) &&& 255)) p2_3 x4.toNatClampNeg (((z_uI (z_uI V p2_1 x4.toNatClampNeg ((V p0 x3.toNatClampNeg) &&& 255)) p2_2 x4.toNatClampNeg (((z_uI V p2_1 x4.toNatClampNeg ((V p0 x3.toNatClampNeg) &&& 255)) p0 (x3 + 1).toNatClampNeg) &&& 255)) p0 (x3 + 2).toNatClampNeg) &&& 255)) p2_2 x4.toNatClampNeg) < ((z_uI (z_uI (z_uI V p2_1 x4.toNatClampNeg ((V p0 x3.toNatClampNeg) &&& 255)) p2_2 x4.toNatClampNeg (((z_uI V p2_1 x4.toNatClampNeg ((V p0 x3.toNatClampNeg) &&& 255)) p0 (x3 + 1).toNatClampNeg) &&& 255)) p2_3 x4.toNatClampNeg (((z_uI (z_uI V p2_1 x4.toNatClampNeg ((V p0 x3.toNatClampNeg) &&& 255)) p2_2 x4.toNatClampNeg (((z_uI V p2_1 x4.toNatClampNeg ((V p0 x3.toNatClampNeg) &&& 255)) p0 (x3 + 1).toNatClampNeg) &&& 255)) p0 (x3 + 2).toNatClampNeg) &&& 255)) p2_3 x4.toNatClampNeg) then ((z_uI (z_uI (z_uI V p2_1 x4.toNatClampNeg ((V p0 x3.toNatClampNeg) &&& 255)) p2_2 x4.toNatClampNeg (((z_uI V p2_1 x4.toNatClampNeg ((V p0 x3.toNatClampNeg) &&& 255)) p0 (x3 + 1).toNatClampNeg) &&& 255)) p2_3 x4.toNatClampNeg (((z_uI (z_uI V p2_1 x4.toNatClampNeg ((V p0 x3.toNatClampNeg) &&& 255)) p2_2 x4.toNatClampNeg (((z_uI V p2_1 x4.toNatClampNeg ((V p0 x3.toNatClampNeg) &&& 255)) p0 (x3 + 1).toNatClampNeg) &&& 255)) p0 (x3 + 2).toNatClampNeg) &&& 255)) p2_3 x4.toNatClampNeg) else ((z_uI (z_uI (z_uI V p2_1 x4.toNatClampNeg ((V p0 x3.toNatClampNeg) &&& 255)) p2_2 x4.toNatClampNeg (((z_uI V p2_1 x4.toNatClampNeg ((V p0 x3.toNatClampNeg) &&& 255)) p0 (x3 + 1).toNatClampNeg) &&& 255)) p2_3 x4.toNatClampNeg (((z_uI (z_uI V p2_1 x4.toNatClampNeg ((V p0 x3.toNatClampNeg) &&& 255)) p2_2 x4.toNatClampNeg (((z_uI V p2_1 x4.toNatClampNeg ((V p0 x3.toNatClampNeg) &&& 255)) p0 (x3 + 1).toNatClampNeg) &&& 255)) p0 (x3 + 2).toNatClampNeg) &&& 255)) p2_2 x4.toNatClampNeg)) else ((z_uI (z_uI (z_uI V p2_1 x4.toNatClampNeg ((V p0 x3.toNatClampNeg) &&& 255)) p2_2 x4.toNatClampNeg (((z_uI V p2_1 x4.toNatClampNeg ((V p0 x3.toNatClampNeg) &&& 255)) p0 (x3 + 1).toNatClampNeg) &&& 255)) p2_3 x4.toNatClampNeg (((z_uI (z_uI V p2_1 x4.toNatClampNeg ((V p0 x3.toNatClampNeg) &&& 255)) p2_2 x4.toNatClampNeg (((z_uI V p2_1 x4.toNatClampNeg ((V p0 x3.toNatClampNeg) &&& 255)) p0 (x3 + 1).toNatClampNeg) &&& 255)) p0 (x3 + 2).toNatClampNeg) &&& 255)) p2_1 x4.toNatClampNeg))), (3, .int (x3 + 3)), (0, .ref (ad p0)), (1, .ref (ad p1)), (2, .ref (ad p2)), (4, .int x4)]) X.1 dX3_readCounts_113 hl (by decide) rfl (fun ls hl => ?_)
        refine z_iload X.1 dX3_readCounts_115 (lv_at hl 0 rfl) ?_
        refine z_bipush (v := 99) X.1 dX3_readCounts_117 (by decide) ?_
        refine z_icmp_le (tgt := 124) X.1 dX3_readCounts_119 (by decide) (fun c_ => ?_) (fun c_ => ?_)
        · have hf := (if_pos c_).symm.trans hf
          refine z_iinc (v := x4 + 1) (k0 := 5) (lv' := [(4, .int (x4 + 1)), (5, .int (if ((z_uI (z_uI (z_uI V p2_1 x4.toNatClampNeg ((V p0 x3.toNatClampNeg) &&& 255)) p2_2 x4.toNatClampNeg (((z_uI V p2_1 x4.toNatClampNeg ((V p0 x3.toNatClampNeg) &&& 255)) p0 (x3 + 1).toNatClampNeg) &&& 255)) p2_3 x4.toNatClampNeg (((z_uI (z_uI V p2_1 x4.toNatClampNeg ((V p0 x3.toNatClampNeg) &&& 255)) p2_2 x4.toNatClampNeg (((z_uI V p2_1 x4.toNatClampNeg ((V p0 x3.toNatClampNeg) &&& 255)) p0 (x3 + 1).toNatClampNeg) &&& 255)) p0 (x3 + 2).toNatClampNeg) &&& 255)) p2_1 x4.toNatClampNeg) < (if ((z_uI (z_uI (z_uI V p2_1 x4.toNatClampNeg ((V p0 x3.toNatClampNeg) &&& 255)) p2_2 x4.toNatClampNeg (((z_uI V p2_1 x4.toNatClampNeg ((V p0 x3.toNatClampNeg) &&& 255)) p0 (x3 + 1).toNatClampNeg) &&& 255)) p2_3 x4.toNatClampNeg (((z_uI (z_uI V p2_1 x4.toNatClampNeg ((V p0 x3.toNatClampNeg) &&& 255)) p2_2 x4.toNatClampNeg (((z_uI V p2_1 x4.toNatClampNeg ((V p0 x3.toNatClampNeg) &&& 255)) p0 (x3 + 1).toNatClampNeg) &&& 255)) p0 (x3 + 2).toNatClampNeg) &&& 255)) p2_2 x4.toNatClampNeg) < ((z_uI (z_uI (z_uI V p2_1 x4.toNatClampNeg ((V p0 x3.toNatClampNeg) &&& 255)) p2_2 x4.toNatClampNeg (((z_uI V p2_1 x4.toNatClampNeg ((V p0 x3.toNatClampNeg) &&& 255)) p0 (x3 + 1).toNatClampNeg) &&& 255)) p2_3 x4.toNatClampNeg (((z_uI (z_uI V p2_1 x4.toNatClampNeg ((V p0 x3.toNatClampNeg) &&& 255)) p2_2 x4.toNatClampNeg (((z_uI V p2_1 x4.toNatClampNeg ((V p0 x3.toNatClampNeg) &&& 255)) p0 (x3 + 1).toNatClampNeg) &&& 255)) p0 (x3 + 2).toNatClampNeg) &&& 255)) p2_3 x4.toNatClampNeg) then ((z_uI (z_uI (z_uI V p2_1 x4.toNatClampNeg ((V p0 x3.toNatClampNeg) &&& 255)) p2_2 x4.toNatClampNeg (((z_uI V p2_1 x4.toNatClampNeg ((V p0 x3.toNatClampNeg) &&& 255)) p0 (x3 + 1).toNatClampNeg) &&& 255)) p2_3 x4.toNatClampNeg (((z_uI (z_uI V p2_1 x4.toNatClampNeg ((V p0 x3.toNatClampNeg) &&& 255)) p2_2 x4.toNatClampNeg (((z_uI V p2_1 x4.toNatClampNeg ((V p0 x3.toNatClampNeg) &&& 255)) p0 (x3 + 1).toNatClampNeg) &&& 255)) p0 (x3 + 2).toNatClampNeg) &&& 255)) p2_3 x4.toNatClampNeg) else ((z_uI (z_uI (z_uI V p2_1 x4.toNatClampNeg ((V p0 x3.toNatClampNeg) &&& 255)) p2_2 x4.toNatClampNeg (((z_uI V p2_1 x4.toNatClampNeg ((V p0 x3.toNatClampNeg) &&& 255)) p0 (x3 + 1).toNatClampNeg) &&& 255)) p2_3 x4.toNatClampNeg (((z_uI (z_uI V p2_1 x4.toNatClampNeg ((V p0 x3.toNatClampNeg) &&& 255)) p2_2 x4.toNatClampNeg (((z_uI V p2_1 x4.toNatClampNeg ((V p0 x3.toNatClampNeg) &&& 255)) p0 (x3 + 1).toNatClampNeg) &&& 255)) p0 (x3 + 2).toNatClampNeg) &&& 255)) p2_2 x4.toNatClampNeg)) then (if ((z_uI (z_uI (z_uI V p2_1 x4.toNatClampNeg ((V p0 x3.toNatClampNeg) &&& 255)) p2_2 x4.toNatClampNeg (((z_uI V p2_1 x4.toNatClampNeg ((V p0 x3.toNatClampNeg) &&& 255)) p0 (x3 + 1).toNatClampNeg) &&& 255)) p2_3 x4.toNatClampNeg (((z_uI (z_uI V p2_1 x4.toNatClampNeg ((V p0 x3.toNatClampNeg) &&& 255)) p2_2 x4.toNatClampNeg (((z_uI V p2_1 x4.toNatClampNeg ((V p0 x3.toNatClampNeg) &&& 255)) p0 (x3 + 1).toNatClampNeg) &&& 255)) p0 (x3 + 2).toNatClampNeg) &&& 255)) p2_2 x4.toNatClampNeg) < ((z_uI (z_uI (z_uI V p2_1 x4.toNatClampNeg ((V p0 x3.toNatClampNeg) &&& 255)) p2_2 x4.toNatClampNeg (((z_uI V p2_1 x4.toNatClampNeg ((V p0 x3.toNatClampNeg) &&& 255)) p0 (x3 + 1).toNatClampNeg) &&& 255)) p2_3 x4.toNatClampNeg (((z_uI (z_uI V p2_1 x4.toNatClampNeg ((V p0 x3.toNatClampNeg) &&& 255)) p2_2 x4.toNatClampNeg (((z_uI V p2_1 x4.toNatClampNeg ((V p0 x3.toNatClampNeg) &&& 255)) p0 (x3 + 1).toNatClampNeg) &&& 255)) p0 (x3 + 2).toNatClampNeg) &&& 255)) p2_3 x4.toNatClampNeg) then ((z_uI (z_uI (z_uI V p2_1 x4.toNatClampNeg ((V p0 x3.toNatClampNeg) &&& 255)) p2_2 x4.toNatClampNeg (((z_uI V p2_1 x4.toNatClampNeg ((V p0 x3.toNatClampNeg) &&& 255)) p0 (x3 + 1).toNatClampNeg) &&& 255)) p2_3 x4.toNatClampNeg (((z_uI (z_uI V p2_1 x4.toNatClampNeg ((V p0 x3.toNatClampNeg) &&& 255)) p2_2 x4.toNatClampNeg (((z_uI V p2_1 x4.toNatClampNeg ((V p0 x3.toNatClampNeg) &&& 255)) p0 (x3 + 1).toNatClampNeg) &&& 255)) p0 (x3 + 2).toNatClampNeg) &&& 255)) p2_3 x4.toNatClampNeg) else ((z_uI (z_uI (z_uI V p2_1 x4.toNatClampNeg ((V p0 x3.toNatClampNeg) &&& 255)) p2_2 x4.toNatClampNeg (((z_uI V p2_1 x4.toNatClampNeg ((V p0 x3.toNatClampNeg) &&& 255)) p0 (x3 + 1).toNatClampNeg) &&& 255)) p2_3 x4.toNatClampNeg (((z_uI (z_uI V p2_1 x4.toNatClampNeg ((V p0 x3.toNatClampNeg) &&& 255)) p2_2 x4.toNatClampNeg (((z_uI V p2_1 x4.toNatClampNeg ((V p0 x3.toNatClampNeg) &&& 255)) p0 (x3 + 1).toNatClampNeg) &&& 255)) p0 (x3 + 2).toNatClampNeg) &&& 255)) p2_2 x4.toNatClampNeg)) else ((z_uI (z_uI (z_uI V p2_1 x4.toNatClampNeg ((V p0 x3.toNatClampNeg) &&& 255)) p2_2 x4.toNatClampNeg (((z_uI V p2_1 x4.toNatClampNeg ((V p0 x3.toNatClampNeg) &&& 255)) p0 (x3 + 1).toNatClampNeg) &&& 255)) p2_3 x4.toNatClampNeg (((z_uI (z_uI V p2_1 x4.toNatClampNeg ((V p0 x3.toNatClampNeg) &&& 255)) p2_2 x4.toNatClampNeg (((z_uI V p2_1 x4.toNatClampNeg ((V p0 x3.toNatClampNeg) &&& 255)) p0 (x3 + 1).toNatClampNeg) &&& 255)) p0 (x3 + 2).toNatClampNeg) &&& 255)) p2_1 x4.toNatClampNeg))), (3, .int (x3 + 3)), (0, .ref (ad p0)), (1, .ref (ad p1)), (2, .ref (ad p2))]) X.1 dX3_readCounts_124 hl rfl rfl (by decide) rfl (fun ls hl => ?_)
          refine z_goto (tgt := 5) X.1 dX3_readCounts_127 (by decide) ?_
          exact hk5 (x3 + 3) (x4 + 1) (z_uI (z_uI (z_uI V p2_1 x4.toNatClampNeg ((V p0 x3.toNatClampNeg) &&& 255)) p2_2 x4.toNatClampNeg (((z_uI V p2_1 x4.toNatClampNeg ((V p0 x3.toNatClampNeg) &&& 255)) p0 (x3 + 1).toNatClampNeg) &&& 255)) p2_3 x4.toNatClampNeg (((z_uI (z_uI V p2_1 x4.toNatClampNeg ((V p0 x3.toNatClampNeg) &&& 255)) p2_2 x4.toNatClampNeg (((z_uI V p2_1 x4.toNatClampNeg ((V p0 x3.toNatClampNeg) &&& 255)) p0 (x3 + 1).toNatClampNeg) &&& 255)) p0 (x3 + 2).toNatClampNeg) &&& 255)) L ls (lv_sub hl [3, 4, 5, 2, 0] rfl) hf
        · have hf := (if_neg c_).symm.trans hf
          refine z_iconst (v := 0) X.1 dX3_readCounts_122 (by decide) ?_
          exact c_iret X Z hf (by decide) dX3_readCounts_123

set_option maxHeartbeats 4000000 in
set_option maxRecDepth 100000 in
theorem w_X3_readCounts {M : zM} {D : va_G} {cy : Nat → ClassId} {ad : Nat → Nat} {n : Nat} {K N : Nat → Nat} {G : zG} {r' : Int32 × zI × zL} (X : RXc M D cy ad n K N G cX3_readCounts 6 RX3 2 43) (Z : RZi M (zC D cy ad n K N G) .boolean r'.1 r'.2.1 r'.2.2) {p0 : Nat} (hp0 : p0 < n ∧ K p0 = 101) {p1 : Nat} (hp1 : p1 < n ∧ K p1 = 7) {p2 : Nat} (hp2 : p2 < n ∧ K p2 = 5) {p2_1 : Nat} (hp2_1 : p2_1 < n ∧ K p2_1 = 100) (ep2_1 : G p2 1 = some p2_1) {p2_2 : Nat} (hp2_2 : p2_2 < n ∧ K p2_2 = 100) (ep2_2 : G p2 2 = some p2_2) {p2_3 : Nat} (hp2_3 : p2_3 < n ∧ K p2_3 = 100) (ep2_3 : G p2 3 = some p2_3)  (V : zI) (L : zL) (ls : Array Slot) (hl : lv_has ls 6 [(0, .ref (ad p0)), (1, .ref (ad p1)), (2, .ref (ad p2))]) (hf : g_X3_readCounts N G p0 p1 p2 p2_1 p2_2 p2_3 V L = some r') : RG M (zC D cy ad n K N G) V L 0 ls [] := by
  unfold g_X3_readCounts at hf
  refine z_iconst (v := 2) X.1 dX3_readCounts_0 (by decide) ?_
  refine z_istore_n (lv' := [(3, .int 2), (0, .ref (ad p0)), (1, .ref (ad p1)), (2, .ref (ad p2))]) X.1 dX3_readCounts_1 rfl hl (by decide) rfl (fun ls hl => ?_)
  refine z_iconst (v := 0) X.1 dX3_readCounts_2 (by decide) ?_
  refine z_istore (lv' := [(4, .int 0), (3, .int 2), (0, .ref (ad p0)), (1, .ref (ad p1)), (2, .ref (ad p2))]) X.1 dX3_readCounts_3 hl (by decide) rfl (fun ls hl => ?_)
  exact w_X3_readCounts_5 X Z hp0 hp1 hp2 hp2_1 ep2_1 hp2_2 ep2_2 hp2_3 ep2_3 FU 2 0 V L ls (lv_sub hl [2, 3, 4, 1, 0] rfl) hf

theorem c_X3_readCounts (D : va_G) (cy : Nat → ClassId) (ad : Nat → Nat) {n : Nat} {K N : Nat → Nat} {G : zG} (hWF : zWF n K G) {p0 : Nat} {p1 : Nat} {p2 : Nat} {V : zI} {L : zL} (hp0 : p0 < n ∧ K p0 = 101) (hp1 : p1 < n ∧ K p1 = 7) (hp2 : p2 < n ∧ K p2 = 5) {r' : Int32 × zI × zL} (hf : f_X3_readCounts N G p0 p1 p2 V L = some r') : RCi (zC D cy ad n K N G) yX3_readCounts cX3_readCounts 6 .boolean 2 43 [.ref (ad p0), .ref (ad p1), .ref (ad p2)] V L r'.1 r'.2.1 r'.2.2 := by
  unfold f_X3_readCounts at hf
  obtain ⟨p2_1, ep2_1, hf⟩ := z_bind hf
  have hp2_1 := hWF.get hp2 (k := 1) (c := 100) rfl ep2_1
  obtain ⟨p2_2, ep2_2, hf⟩ := z_bind hf
  have hp2_2 := hWF.get hp2 (k := 2) (c := 100) rfl ep2_2
  obtain ⟨p2_3, ep2_3, hf⟩ := z_bind hf
  have hp2_3 := hWF.get hp2 (k := 3) (c := 100) rfl ep2_3
  exact RCi.of (by decide) hWF (Nat.le_of_ble_eq_true rfl) (fun M X Z ls hl => w_X3_readCounts X Z hp0 hp1 hp2 hp2_1 ep2_1 hp2_2 ep2_2 hp2_3 ep2_3 V L ls hl hf)
def b_X3_readLetters_6 (N : Nat → Nat) (G : zG) (p0 : Nat) (p2 : Nat) (p3 : Nat) (p2_7 : Nat) (p3_5 : Nat) (p3_6 : Nat) (k6 : Int32 × Int32 × zI × zL → Option (Int32 × zI × zL)) : Int32 × Int32 × zI × zL → Option (Int32 × zI × zL) := fun ⟨x4, x5, V, L⟩ =>
  (if (V p3 4) ≤ x5 then some (1, V, L) else (if 60 ≤ x5 then some (1, V, L) else (if (Int32.ofNat (N p0)) ≤ (x4 + 2) then some (1, V, L) else if inB x4 (N p0) then if inB (x4 + 1) (N p0) then if inB (x4 + 2) (N p0) then (f_X9_isPair N G p2 ((V p0 x4.toNatClampNeg) &&& 255) ((V p0 (x4 + 1).toNatClampNeg) &&& 255) V L).bind fun r4 => (if r4 = 0 then some (0, V, L) else (if ((V p0 (x4 + 2).toNatClampNeg) &&& 255) < 1 then some (0, V, L) else if inB ((((V p0 x4.toNatClampNeg) &&& 255) * 6) + ((V p0 (x4 + 1).toNatClampNeg) &&& 255)) (N p2_7) then (if ((V p0 (x4 + 2).toNatClampNeg) &&& 255) ≤ (V p2_7 ((((V p0 x4.toNatClampNeg) &&& 255) * 6) + ((V p0 (x4 + 1).toNatClampNeg) &&& 255)).toNatClampNeg) then if inB x5 (N p3_5) then if inB x5 (N p3_6) then k6 ((x4 + 3), (x5 + 1), z_uI (z_uI V p3_5 x5.toNatClampNeg ((((V p0 x4.toNatClampNeg) &&& 255) * 6) + ((V p0 (x4 + 1).toNatClampNeg) &&& 255))) p3_6 x5.toNatClampNeg ((V p0 (x4 + 2).toNatClampNeg) &&& 255), L) else none else none else some (0, V, L)) else none)) else none else none else none)))
def g_X3_readLetters (N : Nat → Nat) (G : zG) (p0 : Nat) (p2 : Nat) (p3 : Nat) (p2_7 : Nat) (p3_5 : Nat) (p3_6 : Nat) (x1 : Int32) (V : zI) (L : zL) : Option (Int32 × zI × zL) :=
  zfix (b_X3_readLetters_6 N G p0 p2 p3 p2_7 p3_5 p3_6) FU (x1, 0, V, L)
def f_X3_readLetters (N : Nat → Nat) (G : zG) (p0 : Nat) (p2 : Nat) (p3 : Nat) (x1 : Int32) (V : zI) (L : zL) : Option (Int32 × zI × zL) :=
  (G p2 7).bind fun p2_7 => (G p3 5).bind fun p3_5 => (G p3 6).bind fun p3_6 => g_X3_readLetters N G p0 p2 p3 p2_7 p3_5 p3_6 x1 V L
set_option maxHeartbeats 4000000 in
set_option maxRecDepth 100000 in
theorem w_X3_readLetters_6 {M : zM} {D : va_G} {cy : Nat → ClassId} {ad : Nat → Nat} {n : Nat} {K N : Nat → Nat} {G : zG} {r' : Int32 × zI × zL} (X : RXc M D cy ad n K N G cX3_readLetters 10 RX3 2 43) (Z : RZi M (zC D cy ad n K N G) .boolean r'.1 r'.2.1 r'.2.2) {p0 : Nat} (hp0 : p0 < n ∧ K p0 = 101) {p2 : Nat} (hp2 : p2 < n ∧ K p2 = 7) {p3 : Nat} (hp3 : p3 < n ∧ K p3 = 5) {p2_7 : Nat} (hp2_7 : p2_7 < n ∧ K p2_7 = 100) (ep2_7 : G p2 7 = some p2_7) {p3_5 : Nat} (hp3_5 : p3_5 < n ∧ K p3_5 = 100) (ep3_5 : G p3 5 = some p3_5) {p3_6 : Nat} (hp3_6 : p3_6 < n ∧ K p3_6 = 100) (ep3_6 : G p3 6 = some p3_6) (nn : Nat) : ∀ (x4 : Int32) (x5 : Int32) (V : zI) (L : zL) (ls : Array Slot) (hl : lv_has ls 10 [(0, .ref (ad p0)), (2, .ref (ad p2)), (3, .ref (ad p3)), (4, .int x4), (5, .int x5)]) (hf : zfix (b_X3_readLetters_6 N G p0 p2 p3 p2_7 p3_5 p3_6) nn (x4, x5, V, L) = some r'), RG M (zC D cy ad n K N G) V L 6 ls [] := by
  induction nn with
  | zero => intro x4 x5 V L ls hl hf; cases hf
  | succ nn ih =>
  intro x4 x5 V L ls hl hf
  have hk6 : ∀ (x4 : Int32) (x5 : Int32) (V : zI) (L : zL) (ls : Array Slot), lv_has ls 10 [(0, .ref (ad p0)), (2, .ref (ad p2)), (3, .ref (ad p3)), (4, .int x4), (5, .int x5)] → zfix (b_X3_readLetters_6 N G p0 p2 p3 p2_7 p3_5 p3_6) nn (x4, x5, V, L) = some r' → RG M (zC D cy ad n K N G) V L 6 ls [] := ih
  have hf : b_X3_readLetters_6 N G p0 p2 p3 p2_7 p3_5 p3_6 (zfix (b_X3_readLetters_6 N G p0 p2 p3 p2_7 p3_5 p3_6) nn) (x4, x5, V, L) = some r' := hf
  generalize zfix (b_X3_readLetters_6 N G p0 p2 p3 p2_7 p3_5 p3_6) nn = k6 at hk6 hf
  clear ih
  unfold b_X3_readLetters_6 at hf
  refine z_iload X.1 dX3_readLetters_6 (lv_at hl 4 rfl) ?_
  refine z_aload_n X.1 dX3_readLetters_8 rfl (lv_at hl 2 rfl) ?_
  refine c_geti X hp3 cf_X3_30 dX3_readLetters_9 ?_
  refine z_icmp_ge (tgt := 135) X.1 dX3_readLetters_12 (by decide) (fun c_ => ?_) (fun c_ => ?_)
  · have hf := (if_pos c_).symm.trans hf
    refine z_iconst (v := 1) X.1 dX3_readLetters_135 (by decide) ?_
    exact c_iret X Z hf (by decide) dX3_readLetters_136
  · have hf := (if_neg c_).symm.trans hf
    refine z_iload X.1 dX3_readLetters_15 (lv_at hl 4 rfl) ?_
    refine z_bipush (v := 60) X.1 dX3_readLetters_17 (by decide) ?_
    refine z_icmp_ge (tgt := 135) X.1 dX3_readLetters_19 (by decide) (fun c_ => ?_) (fun c_ => ?_)
    · have hf := (if_pos c_).symm.trans hf
      refine z_iconst (v := 1) X.1 dX3_readLetters_135 (by decide) ?_
      exact c_iret X Z hf (by decide) dX3_readLetters_136
    · have hf := (if_neg c_).symm.trans hf
      refine z_iload X.1 dX3_readLetters_22 (lv_at hl 3 rfl) ?_
      refine z_iconst (v := 2) X.1 dX3_readLetters_24 (by decide) ?_
      refine z_iadd X.1 dX3_readLetters_25 ?_
      refine z_aload_n X.1 dX3_readLetters_26 rfl (lv_at hl 0 rfl) ?_
      refine c_alen101 X hp0 dX3_readLetters_27 ?_
      refine z_icmp_ge (tgt := 135) X.1 dX3_readLetters_28 (by decide) (fun c_ => ?_) (fun c_ => ?_)
      · have hf := (if_pos c_).symm.trans hf
        refine z_iconst (v := 1) X.1 dX3_readLetters_135 (by decide) ?_
        exact c_iret X Z hf (by decide) dX3_readLetters_136
      · have hf := (if_neg c_).symm.trans hf
        refine z_aload_n X.1 dX3_readLetters_31 rfl (lv_at hl 0 rfl) ?_
        refine z_iload X.1 dX3_readLetters_32 (lv_at hl 3 rfl) ?_
        obtain ⟨hb1, hf⟩ := z_ite hf
        refine c_bald X hp0 hb1 dX3_readLetters_34 ?_
        refine z_sipush (v := 255) X.1 dX3_readLetters_35 (by decide) ?_
        refine z_iand X.1 dX3_readLetters_38 ?_
        refine z_istore (lv' := [(6, .int ((V p0 x4.toNatClampNeg) &&& 255)), (0, .ref (ad p0)), (2, .ref (ad p2)), (3, .ref (ad p3)), (4, .int x4), (5, .int x5)]) X.1 dX3_readLetters_39 hl (by decide) rfl (fun ls hl => ?_)
        refine z_aload_n X.1 dX3_readLetters_41 rfl (lv_at hl 1 rfl) ?_
        refine z_iload X.1 dX3_readLetters_42 (lv_at hl 4 rfl) ?_
        refine z_iconst (v := 1) X.1 dX3_readLetters_44 (by decide) ?_
        refine z_iadd X.1 dX3_readLetters_45 ?_
        obtain ⟨hb2, hf⟩ := z_ite hf
        refine c_bald X hp0 hb2 dX3_readLetters_46 ?_
        refine z_sipush (v := 255) X.1 dX3_readLetters_47 (by decide) ?_
        refine z_iand X.1 dX3_readLetters_50 ?_
        refine z_istore (lv' := [(7, .int ((V p0 (x4 + 1).toNatClampNeg) &&& 255)), (6, .int ((V p0 x4.toNatClampNeg) &&& 255)), (0, .ref (ad p0)), (2, .ref (ad p2)), (3, .ref (ad p3)), (4, .int x4), (5, .int x5)]) X.1 dX3_readLetters_51 hl (by decide) rfl (fun ls hl => ?_)
        refine z_aload_n X.1 dX3_readLetters_53 rfl (lv_at hl 2 rfl) ?_
        refine z_iload X.1 dX3_readLetters_54 (lv_at hl 5 rfl) ?_
        refine z_iconst (v := 2) X.1 dX3_readLetters_56 (by decide) ?_
        refine z_iadd X.1 dX3_readLetters_57 ?_
        obtain ⟨hb3, hf⟩ := z_ite hf
        refine c_bald X hp0 hb3 dX3_readLetters_58 ?_
        refine z_sipush (v := 255) X.1 dX3_readLetters_59 (by decide) ?_
        refine z_iand X.1 dX3_readLetters_62 ?_
        refine z_istore (lv' := [(8, .int ((V p0 (x4 + 2).toNatClampNeg) &&& 255)), (7, .int ((V p0 (x4 + 1).toNatClampNeg) &&& 255)), (6, .int ((V p0 x4.toNatClampNeg) &&& 255)), (0, .ref (ad p0)), (2, .ref (ad p2)), (3, .ref (ad p3)), (4, .int x4), (5, .int x5)]) X.1 dX3_readLetters_63 hl (by decide) rfl (fun ls hl => ?_)
        refine z_aload_n X.1 dX3_readLetters_65 rfl (lv_at hl 4 rfl) ?_
        refine z_iload X.1 dX3_readLetters_66 (lv_at hl 2 rfl) ?_
        refine z_iload X.1 dX3_readLetters_68 (lv_at hl 1 rfl) ?_
        obtain ⟨r4, hc4, hf⟩ := z_bind hf
        refine c_callVi [.int ((V p0 x4.toNatClampNeg) &&& 255), .int ((V p0 (x4 + 1).toNatClampNeg) &&& 255)] X hl.1 (c_X9_isPair D cy ad X.2.2 hp2 hc4) hp2 ⟨by decide, rfl⟩ cm_X3_49 cw_X9_isPair rfl cq_X9_isPair ⟨by decide, by decide⟩ (Nat.le_of_ble_eq_true rfl) rfl dX3_readLetters_70 ?_
        refine z_if_ne (tgt := 78) X.1 dX3_readLetters_73 (by decide) (fun c_ => ?_) (fun c_ => ?_)
        · have hf := (if_neg c_).symm.trans hf
          refine z_iload X.1 dX3_readLetters_78 (lv_at hl 2 rfl) ?_
          refine z_bipush (v := 6) X.1 dX3_readLetters_80 (by decide) ?_
          refine z_imul X.1 dX3_readLetters_82 ?_
          refine z_iload X.1 dX3_readLetters_83 (lv_at hl 1 rfl) ?_
          refine z_iadd X.1 dX3_readLetters_85 ?_
          refine z_istore (lv' := [(9, .int ((((V p0 x4.toNatClampNeg) &&& 255) * 6) + ((V p0 (x4 + 1).toNatClampNeg) &&& 255))), (8, .int ((V p0 (x4 + 2).toNatClampNeg) &&& 255)), (7, .int ((V p0 (x4 + 1).toNatClampNeg) &&& 255)), (6, .int ((V p0 x4.toNatClampNeg) &&& 255)), (0, .ref (ad p0)), (2, .ref (ad p2)), (3, .ref (ad p3)), (4, .int x4), (5, .int x5)]) X.1 dX3_readLetters_86 hl (by decide) rfl (fun ls hl => ?_)
          refine z_iload X.1 dX3_readLetters_88 (lv_at hl 1 rfl) ?_
          refine z_iconst (v := 1) X.1 dX3_readLetters_90 (by decide) ?_
          refine z_icmp_lt (tgt := 106) X.1 dX3_readLetters_91 (by decide) (fun c_ => ?_) (fun c_ => ?_)
          · have hf := (if_pos c_).symm.trans hf
            refine z_iconst (v := 0) X.1 dX3_readLetters_106 (by decide) ?_
            exact c_iret X Z hf (by decide) dX3_readLetters_107
          · have hf := (if_neg c_).symm.trans hf
            refine z_iload X.1 dX3_readLetters_94 (lv_at hl 1 rfl) ?_
            refine z_aload_n X.1 dX3_readLetters_96 rfl (lv_at hl 5 rfl) ?_
            refine c_geta X hp2 cf_X3_67 ep2_7 dX3_readLetters_97 ?_
            refine z_iload X.1 dX3_readLetters_100 (lv_at hl 0 rfl) ?_
            obtain ⟨hb5, hf⟩ := z_ite hf
            refine c_iald X hp2_7 hb5 dX3_readLetters_102 ?_
            refine z_icmp_le (tgt := 108) X.1 dX3_readLetters_103 (by decide) (fun c_ => ?_) (fun c_ => ?_)
            · have hf := (if_pos c_).symm.trans hf
              refine z_aload_n X.1 dX3_readLetters_108 rfl (lv_at hl 6 rfl) ?_
              refine c_geta X hp3 cf_X3_70 ep3_5 dX3_readLetters_109 ?_
              refine z_iload X.1 dX3_readLetters_112 (lv_at hl 8 rfl) ?_
              refine z_iload X.1 dX3_readLetters_114 (lv_at hl 0 rfl) ?_
              obtain ⟨hb6, hf⟩ := z_ite hf
              refine c_iast X hp3_5 hb6 dX3_readLetters_116 ?_
              refine z_aload_n X.1 dX3_readLetters_117 rfl (lv_at hl 6 rfl) ?_
              refine c_geta X hp3 cf_X3_73 ep3_6 dX3_readLetters_118 ?_
              refine z_iload X.1 dX3_readLetters_121 (lv_at hl 8 rfl) ?_
              refine z_iload X.1 dX3_readLetters_123 (lv_at hl 1 rfl) ?_
              obtain ⟨hb7, hf⟩ := z_ite hf
              refine c_iast X hp3_6 hb7 dX3_readLetters_125 ?_
              refine z_iinc (v := x4 + 3) (k0 := 7) (lv' := [(4, .int (x4 + 3)), (9, .int ((((V p0 x4.toNatClampNeg) &&& 255) * 6) + ((V p0 (x4 + 1).toNatClampNeg) &&& 255))), (8, .int ((V p0 (x4 + 2).toNatClampNeg) &&& 255)), (7, .int ((V p0 (x4 + 1).toNatClampNeg) &&& 255)), (6, .int ((V p0 x4.toNatClampNeg) &&& 255)), (0, .ref (ad p0)), (2, .ref (ad p2)), (3, .ref (ad p3)), (5, .int x5)]) X.1 dX3_readLetters_126 hl rfl rfl (by decide) rfl (fun ls hl => ?_)
              refine z_iinc (v := x5 + 1) (k0 := 8) (lv' := [(5, .int (x5 + 1)), (4, .int (x4 + 3)), (9, .int ((((V p0 x4.toNatClampNeg) &&& 255) * 6) + ((V p0 (x4 + 1).toNatClampNeg) &&& 255))), (8, .int ((V p0 (x4 + 2).toNatClampNeg) &&& 255)), (7, .int ((V p0 (x4 + 1).toNatClampNeg) &&& 255)), (6, .int ((V p0 x4.toNatClampNeg) &&& 255)), (0, .ref (ad p0)), (2, .ref (ad p2)), (3, .ref (ad p3))]) X.1 dX3_readLetters_129 hl rfl rfl (by decide) rfl (fun ls hl => ?_)
              refine z_goto (tgt := 6) X.1 dX3_readLetters_132 (by decide) ?_
              exact hk6 (x4 + 3) (x5 + 1) (z_uI (z_uI V p3_5 x5.toNatClampNeg ((((V p0 x4.toNatClampNeg) &&& 255) * 6) + ((V p0 (x4 + 1).toNatClampNeg) &&& 255))) p3_6 x5.toNatClampNeg ((V p0 (x4 + 2).toNatClampNeg) &&& 255)) L ls (lv_sub hl [6, 7, 8, 1, 0] rfl) hf
            · have hf := (if_neg c_).symm.trans hf
              refine z_iconst (v := 0) X.1 dX3_readLetters_106 (by decide) ?_
              exact c_iret X Z hf (by decide) dX3_readLetters_107
        · have hf := (if_pos c_).symm.trans hf
          refine z_iconst (v := 0) X.1 dX3_readLetters_76 (by decide) ?_
          exact c_iret X Z hf (by decide) dX3_readLetters_77

set_option maxHeartbeats 4000000 in
set_option maxRecDepth 100000 in
theorem w_X3_readLetters {M : zM} {D : va_G} {cy : Nat → ClassId} {ad : Nat → Nat} {n : Nat} {K N : Nat → Nat} {G : zG} {r' : Int32 × zI × zL} (X : RXc M D cy ad n K N G cX3_readLetters 10 RX3 2 43) (Z : RZi M (zC D cy ad n K N G) .boolean r'.1 r'.2.1 r'.2.2) {p0 : Nat} (hp0 : p0 < n ∧ K p0 = 101) {p2 : Nat} (hp2 : p2 < n ∧ K p2 = 7) {p3 : Nat} (hp3 : p3 < n ∧ K p3 = 5) {p2_7 : Nat} (hp2_7 : p2_7 < n ∧ K p2_7 = 100) (ep2_7 : G p2 7 = some p2_7) {p3_5 : Nat} (hp3_5 : p3_5 < n ∧ K p3_5 = 100) (ep3_5 : G p3 5 = some p3_5) {p3_6 : Nat} (hp3_6 : p3_6 < n ∧ K p3_6 = 100) (ep3_6 : G p3 6 = some p3_6) (x1 : Int32) (V : zI) (L : zL) (ls : Array Slot) (hl : lv_has ls 10 [(0, .ref (ad p0)), (1, .int x1), (2, .ref (ad p2)), (3, .ref (ad p3))]) (hf : g_X3_readLetters N G p0 p2 p3 p2_7 p3_5 p3_6 x1 V L = some r') : RG M (zC D cy ad n K N G) V L 0 ls [] := by
  unfold g_X3_readLetters at hf
  refine z_iload_n X.1 dX3_readLetters_0 rfl (lv_at hl 1 rfl) ?_
  refine z_istore (lv' := [(4, .int x1), (0, .ref (ad p0)), (1, .int x1), (2, .ref (ad p2)), (3, .ref (ad p3))]) X.1 dX3_readLetters_1 hl (by decide) rfl (fun ls hl => ?_)
  refine z_iconst (v := 0) X.1 dX3_readLetters_3 (by decide) ?_
  refine z_istore (lv' := [(5, .int 0), (4, .int x1), (0, .ref (ad p0)), (1, .int x1), (2, .ref (ad p2)), (3, .ref (ad p3))]) X.1 dX3_readLetters_4 hl (by decide) rfl (fun ls hl => ?_)
  exact w_X3_readLetters_6 X Z hp0 hp2 hp3 hp2_7 ep2_7 hp3_5 ep3_5 hp3_6 ep3_6 FU x1 0 V L ls (lv_sub hl [2, 4, 5, 1, 0] rfl) hf

theorem c_X3_readLetters (D : va_G) (cy : Nat → ClassId) (ad : Nat → Nat) {n : Nat} {K N : Nat → Nat} {G : zG} (hWF : zWF n K G) {p0 : Nat} {p2 : Nat} {p3 : Nat} {x1 : Int32} {V : zI} {L : zL} (hp0 : p0 < n ∧ K p0 = 101) (hp2 : p2 < n ∧ K p2 = 7) (hp3 : p3 < n ∧ K p3 = 5) {r' : Int32 × zI × zL} (hf : f_X3_readLetters N G p0 p2 p3 x1 V L = some r') : RCi (zC D cy ad n K N G) yX3_readLetters cX3_readLetters 10 .boolean 2 43 [.ref (ad p0), .int x1, .ref (ad p2), .ref (ad p3)] V L r'.1 r'.2.1 r'.2.2 := by
  unfold f_X3_readLetters at hf
  obtain ⟨p2_7, ep2_7, hf⟩ := z_bind hf
  have hp2_7 := hWF.get hp2 (k := 7) (c := 100) rfl ep2_7
  obtain ⟨p3_5, ep3_5, hf⟩ := z_bind hf
  have hp3_5 := hWF.get hp3 (k := 5) (c := 100) rfl ep3_5
  obtain ⟨p3_6, ep3_6, hf⟩ := z_bind hf
  have hp3_6 := hWF.get hp3 (k := 6) (c := 100) rfl ep3_6
  exact RCi.of (by decide) hWF (Nat.le_of_ble_eq_true rfl) (fun M X Z ls hl => w_X3_readLetters X Z hp0 hp2 hp3 hp2_7 ep2_7 hp3_5 ep3_5 hp3_6 ep3_6 x1 V L ls hl hf)
def f_X3_read_99 (N : Nat → Nat) (G : zG) (p0 : Nat) (p2 : Nat) (p3 : Nat) (p2_6 : Nat) (x1 : Int32) (x5 : Int32) (s0 : Int32) (V : zI) (L : zL) : Option (Int32 × zI × zL) :=
  (if 999 < (V p3 0) then some (0, V, L) else (if 60 < (V p3 4) then some (0, V, L) else (if s0 = 0 then some (0, V, L) else (f_X3_checkFits N G p0 x1 V L).bind fun r1 => (if r1 = 0 then some (0, V, L) else (f_X3_readCounts N G p0 p2 p3 V L).bind fun r2 => (if r2.1 = 0 then some (0, r2.2.1, r2.2.2) else (f_X3_readLetters N G p0 p2 p3 (x5 + 1) r2.2.1 r2.2.2).bind fun r3 => (if r3.1 = 0 then some (0, r3.2.1, r3.2.2) else some (1, r3.2.1, r3.2.2)))))))
def g_X3_read (N : Nat → Nat) (G : zG) (p0 : Nat) (p2 : Nat) (p3 : Nat) (p2_6 : Nat) (x1 : Int32) (V : zI) (L : zL) : Option (Int32 × zI × zL) :=
  (if (Int32.ofNat (N p0)) < x1 then some (0, V, L) else (if (((2 : Int32) + (((V p2 0) * ((V p2 0) - 1)) * 3)) + 2) ≤ x1 then (f_X7_begin N G p3 p2_6 V L).bind fun r1 => if inB 0 (N p0) then if inB 1 (N p0) then if inB ((2 : Int32) + (((V p2 0) * ((V p2 0) - 1)) * 3)) (N p0) then (if x1 = ((((2 : Int32) + (((V p2 0) * ((V p2 0) - 1)) * 3)) + 2) + (((z_uI (z_uI r1.1 p3 0 ((((r1.1 p0 (0 : Int32).toNatClampNeg) &&& 255) <<< ((8 : Int32) &&& 31)) ||| ((r1.1 p0 (1 : Int32).toNatClampNeg) &&& 255))) p3 4 (((z_uI r1.1 p3 0 ((((r1.1 p0 (0 : Int32).toNatClampNeg) &&& 255) <<< ((8 : Int32) &&& 31)) ||| ((r1.1 p0 (1 : Int32).toNatClampNeg) &&& 255))) p0 ((2 : Int32) + (((V p2 0) * ((V p2 0) - 1)) * 3)).toNatClampNeg) &&& 255)) p3 4) * 3)) then f_X3_read_99 N G p0 p2 p3 p2_6 x1 ((2 : Int32) + (((V p2 0) * ((V p2 0) - 1)) * 3)) 1 (z_uI (z_uI r1.1 p3 0 ((((r1.1 p0 (0 : Int32).toNatClampNeg) &&& 255) <<< ((8 : Int32) &&& 31)) ||| ((r1.1 p0 (1 : Int32).toNatClampNeg) &&& 255))) p3 4 (((z_uI r1.1 p3 0 ((((r1.1 p0 (0 : Int32).toNatClampNeg) &&& 255) <<< ((8 : Int32) &&& 31)) ||| ((r1.1 p0 (1 : Int32).toNatClampNeg) &&& 255))) p0 ((2 : Int32) + (((V p2 0) * ((V p2 0) - 1)) * 3)).toNatClampNeg) &&& 255)) r1.2 else f_X3_read_99 N G p0 p2 p3 p2_6 x1 ((2 : Int32) + (((V p2 0) * ((V p2 0) - 1)) * 3)) 0 (z_uI (z_uI r1.1 p3 0 ((((r1.1 p0 (0 : Int32).toNatClampNeg) &&& 255) <<< ((8 : Int32) &&& 31)) ||| ((r1.1 p0 (1 : Int32).toNatClampNeg) &&& 255))) p3 4 (((z_uI r1.1 p3 0 ((((r1.1 p0 (0 : Int32).toNatClampNeg) &&& 255) <<< ((8 : Int32) &&& 31)) ||| ((r1.1 p0 (1 : Int32).toNatClampNeg) &&& 255))) p0 ((2 : Int32) + (((V p2 0) * ((V p2 0) - 1)) * 3)).toNatClampNeg) &&& 255)) r1.2) else none else none else none else some (0, V, L)))
def f_X3_read (N : Nat → Nat) (G : zG) (p0 : Nat) (p2 : Nat) (p3 : Nat) (x1 : Int32) (V : zI) (L : zL) : Option (Int32 × zI × zL) :=
  (G p2 6).bind fun p2_6 => g_X3_read N G p0 p2 p3 p2_6 x1 V L
set_option maxHeartbeats 4000000 in
set_option maxRecDepth 100000 in
theorem w_X3_read_99 {M : zM} {D : va_G} {cy : Nat → ClassId} {ad : Nat → Nat} {n : Nat} {K N : Nat → Nat} {G : zG} {r' : Int32 × zI × zL} (X : RXc M D cy ad n K N G cX3_read 7 RX3 3 72) (Z : RZi M (zC D cy ad n K N G) .boolean r'.1 r'.2.1 r'.2.2) {p0 : Nat} (hp0 : p0 < n ∧ K p0 = 101) {p2 : Nat} (hp2 : p2 < n ∧ K p2 = 7) {p3 : Nat} (hp3 : p3 < n ∧ K p3 = 5) {p2_6 : Nat} (hp2_6 : p2_6 < n ∧ K p2_6 = 100) (ep2_6 : G p2 6 = some p2_6) (x1 : Int32) (x5 : Int32) (s0 : Int32) (V : zI) (L : zL) (ls : Array Slot) (hl : lv_has ls 7 [(0, .ref (ad p0)), (1, .int x1), (2, .ref (ad p2)), (3, .ref (ad p3)), (5, .int x5)]) (hf : f_X3_read_99 N G p0 p2 p3 p2_6 x1 x5 s0 V L = some r') : RG M (zC D cy ad n K N G) V L 99 ls [.int s0] := by
  unfold f_X3_read_99 at hf
  refine z_istore (lv' := [(6, .int s0), (0, .ref (ad p0)), (1, .int x1), (2, .ref (ad p2)), (3, .ref (ad p3)), (5, .int x5)]) X.1 dX3_read_99 hl (by decide) rfl (fun ls hl => ?_)
  refine z_aload_n X.1 dX3_read_101 rfl (lv_at hl 4 rfl) ?_
  refine c_geti X hp3 cf_X3_27 dX3_read_102 ?_
  refine z_sipush (v := 999) X.1 dX3_read_105 (by decide) ?_
  refine z_icmp_gt (tgt := 159) X.1 dX3_read_108 (by decide) (fun c_ => ?_) (fun c_ => ?_)
  · have hf := (if_pos c_).symm.trans hf
    refine z_iconst (v := 0) X.1 dX3_read_159 (by decide) ?_
    exact c_iret X Z hf (by decide) dX3_read_160
  · have hf := (if_neg c_).symm.trans hf
    refine z_aload_n X.1 dX3_read_111 rfl (lv_at hl 4 rfl) ?_
    refine c_geti X hp3 cf_X3_30 dX3_read_112 ?_
    refine z_bipush (v := 60) X.1 dX3_read_115 (by decide) ?_
    refine z_icmp_gt (tgt := 159) X.1 dX3_read_117 (by decide) (fun c_ => ?_) (fun c_ => ?_)
    · have hf := (if_pos c_).symm.trans hf
      refine z_iconst (v := 0) X.1 dX3_read_159 (by decide) ?_
      exact c_iret X Z hf (by decide) dX3_read_160
    · have hf := (if_neg c_).symm.trans hf
      refine z_iload X.1 dX3_read_120 (lv_at hl 0 rfl) ?_
      refine z_if_eq (tgt := 159) X.1 dX3_read_122 (by decide) (fun c_ => ?_) (fun c_ => ?_)
      · have hf := (if_pos c_).symm.trans hf
        refine z_iconst (v := 0) X.1 dX3_read_159 (by decide) ?_
        exact c_iret X Z hf (by decide) dX3_read_160
      · have hf := (if_neg c_).symm.trans hf
        refine z_aload_n X.1 dX3_read_125 rfl (lv_at hl 1 rfl) ?_
        refine z_iload_n X.1 dX3_read_126 rfl (lv_at hl 2 rfl) ?_
        obtain ⟨r1, hc1, hf⟩ := z_bind hf
        refine c_callSi [.ref (ad p0), .int x1] X hl.1 (c_X3_checkFits D cy ad X.2.2 hp0 hc1) cm_X3_33 cw_X3_checkFits rfl cq_X3_checkFits ⟨by decide, by decide⟩ (Nat.le_of_ble_eq_true rfl) rfl dX3_read_127 ?_
        refine z_if_eq (tgt := 159) X.1 dX3_read_130 (by decide) (fun c_ => ?_) (fun c_ => ?_)
        · have hf := (if_pos c_).symm.trans hf
          refine z_iconst (v := 0) X.1 dX3_read_159 (by decide) ?_
          exact c_iret X Z hf (by decide) dX3_read_160
        · have hf := (if_neg c_).symm.trans hf
          refine z_aload_n X.1 dX3_read_133 rfl (lv_at hl 1 rfl) ?_
          refine z_aload_n X.1 dX3_read_134 rfl (lv_at hl 3 rfl) ?_
          refine z_aload_n X.1 dX3_read_135 rfl (lv_at hl 4 rfl) ?_
          obtain ⟨r2, hc2, hf⟩ := z_bind hf
          refine c_callSi [.ref (ad p0), .ref (ad p2), .ref (ad p3)] X hl.1 (c_X3_readCounts D cy ad X.2.2 hp0 hp2 hp3 hc2) cm_X3_37 cw_X3_readCounts rfl cq_X3_readCounts ⟨by decide, by decide⟩ (Nat.le_of_ble_eq_true rfl) rfl dX3_read_136 ?_
          refine z_if_eq (tgt := 159) X.1 dX3_read_139 (by decide) (fun c_ => ?_) (fun c_ => ?_)
          · have hf := (if_pos c_).symm.trans hf
            refine z_iconst (v := 0) X.1 dX3_read_159 (by decide) ?_
            exact c_iret X Z hf (by decide) dX3_read_160
          · have hf := (if_neg c_).symm.trans hf
            refine z_aload_n X.1 dX3_read_142 rfl (lv_at hl 1 rfl) ?_
            refine z_iload X.1 dX3_read_143 (lv_at hl 5 rfl) ?_
            refine z_iconst (v := 1) X.1 dX3_read_145 (by decide) ?_
            refine z_iadd X.1 dX3_read_146 ?_
            refine z_aload_n X.1 dX3_read_147 rfl (lv_at hl 3 rfl) ?_
            refine z_aload_n X.1 dX3_read_148 rfl (lv_at hl 4 rfl) ?_
            obtain ⟨r3, hc3, hf⟩ := z_bind hf
            refine c_callSi [.ref (ad p0), .int (x5 + 1), .ref (ad p2), .ref (ad p3)] X hl.1 (c_X3_readLetters D cy ad X.2.2 hp0 hp2 hp3 hc3) cm_X3_41 cw_X3_readLetters rfl cq_X3_readLetters ⟨by decide, by decide⟩ (Nat.le_of_ble_eq_true rfl) rfl dX3_read_149 ?_
            refine z_if_eq (tgt := 159) X.1 dX3_read_152 (by decide) (fun c_ => ?_) (fun c_ => ?_)
            · have hf := (if_pos c_).symm.trans hf
              refine z_iconst (v := 0) X.1 dX3_read_159 (by decide) ?_
              exact c_iret X Z hf (by decide) dX3_read_160
            · have hf := (if_neg c_).symm.trans hf
              refine z_iconst (v := 1) X.1 dX3_read_155 (by decide) ?_
              refine z_goto (tgt := 160) X.1 dX3_read_156 (by decide) ?_
              exact c_iret X Z hf (by decide) dX3_read_160

set_option maxHeartbeats 4000000 in
set_option maxRecDepth 100000 in
theorem w_X3_read {M : zM} {D : va_G} {cy : Nat → ClassId} {ad : Nat → Nat} {n : Nat} {K N : Nat → Nat} {G : zG} {r' : Int32 × zI × zL} (X : RXc M D cy ad n K N G cX3_read 7 RX3 3 72) (Z : RZi M (zC D cy ad n K N G) .boolean r'.1 r'.2.1 r'.2.2) {p0 : Nat} (hp0 : p0 < n ∧ K p0 = 101) {p2 : Nat} (hp2 : p2 < n ∧ K p2 = 7) {p3 : Nat} (hp3 : p3 < n ∧ K p3 = 5) {p2_6 : Nat} (hp2_6 : p2_6 < n ∧ K p2_6 = 100) (ep2_6 : G p2 6 = some p2_6) (x1 : Int32) (V : zI) (L : zL) (ls : Array Slot) (hl : lv_has ls 7 [(0, .ref (ad p0)), (1, .int x1), (2, .ref (ad p2)), (3, .ref (ad p3))]) (hf : g_X3_read N G p0 p2 p3 p2_6 x1 V L = some r') : RG M (zC D cy ad n K N G) V L 0 ls [] := by
  unfold g_X3_read at hf
  refine z_aload_n X.1 dX3_read_0 rfl (lv_at hl 2 rfl) ?_
  refine c_geti X hp2 cf_X3_11 dX3_read_1 ?_
  refine z_aload_n X.1 dX3_read_4 rfl (lv_at hl 2 rfl) ?_
  refine c_geti X hp2 cf_X3_11 dX3_read_5 ?_
  refine z_iconst (v := 1) X.1 dX3_read_8 (by decide) ?_
  refine z_isub X.1 dX3_read_9 ?_
  refine z_imul X.1 dX3_read_10 ?_
  refine z_iconst (v := 3) X.1 dX3_read_11 (by decide) ?_
  refine z_imul X.1 dX3_read_12 ?_
  refine z_istore (lv' := [(4, .int (((V p2 0) * ((V p2 0) - 1)) * 3)), (0, .ref (ad p0)), (1, .int x1), (2, .ref (ad p2)), (3, .ref (ad p3))]) X.1 dX3_read_13 hl (by decide) rfl (fun ls hl => ?_)
  refine z_iconst (v := 2) X.1 dX3_read_15 (by decide) ?_
  refine z_iload X.1 dX3_read_16 (lv_at hl 0 rfl) ?_
  refine z_iadd X.1 dX3_read_18 ?_
  refine z_istore (lv' := [(5, .int ((2 : Int32) + (((V p2 0) * ((V p2 0) - 1)) * 3))), (4, .int (((V p2 0) * ((V p2 0) - 1)) * 3)), (0, .ref (ad p0)), (1, .int x1), (2, .ref (ad p2)), (3, .ref (ad p3))]) X.1 dX3_read_19 hl (by decide) rfl (fun ls hl => ?_)
  refine z_iload_n X.1 dX3_read_21 rfl (lv_at hl 3 rfl) ?_
  refine z_aload_n X.1 dX3_read_22 rfl (lv_at hl 2 rfl) ?_
  refine c_alen101 X hp0 dX3_read_23 ?_
  refine z_icmp_gt (tgt := 35) X.1 dX3_read_24 (by decide) (fun c_ => ?_) (fun c_ => ?_)
  · have hf := (if_pos c_).symm.trans hf
    refine z_iconst (v := 0) X.1 dX3_read_35 (by decide) ?_
    exact c_iret X Z hf (by decide) dX3_read_36
  · have hf := (if_neg c_).symm.trans hf
    refine z_iload_n X.1 dX3_read_27 rfl (lv_at hl 3 rfl) ?_
    refine z_iload X.1 dX3_read_28 (lv_at hl 0 rfl) ?_
    refine z_iconst (v := 2) X.1 dX3_read_30 (by decide) ?_
    refine z_iadd X.1 dX3_read_31 ?_
    refine z_icmp_ge (tgt := 37) X.1 dX3_read_32 (by decide) (fun c_ => ?_) (fun c_ => ?_)
    · have hf := (if_pos c_).symm.trans hf
      refine z_aload_n X.1 dX3_read_37 rfl (lv_at hl 5 rfl) ?_
      refine z_aload_n X.1 dX3_read_38 rfl (lv_at hl 4 rfl) ?_
      refine c_geta X hp2 cf_X3_17 ep2_6 dX3_read_39 ?_
      obtain ⟨r1, hc1, hf⟩ := z_bind hf
      refine c_callVv [.ref (ad p2_6)] X hl.1 (c_X7_begin D cy ad X.2.2 hp3 hp2_6 hc1) hp3 ⟨by decide, rfl⟩ cm_X3_21 cw_X7_begin rfl cq_X7_begin ⟨by decide, by decide⟩ (Nat.le_of_ble_eq_true rfl) rfl dX3_read_42 ?_
      refine z_aload_n X.1 dX3_read_45 rfl (lv_at hl 5 rfl) ?_
      refine z_aload_n X.1 dX3_read_46 rfl (lv_at hl 2 rfl) ?_
      refine z_iconst (v := 0) X.1 dX3_read_47 (by decide) ?_
      obtain ⟨hb2, hf⟩ := z_ite hf
      refine c_bald X hp0 hb2 dX3_read_48 ?_
      refine z_sipush (v := 255) X.1 dX3_read_49 (by decide) ?_
      refine z_iand X.1 dX3_read_52 ?_
      refine z_bipush (v := 8) X.1 dX3_read_53 (by decide) ?_
      refine z_ishl X.1 dX3_read_55 ?_
      refine z_aload_n X.1 dX3_read_56 rfl (lv_at hl 2 rfl) ?_
      refine z_iconst (v := 1) X.1 dX3_read_57 (by decide) ?_
      obtain ⟨hb3, hf⟩ := z_ite hf
      refine c_bald X hp0 hb3 dX3_read_58 ?_
      refine z_sipush (v := 255) X.1 dX3_read_59 (by decide) ?_
      refine z_iand X.1 dX3_read_62 ?_
      refine z_ior X.1 dX3_read_63 ?_
      refine c_puti X hp3 cf_X3_27 cg_X7 cp_X7_0 rfl rfl dX3_read_64 ?_
      refine z_aload_n X.1 dX3_read_67 rfl (lv_at hl 5 rfl) ?_
      refine z_aload_n X.1 dX3_read_68 rfl (lv_at hl 2 rfl) ?_
      refine z_iload X.1 dX3_read_69 (lv_at hl 0 rfl) ?_
      obtain ⟨hb4, hf⟩ := z_ite hf
      refine c_bald X hp0 hb4 dX3_read_71 ?_
      refine z_sipush (v := 255) X.1 dX3_read_72 (by decide) ?_
      refine z_iand X.1 dX3_read_75 ?_
      refine c_puti X hp3 cf_X3_30 cg_X7 cp_X7_4 rfl rfl dX3_read_76 ?_
      refine z_iload_n X.1 dX3_read_79 rfl (lv_at hl 3 rfl) ?_
      refine z_iload X.1 dX3_read_80 (lv_at hl 0 rfl) ?_
      refine z_iconst (v := 2) X.1 dX3_read_82 (by decide) ?_
      refine z_iadd X.1 dX3_read_83 ?_
      refine z_aload_n X.1 dX3_read_84 rfl (lv_at hl 5 rfl) ?_
      refine c_geti X hp3 cf_X3_30 dX3_read_85 ?_
      refine z_iconst (v := 3) X.1 dX3_read_88 (by decide) ?_
      refine z_imul X.1 dX3_read_89 ?_
      refine z_iadd X.1 dX3_read_90 ?_
      refine z_icmp_ne (tgt := 98) X.1 dX3_read_91 (by decide) (fun c_ => ?_) (fun c_ => ?_)
      · have hf := (if_neg c_).symm.trans hf
        refine z_iconst (v := 0) X.1 dX3_read_98 (by decide) ?_
        exact w_X3_read_99 X Z hp0 hp2 hp3 hp2_6 ep2_6 x1 ((2 : Int32) + (((V p2 0) * ((V p2 0) - 1)) * 3)) 0 (z_uI (z_uI r1.1 p3 0 ((((r1.1 p0 (0 : Int32).toNatClampNeg) &&& 255) <<< ((8 : Int32) &&& 31)) ||| ((r1.1 p0 (1 : Int32).toNatClampNeg) &&& 255))) p3 4 (((z_uI r1.1 p3 0 ((((r1.1 p0 (0 : Int32).toNatClampNeg) &&& 255) <<< ((8 : Int32) &&& 31)) ||| ((r1.1 p0 (1 : Int32).toNatClampNeg) &&& 255))) p0 ((2 : Int32) + (((V p2 0) * ((V p2 0) - 1)) * 3)).toNatClampNeg) &&& 255)) r1.2 ls (lv_sub hl [2, 3, 4, 5, 0] rfl) hf
      · have hf := (if_pos c_).symm.trans hf
        refine z_iconst (v := 1) X.1 dX3_read_94 (by decide) ?_
        refine z_goto (tgt := 99) X.1 dX3_read_95 (by decide) ?_
        exact w_X3_read_99 X Z hp0 hp2 hp3 hp2_6 ep2_6 x1 ((2 : Int32) + (((V p2 0) * ((V p2 0) - 1)) * 3)) 1 (z_uI (z_uI r1.1 p3 0 ((((r1.1 p0 (0 : Int32).toNatClampNeg) &&& 255) <<< ((8 : Int32) &&& 31)) ||| ((r1.1 p0 (1 : Int32).toNatClampNeg) &&& 255))) p3 4 (((z_uI r1.1 p3 0 ((((r1.1 p0 (0 : Int32).toNatClampNeg) &&& 255) <<< ((8 : Int32) &&& 31)) ||| ((r1.1 p0 (1 : Int32).toNatClampNeg) &&& 255))) p0 ((2 : Int32) + (((V p2 0) * ((V p2 0) - 1)) * 3)).toNatClampNeg) &&& 255)) r1.2 ls (lv_sub hl [2, 3, 4, 5, 0] rfl) hf
    · have hf := (if_neg c_).symm.trans hf
      refine z_iconst (v := 0) X.1 dX3_read_35 (by decide) ?_
      exact c_iret X Z hf (by decide) dX3_read_36

theorem c_X3_read (D : va_G) (cy : Nat → ClassId) (ad : Nat → Nat) {n : Nat} {K N : Nat → Nat} {G : zG} (hWF : zWF n K G) {p0 : Nat} {p2 : Nat} {p3 : Nat} {x1 : Int32} {V : zI} {L : zL} (hp0 : p0 < n ∧ K p0 = 101) (hp2 : p2 < n ∧ K p2 = 7) (hp3 : p3 < n ∧ K p3 = 5) {r' : Int32 × zI × zL} (hf : f_X3_read N G p0 p2 p3 x1 V L = some r') : RCi (zC D cy ad n K N G) yX3_read cX3_read 7 .boolean 3 72 [.ref (ad p0), .int x1, .ref (ad p2), .ref (ad p3)] V L r'.1 r'.2.1 r'.2.2 := by
  unfold f_X3_read at hf
  obtain ⟨p2_6, ep2_6, hf⟩ := z_bind hf
  have hp2_6 := hWF.get hp2 (k := 6) (c := 100) rfl ep2_6
  exact RCi.of (by decide) hWF (Nat.le_of_ble_eq_true rfl) (fun M X Z ls hl => w_X3_read X Z hp0 hp2 hp3 hp2_6 ep2_6 x1 V L ls hl hf)
def g_X10_on (N : Nat → Nat) (G : zG) (p0 : Nat) (p0_0 : Nat) (p0_2 : Nat) (p0_5 : Nat) (p0_6 : Nat) (V : zI) (L : zL) : Option (Int32 × zI × zL) :=
  (f_X3_read N G p0_0 p0_2 p0_6 (V p0 1) (z_uI V p0 1 0) L).bind fun r1 => (if r1.1 = 0 then (f_X10_refuse N G p0 5 r1.2.1 r1.2.2).bind fun r3 => some (0, r3.2.1, r3.2.2) else (f_X7_copyFrom N G p0_5 p0_6 r1.2.1 r1.2.2).bind fun r2 => some (1, z_uI r2.1 p0 10 0, r2.2))
def f_X10_on (N : Nat → Nat) (G : zG) (p0 : Nat) (V : zI) (L : zL) : Option (Int32 × zI × zL) :=
  (G p0 0).bind fun p0_0 => (G p0 2).bind fun p0_2 => (G p0 5).bind fun p0_5 => (G p0 6).bind fun p0_6 => g_X10_on N G p0 p0_0 p0_2 p0_5 p0_6 V L
set_option maxHeartbeats 4000000 in
set_option maxRecDepth 100000 in
theorem w_X10_on {M : zM} {D : va_G} {cy : Nat → ClassId} {ad : Nat → Nat} {n : Nat} {K N : Nat → Nat} {G : zG} {r' : Int32 × zI × zL} (X : RXc M D cy ad n K N G cX10_on 2 RX10 4 98) (Z : RZi M (zC D cy ad n K N G) .boolean r'.1 r'.2.1 r'.2.2) {p0 : Nat} (hp0 : p0 < n ∧ K p0 = 8) {p0_0 : Nat} (hp0_0 : p0_0 < n ∧ K p0_0 = 101) (ep0_0 : G p0 0 = some p0_0) {p0_2 : Nat} (hp0_2 : p0_2 < n ∧ K p0_2 = 7) (ep0_2 : G p0 2 = some p0_2) {p0_5 : Nat} (hp0_5 : p0_5 < n ∧ K p0_5 = 5) (ep0_5 : G p0 5 = some p0_5) {p0_6 : Nat} (hp0_6 : p0_6 < n ∧ K p0_6 = 5) (ep0_6 : G p0 6 = some p0_6)  (V : zI) (L : zL) (ls : Array Slot) (hl : lv_has ls 2 [(0, .ref (ad p0))]) (hf : g_X10_on N G p0 p0_0 p0_2 p0_5 p0_6 V L = some r') : RG M (zC D cy ad n K N G) V L 0 ls [] := by
  unfold g_X10_on at hf
  refine z_aload_n X.1 dX10_on_0 rfl (lv_at hl 0 rfl) ?_
  refine c_geti X hp0 cf_X10_13 dX10_on_1 ?_
  refine z_istore_n (lv' := [(1, .int (V p0 1)), (0, .ref (ad p0))]) X.1 dX10_on_4 rfl hl (by decide) rfl (fun ls hl => ?_)
  refine z_aload_n X.1 dX10_on_5 rfl (lv_at hl 1 rfl) ?_
  refine z_iconst (v := 0) X.1 dX10_on_6 (by decide) ?_
  refine c_puti X hp0 cf_X10_13 cg_X10 cp_X10_1 rfl rfl dX10_on_7 ?_
  refine z_aload_n X.1 dX10_on_10 rfl (lv_at hl 1 rfl) ?_
  refine c_geta X hp0 cf_X10_9 ep0_0 dX10_on_11 ?_
  refine z_iload_n X.1 dX10_on_14 rfl (lv_at hl 0 rfl) ?_
  refine z_aload_n X.1 dX10_on_15 rfl (lv_at hl 1 rfl) ?_
  refine c_geta X hp0 cf_X10_20 ep0_2 dX10_on_16 ?_
  refine z_aload_n X.1 dX10_on_19 rfl (lv_at hl 1 rfl) ?_
  refine c_geta X hp0 cf_X10_37 ep0_6 dX10_on_20 ?_
  obtain ⟨r1, hc1, hf⟩ := z_bind hf
  refine c_callSi [.ref (ad p0_0), .int (V p0 1), .ref (ad p0_2), .ref (ad p0_6)] X hl.1 (c_X3_read D cy ad X.2.2 hp0_0 hp0_2 hp0_6 hc1) cm_X10_290 cw_X3_read rfl cq_X3_read ⟨by decide, by decide⟩ (Nat.le_of_ble_eq_true rfl) rfl dX10_on_23 ?_
  refine z_if_ne (tgt := 37) X.1 dX10_on_26 (by decide) (fun c_ => ?_) (fun c_ => ?_)
  · have hf := (if_neg c_).symm.trans hf
    refine z_aload_n X.1 dX10_on_37 rfl (lv_at hl 1 rfl) ?_
    refine c_geta X hp0 cf_X10_33 ep0_5 dX10_on_38 ?_
    refine z_aload_n X.1 dX10_on_41 rfl (lv_at hl 1 rfl) ?_
    refine c_geta X hp0 cf_X10_37 ep0_6 dX10_on_42 ?_
    obtain ⟨r2, hc2, hf⟩ := z_bind hf
    refine c_callVv [.ref (ad p0_6)] X hl.1 (c_X7_copyFrom D cy ad X.2.2 hp0_5 hp0_6 hc2) hp0_5 ⟨by decide, rfl⟩ cm_X10_186 cw_X7_copyFrom rfl cq_X7_copyFrom ⟨by decide, by decide⟩ (Nat.le_of_ble_eq_true rfl) rfl dX10_on_45 ?_
    refine z_aload_n X.1 dX10_on_48 rfl (lv_at hl 1 rfl) ?_
    refine z_iconst (v := 0) X.1 dX10_on_49 (by decide) ?_
    refine c_puti X hp0 cf_X10_58 cg_X10 cp_X10_10 rfl rfl dX10_on_50 ?_
    refine z_iconst (v := 1) X.1 dX10_on_53 (by decide) ?_
    exact c_iret X Z hf (by decide) dX10_on_54
  · have hf := (if_pos c_).symm.trans hf
    refine z_aload_n X.1 dX10_on_29 rfl (lv_at hl 1 rfl) ?_
    refine z_iconst (v := 5) X.1 dX10_on_30 (by decide) ?_
    obtain ⟨r3, hc3, hf⟩ := z_bind hf
    refine c_callVi [.int 5] X hl.1 (c_X10_refuse D cy ad X.2.2 hp0 hc3) hp0 ⟨by decide, rfl⟩ cm_X10_80 cw_X10_refuse rfl cq_X10_refuse ⟨by decide, by decide⟩ (Nat.le_of_ble_eq_true rfl) rfl dX10_on_31 ?_
    refine z_pop X.1 dX10_on_34 rfl ?_
    refine z_iconst (v := 0) X.1 dX10_on_35 (by decide) ?_
    exact c_iret X Z hf (by decide) dX10_on_36

theorem c_X10_on (D : va_G) (cy : Nat → ClassId) (ad : Nat → Nat) {n : Nat} {K N : Nat → Nat} {G : zG} (hWF : zWF n K G) {p0 : Nat} {V : zI} {L : zL} (hp0 : p0 < n ∧ K p0 = 8) {r' : Int32 × zI × zL} (hf : f_X10_on N G p0 V L = some r') : RCi (zC D cy ad n K N G) yX10_on cX10_on 2 .boolean 4 98 [.ref (ad p0)] V L r'.1 r'.2.1 r'.2.2 := by
  unfold f_X10_on at hf
  obtain ⟨p0_0, ep0_0, hf⟩ := z_bind hf
  have hp0_0 := hWF.get hp0 (k := 0) (c := 101) rfl ep0_0
  obtain ⟨p0_2, ep0_2, hf⟩ := z_bind hf
  have hp0_2 := hWF.get hp0 (k := 2) (c := 7) rfl ep0_2
  obtain ⟨p0_5, ep0_5, hf⟩ := z_bind hf
  have hp0_5 := hWF.get hp0 (k := 5) (c := 5) rfl ep0_5
  obtain ⟨p0_6, ep0_6, hf⟩ := z_bind hf
  have hp0_6 := hWF.get hp0 (k := 6) (c := 5) rfl ep0_6
  exact RCi.of (by decide) hWF (Nat.le_of_ble_eq_true rfl) (fun M X Z ls hl => w_X10_on X Z hp0 hp0_0 ep0_0 hp0_2 ep0_2 hp0_5 ep0_5 hp0_6 ep0_6 V L ls hl hf)
def g_X10_status (N : Nat → Nat) (G : zG) (p0 : Nat) (p0_16 : Nat) (V : zI) (L : zL) (x1 : Int32) : Option (Int32) :=
  (if x1 < 0 then some (-1) else (if 6 ≤ x1 then some (-1) else if inB x1 (N p0_16) then some (V p0_16 x1.toNatClampNeg) else none))
def f_X10_status (N : Nat → Nat) (G : zG) (p0 : Nat) (x1 : Int32) (V : zI) (L : zL) : Option (Int32) :=
  (G p0 16).bind fun p0_16 => g_X10_status N G p0 p0_16 V L x1
set_option maxHeartbeats 4000000 in
set_option maxRecDepth 100000 in
theorem w_X10_status {M : zM} {D : va_G} {cy : Nat → ClassId} {ad : Nat → Nat} {n : Nat} {K N : Nat → Nat} {G : zG} {V : zI} {L : zL} {r' : Int32} (X : RXc M D cy ad n K N G cX10_status 2 RX10 0 0) (Z : RZi M (zC D cy ad n K N G) .int r' V L) {p0 : Nat} (hp0 : p0 < n ∧ K p0 = 8) {p0_16 : Nat} (hp0_16 : p0_16 < n ∧ K p0_16 = 100) (ep0_16 : G p0 16 = some p0_16) (x1 : Int32) (ls : Array Slot) (hl : lv_has ls 2 [(0, .ref (ad p0)), (1, .int x1)]) (hf : g_X10_status N G p0 p0_16 V L x1 = some r') : RG M (zC D cy ad n K N G) V L 0 ls [] := by
  unfold g_X10_status at hf
  refine z_iload_n X.1 dX10_status_0 rfl (lv_at hl 1 rfl) ?_
  refine z_if_lt (tgt := 19) X.1 dX10_status_1 (by decide) (fun c_ => ?_) (fun c_ => ?_)
  · have hf := (if_pos c_).symm.trans hf
    refine z_iconst (v := -1) X.1 dX10_status_19 (by decide) ?_
    exact c_iretS X Z hf rfl dX10_status_20
  · have hf := (if_neg c_).symm.trans hf
    refine z_iload_n X.1 dX10_status_4 rfl (lv_at hl 1 rfl) ?_
    refine z_bipush (v := 6) X.1 dX10_status_5 (by decide) ?_
    refine z_icmp_ge (tgt := 19) X.1 dX10_status_7 (by decide) (fun c_ => ?_) (fun c_ => ?_)
    · have hf := (if_pos c_).symm.trans hf
      refine z_iconst (v := -1) X.1 dX10_status_19 (by decide) ?_
      exact c_iretS X Z hf rfl dX10_status_20
    · have hf := (if_neg c_).symm.trans hf
      refine z_aload_n X.1 dX10_status_10 rfl (lv_at hl 0 rfl) ?_
      refine c_geta X hp0 cf_X10_77 ep0_16 dX10_status_11 ?_
      refine z_iload_n X.1 dX10_status_14 rfl (lv_at hl 1 rfl) ?_
      obtain ⟨hb1, hf⟩ := z_ite hf
      refine c_iald X hp0_16 hb1 dX10_status_15 ?_
      refine z_goto (tgt := 20) X.1 dX10_status_16 (by decide) ?_
      exact c_iretS X Z hf rfl dX10_status_20

theorem c_X10_status (D : va_G) (cy : Nat → ClassId) (ad : Nat → Nat) {n : Nat} {K N : Nat → Nat} {G : zG} (hWF : zWF n K G) {p0 : Nat} {x1 : Int32} {V : zI} {L : zL} (hp0 : p0 < n ∧ K p0 = 8) {r' : Int32} (hf : f_X10_status N G p0 x1 V L = some r') : RCi (zC D cy ad n K N G) yX10_status cX10_status 2 .int 0 0 [.ref (ad p0), .int x1] V L r' V L := by
  unfold f_X10_status at hf
  obtain ⟨p0_16, ep0_16, hf⟩ := z_bind hf
  have hp0_16 := hWF.get hp0 (k := 16) (c := 100) rfl ep0_16
  exact RCi.of (by decide) hWF (Nat.le_of_ble_eq_true rfl) (fun M X Z ls hl => w_X10_status X Z hp0 hp0_16 ep0_16 x1 ls hl hf)
abbrev T_GC : Type := ((Nat → Nat) → zG → Nat → Int64 → Int32 → Int32 → Int32 → zI → zL → Option (Int32 × zI × zL))
def H_GC (F : T_GC) (D : va_G) (cy : Nat → ClassId) (ad : Nat → Nat) (n : Nat) (K N : Nat → Nat) (G : zG) (fr lo : Nat) : Prop := (∀ (p0 : Nat) (x1 : Int64) (x3 : Int32) (x4 : Int32) (x5 : Int32) (V : zI) (L : zL) (r' : Int32 × zI × zL), (p0 < n ∧ K p0 = 2) → F N G p0 x1 x3 x4 x5 V L = some r' → RCi (zC D cy ad n K N G) yX2_choose cX2_choose 7 .boolean fr lo [.ref (ad p0), .long x1, .int x3, .int x4, .int x5] V L r'.1 r'.2.1 r'.2.2)
def f_X2_choose_12 (F : T_GC) (N : Nat → Nat) (G : zG) (p0 : Nat) (p0_0 : Nat) (p0_2 : Nat) (x1 : Int64) (V : zI) (L : zL) : Option (Int32 × zI × zL) :=
  (f_X2_isMet N G p0 x1 V L).bind fun r1 => if zB r1 then some (r1, V, L) else none
def b_X2_choose_22 (F : T_GC) (N : Nat → Nat) (G : zG) (p0 : Nat) (p0_0 : Nat) (p0_2 : Nat) (k22 : Int64 × Int32 × Int32 × Int32 × zI × zL → Option (Int32 × zI × zL)) : Int64 × Int32 × Int32 × Int32 × zI × zL → Option (Int32 × zI × zL) := fun ⟨x1, x3, x4, x6, V, L⟩ =>
  (if (V p0 1) ≤ x6 then some (0, V, L) else if inB x6 (N p0_0) then if inB x4 (N p0_2) then if inB x6 (N p0_0) then (F N G p0 (x1 ^^^ ((1 : Int64) <<< (((z_uI V p0_2 x4.toNatClampNeg (V p0_0 x6.toNatClampNeg)) p0_0 x6.toNatClampNeg).toInt64 &&& 63))) x3 (x4 + 1) (x6 + 1) (z_uI V p0_2 x4.toNatClampNeg (V p0_0 x6.toNatClampNeg)) L).bind fun r4 => (if r4.1 = 0 then k22 (x1, x3, x4, (x6 + 1), r4.2.1, r4.2.2) else some (1, r4.2.1, r4.2.2)) else none else none else none)
def g_X2_choose (F : T_GC) (N : Nat → Nat) (G : zG) (p0 : Nat) (p0_0 : Nat) (p0_2 : Nat) (x1 : Int64) (x3 : Int32) (x4 : Int32) (x5 : Int32) (V : zI) (L : zL) : Option (Int32 × zI × zL) :=
  (if x3 ≤ x4 then f_X2_choose_12 F N G p0 p0_0 p0_2 x1 V L else (if x4 < 3 then zfix (b_X2_choose_22 F N G p0 p0_0 p0_2) FU (x1, x3, x4, x5, V, L) else f_X2_choose_12 F N G p0 p0_0 p0_2 x1 V L))
def f_X2_choose (F : T_GC) (N : Nat → Nat) (G : zG) (p0 : Nat) (x1 : Int64) (x3 : Int32) (x4 : Int32) (x5 : Int32) (V : zI) (L : zL) : Option (Int32 × zI × zL) :=
  (G p0 0).bind fun p0_0 => (G p0 2).bind fun p0_2 => g_X2_choose F N G p0 p0_0 p0_2 x1 x3 x4 x5 V L
set_option maxHeartbeats 4000000 in
set_option maxRecDepth 100000 in
theorem w_X2_choose_12 {M : zM} {D : va_G} {cy : Nat → ClassId} {ad : Nat → Nat} {n : Nat} {K N : Nat → Nat} {G : zG} {r' : Int32 × zI × zL} {F : T_GC} {dd : Nat} (hF : H_GC F D cy ad n K N G (4 + dd) (94 + dd * 26)) (X : RXc M D cy ad n K N G cX2_choose 7 RX2 (4 + (dd + 1)) (94 + (dd + 1) * 26)) (Z : RZi M (zC D cy ad n K N G) .boolean r'.1 r'.2.1 r'.2.2) {p0 : Nat} (hp0 : p0 < n ∧ K p0 = 2) {p0_0 : Nat} (hp0_0 : p0_0 < n ∧ K p0_0 = 100) (ep0_0 : G p0 0 = some p0_0) {p0_2 : Nat} (hp0_2 : p0_2 < n ∧ K p0_2 = 100) (ep0_2 : G p0 2 = some p0_2) (x1 : Int64) (V : zI) (L : zL) (ls : Array Slot) (hl : lv_has ls 7 [(0, .ref (ad p0)), (1, .long x1)]) (hf : f_X2_choose_12 F N G p0 p0_0 p0_2 x1 V L = some r') : RG M (zC D cy ad n K N G) V L 12 ls [] := by
  unfold f_X2_choose_12 at hf
  refine z_aload_n X.1 dX2_choose_12 rfl (lv_at hl 0 rfl) ?_
  refine z_lload_n X.1 dX2_choose_13 rfl (lv_at hl 1 rfl) ?_
  obtain ⟨r1, hc1, hf⟩ := z_bind hf
  refine c_callVi [.long x1] X hl.1 (c_X2_isMet D cy ad X.2.2 hp0 hc1) hp0 ⟨by decide, rfl⟩ cm_X2_56 cw_X2_isMet rfl cq_X2_isMet ⟨by omega, by omega⟩ (Nat.le_of_ble_eq_true rfl) rfl dX2_choose_14 ?_
  obtain ⟨hb2, hf⟩ := z_ite hf
  exact c_iret X Z hf (zB_nar hb2) dX2_choose_17

set_option maxHeartbeats 4000000 in
set_option maxRecDepth 100000 in
theorem w_X2_choose_22 {M : zM} {D : va_G} {cy : Nat → ClassId} {ad : Nat → Nat} {n : Nat} {K N : Nat → Nat} {G : zG} {r' : Int32 × zI × zL} {F : T_GC} {dd : Nat} (hF : H_GC F D cy ad n K N G (4 + dd) (94 + dd * 26)) (X : RXc M D cy ad n K N G cX2_choose 7 RX2 (4 + (dd + 1)) (94 + (dd + 1) * 26)) (Z : RZi M (zC D cy ad n K N G) .boolean r'.1 r'.2.1 r'.2.2) {p0 : Nat} (hp0 : p0 < n ∧ K p0 = 2) {p0_0 : Nat} (hp0_0 : p0_0 < n ∧ K p0_0 = 100) (ep0_0 : G p0 0 = some p0_0) {p0_2 : Nat} (hp0_2 : p0_2 < n ∧ K p0_2 = 100) (ep0_2 : G p0 2 = some p0_2) (nn : Nat) : ∀ (x1 : Int64) (x3 : Int32) (x4 : Int32) (x6 : Int32) (V : zI) (L : zL) (ls : Array Slot) (hl : lv_has ls 7 [(0, .ref (ad p0)), (1, .long x1), (3, .int x3), (4, .int x4), (6, .int x6)]) (hf : zfix (b_X2_choose_22 F N G p0 p0_0 p0_2) nn (x1, x3, x4, x6, V, L) = some r'), RG M (zC D cy ad n K N G) V L 22 ls [] := by
  induction nn with
  | zero => intro x1 x3 x4 x6 V L ls hl hf; cases hf
  | succ nn ih =>
  intro x1 x3 x4 x6 V L ls hl hf
  have hk22 : ∀ (x1 : Int64) (x3 : Int32) (x4 : Int32) (x6 : Int32) (V : zI) (L : zL) (ls : Array Slot), lv_has ls 7 [(0, .ref (ad p0)), (1, .long x1), (3, .int x3), (4, .int x4), (6, .int x6)] → zfix (b_X2_choose_22 F N G p0 p0_0 p0_2) nn (x1, x3, x4, x6, V, L) = some r' → RG M (zC D cy ad n K N G) V L 22 ls [] := ih
  have hf : b_X2_choose_22 F N G p0 p0_0 p0_2 (zfix (b_X2_choose_22 F N G p0 p0_0 p0_2) nn) (x1, x3, x4, x6, V, L) = some r' := hf
  generalize zfix (b_X2_choose_22 F N G p0 p0_0 p0_2) nn = k22 at hk22 hf
  clear ih
  unfold b_X2_choose_22 at hf
  refine z_iload X.1 dX2_choose_22 (lv_at hl 4 rfl) ?_
  refine z_aload_n X.1 dX2_choose_24 rfl (lv_at hl 0 rfl) ?_
  refine c_geti X hp0 cf_X2_15 dX2_choose_25 ?_
  refine z_icmp_ge (tgt := 80) X.1 dX2_choose_28 (by decide) (fun c_ => ?_) (fun c_ => ?_)
  · have hf := (if_pos c_).symm.trans hf
    refine z_iconst (v := 0) X.1 dX2_choose_80 (by decide) ?_
    exact c_iret X Z hf (by decide) dX2_choose_81
  · have hf := (if_neg c_).symm.trans hf
    refine z_aload_n X.1 dX2_choose_31 rfl (lv_at hl 0 rfl) ?_
    refine c_geta X hp0 cf_X2_19 ep0_2 dX2_choose_32 ?_
    refine z_iload X.1 dX2_choose_35 (lv_at hl 3 rfl) ?_
    refine z_aload_n X.1 dX2_choose_37 rfl (lv_at hl 0 rfl) ?_
    refine c_geta X hp0 cf_X2_9 ep0_0 dX2_choose_38 ?_
    refine z_iload X.1 dX2_choose_41 (lv_at hl 4 rfl) ?_
    obtain ⟨hb1, hf⟩ := z_ite hf
    refine c_iald X hp0_0 hb1 dX2_choose_43 ?_
    obtain ⟨hb2, hf⟩ := z_ite hf
    refine c_iast X hp0_2 hb2 dX2_choose_44 ?_
    refine z_aload_n X.1 dX2_choose_45 rfl (lv_at hl 0 rfl) ?_
    refine z_lload_n X.1 dX2_choose_46 rfl (lv_at hl 1 rfl) ?_
    refine z_lconst (v := 1) X.1 dX2_choose_47 (by decide) ?_
    refine z_aload_n X.1 dX2_choose_48 rfl (lv_at hl 0 rfl) ?_
    refine c_geta X hp0 cf_X2_9 ep0_0 dX2_choose_49 ?_
    refine z_iload X.1 dX2_choose_52 (lv_at hl 4 rfl) ?_
    obtain ⟨hb3, hf⟩ := z_ite hf
    refine c_iald X hp0_0 hb3 dX2_choose_54 ?_
    refine z_lshl X.1 dX2_choose_55 ?_
    refine z_lxor X.1 dX2_choose_56 ?_
    refine z_iload_n X.1 dX2_choose_57 rfl (lv_at hl 2 rfl) ?_
    refine z_iload X.1 dX2_choose_58 (lv_at hl 3 rfl) ?_
    refine z_iconst (v := 1) X.1 dX2_choose_60 (by decide) ?_
    refine z_iadd X.1 dX2_choose_61 ?_
    refine z_iload X.1 dX2_choose_62 (lv_at hl 4 rfl) ?_
    refine z_iconst (v := 1) X.1 dX2_choose_64 (by decide) ?_
    refine z_iadd X.1 dX2_choose_65 ?_
    obtain ⟨r4, hc4, hf⟩ := z_bind hf
    refine c_callVi [.long (x1 ^^^ ((1 : Int64) <<< (((z_uI V p0_2 x4.toNatClampNeg (V p0_0 x6.toNatClampNeg)) p0_0 x6.toNatClampNeg).toInt64 &&& 63))), .int x3, .int (x4 + 1), .int (x6 + 1)] X hl.1 (hF p0 ((x1 ^^^ ((1 : Int64) <<< (((z_uI V p0_2 x4.toNatClampNeg (V p0_0 x6.toNatClampNeg)) p0_0 x6.toNatClampNeg).toInt64 &&& 63)))) (x3) ((x4 + 1)) ((x6 + 1)) (z_uI V p0_2 x4.toNatClampNeg (V p0_0 x6.toNatClampNeg)) L r4 hp0 hc4) hp0 ⟨by decide, rfl⟩ cm_X2_52 cw_X2_choose rfl cq_X2_choose ⟨by omega, by omega⟩ (Nat.le_of_ble_eq_true rfl) rfl dX2_choose_66 ?_
    refine z_if_eq (tgt := 74) X.1 dX2_choose_69 (by decide) (fun c_ => ?_) (fun c_ => ?_)
    · have hf := (if_pos c_).symm.trans hf
      refine z_iinc (v := x6 + 1) (k0 := 4) (lv' := [(6, .int (x6 + 1)), (0, .ref (ad p0)), (1, .long x1), (3, .int x3), (4, .int x4)]) X.1 dX2_choose_74 hl rfl rfl (by decide) rfl (fun ls hl => ?_)
      refine z_goto (tgt := 22) X.1 dX2_choose_77 (by decide) ?_
      exact hk22 x1 x3 x4 (x6 + 1) r4.2.1 r4.2.2 ls (lv_sub hl [1, 2, 3, 4, 0] rfl) hf
    · have hf := (if_neg c_).symm.trans hf
      refine z_iconst (v := 1) X.1 dX2_choose_72 (by decide) ?_
      exact c_iret X Z hf (by decide) dX2_choose_73

set_option maxHeartbeats 4000000 in
set_option maxRecDepth 100000 in
theorem w_X2_choose {M : zM} {D : va_G} {cy : Nat → ClassId} {ad : Nat → Nat} {n : Nat} {K N : Nat → Nat} {G : zG} {r' : Int32 × zI × zL} {F : T_GC} {dd : Nat} (hF : H_GC F D cy ad n K N G (4 + dd) (94 + dd * 26)) (X : RXc M D cy ad n K N G cX2_choose 7 RX2 (4 + (dd + 1)) (94 + (dd + 1) * 26)) (Z : RZi M (zC D cy ad n K N G) .boolean r'.1 r'.2.1 r'.2.2) {p0 : Nat} (hp0 : p0 < n ∧ K p0 = 2) {p0_0 : Nat} (hp0_0 : p0_0 < n ∧ K p0_0 = 100) (ep0_0 : G p0 0 = some p0_0) {p0_2 : Nat} (hp0_2 : p0_2 < n ∧ K p0_2 = 100) (ep0_2 : G p0 2 = some p0_2) (x1 : Int64) (x3 : Int32) (x4 : Int32) (x5 : Int32) (V : zI) (L : zL) (ls : Array Slot) (hl : lv_has ls 7 [(0, .ref (ad p0)), (1, .long x1), (3, .int x3), (4, .int x4), (5, .int x5)]) (hf : g_X2_choose F N G p0 p0_0 p0_2 x1 x3 x4 x5 V L = some r') : RG M (zC D cy ad n K N G) V L 0 ls [] := by
  unfold g_X2_choose at hf
  refine z_iload X.1 dX2_choose_0 (lv_at hl 3 rfl) ?_
  refine z_iload_n X.1 dX2_choose_2 rfl (lv_at hl 2 rfl) ?_
  refine z_icmp_ge (tgt := 12) X.1 dX2_choose_3 (by decide) (fun c_ => ?_) (fun c_ => ?_)
  · have hf := (if_pos c_).symm.trans hf
    exact w_X2_choose_12 hF X Z hp0 hp0_0 ep0_0 hp0_2 ep0_2 x1 V L ls (lv_sub hl [0, 1] rfl) hf
  · have hf := (if_neg c_).symm.trans hf
    refine z_iload X.1 dX2_choose_6 (lv_at hl 3 rfl) ?_
    refine z_iconst (v := 3) X.1 dX2_choose_8 (by decide) ?_
    refine z_icmp_lt (tgt := 18) X.1 dX2_choose_9 (by decide) (fun c_ => ?_) (fun c_ => ?_)
    · have hf := (if_pos c_).symm.trans hf
      refine z_iload X.1 dX2_choose_18 (lv_at hl 4 rfl) ?_
      refine z_istore (lv' := [(6, .int x5), (0, .ref (ad p0)), (1, .long x1), (3, .int x3), (4, .int x4), (5, .int x5)]) X.1 dX2_choose_20 hl (by decide) rfl (fun ls hl => ?_)
      exact w_X2_choose_22 hF X Z hp0 hp0_0 ep0_0 hp0_2 ep0_2 FU x1 x3 x4 x5 V L ls (lv_sub hl [1, 2, 3, 4, 0] rfl) hf
    · have hf := (if_neg c_).symm.trans hf
      exact w_X2_choose_12 hF X Z hp0 hp0_0 ep0_0 hp0_2 ep0_2 x1 V L ls (lv_sub hl [0, 1] rfl) hf

theorem c_X2_choose (D : va_G) (cy : Nat → ClassId) (ad : Nat → Nat) {n : Nat} {K N : Nat → Nat} {G : zG} {F : T_GC} {dd : Nat} (hF : H_GC F D cy ad n K N G (4 + dd) (94 + dd * 26)) (hWF : zWF n K G) {p0 : Nat} {x1 : Int64} {x3 : Int32} {x4 : Int32} {x5 : Int32} {V : zI} {L : zL} (hp0 : p0 < n ∧ K p0 = 2) {r' : Int32 × zI × zL} (hf : f_X2_choose F N G p0 x1 x3 x4 x5 V L = some r') : RCi (zC D cy ad n K N G) yX2_choose cX2_choose 7 .boolean (4 + (dd + 1)) (94 + (dd + 1) * 26) [.ref (ad p0), .long x1, .int x3, .int x4, .int x5] V L r'.1 r'.2.1 r'.2.2 := by
  unfold f_X2_choose at hf
  obtain ⟨p0_0, ep0_0, hf⟩ := z_bind hf
  have hp0_0 := hWF.get hp0 (k := 0) (c := 100) rfl ep0_0
  obtain ⟨p0_2, ep0_2, hf⟩ := z_bind hf
  have hp0_2 := hWF.get hp0 (k := 2) (c := 100) rfl ep0_2
  exact RCi.of (by decide) hWF (Nat.le_of_ble_eq_true rfl) (fun M X Z ls hl => w_X2_choose hF X Z hp0 hp0_0 ep0_0 hp0_2 ep0_2 x1 x3 x4 x5 V L ls hl hf)
def FF_GC : Nat → T_GC
  | 0 => fun _ _ _ _ _ _ _ _ _ => none
  | d + 1 => f_X2_choose (FF_GC d)
theorem cG_GC (D : va_G) (cy : Nat → ClassId) (ad : Nat → Nat) {n : Nat} {K N : Nat → Nat} {G : zG} (hWF : zWF n K G) (d : Nat) : H_GC (FF_GC d) D cy ad n K N G (4 + d) (94 + d * 26) := by
  induction d with
  | zero => exact fun p0 x1 x3 x4 x5 V L r' hp0 hf => (nomatch (show none = some r' from hf))
  | succ d ih => exact fun p0 x1 x3 x4 x5 V L r' hp0 hf => c_X2_choose D cy ad ih hWF hp0 hf
def f_X2_choose_T (N : Nat → Nat) (G : zG) (p0 : Nat) (x1 : Int64) (x3 : Int32) (x4 : Int32) (x5 : Int32) (V : zI) (L : zL) : Option (Int32 × zI × zL) := (FF_GC 8) N G p0 x1 x3 x4 x5 V L
theorem c_X2_choose_T (D : va_G) (cy : Nat → ClassId) (ad : Nat → Nat) {n : Nat} {K N : Nat → Nat} {G : zG} (hWF : zWF n K G) {p0 : Nat} {x1 : Int64} {x3 : Int32} {x4 : Int32} {x5 : Int32} {V : zI} {L : zL} {r' : Int32 × zI × zL} (hp0 : p0 < n ∧ K p0 = 2) (hf : f_X2_choose_T N G p0 x1 x3 x4 x5 V L = some r') : RCi (zC D cy ad n K N G) yX2_choose cX2_choose 7 .boolean 12 302 [.ref (ad p0), .long x1, .int x3, .int x4, .int x5] V L r'.1 r'.2.1 r'.2.2 := (cG_GC D cy ad hWF 8) p0 x1 x3 x4 x5 V L r' hp0 hf
abbrev T_GR : Type := ((Nat → Nat) → zG → Nat → zI → zL → Option (zI × zL)) × ((Nat → Nat) → zG → Nat → zI → zL → Option (zI × zL)) × ((Nat → Nat) → zG → Nat → zI → zL → Option (zI × zL)) × ((Nat → Nat) → zG → Nat → zI → zL → Option (zI × zL)) × ((Nat → Nat) → zG → Nat → zI → zL → Option (zI × zL)) × ((Nat → Nat) → zG → Nat → zI → zL → Option (zI × zL)) × ((Nat → Nat) → zG → Nat → zI → zL → Option (zI × zL)) × ((Nat → Nat) → zG → Nat → Int32 → zI → zL → Option (zI × zL)) × ((Nat → Nat) → zG → Nat → zI → zL → Option (zI × zL))
def H_GR (F : T_GR) (D : va_G) (cy : Nat → ClassId) (ad : Nat → Nat) (n : Nat) (K N : Nat → Nat) (G : zG) (fr lo : Nat) : Prop := (∀ (p0 : Nat) (V : zI) (L : zL) (r' : zI × zL), (p0 < n ∧ K p0 = 4) → F.1 N G p0 V L = some r' → RCv (zC D cy ad n K N G) yX5_readTest cX5_readTest 2 fr lo [.ref (ad p0)] V L r'.1 r'.2) ∧ (∀ (p0 : Nat) (V : zI) (L : zL) (r' : zI × zL), (p0 < n ∧ K p0 = 4) → F.2.1 N G p0 V L = some r' → RCv (zC D cy ad n K N G) yX5_readBoth cX5_readBoth 2 fr lo [.ref (ad p0)] V L r'.1 r'.2) ∧ (∀ (p0 : Nat) (V : zI) (L : zL) (r' : zI × zL), (p0 < n ∧ K p0 = 4) → F.2.2.1 N G p0 V L = some r' → RCv (zC D cy ad n K N G) yX5_readFact cX5_readFact 1 fr lo [.ref (ad p0)] V L r'.1 r'.2) ∧ (∀ (p0 : Nat) (V : zI) (L : zL) (r' : zI × zL), (p0 < n ∧ K p0 = 4) → F.2.2.2.1 N G p0 V L = some r' → RCv (zC D cy ad n K N G) yX5_readComparison cX5_readComparison 2 fr lo [.ref (ad p0)] V L r'.1 r'.2) ∧ (∀ (p0 : Nat) (V : zI) (L : zL) (r' : zI × zL), (p0 < n ∧ K p0 = 4) → F.2.2.2.2.1 N G p0 V L = some r' → RCv (zC D cy ad n K N G) yX5_readSum cX5_readSum 3 fr lo [.ref (ad p0)] V L r'.1 r'.2) ∧ (∀ (p0 : Nat) (V : zI) (L : zL) (r' : zI × zL), (p0 < n ∧ K p0 = 4) → F.2.2.2.2.2.1 N G p0 V L = some r' → RCv (zC D cy ad n K N G) yX5_readProduct cX5_readProduct 3 fr lo [.ref (ad p0)] V L r'.1 r'.2) ∧ (∀ (p0 : Nat) (V : zI) (L : zL) (r' : zI × zL), (p0 < n ∧ K p0 = 4) → F.2.2.2.2.2.2.1 N G p0 V L = some r' → RCv (zC D cy ad n K N G) yX5_readPart cX5_readPart 1 fr lo [.ref (ad p0)] V L r'.1 r'.2) ∧ (∀ (p0 : Nat) (x1 : Int32) (V : zI) (L : zL) (r' : zI × zL), (p0 < n ∧ K p0 = 4) → F.2.2.2.2.2.2.2.1 N G p0 x1 V L = some r' → RCv (zC D cy ad n K N G) yX5_readExtreme cX5_readExtreme 2 fr lo [.ref (ad p0), .int x1] V L r'.1 r'.2) ∧ (∀ (p0 : Nat) (V : zI) (L : zL) (r' : zI × zL), (p0 < n ∧ K p0 = 4) → F.2.2.2.2.2.2.2.2 N G p0 V L = some r' → RCv (zC D cy ad n K N G) yX5_readChoice cX5_readChoice 1 fr lo [.ref (ad p0)] V L r'.1 r'.2)
def b_X5_readTest_6 (F : T_GR) (N : Nat → Nat) (G : zG) (p0 : Nat) (k6 : Int32 × zI × zL → Option (zI × zL)) : Int32 × zI × zL → Option (zI × zL) := fun ⟨x1, V, L⟩ =>
  (if 1600 ≤ x1 then some (V, L) else (f_X5_isOwn N G p0 17 V L).bind fun r1 => (if r1 = 0 then some (V, L) else (f_X5_take N G p0 V L).bind fun r2 => (F.2.1 N G p0 r2.1 r2.2).bind fun r3 => (f_X5_emit N G p0 12 r3.1 r3.2).bind fun r4 => k6 ((x1 + 1), r4.1, r4.2)))
def g_X5_readTest (F : T_GR) (N : Nat → Nat) (G : zG) (p0 : Nat) (V : zI) (L : zL) : Option (zI × zL) :=
  (F.2.1 N G p0 V L).bind fun r1 => zfix (b_X5_readTest_6 F N G p0) FU (0, r1.1, r1.2)
def f_X5_readTest (F : T_GR) (N : Nat → Nat) (G : zG) (p0 : Nat) (V : zI) (L : zL) : Option (zI × zL) :=
  g_X5_readTest F N G p0 V L
def b_X5_readBoth_6 (F : T_GR) (N : Nat → Nat) (G : zG) (p0 : Nat) (k6 : Int32 × zI × zL → Option (zI × zL)) : Int32 × zI × zL → Option (zI × zL) := fun ⟨x1, V, L⟩ =>
  (if 1600 ≤ x1 then some (V, L) else (f_X5_isOwn N G p0 18 V L).bind fun r1 => (if r1 = 0 then some (V, L) else (f_X5_take N G p0 V L).bind fun r2 => (F.2.2.1 N G p0 r2.1 r2.2).bind fun r3 => (f_X5_emit N G p0 13 r3.1 r3.2).bind fun r4 => k6 ((x1 + 1), r4.1, r4.2)))
def g_X5_readBoth (F : T_GR) (N : Nat → Nat) (G : zG) (p0 : Nat) (V : zI) (L : zL) : Option (zI × zL) :=
  (F.2.2.1 N G p0 V L).bind fun r1 => zfix (b_X5_readBoth_6 F N G p0) FU (0, r1.1, r1.2)
def f_X5_readBoth (F : T_GR) (N : Nat → Nat) (G : zG) (p0 : Nat) (V : zI) (L : zL) : Option (zI × zL) :=
  g_X5_readBoth F N G p0 V L
def g_X5_readFact (F : T_GR) (N : Nat → Nat) (G : zG) (p0 : Nat) (V : zI) (L : zL) : Option (zI × zL) :=
  (f_X5_isOwn N G p0 19 V L).bind fun r1 => (if r1 = 0 then (f_X5_isSign N G p0 91 V L).bind fun r2 => (if r2 = 0 then (f_X5_isOwn N G p0 20 V L).bind fun r3 => (if r3 = 0 then (F.2.2.2.1 N G p0 V L).bind fun r4 => some (r4.1, r4.2) else (f_X5_take N G p0 V L).bind fun r5 => (f_X5_emit N G p0 101 r5.1 r5.2).bind fun r6 => some (r6.1, r6.2)) else (f_X5_opens N G p0 V L).bind fun r7 => (if r7.1 = 0 then some (r7.2.1, r7.2.2) else (F.1 N G p0 r7.2.1 r7.2.2).bind fun r8 => (f_X5_skipSign N G p0 93 r8.1 r8.2).bind fun r9 => some (z_uI r9.1 p0 8 ((r9.1 p0 8) - 1), r9.2))) else (f_X5_opens N G p0 V L).bind fun r10 => (if r10.1 = 0 then some (r10.2.1, r10.2.2) else (F.2.2.1 N G p0 r10.2.1 r10.2.2).bind fun r11 => (f_X5_emit N G p0 17 (z_uI r11.1 p0 8 ((r11.1 p0 8) - 1)) r11.2).bind fun r12 => some (r12.1, r12.2)))
def f_X5_readFact (F : T_GR) (N : Nat → Nat) (G : zG) (p0 : Nat) (V : zI) (L : zL) : Option (zI × zL) :=
  g_X5_readFact F N G p0 V L
def f_X5_readComparison_77 (F : T_GR) (N : Nat → Nat) (G : zG) (p0 : Nat) (s1 : Int32) (V : zI) (L : zL) : Option (zI × zL) :=
  (f_X5_emit N G p0 s1 V L).bind fun r1 => some (r1.1, r1.2)
def f_X5_readComparison_44 (F : T_GR) (N : Nat → Nat) (G : zG) (p0 : Nat) (x1 : Int32) (V : zI) (L : zL) : Option (zI × zL) :=
  (f_X5_take N G p0 V L).bind fun r1 => (F.2.2.2.2.1 N G p0 r1.1 r1.2).bind fun r2 => (if x1 = 60 then f_X5_readComparison_77 F N G p0 14 r2.1 r2.2 else (if x1 = 62 then f_X5_readComparison_77 F N G p0 15 r2.1 r2.2 else f_X5_readComparison_77 F N G p0 16 r2.1 r2.2))
def f_X5_readComparison_20 (F : T_GR) (N : Nat → Nat) (G : zG) (p0 : Nat) (s0 : Int32) (V : zI) (L : zL) : Option (zI × zL) :=
  (if s0 = 60 then f_X5_readComparison_44 F N G p0 s0 V L else (if s0 = 62 then f_X5_readComparison_44 F N G p0 s0 V L else (if s0 = 61 then f_X5_readComparison_44 F N G p0 s0 V L else (f_X5_failHere N G p0 V L).bind fun r1 => some (r1.1, r1.2))))
def g_X5_readComparison (F : T_GR) (N : Nat → Nat) (G : zG) (p0 : Nat) (V : zI) (L : zL) : Option (zI × zL) :=
  (F.2.2.2.2.1 N G p0 V L).bind fun r1 => (if (r1.1 p0 2) = 1 then f_X5_readComparison_20 F N G p0 (r1.1 p0 3) r1.1 r1.2 else f_X5_readComparison_20 F N G p0 (-1) r1.1 r1.2)
def f_X5_readComparison (F : T_GR) (N : Nat → Nat) (G : zG) (p0 : Nat) (V : zI) (L : zL) : Option (zI × zL) :=
  g_X5_readComparison F N G p0 V L
def f_X5_readSum_46 (F : T_GR) (N : Nat → Nat) (G : zG) (p0 : Nat) (k6 : Int32 × zI × zL → Option (zI × zL)) (x1 : Int32) (s0 : Int32) (V : zI) (L : zL) : Option (zI × zL) :=
  (f_X5_take N G p0 V L).bind fun r1 => (F.2.2.2.2.2.1 N G p0 r1.1 r1.2).bind fun r2 => (f_X5_emit N G p0 s0 r2.1 r2.2).bind fun r3 => k6 ((x1 + 1), r3.1, r3.2)
def f_X5_readSum_31 (F : T_GR) (N : Nat → Nat) (G : zG) (p0 : Nat) (k6 : Int32 × zI × zL → Option (zI × zL)) (x1 : Int32) (V : zI) (L : zL) : Option (zI × zL) :=
  (f_X5_isSign N G p0 43 V L).bind fun r1 => (if r1 = 0 then f_X5_readSum_46 F N G p0 k6 x1 6 V L else f_X5_readSum_46 F N G p0 k6 x1 5 V L)
def b_X5_readSum_6 (F : T_GR) (N : Nat → Nat) (G : zG) (p0 : Nat) (k6 : Int32 × zI × zL → Option (zI × zL)) : Int32 × zI × zL → Option (zI × zL) := fun ⟨x1, V, L⟩ =>
  (if 1600 ≤ x1 then some (V, L) else (f_X5_isSign N G p0 43 V L).bind fun r1 => (if r1 = 0 then (f_X5_isSign N G p0 45 V L).bind fun r2 => (if r2 = 0 then some (V, L) else f_X5_readSum_31 F N G p0 k6 x1 V L) else f_X5_readSum_31 F N G p0 k6 x1 V L))
def g_X5_readSum (F : T_GR) (N : Nat → Nat) (G : zG) (p0 : Nat) (V : zI) (L : zL) : Option (zI × zL) :=
  (F.2.2.2.2.2.1 N G p0 V L).bind fun r1 => zfix (b_X5_readSum_6 F N G p0) FU (0, r1.1, r1.2)
def f_X5_readSum (F : T_GR) (N : Nat → Nat) (G : zG) (p0 : Nat) (V : zI) (L : zL) : Option (zI × zL) :=
  g_X5_readSum F N G p0 V L
def f_X5_readProduct_70 (F : T_GR) (N : Nat → Nat) (G : zG) (p0 : Nat) (k6 : Int32 × zI × zL → Option (zI × zL)) (x1 : Int32) (s0 : Int32) (V : zI) (L : zL) : Option (zI × zL) :=
  (f_X5_take N G p0 V L).bind fun r1 => (F.2.2.2.2.2.2.1 N G p0 r1.1 r1.2).bind fun r2 => (f_X5_emit N G p0 s0 r2.1 r2.2).bind fun r3 => k6 ((x1 + 1), r3.1, r3.2)
def f_X5_readProduct_40 (F : T_GR) (N : Nat → Nat) (G : zG) (p0 : Nat) (k6 : Int32 × zI × zL → Option (zI × zL)) (x1 : Int32) (V : zI) (L : zL) : Option (zI × zL) :=
  (f_X5_isSign N G p0 42 V L).bind fun r1 => (if r1 = 0 then (f_X5_isSign N G p0 47 V L).bind fun r2 => (if r2 = 0 then f_X5_readProduct_70 F N G p0 k6 x1 9 V L else f_X5_readProduct_70 F N G p0 k6 x1 8 V L) else f_X5_readProduct_70 F N G p0 k6 x1 7 V L)
def b_X5_readProduct_6 (F : T_GR) (N : Nat → Nat) (G : zG) (p0 : Nat) (k6 : Int32 × zI × zL → Option (zI × zL)) : Int32 × zI × zL → Option (zI × zL) := fun ⟨x1, V, L⟩ =>
  (if 1600 ≤ x1 then some (V, L) else (f_X5_isSign N G p0 42 V L).bind fun r1 => (if r1 = 0 then (f_X5_isSign N G p0 47 V L).bind fun r2 => (if r2 = 0 then (f_X5_isSign N G p0 37 V L).bind fun r3 => (if r3 = 0 then some (V, L) else f_X5_readProduct_40 F N G p0 k6 x1 V L) else f_X5_readProduct_40 F N G p0 k6 x1 V L) else f_X5_readProduct_40 F N G p0 k6 x1 V L))
def g_X5_readProduct (F : T_GR) (N : Nat → Nat) (G : zG) (p0 : Nat) (V : zI) (L : zL) : Option (zI × zL) :=
  (F.2.2.2.2.2.2.1 N G p0 V L).bind fun r1 => zfix (b_X5_readProduct_6 F N G p0) FU (0, r1.1, r1.2)
def f_X5_readProduct (F : T_GR) (N : Nat → Nat) (G : zG) (p0 : Nat) (V : zI) (L : zL) : Option (zI × zL) :=
  g_X5_readProduct F N G p0 V L
def f_X5_readPart_100 (F : T_GR) (N : Nat → Nat) (G : zG) (p0 : Nat) (s1 : Int32) (V : zI) (L : zL) : Option (zI × zL) :=
  (F.2.2.2.2.2.2.2.1 N G p0 s1 V L).bind fun r1 => some (r1.1, r1.2)
def f_X5_readPart_83 (F : T_GR) (N : Nat → Nat) (G : zG) (p0 : Nat) (V : zI) (L : zL) : Option (zI × zL) :=
  (f_X5_isOwn N G p0 21 V L).bind fun r1 => (if r1 = 0 then f_X5_readPart_100 F N G p0 11 V L else f_X5_readPart_100 F N G p0 10 V L)
def g_X5_readPart (F : T_GR) (N : Nat → Nat) (G : zG) (p0 : Nat) (V : zI) (L : zL) : Option (zI × zL) :=
  (if (V p0 2) = 2 then (f_X5_emit N G p0 ((100 : Int32) + (V p0 3)) V L).bind fun r10 => (f_X5_take N G p0 r10.1 r10.2).bind fun r11 => some (r11.1, r11.2) else (f_X5_isSign N G p0 40 V L).bind fun r1 => (if r1 = 0 then (f_X5_isOwn N G p0 21 V L).bind fun r2 => (if r2 = 0 then (f_X5_isOwn N G p0 22 V L).bind fun r3 => (if r3 = 0 then (f_X5_isOwn N G p0 16 V L).bind fun r4 => (if r4 = 0 then (f_X5_readFactNamed N G p0 V L).bind fun r5 => some (r5.1, r5.2) else (F.2.2.2.2.2.2.2.2 N G p0 V L).bind fun r6 => some (r6.1, r6.2)) else f_X5_readPart_83 F N G p0 V L) else f_X5_readPart_83 F N G p0 V L) else (f_X5_opens N G p0 V L).bind fun r7 => (if r7.1 = 0 then some (r7.2.1, r7.2.2) else (F.2.2.2.2.1 N G p0 r7.2.1 r7.2.2).bind fun r8 => (f_X5_skipSign N G p0 41 r8.1 r8.2).bind fun r9 => some (z_uI r9.1 p0 8 ((r9.1 p0 8) - 1), r9.2))))
def f_X5_readPart (F : T_GR) (N : Nat → Nat) (G : zG) (p0 : Nat) (V : zI) (L : zL) : Option (zI × zL) :=
  g_X5_readPart F N G p0 V L
def g_X5_readExtreme (F : T_GR) (N : Nat → Nat) (G : zG) (p0 : Nat) (x1 : Int32) (V : zI) (L : zL) : Option (zI × zL) :=
  (f_X5_take N G p0 V L).bind fun r1 => (f_X5_opensWithParenthesis N G p0 r1.1 r1.2).bind fun r2 => (if r2.1 = 0 then some (r2.2.1, r2.2.2) else (F.2.2.2.2.1 N G p0 r2.2.1 r2.2.2).bind fun r3 => (f_X5_skipSign N G p0 44 r3.1 r3.2).bind fun r4 => (F.2.2.2.2.1 N G p0 r4.1 r4.2).bind fun r5 => (f_X5_skipSign N G p0 41 r5.1 r5.2).bind fun r6 => (f_X5_emit N G p0 x1 (z_uI r6.1 p0 8 ((r6.1 p0 8) - 1)) r6.2).bind fun r7 => some (r7.1, r7.2))
def f_X5_readExtreme (F : T_GR) (N : Nat → Nat) (G : zG) (p0 : Nat) (x1 : Int32) (V : zI) (L : zL) : Option (zI × zL) :=
  g_X5_readExtreme F N G p0 x1 V L
def g_X5_readChoice (F : T_GR) (N : Nat → Nat) (G : zG) (p0 : Nat) (V : zI) (L : zL) : Option (zI × zL) :=
  (f_X5_take N G p0 V L).bind fun r1 => (f_X5_opensWithParenthesis N G p0 r1.1 r1.2).bind fun r2 => (if r2.1 = 0 then some (r2.2.1, r2.2.2) else (F.1 N G p0 r2.2.1 r2.2.2).bind fun r3 => (f_X5_skipSign N G p0 44 r3.1 r3.2).bind fun r4 => (F.2.2.2.2.1 N G p0 r4.1 r4.2).bind fun r5 => (f_X5_skipSign N G p0 44 r5.1 r5.2).bind fun r6 => (F.2.2.2.2.1 N G p0 r6.1 r6.2).bind fun r7 => (f_X5_skipSign N G p0 41 r7.1 r7.2).bind fun r8 => (f_X5_emit N G p0 18 (z_uI r8.1 p0 8 ((r8.1 p0 8) - 1)) r8.2).bind fun r9 => some (r9.1, r9.2))
def f_X5_readChoice (F : T_GR) (N : Nat → Nat) (G : zG) (p0 : Nat) (V : zI) (L : zL) : Option (zI × zL) :=
  g_X5_readChoice F N G p0 V L
set_option maxHeartbeats 4000000 in
set_option maxRecDepth 100000 in
theorem w_X5_readTest_6 {M : zM} {D : va_G} {cy : Nat → ClassId} {ad : Nat → Nat} {n : Nat} {K N : Nat → Nat} {G : zG} {r' : zI × zL} {F : T_GR} {dd : Nat} (hF : H_GR F D cy ad n K N G (3 + dd) (64 + dd * 22)) (X : RXc M D cy ad n K N G cX5_readTest 2 RX5 (3 + (dd + 1)) (64 + (dd + 1) * 22)) (Z : RZv M (zC D cy ad n K N G) r'.1 r'.2) {p0 : Nat} (hp0 : p0 < n ∧ K p0 = 4) (nn : Nat) : ∀ (x1 : Int32) (V : zI) (L : zL) (ls : Array Slot) (hl : lv_has ls 2 [(0, .ref (ad p0)), (1, .int x1)]) (hf : zfix (b_X5_readTest_6 F N G p0) nn (x1, V, L) = some r'), RG M (zC D cy ad n K N G) V L 6 ls [] := by
  induction nn with
  | zero => intro x1 V L ls hl hf; cases hf
  | succ nn ih =>
  intro x1 V L ls hl hf
  have hk6 : ∀ (x1 : Int32) (V : zI) (L : zL) (ls : Array Slot), lv_has ls 2 [(0, .ref (ad p0)), (1, .int x1)] → zfix (b_X5_readTest_6 F N G p0) nn (x1, V, L) = some r' → RG M (zC D cy ad n K N G) V L 6 ls [] := ih
  have hf : b_X5_readTest_6 F N G p0 (zfix (b_X5_readTest_6 F N G p0) nn) (x1, V, L) = some r' := hf
  generalize zfix (b_X5_readTest_6 F N G p0) nn = k6 at hk6 hf
  clear ih
  unfold b_X5_readTest_6 at hf
  refine z_iload_n X.1 dX5_readTest_6 rfl (lv_at hl 1 rfl) ?_
  refine z_sipush (v := 1600) X.1 dX5_readTest_7 (by decide) ?_
  refine z_icmp_ge (tgt := 42) X.1 dX5_readTest_10 (by decide) (fun c_ => ?_) (fun c_ => ?_)
  · have hf := (if_pos c_).symm.trans hf
    exact c_vret X Z hf dX5_readTest_42
  · have hf := (if_neg c_).symm.trans hf
    refine z_aload_n X.1 dX5_readTest_13 rfl (lv_at hl 0 rfl) ?_
    refine z_bipush (v := 17) X.1 dX5_readTest_14 (by decide) ?_
    obtain ⟨r1, hc1, hf⟩ := z_bind hf
    refine c_callVi [.int 17] X hl.1 (c_X5_isOwn D cy ad X.2.2 hp0 hc1) hp0 ⟨by decide, rfl⟩ cm_X5_164 cw_X5_isOwn rfl cq_X5_isOwn ⟨by omega, by omega⟩ (Nat.le_of_ble_eq_true rfl) rfl dX5_readTest_16 ?_
    refine z_if_eq (tgt := 42) X.1 dX5_readTest_19 (by decide) (fun c_ => ?_) (fun c_ => ?_)
    · have hf := (if_pos c_).symm.trans hf
      exact c_vret X Z hf dX5_readTest_42
    · have hf := (if_neg c_).symm.trans hf
      refine z_aload_n X.1 dX5_readTest_22 rfl (lv_at hl 0 rfl) ?_
      obtain ⟨r2, hc2, hf⟩ := z_bind hf
      refine c_callVv [] X hl.1 (c_X5_take D cy ad X.2.2 hp0 hc2) hp0 ⟨by decide, rfl⟩ cm_X5_70 cw_X5_take rfl cq_X5_take ⟨by omega, by omega⟩ (Nat.le_of_ble_eq_true rfl) rfl dX5_readTest_23 ?_
      refine z_aload_n X.1 dX5_readTest_26 rfl (lv_at hl 0 rfl) ?_
      obtain ⟨r3, hc3, hf⟩ := z_bind hf
      refine c_callVv [] X hl.1 (hF.2.1 p0 r2.1 r2.2 r3 hp0 hc3) hp0 ⟨by decide, rfl⟩ cm_X5_161 cw_X5_readBoth rfl cq_X5_readBoth ⟨by omega, by omega⟩ (Nat.le_of_ble_eq_true rfl) rfl dX5_readTest_27 ?_
      refine z_aload_n X.1 dX5_readTest_30 rfl (lv_at hl 0 rfl) ?_
      refine z_bipush (v := 12) X.1 dX5_readTest_31 (by decide) ?_
      obtain ⟨r4, hc4, hf⟩ := z_bind hf
      refine c_callVv [.int 12] X hl.1 (c_X5_emit D cy ad X.2.2 hp0 hc4) hp0 ⟨by decide, rfl⟩ cm_X5_170 cw_X5_emit rfl cq_X5_emit ⟨by omega, by omega⟩ (Nat.le_of_ble_eq_true rfl) rfl dX5_readTest_33 ?_
      refine z_iinc (v := x1 + 1) (k0 := 1) (lv' := [(1, .int (x1 + 1)), (0, .ref (ad p0))]) X.1 dX5_readTest_36 hl rfl rfl (by decide) rfl (fun ls hl => ?_)
      refine z_goto (tgt := 6) X.1 dX5_readTest_39 (by decide) ?_
      exact hk6 (x1 + 1) r4.1 r4.2 ls (lv_sub hl [1, 0] rfl) hf

set_option maxHeartbeats 4000000 in
set_option maxRecDepth 100000 in
theorem w_X5_readTest {M : zM} {D : va_G} {cy : Nat → ClassId} {ad : Nat → Nat} {n : Nat} {K N : Nat → Nat} {G : zG} {r' : zI × zL} {F : T_GR} {dd : Nat} (hF : H_GR F D cy ad n K N G (3 + dd) (64 + dd * 22)) (X : RXc M D cy ad n K N G cX5_readTest 2 RX5 (3 + (dd + 1)) (64 + (dd + 1) * 22)) (Z : RZv M (zC D cy ad n K N G) r'.1 r'.2) {p0 : Nat} (hp0 : p0 < n ∧ K p0 = 4)  (V : zI) (L : zL) (ls : Array Slot) (hl : lv_has ls 2 [(0, .ref (ad p0))]) (hf : g_X5_readTest F N G p0 V L = some r') : RG M (zC D cy ad n K N G) V L 0 ls [] := by
  unfold g_X5_readTest at hf
  refine z_aload_n X.1 dX5_readTest_0 rfl (lv_at hl 0 rfl) ?_
  obtain ⟨r1, hc1, hf⟩ := z_bind hf
  refine c_callVv [] X hl.1 (hF.2.1 p0 V L r1 hp0 hc1) hp0 ⟨by decide, rfl⟩ cm_X5_161 cw_X5_readBoth rfl cq_X5_readBoth ⟨by omega, by omega⟩ (Nat.le_of_ble_eq_true rfl) rfl dX5_readTest_1 ?_
  refine z_iconst (v := 0) X.1 dX5_readTest_4 (by decide) ?_
  refine z_istore_n (lv' := [(1, .int 0), (0, .ref (ad p0))]) X.1 dX5_readTest_5 rfl hl (by decide) rfl (fun ls hl => ?_)
  exact w_X5_readTest_6 hF X Z hp0 FU 0 r1.1 r1.2 ls (lv_sub hl [1, 0] rfl) hf

theorem c_X5_readTest (D : va_G) (cy : Nat → ClassId) (ad : Nat → Nat) {n : Nat} {K N : Nat → Nat} {G : zG} {F : T_GR} {dd : Nat} (hF : H_GR F D cy ad n K N G (3 + dd) (64 + dd * 22)) (hWF : zWF n K G) {p0 : Nat} {V : zI} {L : zL} (hp0 : p0 < n ∧ K p0 = 4) {r' : zI × zL} (hf : f_X5_readTest F N G p0 V L = some r') : RCv (zC D cy ad n K N G) yX5_readTest cX5_readTest 2 (3 + (dd + 1)) (64 + (dd + 1) * 22) [.ref (ad p0)] V L r'.1 r'.2 := by
  unfold f_X5_readTest at hf
  exact RCv.of (by decide) hWF (Nat.le_of_ble_eq_true rfl) (fun M X Z ls hl => w_X5_readTest hF X Z hp0 V L ls hl hf)
set_option maxHeartbeats 4000000 in
set_option maxRecDepth 100000 in
theorem w_X5_readBoth_6 {M : zM} {D : va_G} {cy : Nat → ClassId} {ad : Nat → Nat} {n : Nat} {K N : Nat → Nat} {G : zG} {r' : zI × zL} {F : T_GR} {dd : Nat} (hF : H_GR F D cy ad n K N G (3 + dd) (64 + dd * 22)) (X : RXc M D cy ad n K N G cX5_readBoth 2 RX5 (3 + (dd + 1)) (64 + (dd + 1) * 22)) (Z : RZv M (zC D cy ad n K N G) r'.1 r'.2) {p0 : Nat} (hp0 : p0 < n ∧ K p0 = 4) (nn : Nat) : ∀ (x1 : Int32) (V : zI) (L : zL) (ls : Array Slot) (hl : lv_has ls 2 [(0, .ref (ad p0)), (1, .int x1)]) (hf : zfix (b_X5_readBoth_6 F N G p0) nn (x1, V, L) = some r'), RG M (zC D cy ad n K N G) V L 6 ls [] := by
  induction nn with
  | zero => intro x1 V L ls hl hf; cases hf
  | succ nn ih =>
  intro x1 V L ls hl hf
  have hk6 : ∀ (x1 : Int32) (V : zI) (L : zL) (ls : Array Slot), lv_has ls 2 [(0, .ref (ad p0)), (1, .int x1)] → zfix (b_X5_readBoth_6 F N G p0) nn (x1, V, L) = some r' → RG M (zC D cy ad n K N G) V L 6 ls [] := ih
  have hf : b_X5_readBoth_6 F N G p0 (zfix (b_X5_readBoth_6 F N G p0) nn) (x1, V, L) = some r' := hf
  generalize zfix (b_X5_readBoth_6 F N G p0) nn = k6 at hk6 hf
  clear ih
  unfold b_X5_readBoth_6 at hf
  refine z_iload_n X.1 dX5_readBoth_6 rfl (lv_at hl 1 rfl) ?_
  refine z_sipush (v := 1600) X.1 dX5_readBoth_7 (by decide) ?_
  refine z_icmp_ge (tgt := 42) X.1 dX5_readBoth_10 (by decide) (fun c_ => ?_) (fun c_ => ?_)
  · have hf := (if_pos c_).symm.trans hf
    exact c_vret X Z hf dX5_readBoth_42
  · have hf := (if_neg c_).symm.trans hf
    refine z_aload_n X.1 dX5_readBoth_13 rfl (lv_at hl 0 rfl) ?_
    refine z_bipush (v := 18) X.1 dX5_readBoth_14 (by decide) ?_
    obtain ⟨r1, hc1, hf⟩ := z_bind hf
    refine c_callVi [.int 18] X hl.1 (c_X5_isOwn D cy ad X.2.2 hp0 hc1) hp0 ⟨by decide, rfl⟩ cm_X5_164 cw_X5_isOwn rfl cq_X5_isOwn ⟨by omega, by omega⟩ (Nat.le_of_ble_eq_true rfl) rfl dX5_readBoth_16 ?_
    refine z_if_eq (tgt := 42) X.1 dX5_readBoth_19 (by decide) (fun c_ => ?_) (fun c_ => ?_)
    · have hf := (if_pos c_).symm.trans hf
      exact c_vret X Z hf dX5_readBoth_42
    · have hf := (if_neg c_).symm.trans hf
      refine z_aload_n X.1 dX5_readBoth_22 rfl (lv_at hl 0 rfl) ?_
      obtain ⟨r2, hc2, hf⟩ := z_bind hf
      refine c_callVv [] X hl.1 (c_X5_take D cy ad X.2.2 hp0 hc2) hp0 ⟨by decide, rfl⟩ cm_X5_70 cw_X5_take rfl cq_X5_take ⟨by omega, by omega⟩ (Nat.le_of_ble_eq_true rfl) rfl dX5_readBoth_23 ?_
      refine z_aload_n X.1 dX5_readBoth_26 rfl (lv_at hl 0 rfl) ?_
      obtain ⟨r3, hc3, hf⟩ := z_bind hf
      refine c_callVv [] X hl.1 (hF.2.2.1 p0 r2.1 r2.2 r3 hp0 hc3) hp0 ⟨by decide, rfl⟩ cm_X5_173 cw_X5_readFact rfl cq_X5_readFact ⟨by omega, by omega⟩ (Nat.le_of_ble_eq_true rfl) rfl dX5_readBoth_27 ?_
      refine z_aload_n X.1 dX5_readBoth_30 rfl (lv_at hl 0 rfl) ?_
      refine z_bipush (v := 13) X.1 dX5_readBoth_31 (by decide) ?_
      obtain ⟨r4, hc4, hf⟩ := z_bind hf
      refine c_callVv [.int 13] X hl.1 (c_X5_emit D cy ad X.2.2 hp0 hc4) hp0 ⟨by decide, rfl⟩ cm_X5_170 cw_X5_emit rfl cq_X5_emit ⟨by omega, by omega⟩ (Nat.le_of_ble_eq_true rfl) rfl dX5_readBoth_33 ?_
      refine z_iinc (v := x1 + 1) (k0 := 1) (lv' := [(1, .int (x1 + 1)), (0, .ref (ad p0))]) X.1 dX5_readBoth_36 hl rfl rfl (by decide) rfl (fun ls hl => ?_)
      refine z_goto (tgt := 6) X.1 dX5_readBoth_39 (by decide) ?_
      exact hk6 (x1 + 1) r4.1 r4.2 ls (lv_sub hl [1, 0] rfl) hf

set_option maxHeartbeats 4000000 in
set_option maxRecDepth 100000 in
theorem w_X5_readBoth {M : zM} {D : va_G} {cy : Nat → ClassId} {ad : Nat → Nat} {n : Nat} {K N : Nat → Nat} {G : zG} {r' : zI × zL} {F : T_GR} {dd : Nat} (hF : H_GR F D cy ad n K N G (3 + dd) (64 + dd * 22)) (X : RXc M D cy ad n K N G cX5_readBoth 2 RX5 (3 + (dd + 1)) (64 + (dd + 1) * 22)) (Z : RZv M (zC D cy ad n K N G) r'.1 r'.2) {p0 : Nat} (hp0 : p0 < n ∧ K p0 = 4)  (V : zI) (L : zL) (ls : Array Slot) (hl : lv_has ls 2 [(0, .ref (ad p0))]) (hf : g_X5_readBoth F N G p0 V L = some r') : RG M (zC D cy ad n K N G) V L 0 ls [] := by
  unfold g_X5_readBoth at hf
  refine z_aload_n X.1 dX5_readBoth_0 rfl (lv_at hl 0 rfl) ?_
  obtain ⟨r1, hc1, hf⟩ := z_bind hf
  refine c_callVv [] X hl.1 (hF.2.2.1 p0 V L r1 hp0 hc1) hp0 ⟨by decide, rfl⟩ cm_X5_173 cw_X5_readFact rfl cq_X5_readFact ⟨by omega, by omega⟩ (Nat.le_of_ble_eq_true rfl) rfl dX5_readBoth_1 ?_
  refine z_iconst (v := 0) X.1 dX5_readBoth_4 (by decide) ?_
  refine z_istore_n (lv' := [(1, .int 0), (0, .ref (ad p0))]) X.1 dX5_readBoth_5 rfl hl (by decide) rfl (fun ls hl => ?_)
  exact w_X5_readBoth_6 hF X Z hp0 FU 0 r1.1 r1.2 ls (lv_sub hl [1, 0] rfl) hf

theorem c_X5_readBoth (D : va_G) (cy : Nat → ClassId) (ad : Nat → Nat) {n : Nat} {K N : Nat → Nat} {G : zG} {F : T_GR} {dd : Nat} (hF : H_GR F D cy ad n K N G (3 + dd) (64 + dd * 22)) (hWF : zWF n K G) {p0 : Nat} {V : zI} {L : zL} (hp0 : p0 < n ∧ K p0 = 4) {r' : zI × zL} (hf : f_X5_readBoth F N G p0 V L = some r') : RCv (zC D cy ad n K N G) yX5_readBoth cX5_readBoth 2 (3 + (dd + 1)) (64 + (dd + 1) * 22) [.ref (ad p0)] V L r'.1 r'.2 := by
  unfold f_X5_readBoth at hf
  exact RCv.of (by decide) hWF (Nat.le_of_ble_eq_true rfl) (fun M X Z ls hl => w_X5_readBoth hF X Z hp0 V L ls hl hf)
set_option maxHeartbeats 4000000 in
set_option maxRecDepth 100000 in
theorem w_X5_readFact {M : zM} {D : va_G} {cy : Nat → ClassId} {ad : Nat → Nat} {n : Nat} {K N : Nat → Nat} {G : zG} {r' : zI × zL} {F : T_GR} {dd : Nat} (hF : H_GR F D cy ad n K N G (3 + dd) (64 + dd * 22)) (X : RXc M D cy ad n K N G cX5_readFact 1 RX5 (3 + (dd + 1)) (64 + (dd + 1) * 22)) (Z : RZv M (zC D cy ad n K N G) r'.1 r'.2) {p0 : Nat} (hp0 : p0 < n ∧ K p0 = 4)  (V : zI) (L : zL) (ls : Array Slot) (hl : lv_has ls 1 [(0, .ref (ad p0))]) (hf : g_X5_readFact F N G p0 V L = some r') : RG M (zC D cy ad n K N G) V L 0 ls [] := by
  unfold g_X5_readFact at hf
  refine z_aload_n X.1 dX5_readFact_0 rfl (lv_at hl 0 rfl) ?_
  refine z_bipush (v := 19) X.1 dX5_readFact_1 (by decide) ?_
  obtain ⟨r1, hc1, hf⟩ := z_bind hf
  refine c_callVi [.int 19] X hl.1 (c_X5_isOwn D cy ad X.2.2 hp0 hc1) hp0 ⟨by decide, rfl⟩ cm_X5_164 cw_X5_isOwn rfl cq_X5_isOwn ⟨by omega, by omega⟩ (Nat.le_of_ble_eq_true rfl) rfl dX5_readFact_3 ?_
  refine z_if_eq (tgt := 39) X.1 dX5_readFact_6 (by decide) (fun c_ => ?_) (fun c_ => ?_)
  · have hf := (if_pos c_).symm.trans hf
    refine z_aload_n X.1 dX5_readFact_39 rfl (lv_at hl 0 rfl) ?_
    refine z_bipush (v := 91) X.1 dX5_readFact_40 (by decide) ?_
    obtain ⟨r2, hc2, hf⟩ := z_bind hf
    refine c_callVi [.int 91] X hl.1 (c_X5_isSign D cy ad X.2.2 hp0 hc2) hp0 ⟨by decide, rfl⟩ cm_X5_180 cw_X5_isSign rfl cq_X5_isSign ⟨by omega, by omega⟩ (Nat.le_of_ble_eq_true rfl) rfl dX5_readFact_42 ?_
    refine z_if_eq (tgt := 78) X.1 dX5_readFact_45 (by decide) (fun c_ => ?_) (fun c_ => ?_)
    · have hf := (if_pos c_).symm.trans hf
      refine z_aload_n X.1 dX5_readFact_78 rfl (lv_at hl 0 rfl) ?_
      refine z_bipush (v := 20) X.1 dX5_readFact_79 (by decide) ?_
      obtain ⟨r3, hc3, hf⟩ := z_bind hf
      refine c_callVi [.int 20] X hl.1 (c_X5_isOwn D cy ad X.2.2 hp0 hc3) hp0 ⟨by decide, rfl⟩ cm_X5_164 cw_X5_isOwn rfl cq_X5_isOwn ⟨by omega, by omega⟩ (Nat.le_of_ble_eq_true rfl) rfl dX5_readFact_81 ?_
      refine z_if_eq (tgt := 100) X.1 dX5_readFact_84 (by decide) (fun c_ => ?_) (fun c_ => ?_)
      · have hf := (if_pos c_).symm.trans hf
        refine z_aload_n X.1 dX5_readFact_100 rfl (lv_at hl 0 rfl) ?_
        obtain ⟨r4, hc4, hf⟩ := z_bind hf
        refine c_callVv [] X hl.1 (hF.2.2.2.1 p0 V L r4 hp0 hc4) hp0 ⟨by decide, rfl⟩ cm_X5_183 cw_X5_readComparison rfl cq_X5_readComparison ⟨by omega, by omega⟩ (Nat.le_of_ble_eq_true rfl) rfl dX5_readFact_101 ?_
        exact c_vret X Z hf dX5_readFact_104
      · have hf := (if_neg c_).symm.trans hf
        refine z_aload_n X.1 dX5_readFact_87 rfl (lv_at hl 0 rfl) ?_
        obtain ⟨r5, hc5, hf⟩ := z_bind hf
        refine c_callVv [] X hl.1 (c_X5_take D cy ad X.2.2 hp0 hc5) hp0 ⟨by decide, rfl⟩ cm_X5_70 cw_X5_take rfl cq_X5_take ⟨by omega, by omega⟩ (Nat.le_of_ble_eq_true rfl) rfl dX5_readFact_88 ?_
        refine z_aload_n X.1 dX5_readFact_91 rfl (lv_at hl 0 rfl) ?_
        refine z_bipush (v := 101) X.1 dX5_readFact_92 (by decide) ?_
        obtain ⟨r6, hc6, hf⟩ := z_bind hf
        refine c_callVv [.int 101] X hl.1 (c_X5_emit D cy ad X.2.2 hp0 hc6) hp0 ⟨by decide, rfl⟩ cm_X5_170 cw_X5_emit rfl cq_X5_emit ⟨by omega, by omega⟩ (Nat.le_of_ble_eq_true rfl) rfl dX5_readFact_94 ?_
        refine z_goto (tgt := 104) X.1 dX5_readFact_97 (by decide) ?_
        exact c_vret X Z hf dX5_readFact_104
    · have hf := (if_neg c_).symm.trans hf
      refine z_aload_n X.1 dX5_readFact_48 rfl (lv_at hl 0 rfl) ?_
      obtain ⟨r7, hc7, hf⟩ := z_bind hf
      refine c_callVi [] X hl.1 (c_X5_opens D cy ad X.2.2 hp0 hc7) hp0 ⟨by decide, rfl⟩ cm_X5_176 cw_X5_opens rfl cq_X5_opens ⟨by omega, by omega⟩ (Nat.le_of_ble_eq_true rfl) rfl dX5_readFact_49 ?_
      refine z_if_eq (tgt := 104) X.1 dX5_readFact_52 (by decide) (fun c_ => ?_) (fun c_ => ?_)
      · have hf := (if_pos c_).symm.trans hf
        exact c_vret X Z hf dX5_readFact_104
      · have hf := (if_neg c_).symm.trans hf
        refine z_aload_n X.1 dX5_readFact_55 rfl (lv_at hl 0 rfl) ?_
        obtain ⟨r8, hc8, hf⟩ := z_bind hf
        refine c_callVv [] X hl.1 (hF.1 p0 r7.2.1 r7.2.2 r8 hp0 hc8) hp0 ⟨by decide, rfl⟩ cm_X5_150 cw_X5_readTest rfl cq_X5_readTest ⟨by omega, by omega⟩ (Nat.le_of_ble_eq_true rfl) rfl dX5_readFact_56 ?_
        refine z_aload_n X.1 dX5_readFact_59 rfl (lv_at hl 0 rfl) ?_
        refine z_bipush (v := 93) X.1 dX5_readFact_60 (by decide) ?_
        obtain ⟨r9, hc9, hf⟩ := z_bind hf
        refine c_callVv [.int 93] X hl.1 (c_X5_skipSign D cy ad X.2.2 hp0 hc9) hp0 ⟨by decide, rfl⟩ cm_X5_80 cw_X5_skipSign rfl cq_X5_skipSign ⟨by omega, by omega⟩ (Nat.le_of_ble_eq_true rfl) rfl dX5_readFact_62 ?_
        refine z_aload_n X.1 dX5_readFact_65 rfl (lv_at hl 0 rfl) ?_
        refine z_dup X.1 dX5_readFact_66 rfl ?_
        refine c_geti X hp0 cf_X5_36 dX5_readFact_67 ?_
        refine z_iconst (v := 1) X.1 dX5_readFact_70 (by decide) ?_
        refine z_isub X.1 dX5_readFact_71 ?_
        refine c_puti X hp0 cf_X5_36 cg_X5 cp_X5_8 rfl rfl dX5_readFact_72 ?_
        refine z_goto (tgt := 104) X.1 dX5_readFact_75 (by decide) ?_
        exact c_vret X Z hf dX5_readFact_104
  · have hf := (if_neg c_).symm.trans hf
    refine z_aload_n X.1 dX5_readFact_9 rfl (lv_at hl 0 rfl) ?_
    obtain ⟨r10, hc10, hf⟩ := z_bind hf
    refine c_callVi [] X hl.1 (c_X5_opens D cy ad X.2.2 hp0 hc10) hp0 ⟨by decide, rfl⟩ cm_X5_176 cw_X5_opens rfl cq_X5_opens ⟨by omega, by omega⟩ (Nat.le_of_ble_eq_true rfl) rfl dX5_readFact_10 ?_
    refine z_if_eq (tgt := 104) X.1 dX5_readFact_13 (by decide) (fun c_ => ?_) (fun c_ => ?_)
    · have hf := (if_pos c_).symm.trans hf
      exact c_vret X Z hf dX5_readFact_104
    · have hf := (if_neg c_).symm.trans hf
      refine z_aload_n X.1 dX5_readFact_16 rfl (lv_at hl 0 rfl) ?_
      obtain ⟨r11, hc11, hf⟩ := z_bind hf
      refine c_callVv [] X hl.1 (hF.2.2.1 p0 r10.2.1 r10.2.2 r11 hp0 hc11) hp0 ⟨by decide, rfl⟩ cm_X5_173 cw_X5_readFact rfl cq_X5_readFact ⟨by omega, by omega⟩ (Nat.le_of_ble_eq_true rfl) rfl dX5_readFact_17 ?_
      refine z_aload_n X.1 dX5_readFact_20 rfl (lv_at hl 0 rfl) ?_
      refine z_dup X.1 dX5_readFact_21 rfl ?_
      refine c_geti X hp0 cf_X5_36 dX5_readFact_22 ?_
      refine z_iconst (v := 1) X.1 dX5_readFact_25 (by decide) ?_
      refine z_isub X.1 dX5_readFact_26 ?_
      refine c_puti X hp0 cf_X5_36 cg_X5 cp_X5_8 rfl rfl dX5_readFact_27 ?_
      refine z_aload_n X.1 dX5_readFact_30 rfl (lv_at hl 0 rfl) ?_
      refine z_bipush (v := 17) X.1 dX5_readFact_31 (by decide) ?_
      obtain ⟨r12, hc12, hf⟩ := z_bind hf
      refine c_callVv [.int 17] X hl.1 (c_X5_emit D cy ad X.2.2 hp0 hc12) hp0 ⟨by decide, rfl⟩ cm_X5_170 cw_X5_emit rfl cq_X5_emit ⟨by omega, by omega⟩ (Nat.le_of_ble_eq_true rfl) rfl dX5_readFact_33 ?_
      refine z_goto (tgt := 104) X.1 dX5_readFact_36 (by decide) ?_
      exact c_vret X Z hf dX5_readFact_104

theorem c_X5_readFact (D : va_G) (cy : Nat → ClassId) (ad : Nat → Nat) {n : Nat} {K N : Nat → Nat} {G : zG} {F : T_GR} {dd : Nat} (hF : H_GR F D cy ad n K N G (3 + dd) (64 + dd * 22)) (hWF : zWF n K G) {p0 : Nat} {V : zI} {L : zL} (hp0 : p0 < n ∧ K p0 = 4) {r' : zI × zL} (hf : f_X5_readFact F N G p0 V L = some r') : RCv (zC D cy ad n K N G) yX5_readFact cX5_readFact 1 (3 + (dd + 1)) (64 + (dd + 1) * 22) [.ref (ad p0)] V L r'.1 r'.2 := by
  unfold f_X5_readFact at hf
  exact RCv.of (by decide) hWF (Nat.le_of_ble_eq_true rfl) (fun M X Z ls hl => w_X5_readFact hF X Z hp0 V L ls hl hf)
set_option maxHeartbeats 4000000 in
set_option maxRecDepth 100000 in
theorem w_X5_readComparison_77 {M : zM} {D : va_G} {cy : Nat → ClassId} {ad : Nat → Nat} {n : Nat} {K N : Nat → Nat} {G : zG} {r' : zI × zL} {F : T_GR} {dd : Nat} (hF : H_GR F D cy ad n K N G (3 + dd) (64 + dd * 22)) (X : RXc M D cy ad n K N G cX5_readComparison 2 RX5 (3 + (dd + 1)) (64 + (dd + 1) * 22)) (Z : RZv M (zC D cy ad n K N G) r'.1 r'.2) {p0 : Nat} (hp0 : p0 < n ∧ K p0 = 4) (s1 : Int32) (V : zI) (L : zL) (ls : Array Slot) (hl : lv_has ls 2 []) (hf : f_X5_readComparison_77 F N G p0 s1 V L = some r') : RG M (zC D cy ad n K N G) V L 77 ls [.int s1, .ref (ad p0)] := by
  unfold f_X5_readComparison_77 at hf
  obtain ⟨r1, hc1, hf⟩ := z_bind hf
  refine c_callVv [.int s1] X hl.1 (c_X5_emit D cy ad X.2.2 hp0 hc1) hp0 ⟨by decide, rfl⟩ cm_X5_170 cw_X5_emit rfl cq_X5_emit ⟨by omega, by omega⟩ (Nat.le_of_ble_eq_true rfl) rfl dX5_readComparison_77 ?_
  exact c_vret X Z hf dX5_readComparison_80

set_option maxHeartbeats 4000000 in
set_option maxRecDepth 100000 in
theorem w_X5_readComparison_44 {M : zM} {D : va_G} {cy : Nat → ClassId} {ad : Nat → Nat} {n : Nat} {K N : Nat → Nat} {G : zG} {r' : zI × zL} {F : T_GR} {dd : Nat} (hF : H_GR F D cy ad n K N G (3 + dd) (64 + dd * 22)) (X : RXc M D cy ad n K N G cX5_readComparison 2 RX5 (3 + (dd + 1)) (64 + (dd + 1) * 22)) (Z : RZv M (zC D cy ad n K N G) r'.1 r'.2) {p0 : Nat} (hp0 : p0 < n ∧ K p0 = 4) (x1 : Int32) (V : zI) (L : zL) (ls : Array Slot) (hl : lv_has ls 2 [(0, .ref (ad p0)), (1, .int x1)]) (hf : f_X5_readComparison_44 F N G p0 x1 V L = some r') : RG M (zC D cy ad n K N G) V L 44 ls [] := by
  unfold f_X5_readComparison_44 at hf
  refine z_aload_n X.1 dX5_readComparison_44 rfl (lv_at hl 0 rfl) ?_
  obtain ⟨r1, hc1, hf⟩ := z_bind hf
  refine c_callVv [] X hl.1 (c_X5_take D cy ad X.2.2 hp0 hc1) hp0 ⟨by decide, rfl⟩ cm_X5_70 cw_X5_take rfl cq_X5_take ⟨by omega, by omega⟩ (Nat.le_of_ble_eq_true rfl) rfl dX5_readComparison_45 ?_
  refine z_aload_n X.1 dX5_readComparison_48 rfl (lv_at hl 0 rfl) ?_
  obtain ⟨r2, hc2, hf⟩ := z_bind hf
  refine c_callVv [] X hl.1 (hF.2.2.2.2.1 p0 r1.1 r1.2 r2 hp0 hc2) hp0 ⟨by decide, rfl⟩ cm_X5_153 cw_X5_readSum rfl cq_X5_readSum ⟨by omega, by omega⟩ (Nat.le_of_ble_eq_true rfl) rfl dX5_readComparison_49 ?_
  refine z_aload_n X.1 dX5_readComparison_52 rfl (lv_at hl 0 rfl) ?_
  refine z_iload_n X.1 dX5_readComparison_53 rfl (lv_at hl 1 rfl) ?_
  refine z_bipush (v := 60) X.1 dX5_readComparison_54 (by decide) ?_
  refine z_icmp_ne (tgt := 64) X.1 dX5_readComparison_56 (by decide) (fun c_ => ?_) (fun c_ => ?_)
  · have hf := (if_neg c_).symm.trans hf
    refine z_iload_n X.1 dX5_readComparison_64 rfl (lv_at hl 1 rfl) ?_
    refine z_bipush (v := 62) X.1 dX5_readComparison_65 (by decide) ?_
    refine z_icmp_ne (tgt := 75) X.1 dX5_readComparison_67 (by decide) (fun c_ => ?_) (fun c_ => ?_)
    · have hf := (if_neg c_).symm.trans hf
      refine z_bipush (v := 16) X.1 dX5_readComparison_75 (by decide) ?_
      exact w_X5_readComparison_77 hF X Z hp0 16 r2.1 r2.2 ls (lv_sub hl [] rfl) hf
    · have hf := (if_pos c_).symm.trans hf
      refine z_bipush (v := 15) X.1 dX5_readComparison_70 (by decide) ?_
      refine z_goto (tgt := 77) X.1 dX5_readComparison_72 (by decide) ?_
      exact w_X5_readComparison_77 hF X Z hp0 15 r2.1 r2.2 ls (lv_sub hl [] rfl) hf
  · have hf := (if_pos c_).symm.trans hf
    refine z_bipush (v := 14) X.1 dX5_readComparison_59 (by decide) ?_
    refine z_goto (tgt := 77) X.1 dX5_readComparison_61 (by decide) ?_
    exact w_X5_readComparison_77 hF X Z hp0 14 r2.1 r2.2 ls (lv_sub hl [] rfl) hf

set_option maxHeartbeats 4000000 in
set_option maxRecDepth 100000 in
theorem w_X5_readComparison_20 {M : zM} {D : va_G} {cy : Nat → ClassId} {ad : Nat → Nat} {n : Nat} {K N : Nat → Nat} {G : zG} {r' : zI × zL} {F : T_GR} {dd : Nat} (hF : H_GR F D cy ad n K N G (3 + dd) (64 + dd * 22)) (X : RXc M D cy ad n K N G cX5_readComparison 2 RX5 (3 + (dd + 1)) (64 + (dd + 1) * 22)) (Z : RZv M (zC D cy ad n K N G) r'.1 r'.2) {p0 : Nat} (hp0 : p0 < n ∧ K p0 = 4) (s0 : Int32) (V : zI) (L : zL) (ls : Array Slot) (hl : lv_has ls 2 [(0, .ref (ad p0))]) (hf : f_X5_readComparison_20 F N G p0 s0 V L = some r') : RG M (zC D cy ad n K N G) V L 20 ls [.int s0] := by
  unfold f_X5_readComparison_20 at hf
  refine z_istore_n (lv' := [(1, .int s0), (0, .ref (ad p0))]) X.1 dX5_readComparison_20 rfl hl (by decide) rfl (fun ls hl => ?_)
  refine z_iload_n X.1 dX5_readComparison_21 rfl (lv_at hl 0 rfl) ?_
  refine z_bipush (v := 60) X.1 dX5_readComparison_22 (by decide) ?_
  refine z_icmp_eq (tgt := 44) X.1 dX5_readComparison_24 (by decide) (fun c_ => ?_) (fun c_ => ?_)
  · have hf := (if_pos c_).symm.trans hf
    exact w_X5_readComparison_44 hF X Z hp0 s0 V L ls (lv_sub hl [1, 0] rfl) hf
  · have hf := (if_neg c_).symm.trans hf
    refine z_iload_n X.1 dX5_readComparison_27 rfl (lv_at hl 0 rfl) ?_
    refine z_bipush (v := 62) X.1 dX5_readComparison_28 (by decide) ?_
    refine z_icmp_eq (tgt := 44) X.1 dX5_readComparison_30 (by decide) (fun c_ => ?_) (fun c_ => ?_)
    · have hf := (if_pos c_).symm.trans hf
      exact w_X5_readComparison_44 hF X Z hp0 s0 V L ls (lv_sub hl [1, 0] rfl) hf
    · have hf := (if_neg c_).symm.trans hf
      refine z_iload_n X.1 dX5_readComparison_33 rfl (lv_at hl 0 rfl) ?_
      refine z_bipush (v := 61) X.1 dX5_readComparison_34 (by decide) ?_
      refine z_icmp_eq (tgt := 44) X.1 dX5_readComparison_36 (by decide) (fun c_ => ?_) (fun c_ => ?_)
      · have hf := (if_pos c_).symm.trans hf
        exact w_X5_readComparison_44 hF X Z hp0 s0 V L ls (lv_sub hl [1, 0] rfl) hf
      · have hf := (if_neg c_).symm.trans hf
        refine z_aload_n X.1 dX5_readComparison_39 rfl (lv_at hl 1 rfl) ?_
        obtain ⟨r1, hc1, hf⟩ := z_bind hf
        refine c_callVv [] X hl.1 (c_X5_failHere D cy ad X.2.2 hp0 hc1) hp0 ⟨by decide, rfl⟩ cm_X5_117 cw_X5_failHere rfl cq_X5_failHere ⟨by omega, by omega⟩ (Nat.le_of_ble_eq_true rfl) rfl dX5_readComparison_40 ?_
        exact c_vret X Z hf dX5_readComparison_43

set_option maxHeartbeats 4000000 in
set_option maxRecDepth 100000 in
theorem w_X5_readComparison {M : zM} {D : va_G} {cy : Nat → ClassId} {ad : Nat → Nat} {n : Nat} {K N : Nat → Nat} {G : zG} {r' : zI × zL} {F : T_GR} {dd : Nat} (hF : H_GR F D cy ad n K N G (3 + dd) (64 + dd * 22)) (X : RXc M D cy ad n K N G cX5_readComparison 2 RX5 (3 + (dd + 1)) (64 + (dd + 1) * 22)) (Z : RZv M (zC D cy ad n K N G) r'.1 r'.2) {p0 : Nat} (hp0 : p0 < n ∧ K p0 = 4)  (V : zI) (L : zL) (ls : Array Slot) (hl : lv_has ls 2 [(0, .ref (ad p0))]) (hf : g_X5_readComparison F N G p0 V L = some r') : RG M (zC D cy ad n K N G) V L 0 ls [] := by
  unfold g_X5_readComparison at hf
  refine z_aload_n X.1 dX5_readComparison_0 rfl (lv_at hl 0 rfl) ?_
  obtain ⟨r1, hc1, hf⟩ := z_bind hf
  refine c_callVv [] X hl.1 (hF.2.2.2.2.1 p0 V L r1 hp0 hc1) hp0 ⟨by decide, rfl⟩ cm_X5_153 cw_X5_readSum rfl cq_X5_readSum ⟨by omega, by omega⟩ (Nat.le_of_ble_eq_true rfl) rfl dX5_readComparison_1 ?_
  refine z_aload_n X.1 dX5_readComparison_4 rfl (lv_at hl 0 rfl) ?_
  refine c_geti X hp0 cf_X5_17 dX5_readComparison_5 ?_
  refine z_iconst (v := 1) X.1 dX5_readComparison_8 (by decide) ?_
  refine z_icmp_ne (tgt := 19) X.1 dX5_readComparison_9 (by decide) (fun c_ => ?_) (fun c_ => ?_)
  · have hf := (if_neg c_).symm.trans hf
    refine z_iconst (v := -1) X.1 dX5_readComparison_19 (by decide) ?_
    exact w_X5_readComparison_20 hF X Z hp0 (-1) r1.1 r1.2 ls (lv_sub hl [0] rfl) hf
  · have hf := (if_pos c_).symm.trans hf
    refine z_aload_n X.1 dX5_readComparison_12 rfl (lv_at hl 0 rfl) ?_
    refine c_geti X hp0 cf_X5_20 dX5_readComparison_13 ?_
    refine z_goto (tgt := 20) X.1 dX5_readComparison_16 (by decide) ?_
    exact w_X5_readComparison_20 hF X Z hp0 (r1.1 p0 3) r1.1 r1.2 ls (lv_sub hl [0] rfl) hf

theorem c_X5_readComparison (D : va_G) (cy : Nat → ClassId) (ad : Nat → Nat) {n : Nat} {K N : Nat → Nat} {G : zG} {F : T_GR} {dd : Nat} (hF : H_GR F D cy ad n K N G (3 + dd) (64 + dd * 22)) (hWF : zWF n K G) {p0 : Nat} {V : zI} {L : zL} (hp0 : p0 < n ∧ K p0 = 4) {r' : zI × zL} (hf : f_X5_readComparison F N G p0 V L = some r') : RCv (zC D cy ad n K N G) yX5_readComparison cX5_readComparison 2 (3 + (dd + 1)) (64 + (dd + 1) * 22) [.ref (ad p0)] V L r'.1 r'.2 := by
  unfold f_X5_readComparison at hf
  exact RCv.of (by decide) hWF (Nat.le_of_ble_eq_true rfl) (fun M X Z ls hl => w_X5_readComparison hF X Z hp0 V L ls hl hf)
set_option maxHeartbeats 4000000 in
set_option maxRecDepth 100000 in
theorem w_X5_readSum_46 {M : zM} {D : va_G} {cy : Nat → ClassId} {ad : Nat → Nat} {n : Nat} {K N : Nat → Nat} {G : zG} {r' : zI × zL} {F : T_GR} {dd : Nat} (hF : H_GR F D cy ad n K N G (3 + dd) (64 + dd * 22)) (X : RXc M D cy ad n K N G cX5_readSum 3 RX5 (3 + (dd + 1)) (64 + (dd + 1) * 22)) (Z : RZv M (zC D cy ad n K N G) r'.1 r'.2) {p0 : Nat} (hp0 : p0 < n ∧ K p0 = 4) {k6 : Int32 × zI × zL → Option (zI × zL)} (hk6 : ∀ (x1 : Int32) (V : zI) (L : zL) (ls : Array Slot), lv_has ls 3 [(0, .ref (ad p0)), (1, .int x1)] → k6 (x1, V, L) = some r' → RG M (zC D cy ad n K N G) V L 6 ls []) (x1 : Int32) (s0 : Int32) (V : zI) (L : zL) (ls : Array Slot) (hl : lv_has ls 3 [(0, .ref (ad p0)), (1, .int x1)]) (hf : f_X5_readSum_46 F N G p0 k6 x1 s0 V L = some r') : RG M (zC D cy ad n K N G) V L 46 ls [.int s0] := by
  unfold f_X5_readSum_46 at hf
  refine z_istore_n (lv' := [(2, .int s0), (0, .ref (ad p0)), (1, .int x1)]) X.1 dX5_readSum_46 rfl hl (by decide) rfl (fun ls hl => ?_)
  refine z_aload_n X.1 dX5_readSum_47 rfl (lv_at hl 1 rfl) ?_
  obtain ⟨r1, hc1, hf⟩ := z_bind hf
  refine c_callVv [] X hl.1 (c_X5_take D cy ad X.2.2 hp0 hc1) hp0 ⟨by decide, rfl⟩ cm_X5_70 cw_X5_take rfl cq_X5_take ⟨by omega, by omega⟩ (Nat.le_of_ble_eq_true rfl) rfl dX5_readSum_48 ?_
  refine z_aload_n X.1 dX5_readSum_51 rfl (lv_at hl 1 rfl) ?_
  obtain ⟨r2, hc2, hf⟩ := z_bind hf
  refine c_callVv [] X hl.1 (hF.2.2.2.2.2.1 p0 r1.1 r1.2 r2 hp0 hc2) hp0 ⟨by decide, rfl⟩ cm_X5_186 cw_X5_readProduct rfl cq_X5_readProduct ⟨by omega, by omega⟩ (Nat.le_of_ble_eq_true rfl) rfl dX5_readSum_52 ?_
  refine z_aload_n X.1 dX5_readSum_55 rfl (lv_at hl 1 rfl) ?_
  refine z_iload_n X.1 dX5_readSum_56 rfl (lv_at hl 0 rfl) ?_
  obtain ⟨r3, hc3, hf⟩ := z_bind hf
  refine c_callVv [.int s0] X hl.1 (c_X5_emit D cy ad X.2.2 hp0 hc3) hp0 ⟨by decide, rfl⟩ cm_X5_170 cw_X5_emit rfl cq_X5_emit ⟨by omega, by omega⟩ (Nat.le_of_ble_eq_true rfl) rfl dX5_readSum_57 ?_
  refine z_iinc (v := x1 + 1) (k0 := 2) (lv' := [(1, .int (x1 + 1)), (2, .int s0), (0, .ref (ad p0))]) X.1 dX5_readSum_60 hl rfl rfl (by decide) rfl (fun ls hl => ?_)
  refine z_goto (tgt := 6) X.1 dX5_readSum_63 (by decide) ?_
  exact hk6 (x1 + 1) r3.1 r3.2 ls (lv_sub hl [2, 0] rfl) hf

set_option maxHeartbeats 4000000 in
set_option maxRecDepth 100000 in
theorem w_X5_readSum_31 {M : zM} {D : va_G} {cy : Nat → ClassId} {ad : Nat → Nat} {n : Nat} {K N : Nat → Nat} {G : zG} {r' : zI × zL} {F : T_GR} {dd : Nat} (hF : H_GR F D cy ad n K N G (3 + dd) (64 + dd * 22)) (X : RXc M D cy ad n K N G cX5_readSum 3 RX5 (3 + (dd + 1)) (64 + (dd + 1) * 22)) (Z : RZv M (zC D cy ad n K N G) r'.1 r'.2) {p0 : Nat} (hp0 : p0 < n ∧ K p0 = 4) {k6 : Int32 × zI × zL → Option (zI × zL)} (hk6 : ∀ (x1 : Int32) (V : zI) (L : zL) (ls : Array Slot), lv_has ls 3 [(0, .ref (ad p0)), (1, .int x1)] → k6 (x1, V, L) = some r' → RG M (zC D cy ad n K N G) V L 6 ls []) (x1 : Int32) (V : zI) (L : zL) (ls : Array Slot) (hl : lv_has ls 3 [(0, .ref (ad p0)), (1, .int x1)]) (hf : f_X5_readSum_31 F N G p0 k6 x1 V L = some r') : RG M (zC D cy ad n K N G) V L 31 ls [] := by
  unfold f_X5_readSum_31 at hf
  refine z_aload_n X.1 dX5_readSum_31 rfl (lv_at hl 0 rfl) ?_
  refine z_bipush (v := 43) X.1 dX5_readSum_32 (by decide) ?_
  obtain ⟨r1, hc1, hf⟩ := z_bind hf
  refine c_callVi [.int 43] X hl.1 (c_X5_isSign D cy ad X.2.2 hp0 hc1) hp0 ⟨by decide, rfl⟩ cm_X5_180 cw_X5_isSign rfl cq_X5_isSign ⟨by omega, by omega⟩ (Nat.le_of_ble_eq_true rfl) rfl dX5_readSum_34 ?_
  refine z_if_eq (tgt := 44) X.1 dX5_readSum_37 (by decide) (fun c_ => ?_) (fun c_ => ?_)
  · have hf := (if_pos c_).symm.trans hf
    refine z_bipush (v := 6) X.1 dX5_readSum_44 (by decide) ?_
    exact w_X5_readSum_46 hF X Z hp0 hk6 x1 6 V L ls (lv_sub hl [0, 1] rfl) hf
  · have hf := (if_neg c_).symm.trans hf
    refine z_iconst (v := 5) X.1 dX5_readSum_40 (by decide) ?_
    refine z_goto (tgt := 46) X.1 dX5_readSum_41 (by decide) ?_
    exact w_X5_readSum_46 hF X Z hp0 hk6 x1 5 V L ls (lv_sub hl [0, 1] rfl) hf

set_option maxHeartbeats 4000000 in
set_option maxRecDepth 100000 in
theorem w_X5_readSum_6 {M : zM} {D : va_G} {cy : Nat → ClassId} {ad : Nat → Nat} {n : Nat} {K N : Nat → Nat} {G : zG} {r' : zI × zL} {F : T_GR} {dd : Nat} (hF : H_GR F D cy ad n K N G (3 + dd) (64 + dd * 22)) (X : RXc M D cy ad n K N G cX5_readSum 3 RX5 (3 + (dd + 1)) (64 + (dd + 1) * 22)) (Z : RZv M (zC D cy ad n K N G) r'.1 r'.2) {p0 : Nat} (hp0 : p0 < n ∧ K p0 = 4) (nn : Nat) : ∀ (x1 : Int32) (V : zI) (L : zL) (ls : Array Slot) (hl : lv_has ls 3 [(0, .ref (ad p0)), (1, .int x1)]) (hf : zfix (b_X5_readSum_6 F N G p0) nn (x1, V, L) = some r'), RG M (zC D cy ad n K N G) V L 6 ls [] := by
  induction nn with
  | zero => intro x1 V L ls hl hf; cases hf
  | succ nn ih =>
  intro x1 V L ls hl hf
  have hk6 : ∀ (x1 : Int32) (V : zI) (L : zL) (ls : Array Slot), lv_has ls 3 [(0, .ref (ad p0)), (1, .int x1)] → zfix (b_X5_readSum_6 F N G p0) nn (x1, V, L) = some r' → RG M (zC D cy ad n K N G) V L 6 ls [] := ih
  have hf : b_X5_readSum_6 F N G p0 (zfix (b_X5_readSum_6 F N G p0) nn) (x1, V, L) = some r' := hf
  generalize zfix (b_X5_readSum_6 F N G p0) nn = k6 at hk6 hf
  clear ih
  unfold b_X5_readSum_6 at hf
  refine z_iload_n X.1 dX5_readSum_6 rfl (lv_at hl 1 rfl) ?_
  refine z_sipush (v := 1600) X.1 dX5_readSum_7 (by decide) ?_
  refine z_icmp_ge (tgt := 66) X.1 dX5_readSum_10 (by decide) (fun c_ => ?_) (fun c_ => ?_)
  · have hf := (if_pos c_).symm.trans hf
    exact c_vret X Z hf dX5_readSum_66
  · have hf := (if_neg c_).symm.trans hf
    refine z_aload_n X.1 dX5_readSum_13 rfl (lv_at hl 0 rfl) ?_
    refine z_bipush (v := 43) X.1 dX5_readSum_14 (by decide) ?_
    obtain ⟨r1, hc1, hf⟩ := z_bind hf
    refine c_callVi [.int 43] X hl.1 (c_X5_isSign D cy ad X.2.2 hp0 hc1) hp0 ⟨by decide, rfl⟩ cm_X5_180 cw_X5_isSign rfl cq_X5_isSign ⟨by omega, by omega⟩ (Nat.le_of_ble_eq_true rfl) rfl dX5_readSum_16 ?_
    refine z_if_ne (tgt := 31) X.1 dX5_readSum_19 (by decide) (fun c_ => ?_) (fun c_ => ?_)
    · have hf := (if_neg c_).symm.trans hf
      exact w_X5_readSum_31 hF X Z hp0 hk6 x1 V L ls (lv_sub hl [0, 1] rfl) hf
    · have hf := (if_pos c_).symm.trans hf
      refine z_aload_n X.1 dX5_readSum_22 rfl (lv_at hl 0 rfl) ?_
      refine z_bipush (v := 45) X.1 dX5_readSum_23 (by decide) ?_
      obtain ⟨r2, hc2, hf⟩ := z_bind hf
      refine c_callVi [.int 45] X hl.1 (c_X5_isSign D cy ad X.2.2 hp0 hc2) hp0 ⟨by decide, rfl⟩ cm_X5_180 cw_X5_isSign rfl cq_X5_isSign ⟨by omega, by omega⟩ (Nat.le_of_ble_eq_true rfl) rfl dX5_readSum_25 ?_
      refine z_if_eq (tgt := 66) X.1 dX5_readSum_28 (by decide) (fun c_ => ?_) (fun c_ => ?_)
      · have hf := (if_pos c_).symm.trans hf
        exact c_vret X Z hf dX5_readSum_66
      · have hf := (if_neg c_).symm.trans hf
        exact w_X5_readSum_31 hF X Z hp0 hk6 x1 V L ls (lv_sub hl [0, 1] rfl) hf

set_option maxHeartbeats 4000000 in
set_option maxRecDepth 100000 in
theorem w_X5_readSum {M : zM} {D : va_G} {cy : Nat → ClassId} {ad : Nat → Nat} {n : Nat} {K N : Nat → Nat} {G : zG} {r' : zI × zL} {F : T_GR} {dd : Nat} (hF : H_GR F D cy ad n K N G (3 + dd) (64 + dd * 22)) (X : RXc M D cy ad n K N G cX5_readSum 3 RX5 (3 + (dd + 1)) (64 + (dd + 1) * 22)) (Z : RZv M (zC D cy ad n K N G) r'.1 r'.2) {p0 : Nat} (hp0 : p0 < n ∧ K p0 = 4)  (V : zI) (L : zL) (ls : Array Slot) (hl : lv_has ls 3 [(0, .ref (ad p0))]) (hf : g_X5_readSum F N G p0 V L = some r') : RG M (zC D cy ad n K N G) V L 0 ls [] := by
  unfold g_X5_readSum at hf
  refine z_aload_n X.1 dX5_readSum_0 rfl (lv_at hl 0 rfl) ?_
  obtain ⟨r1, hc1, hf⟩ := z_bind hf
  refine c_callVv [] X hl.1 (hF.2.2.2.2.2.1 p0 V L r1 hp0 hc1) hp0 ⟨by decide, rfl⟩ cm_X5_186 cw_X5_readProduct rfl cq_X5_readProduct ⟨by omega, by omega⟩ (Nat.le_of_ble_eq_true rfl) rfl dX5_readSum_1 ?_
  refine z_iconst (v := 0) X.1 dX5_readSum_4 (by decide) ?_
  refine z_istore_n (lv' := [(1, .int 0), (0, .ref (ad p0))]) X.1 dX5_readSum_5 rfl hl (by decide) rfl (fun ls hl => ?_)
  exact w_X5_readSum_6 hF X Z hp0 FU 0 r1.1 r1.2 ls (lv_sub hl [1, 0] rfl) hf

theorem c_X5_readSum (D : va_G) (cy : Nat → ClassId) (ad : Nat → Nat) {n : Nat} {K N : Nat → Nat} {G : zG} {F : T_GR} {dd : Nat} (hF : H_GR F D cy ad n K N G (3 + dd) (64 + dd * 22)) (hWF : zWF n K G) {p0 : Nat} {V : zI} {L : zL} (hp0 : p0 < n ∧ K p0 = 4) {r' : zI × zL} (hf : f_X5_readSum F N G p0 V L = some r') : RCv (zC D cy ad n K N G) yX5_readSum cX5_readSum 3 (3 + (dd + 1)) (64 + (dd + 1) * 22) [.ref (ad p0)] V L r'.1 r'.2 := by
  unfold f_X5_readSum at hf
  exact RCv.of (by decide) hWF (Nat.le_of_ble_eq_true rfl) (fun M X Z ls hl => w_X5_readSum hF X Z hp0 V L ls hl hf)
set_option maxHeartbeats 4000000 in
set_option maxRecDepth 100000 in
theorem w_X5_readProduct_70 {M : zM} {D : va_G} {cy : Nat → ClassId} {ad : Nat → Nat} {n : Nat} {K N : Nat → Nat} {G : zG} {r' : zI × zL} {F : T_GR} {dd : Nat} (hF : H_GR F D cy ad n K N G (3 + dd) (64 + dd * 22)) (X : RXc M D cy ad n K N G cX5_readProduct 3 RX5 (3 + (dd + 1)) (64 + (dd + 1) * 22)) (Z : RZv M (zC D cy ad n K N G) r'.1 r'.2) {p0 : Nat} (hp0 : p0 < n ∧ K p0 = 4) {k6 : Int32 × zI × zL → Option (zI × zL)} (hk6 : ∀ (x1 : Int32) (V : zI) (L : zL) (ls : Array Slot), lv_has ls 3 [(0, .ref (ad p0)), (1, .int x1)] → k6 (x1, V, L) = some r' → RG M (zC D cy ad n K N G) V L 6 ls []) (x1 : Int32) (s0 : Int32) (V : zI) (L : zL) (ls : Array Slot) (hl : lv_has ls 3 [(0, .ref (ad p0)), (1, .int x1)]) (hf : f_X5_readProduct_70 F N G p0 k6 x1 s0 V L = some r') : RG M (zC D cy ad n K N G) V L 70 ls [.int s0] := by
  unfold f_X5_readProduct_70 at hf
  refine z_istore_n (lv' := [(2, .int s0), (0, .ref (ad p0)), (1, .int x1)]) X.1 dX5_readProduct_70 rfl hl (by decide) rfl (fun ls hl => ?_)
  refine z_aload_n X.1 dX5_readProduct_71 rfl (lv_at hl 1 rfl) ?_
  obtain ⟨r1, hc1, hf⟩ := z_bind hf
  refine c_callVv [] X hl.1 (c_X5_take D cy ad X.2.2 hp0 hc1) hp0 ⟨by decide, rfl⟩ cm_X5_70 cw_X5_take rfl cq_X5_take ⟨by omega, by omega⟩ (Nat.le_of_ble_eq_true rfl) rfl dX5_readProduct_72 ?_
  refine z_aload_n X.1 dX5_readProduct_75 rfl (lv_at hl 1 rfl) ?_
  obtain ⟨r2, hc2, hf⟩ := z_bind hf
  refine c_callVv [] X hl.1 (hF.2.2.2.2.2.2.1 p0 r1.1 r1.2 r2 hp0 hc2) hp0 ⟨by decide, rfl⟩ cm_X5_189 cw_X5_readPart rfl cq_X5_readPart ⟨by omega, by omega⟩ (Nat.le_of_ble_eq_true rfl) rfl dX5_readProduct_76 ?_
  refine z_aload_n X.1 dX5_readProduct_79 rfl (lv_at hl 1 rfl) ?_
  refine z_iload_n X.1 dX5_readProduct_80 rfl (lv_at hl 0 rfl) ?_
  obtain ⟨r3, hc3, hf⟩ := z_bind hf
  refine c_callVv [.int s0] X hl.1 (c_X5_emit D cy ad X.2.2 hp0 hc3) hp0 ⟨by decide, rfl⟩ cm_X5_170 cw_X5_emit rfl cq_X5_emit ⟨by omega, by omega⟩ (Nat.le_of_ble_eq_true rfl) rfl dX5_readProduct_81 ?_
  refine z_iinc (v := x1 + 1) (k0 := 2) (lv' := [(1, .int (x1 + 1)), (2, .int s0), (0, .ref (ad p0))]) X.1 dX5_readProduct_84 hl rfl rfl (by decide) rfl (fun ls hl => ?_)
  refine z_goto (tgt := 6) X.1 dX5_readProduct_87 (by decide) ?_
  exact hk6 (x1 + 1) r3.1 r3.2 ls (lv_sub hl [2, 0] rfl) hf

set_option maxHeartbeats 4000000 in
set_option maxRecDepth 100000 in
theorem w_X5_readProduct_40 {M : zM} {D : va_G} {cy : Nat → ClassId} {ad : Nat → Nat} {n : Nat} {K N : Nat → Nat} {G : zG} {r' : zI × zL} {F : T_GR} {dd : Nat} (hF : H_GR F D cy ad n K N G (3 + dd) (64 + dd * 22)) (X : RXc M D cy ad n K N G cX5_readProduct 3 RX5 (3 + (dd + 1)) (64 + (dd + 1) * 22)) (Z : RZv M (zC D cy ad n K N G) r'.1 r'.2) {p0 : Nat} (hp0 : p0 < n ∧ K p0 = 4) {k6 : Int32 × zI × zL → Option (zI × zL)} (hk6 : ∀ (x1 : Int32) (V : zI) (L : zL) (ls : Array Slot), lv_has ls 3 [(0, .ref (ad p0)), (1, .int x1)] → k6 (x1, V, L) = some r' → RG M (zC D cy ad n K N G) V L 6 ls []) (x1 : Int32) (V : zI) (L : zL) (ls : Array Slot) (hl : lv_has ls 3 [(0, .ref (ad p0)), (1, .int x1)]) (hf : f_X5_readProduct_40 F N G p0 k6 x1 V L = some r') : RG M (zC D cy ad n K N G) V L 40 ls [] := by
  unfold f_X5_readProduct_40 at hf
  refine z_aload_n X.1 dX5_readProduct_40 rfl (lv_at hl 0 rfl) ?_
  refine z_bipush (v := 42) X.1 dX5_readProduct_41 (by decide) ?_
  obtain ⟨r1, hc1, hf⟩ := z_bind hf
  refine c_callVi [.int 42] X hl.1 (c_X5_isSign D cy ad X.2.2 hp0 hc1) hp0 ⟨by decide, rfl⟩ cm_X5_180 cw_X5_isSign rfl cq_X5_isSign ⟨by omega, by omega⟩ (Nat.le_of_ble_eq_true rfl) rfl dX5_readProduct_43 ?_
  refine z_if_eq (tgt := 54) X.1 dX5_readProduct_46 (by decide) (fun c_ => ?_) (fun c_ => ?_)
  · have hf := (if_pos c_).symm.trans hf
    refine z_aload_n X.1 dX5_readProduct_54 rfl (lv_at hl 0 rfl) ?_
    refine z_bipush (v := 47) X.1 dX5_readProduct_55 (by decide) ?_
    obtain ⟨r2, hc2, hf⟩ := z_bind hf
    refine c_callVi [.int 47] X hl.1 (c_X5_isSign D cy ad X.2.2 hp0 hc2) hp0 ⟨by decide, rfl⟩ cm_X5_180 cw_X5_isSign rfl cq_X5_isSign ⟨by omega, by omega⟩ (Nat.le_of_ble_eq_true rfl) rfl dX5_readProduct_57 ?_
    refine z_if_eq (tgt := 68) X.1 dX5_readProduct_60 (by decide) (fun c_ => ?_) (fun c_ => ?_)
    · have hf := (if_pos c_).symm.trans hf
      refine z_bipush (v := 9) X.1 dX5_readProduct_68 (by decide) ?_
      exact w_X5_readProduct_70 hF X Z hp0 hk6 x1 9 V L ls (lv_sub hl [0, 1] rfl) hf
    · have hf := (if_neg c_).symm.trans hf
      refine z_bipush (v := 8) X.1 dX5_readProduct_63 (by decide) ?_
      refine z_goto (tgt := 70) X.1 dX5_readProduct_65 (by decide) ?_
      exact w_X5_readProduct_70 hF X Z hp0 hk6 x1 8 V L ls (lv_sub hl [0, 1] rfl) hf
  · have hf := (if_neg c_).symm.trans hf
    refine z_bipush (v := 7) X.1 dX5_readProduct_49 (by decide) ?_
    refine z_goto (tgt := 70) X.1 dX5_readProduct_51 (by decide) ?_
    exact w_X5_readProduct_70 hF X Z hp0 hk6 x1 7 V L ls (lv_sub hl [0, 1] rfl) hf

set_option maxHeartbeats 4000000 in
set_option maxRecDepth 100000 in
theorem w_X5_readProduct_6 {M : zM} {D : va_G} {cy : Nat → ClassId} {ad : Nat → Nat} {n : Nat} {K N : Nat → Nat} {G : zG} {r' : zI × zL} {F : T_GR} {dd : Nat} (hF : H_GR F D cy ad n K N G (3 + dd) (64 + dd * 22)) (X : RXc M D cy ad n K N G cX5_readProduct 3 RX5 (3 + (dd + 1)) (64 + (dd + 1) * 22)) (Z : RZv M (zC D cy ad n K N G) r'.1 r'.2) {p0 : Nat} (hp0 : p0 < n ∧ K p0 = 4) (nn : Nat) : ∀ (x1 : Int32) (V : zI) (L : zL) (ls : Array Slot) (hl : lv_has ls 3 [(0, .ref (ad p0)), (1, .int x1)]) (hf : zfix (b_X5_readProduct_6 F N G p0) nn (x1, V, L) = some r'), RG M (zC D cy ad n K N G) V L 6 ls [] := by
  induction nn with
  | zero => intro x1 V L ls hl hf; cases hf
  | succ nn ih =>
  intro x1 V L ls hl hf
  have hk6 : ∀ (x1 : Int32) (V : zI) (L : zL) (ls : Array Slot), lv_has ls 3 [(0, .ref (ad p0)), (1, .int x1)] → zfix (b_X5_readProduct_6 F N G p0) nn (x1, V, L) = some r' → RG M (zC D cy ad n K N G) V L 6 ls [] := ih
  have hf : b_X5_readProduct_6 F N G p0 (zfix (b_X5_readProduct_6 F N G p0) nn) (x1, V, L) = some r' := hf
  generalize zfix (b_X5_readProduct_6 F N G p0) nn = k6 at hk6 hf
  clear ih
  unfold b_X5_readProduct_6 at hf
  refine z_iload_n X.1 dX5_readProduct_6 rfl (lv_at hl 1 rfl) ?_
  refine z_sipush (v := 1600) X.1 dX5_readProduct_7 (by decide) ?_
  refine z_icmp_ge (tgt := 90) X.1 dX5_readProduct_10 (by decide) (fun c_ => ?_) (fun c_ => ?_)
  · have hf := (if_pos c_).symm.trans hf
    exact c_vret X Z hf dX5_readProduct_90
  · have hf := (if_neg c_).symm.trans hf
    refine z_aload_n X.1 dX5_readProduct_13 rfl (lv_at hl 0 rfl) ?_
    refine z_bipush (v := 42) X.1 dX5_readProduct_14 (by decide) ?_
    obtain ⟨r1, hc1, hf⟩ := z_bind hf
    refine c_callVi [.int 42] X hl.1 (c_X5_isSign D cy ad X.2.2 hp0 hc1) hp0 ⟨by decide, rfl⟩ cm_X5_180 cw_X5_isSign rfl cq_X5_isSign ⟨by omega, by omega⟩ (Nat.le_of_ble_eq_true rfl) rfl dX5_readProduct_16 ?_
    refine z_if_ne (tgt := 40) X.1 dX5_readProduct_19 (by decide) (fun c_ => ?_) (fun c_ => ?_)
    · have hf := (if_neg c_).symm.trans hf
      exact w_X5_readProduct_40 hF X Z hp0 hk6 x1 V L ls (lv_sub hl [0, 1] rfl) hf
    · have hf := (if_pos c_).symm.trans hf
      refine z_aload_n X.1 dX5_readProduct_22 rfl (lv_at hl 0 rfl) ?_
      refine z_bipush (v := 47) X.1 dX5_readProduct_23 (by decide) ?_
      obtain ⟨r2, hc2, hf⟩ := z_bind hf
      refine c_callVi [.int 47] X hl.1 (c_X5_isSign D cy ad X.2.2 hp0 hc2) hp0 ⟨by decide, rfl⟩ cm_X5_180 cw_X5_isSign rfl cq_X5_isSign ⟨by omega, by omega⟩ (Nat.le_of_ble_eq_true rfl) rfl dX5_readProduct_25 ?_
      refine z_if_ne (tgt := 40) X.1 dX5_readProduct_28 (by decide) (fun c_ => ?_) (fun c_ => ?_)
      · have hf := (if_neg c_).symm.trans hf
        exact w_X5_readProduct_40 hF X Z hp0 hk6 x1 V L ls (lv_sub hl [0, 1] rfl) hf
      · have hf := (if_pos c_).symm.trans hf
        refine z_aload_n X.1 dX5_readProduct_31 rfl (lv_at hl 0 rfl) ?_
        refine z_bipush (v := 37) X.1 dX5_readProduct_32 (by decide) ?_
        obtain ⟨r3, hc3, hf⟩ := z_bind hf
        refine c_callVi [.int 37] X hl.1 (c_X5_isSign D cy ad X.2.2 hp0 hc3) hp0 ⟨by decide, rfl⟩ cm_X5_180 cw_X5_isSign rfl cq_X5_isSign ⟨by omega, by omega⟩ (Nat.le_of_ble_eq_true rfl) rfl dX5_readProduct_34 ?_
        refine z_if_eq (tgt := 90) X.1 dX5_readProduct_37 (by decide) (fun c_ => ?_) (fun c_ => ?_)
        · have hf := (if_pos c_).symm.trans hf
          exact c_vret X Z hf dX5_readProduct_90
        · have hf := (if_neg c_).symm.trans hf
          exact w_X5_readProduct_40 hF X Z hp0 hk6 x1 V L ls (lv_sub hl [0, 1] rfl) hf

set_option maxHeartbeats 4000000 in
set_option maxRecDepth 100000 in
theorem w_X5_readProduct {M : zM} {D : va_G} {cy : Nat → ClassId} {ad : Nat → Nat} {n : Nat} {K N : Nat → Nat} {G : zG} {r' : zI × zL} {F : T_GR} {dd : Nat} (hF : H_GR F D cy ad n K N G (3 + dd) (64 + dd * 22)) (X : RXc M D cy ad n K N G cX5_readProduct 3 RX5 (3 + (dd + 1)) (64 + (dd + 1) * 22)) (Z : RZv M (zC D cy ad n K N G) r'.1 r'.2) {p0 : Nat} (hp0 : p0 < n ∧ K p0 = 4)  (V : zI) (L : zL) (ls : Array Slot) (hl : lv_has ls 3 [(0, .ref (ad p0))]) (hf : g_X5_readProduct F N G p0 V L = some r') : RG M (zC D cy ad n K N G) V L 0 ls [] := by
  unfold g_X5_readProduct at hf
  refine z_aload_n X.1 dX5_readProduct_0 rfl (lv_at hl 0 rfl) ?_
  obtain ⟨r1, hc1, hf⟩ := z_bind hf
  refine c_callVv [] X hl.1 (hF.2.2.2.2.2.2.1 p0 V L r1 hp0 hc1) hp0 ⟨by decide, rfl⟩ cm_X5_189 cw_X5_readPart rfl cq_X5_readPart ⟨by omega, by omega⟩ (Nat.le_of_ble_eq_true rfl) rfl dX5_readProduct_1 ?_
  refine z_iconst (v := 0) X.1 dX5_readProduct_4 (by decide) ?_
  refine z_istore_n (lv' := [(1, .int 0), (0, .ref (ad p0))]) X.1 dX5_readProduct_5 rfl hl (by decide) rfl (fun ls hl => ?_)
  exact w_X5_readProduct_6 hF X Z hp0 FU 0 r1.1 r1.2 ls (lv_sub hl [1, 0] rfl) hf

theorem c_X5_readProduct (D : va_G) (cy : Nat → ClassId) (ad : Nat → Nat) {n : Nat} {K N : Nat → Nat} {G : zG} {F : T_GR} {dd : Nat} (hF : H_GR F D cy ad n K N G (3 + dd) (64 + dd * 22)) (hWF : zWF n K G) {p0 : Nat} {V : zI} {L : zL} (hp0 : p0 < n ∧ K p0 = 4) {r' : zI × zL} (hf : f_X5_readProduct F N G p0 V L = some r') : RCv (zC D cy ad n K N G) yX5_readProduct cX5_readProduct 3 (3 + (dd + 1)) (64 + (dd + 1) * 22) [.ref (ad p0)] V L r'.1 r'.2 := by
  unfold f_X5_readProduct at hf
  exact RCv.of (by decide) hWF (Nat.le_of_ble_eq_true rfl) (fun M X Z ls hl => w_X5_readProduct hF X Z hp0 V L ls hl hf)
set_option maxHeartbeats 4000000 in
set_option maxRecDepth 100000 in
theorem w_X5_readPart_100 {M : zM} {D : va_G} {cy : Nat → ClassId} {ad : Nat → Nat} {n : Nat} {K N : Nat → Nat} {G : zG} {r' : zI × zL} {F : T_GR} {dd : Nat} (hF : H_GR F D cy ad n K N G (3 + dd) (64 + dd * 22)) (X : RXc M D cy ad n K N G cX5_readPart 1 RX5 (3 + (dd + 1)) (64 + (dd + 1) * 22)) (Z : RZv M (zC D cy ad n K N G) r'.1 r'.2) {p0 : Nat} (hp0 : p0 < n ∧ K p0 = 4) (s1 : Int32) (V : zI) (L : zL) (ls : Array Slot) (hl : lv_has ls 1 []) (hf : f_X5_readPart_100 F N G p0 s1 V L = some r') : RG M (zC D cy ad n K N G) V L 100 ls [.int s1, .ref (ad p0)] := by
  unfold f_X5_readPart_100 at hf
  obtain ⟨r1, hc1, hf⟩ := z_bind hf
  refine c_callVv [.int s1] X hl.1 (hF.2.2.2.2.2.2.2.1 p0 (s1) V L r1 hp0 hc1) hp0 ⟨by decide, rfl⟩ cm_X5_192 cw_X5_readExtreme rfl cq_X5_readExtreme ⟨by omega, by omega⟩ (Nat.le_of_ble_eq_true rfl) rfl dX5_readPart_100 ?_
  refine z_goto (tgt := 126) X.1 dX5_readPart_103 (by decide) ?_
  exact c_vret X Z hf dX5_readPart_126

set_option maxHeartbeats 4000000 in
set_option maxRecDepth 100000 in
theorem w_X5_readPart_83 {M : zM} {D : va_G} {cy : Nat → ClassId} {ad : Nat → Nat} {n : Nat} {K N : Nat → Nat} {G : zG} {r' : zI × zL} {F : T_GR} {dd : Nat} (hF : H_GR F D cy ad n K N G (3 + dd) (64 + dd * 22)) (X : RXc M D cy ad n K N G cX5_readPart 1 RX5 (3 + (dd + 1)) (64 + (dd + 1) * 22)) (Z : RZv M (zC D cy ad n K N G) r'.1 r'.2) {p0 : Nat} (hp0 : p0 < n ∧ K p0 = 4)  (V : zI) (L : zL) (ls : Array Slot) (hl : lv_has ls 1 [(0, .ref (ad p0))]) (hf : f_X5_readPart_83 F N G p0 V L = some r') : RG M (zC D cy ad n K N G) V L 83 ls [] := by
  unfold f_X5_readPart_83 at hf
  refine z_aload_n X.1 dX5_readPart_83 rfl (lv_at hl 0 rfl) ?_
  refine z_aload_n X.1 dX5_readPart_84 rfl (lv_at hl 0 rfl) ?_
  refine z_bipush (v := 21) X.1 dX5_readPart_85 (by decide) ?_
  obtain ⟨r1, hc1, hf⟩ := z_bind hf
  refine c_callVi [.int 21] X hl.1 (c_X5_isOwn D cy ad X.2.2 hp0 hc1) hp0 ⟨by decide, rfl⟩ cm_X5_164 cw_X5_isOwn rfl cq_X5_isOwn ⟨by omega, by omega⟩ (Nat.le_of_ble_eq_true rfl) rfl dX5_readPart_87 ?_
  refine z_if_eq (tgt := 98) X.1 dX5_readPart_90 (by decide) (fun c_ => ?_) (fun c_ => ?_)
  · have hf := (if_pos c_).symm.trans hf
    refine z_bipush (v := 11) X.1 dX5_readPart_98 (by decide) ?_
    exact w_X5_readPart_100 hF X Z hp0 11 V L ls (lv_sub hl [] rfl) hf
  · have hf := (if_neg c_).symm.trans hf
    refine z_bipush (v := 10) X.1 dX5_readPart_93 (by decide) ?_
    refine z_goto (tgt := 100) X.1 dX5_readPart_95 (by decide) ?_
    exact w_X5_readPart_100 hF X Z hp0 10 V L ls (lv_sub hl [] rfl) hf

set_option maxHeartbeats 4000000 in
set_option maxRecDepth 100000 in
theorem w_X5_readPart {M : zM} {D : va_G} {cy : Nat → ClassId} {ad : Nat → Nat} {n : Nat} {K N : Nat → Nat} {G : zG} {r' : zI × zL} {F : T_GR} {dd : Nat} (hF : H_GR F D cy ad n K N G (3 + dd) (64 + dd * 22)) (X : RXc M D cy ad n K N G cX5_readPart 1 RX5 (3 + (dd + 1)) (64 + (dd + 1) * 22)) (Z : RZv M (zC D cy ad n K N G) r'.1 r'.2) {p0 : Nat} (hp0 : p0 < n ∧ K p0 = 4)  (V : zI) (L : zL) (ls : Array Slot) (hl : lv_has ls 1 [(0, .ref (ad p0))]) (hf : g_X5_readPart F N G p0 V L = some r') : RG M (zC D cy ad n K N G) V L 0 ls [] := by
  unfold g_X5_readPart at hf
  refine z_aload_n X.1 dX5_readPart_0 rfl (lv_at hl 0 rfl) ?_
  refine c_geti X hp0 cf_X5_17 dX5_readPart_1 ?_
  refine z_iconst (v := 2) X.1 dX5_readPart_4 (by decide) ?_
  refine z_icmp_ne (tgt := 26) X.1 dX5_readPart_5 (by decide) (fun c_ => ?_) (fun c_ => ?_)
  · have hf := (if_neg c_).symm.trans hf
    refine z_aload_n X.1 dX5_readPart_26 rfl (lv_at hl 0 rfl) ?_
    refine z_bipush (v := 40) X.1 dX5_readPart_27 (by decide) ?_
    obtain ⟨r1, hc1, hf⟩ := z_bind hf
    refine c_callVi [.int 40] X hl.1 (c_X5_isSign D cy ad X.2.2 hp0 hc1) hp0 ⟨by decide, rfl⟩ cm_X5_180 cw_X5_isSign rfl cq_X5_isSign ⟨by omega, by omega⟩ (Nat.le_of_ble_eq_true rfl) rfl dX5_readPart_29 ?_
    refine z_if_eq (tgt := 65) X.1 dX5_readPart_32 (by decide) (fun c_ => ?_) (fun c_ => ?_)
    · have hf := (if_pos c_).symm.trans hf
      refine z_aload_n X.1 dX5_readPart_65 rfl (lv_at hl 0 rfl) ?_
      refine z_bipush (v := 21) X.1 dX5_readPart_66 (by decide) ?_
      obtain ⟨r2, hc2, hf⟩ := z_bind hf
      refine c_callVi [.int 21] X hl.1 (c_X5_isOwn D cy ad X.2.2 hp0 hc2) hp0 ⟨by decide, rfl⟩ cm_X5_164 cw_X5_isOwn rfl cq_X5_isOwn ⟨by omega, by omega⟩ (Nat.le_of_ble_eq_true rfl) rfl dX5_readPart_68 ?_
      refine z_if_ne (tgt := 83) X.1 dX5_readPart_71 (by decide) (fun c_ => ?_) (fun c_ => ?_)
      · have hf := (if_neg c_).symm.trans hf
        exact w_X5_readPart_83 hF X Z hp0 V L ls (lv_sub hl [0] rfl) hf
      · have hf := (if_pos c_).symm.trans hf
        refine z_aload_n X.1 dX5_readPart_74 rfl (lv_at hl 0 rfl) ?_
        refine z_bipush (v := 22) X.1 dX5_readPart_75 (by decide) ?_
        obtain ⟨r3, hc3, hf⟩ := z_bind hf
        refine c_callVi [.int 22] X hl.1 (c_X5_isOwn D cy ad X.2.2 hp0 hc3) hp0 ⟨by decide, rfl⟩ cm_X5_164 cw_X5_isOwn rfl cq_X5_isOwn ⟨by omega, by omega⟩ (Nat.le_of_ble_eq_true rfl) rfl dX5_readPart_77 ?_
        refine z_if_eq (tgt := 106) X.1 dX5_readPart_80 (by decide) (fun c_ => ?_) (fun c_ => ?_)
        · have hf := (if_pos c_).symm.trans hf
          refine z_aload_n X.1 dX5_readPart_106 rfl (lv_at hl 0 rfl) ?_
          refine z_bipush (v := 16) X.1 dX5_readPart_107 (by decide) ?_
          obtain ⟨r4, hc4, hf⟩ := z_bind hf
          refine c_callVi [.int 16] X hl.1 (c_X5_isOwn D cy ad X.2.2 hp0 hc4) hp0 ⟨by decide, rfl⟩ cm_X5_164 cw_X5_isOwn rfl cq_X5_isOwn ⟨by omega, by omega⟩ (Nat.le_of_ble_eq_true rfl) rfl dX5_readPart_109 ?_
          refine z_if_eq (tgt := 122) X.1 dX5_readPart_112 (by decide) (fun c_ => ?_) (fun c_ => ?_)
          · have hf := (if_pos c_).symm.trans hf
            refine z_aload_n X.1 dX5_readPart_122 rfl (lv_at hl 0 rfl) ?_
            obtain ⟨r5, hc5, hf⟩ := z_bind hf
            refine c_callVv [] X hl.1 (c_X5_readFactNamed D cy ad X.2.2 hp0 hc5) hp0 ⟨by decide, rfl⟩ cm_X5_198 cw_X5_readFactNamed rfl cq_X5_readFactNamed ⟨by omega, by omega⟩ (Nat.le_of_ble_eq_true rfl) rfl dX5_readPart_123 ?_
            exact c_vret X Z hf dX5_readPart_126
          · have hf := (if_neg c_).symm.trans hf
            refine z_aload_n X.1 dX5_readPart_115 rfl (lv_at hl 0 rfl) ?_
            obtain ⟨r6, hc6, hf⟩ := z_bind hf
            refine c_callVv [] X hl.1 (hF.2.2.2.2.2.2.2.2 p0 V L r6 hp0 hc6) hp0 ⟨by decide, rfl⟩ cm_X5_195 cw_X5_readChoice rfl cq_X5_readChoice ⟨by omega, by omega⟩ (Nat.le_of_ble_eq_true rfl) rfl dX5_readPart_116 ?_
            refine z_goto (tgt := 126) X.1 dX5_readPart_119 (by decide) ?_
            exact c_vret X Z hf dX5_readPart_126
        · have hf := (if_neg c_).symm.trans hf
          exact w_X5_readPart_83 hF X Z hp0 V L ls (lv_sub hl [0] rfl) hf
    · have hf := (if_neg c_).symm.trans hf
      refine z_aload_n X.1 dX5_readPart_35 rfl (lv_at hl 0 rfl) ?_
      obtain ⟨r7, hc7, hf⟩ := z_bind hf
      refine c_callVi [] X hl.1 (c_X5_opens D cy ad X.2.2 hp0 hc7) hp0 ⟨by decide, rfl⟩ cm_X5_176 cw_X5_opens rfl cq_X5_opens ⟨by omega, by omega⟩ (Nat.le_of_ble_eq_true rfl) rfl dX5_readPart_36 ?_
      refine z_if_eq (tgt := 126) X.1 dX5_readPart_39 (by decide) (fun c_ => ?_) (fun c_ => ?_)
      · have hf := (if_pos c_).symm.trans hf
        exact c_vret X Z hf dX5_readPart_126
      · have hf := (if_neg c_).symm.trans hf
        refine z_aload_n X.1 dX5_readPart_42 rfl (lv_at hl 0 rfl) ?_
        obtain ⟨r8, hc8, hf⟩ := z_bind hf
        refine c_callVv [] X hl.1 (hF.2.2.2.2.1 p0 r7.2.1 r7.2.2 r8 hp0 hc8) hp0 ⟨by decide, rfl⟩ cm_X5_153 cw_X5_readSum rfl cq_X5_readSum ⟨by omega, by omega⟩ (Nat.le_of_ble_eq_true rfl) rfl dX5_readPart_43 ?_
        refine z_aload_n X.1 dX5_readPart_46 rfl (lv_at hl 0 rfl) ?_
        refine z_bipush (v := 41) X.1 dX5_readPart_47 (by decide) ?_
        obtain ⟨r9, hc9, hf⟩ := z_bind hf
        refine c_callVv [.int 41] X hl.1 (c_X5_skipSign D cy ad X.2.2 hp0 hc9) hp0 ⟨by decide, rfl⟩ cm_X5_80 cw_X5_skipSign rfl cq_X5_skipSign ⟨by omega, by omega⟩ (Nat.le_of_ble_eq_true rfl) rfl dX5_readPart_49 ?_
        refine z_aload_n X.1 dX5_readPart_52 rfl (lv_at hl 0 rfl) ?_
        refine z_dup X.1 dX5_readPart_53 rfl ?_
        refine c_geti X hp0 cf_X5_36 dX5_readPart_54 ?_
        refine z_iconst (v := 1) X.1 dX5_readPart_57 (by decide) ?_
        refine z_isub X.1 dX5_readPart_58 ?_
        refine c_puti X hp0 cf_X5_36 cg_X5 cp_X5_8 rfl rfl dX5_readPart_59 ?_
        refine z_goto (tgt := 126) X.1 dX5_readPart_62 (by decide) ?_
        exact c_vret X Z hf dX5_readPart_126
  · have hf := (if_pos c_).symm.trans hf
    refine z_aload_n X.1 dX5_readPart_8 rfl (lv_at hl 0 rfl) ?_
    refine z_bipush (v := 100) X.1 dX5_readPart_9 (by decide) ?_
    refine z_aload_n X.1 dX5_readPart_11 rfl (lv_at hl 0 rfl) ?_
    refine c_geti X hp0 cf_X5_20 dX5_readPart_12 ?_
    refine z_iadd X.1 dX5_readPart_15 ?_
    obtain ⟨r10, hc10, hf⟩ := z_bind hf
    refine c_callVv [.int ((100 : Int32) + (V p0 3))] X hl.1 (c_X5_emit D cy ad X.2.2 hp0 hc10) hp0 ⟨by decide, rfl⟩ cm_X5_170 cw_X5_emit rfl cq_X5_emit ⟨by omega, by omega⟩ (Nat.le_of_ble_eq_true rfl) rfl dX5_readPart_16 ?_
    refine z_aload_n X.1 dX5_readPart_19 rfl (lv_at hl 0 rfl) ?_
    obtain ⟨r11, hc11, hf⟩ := z_bind hf
    refine c_callVv [] X hl.1 (c_X5_take D cy ad X.2.2 hp0 hc11) hp0 ⟨by decide, rfl⟩ cm_X5_70 cw_X5_take rfl cq_X5_take ⟨by omega, by omega⟩ (Nat.le_of_ble_eq_true rfl) rfl dX5_readPart_20 ?_
    refine z_goto (tgt := 126) X.1 dX5_readPart_23 (by decide) ?_
    exact c_vret X Z hf dX5_readPart_126

theorem c_X5_readPart (D : va_G) (cy : Nat → ClassId) (ad : Nat → Nat) {n : Nat} {K N : Nat → Nat} {G : zG} {F : T_GR} {dd : Nat} (hF : H_GR F D cy ad n K N G (3 + dd) (64 + dd * 22)) (hWF : zWF n K G) {p0 : Nat} {V : zI} {L : zL} (hp0 : p0 < n ∧ K p0 = 4) {r' : zI × zL} (hf : f_X5_readPart F N G p0 V L = some r') : RCv (zC D cy ad n K N G) yX5_readPart cX5_readPart 1 (3 + (dd + 1)) (64 + (dd + 1) * 22) [.ref (ad p0)] V L r'.1 r'.2 := by
  unfold f_X5_readPart at hf
  exact RCv.of (by decide) hWF (Nat.le_of_ble_eq_true rfl) (fun M X Z ls hl => w_X5_readPart hF X Z hp0 V L ls hl hf)
set_option maxHeartbeats 4000000 in
set_option maxRecDepth 100000 in
theorem w_X5_readExtreme {M : zM} {D : va_G} {cy : Nat → ClassId} {ad : Nat → Nat} {n : Nat} {K N : Nat → Nat} {G : zG} {r' : zI × zL} {F : T_GR} {dd : Nat} (hF : H_GR F D cy ad n K N G (3 + dd) (64 + dd * 22)) (X : RXc M D cy ad n K N G cX5_readExtreme 2 RX5 (3 + (dd + 1)) (64 + (dd + 1) * 22)) (Z : RZv M (zC D cy ad n K N G) r'.1 r'.2) {p0 : Nat} (hp0 : p0 < n ∧ K p0 = 4) (x1 : Int32) (V : zI) (L : zL) (ls : Array Slot) (hl : lv_has ls 2 [(0, .ref (ad p0)), (1, .int x1)]) (hf : g_X5_readExtreme F N G p0 x1 V L = some r') : RG M (zC D cy ad n K N G) V L 0 ls [] := by
  unfold g_X5_readExtreme at hf
  refine z_aload_n X.1 dX5_readExtreme_0 rfl (lv_at hl 0 rfl) ?_
  obtain ⟨r1, hc1, hf⟩ := z_bind hf
  refine c_callVv [] X hl.1 (c_X5_take D cy ad X.2.2 hp0 hc1) hp0 ⟨by decide, rfl⟩ cm_X5_70 cw_X5_take rfl cq_X5_take ⟨by omega, by omega⟩ (Nat.le_of_ble_eq_true rfl) rfl dX5_readExtreme_1 ?_
  refine z_aload_n X.1 dX5_readExtreme_4 rfl (lv_at hl 0 rfl) ?_
  obtain ⟨r2, hc2, hf⟩ := z_bind hf
  refine c_callVi [] X hl.1 (c_X5_opensWithParenthesis D cy ad X.2.2 hp0 hc2) hp0 ⟨by decide, rfl⟩ cm_X5_201 cw_X5_opensWithParenthesis rfl cq_X5_opensWithParenthesis ⟨by omega, by omega⟩ (Nat.le_of_ble_eq_true rfl) rfl dX5_readExtreme_5 ?_
  refine z_if_eq (tgt := 46) X.1 dX5_readExtreme_8 (by decide) (fun c_ => ?_) (fun c_ => ?_)
  · have hf := (if_pos c_).symm.trans hf
    exact c_vret X Z hf dX5_readExtreme_46
  · have hf := (if_neg c_).symm.trans hf
    refine z_aload_n X.1 dX5_readExtreme_11 rfl (lv_at hl 0 rfl) ?_
    obtain ⟨r3, hc3, hf⟩ := z_bind hf
    refine c_callVv [] X hl.1 (hF.2.2.2.2.1 p0 r2.2.1 r2.2.2 r3 hp0 hc3) hp0 ⟨by decide, rfl⟩ cm_X5_153 cw_X5_readSum rfl cq_X5_readSum ⟨by omega, by omega⟩ (Nat.le_of_ble_eq_true rfl) rfl dX5_readExtreme_12 ?_
    refine z_aload_n X.1 dX5_readExtreme_15 rfl (lv_at hl 0 rfl) ?_
    refine z_bipush (v := 44) X.1 dX5_readExtreme_16 (by decide) ?_
    obtain ⟨r4, hc4, hf⟩ := z_bind hf
    refine c_callVv [.int 44] X hl.1 (c_X5_skipSign D cy ad X.2.2 hp0 hc4) hp0 ⟨by decide, rfl⟩ cm_X5_80 cw_X5_skipSign rfl cq_X5_skipSign ⟨by omega, by omega⟩ (Nat.le_of_ble_eq_true rfl) rfl dX5_readExtreme_18 ?_
    refine z_aload_n X.1 dX5_readExtreme_21 rfl (lv_at hl 0 rfl) ?_
    obtain ⟨r5, hc5, hf⟩ := z_bind hf
    refine c_callVv [] X hl.1 (hF.2.2.2.2.1 p0 r4.1 r4.2 r5 hp0 hc5) hp0 ⟨by decide, rfl⟩ cm_X5_153 cw_X5_readSum rfl cq_X5_readSum ⟨by omega, by omega⟩ (Nat.le_of_ble_eq_true rfl) rfl dX5_readExtreme_22 ?_
    refine z_aload_n X.1 dX5_readExtreme_25 rfl (lv_at hl 0 rfl) ?_
    refine z_bipush (v := 41) X.1 dX5_readExtreme_26 (by decide) ?_
    obtain ⟨r6, hc6, hf⟩ := z_bind hf
    refine c_callVv [.int 41] X hl.1 (c_X5_skipSign D cy ad X.2.2 hp0 hc6) hp0 ⟨by decide, rfl⟩ cm_X5_80 cw_X5_skipSign rfl cq_X5_skipSign ⟨by omega, by omega⟩ (Nat.le_of_ble_eq_true rfl) rfl dX5_readExtreme_28 ?_
    refine z_aload_n X.1 dX5_readExtreme_31 rfl (lv_at hl 0 rfl) ?_
    refine z_dup X.1 dX5_readExtreme_32 rfl ?_
    refine c_geti X hp0 cf_X5_36 dX5_readExtreme_33 ?_
    refine z_iconst (v := 1) X.1 dX5_readExtreme_36 (by decide) ?_
    refine z_isub X.1 dX5_readExtreme_37 ?_
    refine c_puti X hp0 cf_X5_36 cg_X5 cp_X5_8 rfl rfl dX5_readExtreme_38 ?_
    refine z_aload_n X.1 dX5_readExtreme_41 rfl (lv_at hl 0 rfl) ?_
    refine z_iload_n X.1 dX5_readExtreme_42 rfl (lv_at hl 1 rfl) ?_
    obtain ⟨r7, hc7, hf⟩ := z_bind hf
    refine c_callVv [.int x1] X hl.1 (c_X5_emit D cy ad X.2.2 hp0 hc7) hp0 ⟨by decide, rfl⟩ cm_X5_170 cw_X5_emit rfl cq_X5_emit ⟨by omega, by omega⟩ (Nat.le_of_ble_eq_true rfl) rfl dX5_readExtreme_43 ?_
    exact c_vret X Z hf dX5_readExtreme_46

theorem c_X5_readExtreme (D : va_G) (cy : Nat → ClassId) (ad : Nat → Nat) {n : Nat} {K N : Nat → Nat} {G : zG} {F : T_GR} {dd : Nat} (hF : H_GR F D cy ad n K N G (3 + dd) (64 + dd * 22)) (hWF : zWF n K G) {p0 : Nat} {x1 : Int32} {V : zI} {L : zL} (hp0 : p0 < n ∧ K p0 = 4) {r' : zI × zL} (hf : f_X5_readExtreme F N G p0 x1 V L = some r') : RCv (zC D cy ad n K N G) yX5_readExtreme cX5_readExtreme 2 (3 + (dd + 1)) (64 + (dd + 1) * 22) [.ref (ad p0), .int x1] V L r'.1 r'.2 := by
  unfold f_X5_readExtreme at hf
  exact RCv.of (by decide) hWF (Nat.le_of_ble_eq_true rfl) (fun M X Z ls hl => w_X5_readExtreme hF X Z hp0 x1 V L ls hl hf)
set_option maxHeartbeats 4000000 in
set_option maxRecDepth 100000 in
theorem w_X5_readChoice {M : zM} {D : va_G} {cy : Nat → ClassId} {ad : Nat → Nat} {n : Nat} {K N : Nat → Nat} {G : zG} {r' : zI × zL} {F : T_GR} {dd : Nat} (hF : H_GR F D cy ad n K N G (3 + dd) (64 + dd * 22)) (X : RXc M D cy ad n K N G cX5_readChoice 1 RX5 (3 + (dd + 1)) (64 + (dd + 1) * 22)) (Z : RZv M (zC D cy ad n K N G) r'.1 r'.2) {p0 : Nat} (hp0 : p0 < n ∧ K p0 = 4)  (V : zI) (L : zL) (ls : Array Slot) (hl : lv_has ls 1 [(0, .ref (ad p0))]) (hf : g_X5_readChoice F N G p0 V L = some r') : RG M (zC D cy ad n K N G) V L 0 ls [] := by
  unfold g_X5_readChoice at hf
  refine z_aload_n X.1 dX5_readChoice_0 rfl (lv_at hl 0 rfl) ?_
  obtain ⟨r1, hc1, hf⟩ := z_bind hf
  refine c_callVv [] X hl.1 (c_X5_take D cy ad X.2.2 hp0 hc1) hp0 ⟨by decide, rfl⟩ cm_X5_70 cw_X5_take rfl cq_X5_take ⟨by omega, by omega⟩ (Nat.le_of_ble_eq_true rfl) rfl dX5_readChoice_1 ?_
  refine z_aload_n X.1 dX5_readChoice_4 rfl (lv_at hl 0 rfl) ?_
  obtain ⟨r2, hc2, hf⟩ := z_bind hf
  refine c_callVi [] X hl.1 (c_X5_opensWithParenthesis D cy ad X.2.2 hp0 hc2) hp0 ⟨by decide, rfl⟩ cm_X5_201 cw_X5_opensWithParenthesis rfl cq_X5_opensWithParenthesis ⟨by omega, by omega⟩ (Nat.le_of_ble_eq_true rfl) rfl dX5_readChoice_5 ?_
  refine z_if_eq (tgt := 57) X.1 dX5_readChoice_8 (by decide) (fun c_ => ?_) (fun c_ => ?_)
  · have hf := (if_pos c_).symm.trans hf
    exact c_vret X Z hf dX5_readChoice_57
  · have hf := (if_neg c_).symm.trans hf
    refine z_aload_n X.1 dX5_readChoice_11 rfl (lv_at hl 0 rfl) ?_
    obtain ⟨r3, hc3, hf⟩ := z_bind hf
    refine c_callVv [] X hl.1 (hF.1 p0 r2.2.1 r2.2.2 r3 hp0 hc3) hp0 ⟨by decide, rfl⟩ cm_X5_150 cw_X5_readTest rfl cq_X5_readTest ⟨by omega, by omega⟩ (Nat.le_of_ble_eq_true rfl) rfl dX5_readChoice_12 ?_
    refine z_aload_n X.1 dX5_readChoice_15 rfl (lv_at hl 0 rfl) ?_
    refine z_bipush (v := 44) X.1 dX5_readChoice_16 (by decide) ?_
    obtain ⟨r4, hc4, hf⟩ := z_bind hf
    refine c_callVv [.int 44] X hl.1 (c_X5_skipSign D cy ad X.2.2 hp0 hc4) hp0 ⟨by decide, rfl⟩ cm_X5_80 cw_X5_skipSign rfl cq_X5_skipSign ⟨by omega, by omega⟩ (Nat.le_of_ble_eq_true rfl) rfl dX5_readChoice_18 ?_
    refine z_aload_n X.1 dX5_readChoice_21 rfl (lv_at hl 0 rfl) ?_
    obtain ⟨r5, hc5, hf⟩ := z_bind hf
    refine c_callVv [] X hl.1 (hF.2.2.2.2.1 p0 r4.1 r4.2 r5 hp0 hc5) hp0 ⟨by decide, rfl⟩ cm_X5_153 cw_X5_readSum rfl cq_X5_readSum ⟨by omega, by omega⟩ (Nat.le_of_ble_eq_true rfl) rfl dX5_readChoice_22 ?_
    refine z_aload_n X.1 dX5_readChoice_25 rfl (lv_at hl 0 rfl) ?_
    refine z_bipush (v := 44) X.1 dX5_readChoice_26 (by decide) ?_
    obtain ⟨r6, hc6, hf⟩ := z_bind hf
    refine c_callVv [.int 44] X hl.1 (c_X5_skipSign D cy ad X.2.2 hp0 hc6) hp0 ⟨by decide, rfl⟩ cm_X5_80 cw_X5_skipSign rfl cq_X5_skipSign ⟨by omega, by omega⟩ (Nat.le_of_ble_eq_true rfl) rfl dX5_readChoice_28 ?_
    refine z_aload_n X.1 dX5_readChoice_31 rfl (lv_at hl 0 rfl) ?_
    obtain ⟨r7, hc7, hf⟩ := z_bind hf
    refine c_callVv [] X hl.1 (hF.2.2.2.2.1 p0 r6.1 r6.2 r7 hp0 hc7) hp0 ⟨by decide, rfl⟩ cm_X5_153 cw_X5_readSum rfl cq_X5_readSum ⟨by omega, by omega⟩ (Nat.le_of_ble_eq_true rfl) rfl dX5_readChoice_32 ?_
    refine z_aload_n X.1 dX5_readChoice_35 rfl (lv_at hl 0 rfl) ?_
    refine z_bipush (v := 41) X.1 dX5_readChoice_36 (by decide) ?_
    obtain ⟨r8, hc8, hf⟩ := z_bind hf
    refine c_callVv [.int 41] X hl.1 (c_X5_skipSign D cy ad X.2.2 hp0 hc8) hp0 ⟨by decide, rfl⟩ cm_X5_80 cw_X5_skipSign rfl cq_X5_skipSign ⟨by omega, by omega⟩ (Nat.le_of_ble_eq_true rfl) rfl dX5_readChoice_38 ?_
    refine z_aload_n X.1 dX5_readChoice_41 rfl (lv_at hl 0 rfl) ?_
    refine z_dup X.1 dX5_readChoice_42 rfl ?_
    refine c_geti X hp0 cf_X5_36 dX5_readChoice_43 ?_
    refine z_iconst (v := 1) X.1 dX5_readChoice_46 (by decide) ?_
    refine z_isub X.1 dX5_readChoice_47 ?_
    refine c_puti X hp0 cf_X5_36 cg_X5 cp_X5_8 rfl rfl dX5_readChoice_48 ?_
    refine z_aload_n X.1 dX5_readChoice_51 rfl (lv_at hl 0 rfl) ?_
    refine z_bipush (v := 18) X.1 dX5_readChoice_52 (by decide) ?_
    obtain ⟨r9, hc9, hf⟩ := z_bind hf
    refine c_callVv [.int 18] X hl.1 (c_X5_emit D cy ad X.2.2 hp0 hc9) hp0 ⟨by decide, rfl⟩ cm_X5_170 cw_X5_emit rfl cq_X5_emit ⟨by omega, by omega⟩ (Nat.le_of_ble_eq_true rfl) rfl dX5_readChoice_54 ?_
    exact c_vret X Z hf dX5_readChoice_57

theorem c_X5_readChoice (D : va_G) (cy : Nat → ClassId) (ad : Nat → Nat) {n : Nat} {K N : Nat → Nat} {G : zG} {F : T_GR} {dd : Nat} (hF : H_GR F D cy ad n K N G (3 + dd) (64 + dd * 22)) (hWF : zWF n K G) {p0 : Nat} {V : zI} {L : zL} (hp0 : p0 < n ∧ K p0 = 4) {r' : zI × zL} (hf : f_X5_readChoice F N G p0 V L = some r') : RCv (zC D cy ad n K N G) yX5_readChoice cX5_readChoice 1 (3 + (dd + 1)) (64 + (dd + 1) * 22) [.ref (ad p0)] V L r'.1 r'.2 := by
  unfold f_X5_readChoice at hf
  exact RCv.of (by decide) hWF (Nat.le_of_ble_eq_true rfl) (fun M X Z ls hl => w_X5_readChoice hF X Z hp0 V L ls hl hf)
def FF_GR : Nat → T_GR
  | 0 => (fun _ _ _ _ _ => none, fun _ _ _ _ _ => none, fun _ _ _ _ _ => none, fun _ _ _ _ _ => none, fun _ _ _ _ _ => none, fun _ _ _ _ _ => none, fun _ _ _ _ _ => none, fun _ _ _ _ _ _ => none, fun _ _ _ _ _ => none)
  | d + 1 => (f_X5_readTest (FF_GR d), f_X5_readBoth (FF_GR d), f_X5_readFact (FF_GR d), f_X5_readComparison (FF_GR d), f_X5_readSum (FF_GR d), f_X5_readProduct (FF_GR d), f_X5_readPart (FF_GR d), f_X5_readExtreme (FF_GR d), f_X5_readChoice (FF_GR d))
theorem cG_GR (D : va_G) (cy : Nat → ClassId) (ad : Nat → Nat) {n : Nat} {K N : Nat → Nat} {G : zG} (hWF : zWF n K G) (d : Nat) : H_GR (FF_GR d) D cy ad n K N G (3 + d) (64 + d * 22) := by
  induction d with
  | zero => exact ⟨fun p0 V L r' hp0 hf => (nomatch (show none = some r' from hf)), fun p0 V L r' hp0 hf => (nomatch (show none = some r' from hf)), fun p0 V L r' hp0 hf => (nomatch (show none = some r' from hf)), fun p0 V L r' hp0 hf => (nomatch (show none = some r' from hf)), fun p0 V L r' hp0 hf => (nomatch (show none = some r' from hf)), fun p0 V L r' hp0 hf => (nomatch (show none = some r' from hf)), fun p0 V L r' hp0 hf => (nomatch (show none = some r' from hf)), fun p0 x1 V L r' hp0 hf => (nomatch (show none = some r' from hf)), fun p0 V L r' hp0 hf => (nomatch (show none = some r' from hf))⟩
  | succ d ih => exact ⟨fun p0 V L r' hp0 hf => c_X5_readTest D cy ad ih hWF hp0 hf, fun p0 V L r' hp0 hf => c_X5_readBoth D cy ad ih hWF hp0 hf, fun p0 V L r' hp0 hf => c_X5_readFact D cy ad ih hWF hp0 hf, fun p0 V L r' hp0 hf => c_X5_readComparison D cy ad ih hWF hp0 hf, fun p0 V L r' hp0 hf => c_X5_readSum D cy ad ih hWF hp0 hf, fun p0 V L r' hp0 hf => c_X5_readProduct D cy ad ih hWF hp0 hf, fun p0 V L r' hp0 hf => c_X5_readPart D cy ad ih hWF hp0 hf, fun p0 x1 V L r' hp0 hf => c_X5_readExtreme D cy ad ih hWF hp0 hf, fun p0 V L r' hp0 hf => c_X5_readChoice D cy ad ih hWF hp0 hf⟩
def f_X5_readTest_T (N : Nat → Nat) (G : zG) (p0 : Nat) (V : zI) (L : zL) : Option (zI × zL) := (FF_GR 100).1 N G p0 V L
theorem c_X5_readTest_T (D : va_G) (cy : Nat → ClassId) (ad : Nat → Nat) {n : Nat} {K N : Nat → Nat} {G : zG} (hWF : zWF n K G) {p0 : Nat} {V : zI} {L : zL} {r' : zI × zL} (hp0 : p0 < n ∧ K p0 = 4) (hf : f_X5_readTest_T N G p0 V L = some r') : RCv (zC D cy ad n K N G) yX5_readTest cX5_readTest 2 103 2264 [.ref (ad p0)] V L r'.1 r'.2 := (cG_GR D cy ad hWF 100).1 p0 V L r' hp0 hf
def f_X5_readBoth_T (N : Nat → Nat) (G : zG) (p0 : Nat) (V : zI) (L : zL) : Option (zI × zL) := (FF_GR 100).2.1 N G p0 V L
theorem c_X5_readBoth_T (D : va_G) (cy : Nat → ClassId) (ad : Nat → Nat) {n : Nat} {K N : Nat → Nat} {G : zG} (hWF : zWF n K G) {p0 : Nat} {V : zI} {L : zL} {r' : zI × zL} (hp0 : p0 < n ∧ K p0 = 4) (hf : f_X5_readBoth_T N G p0 V L = some r') : RCv (zC D cy ad n K N G) yX5_readBoth cX5_readBoth 2 103 2264 [.ref (ad p0)] V L r'.1 r'.2 := (cG_GR D cy ad hWF 100).2.1 p0 V L r' hp0 hf
def f_X5_readFact_T (N : Nat → Nat) (G : zG) (p0 : Nat) (V : zI) (L : zL) : Option (zI × zL) := (FF_GR 100).2.2.1 N G p0 V L
theorem c_X5_readFact_T (D : va_G) (cy : Nat → ClassId) (ad : Nat → Nat) {n : Nat} {K N : Nat → Nat} {G : zG} (hWF : zWF n K G) {p0 : Nat} {V : zI} {L : zL} {r' : zI × zL} (hp0 : p0 < n ∧ K p0 = 4) (hf : f_X5_readFact_T N G p0 V L = some r') : RCv (zC D cy ad n K N G) yX5_readFact cX5_readFact 1 103 2264 [.ref (ad p0)] V L r'.1 r'.2 := (cG_GR D cy ad hWF 100).2.2.1 p0 V L r' hp0 hf
def f_X5_readComparison_T (N : Nat → Nat) (G : zG) (p0 : Nat) (V : zI) (L : zL) : Option (zI × zL) := (FF_GR 100).2.2.2.1 N G p0 V L
theorem c_X5_readComparison_T (D : va_G) (cy : Nat → ClassId) (ad : Nat → Nat) {n : Nat} {K N : Nat → Nat} {G : zG} (hWF : zWF n K G) {p0 : Nat} {V : zI} {L : zL} {r' : zI × zL} (hp0 : p0 < n ∧ K p0 = 4) (hf : f_X5_readComparison_T N G p0 V L = some r') : RCv (zC D cy ad n K N G) yX5_readComparison cX5_readComparison 2 103 2264 [.ref (ad p0)] V L r'.1 r'.2 := (cG_GR D cy ad hWF 100).2.2.2.1 p0 V L r' hp0 hf
def f_X5_readSum_T (N : Nat → Nat) (G : zG) (p0 : Nat) (V : zI) (L : zL) : Option (zI × zL) := (FF_GR 100).2.2.2.2.1 N G p0 V L
theorem c_X5_readSum_T (D : va_G) (cy : Nat → ClassId) (ad : Nat → Nat) {n : Nat} {K N : Nat → Nat} {G : zG} (hWF : zWF n K G) {p0 : Nat} {V : zI} {L : zL} {r' : zI × zL} (hp0 : p0 < n ∧ K p0 = 4) (hf : f_X5_readSum_T N G p0 V L = some r') : RCv (zC D cy ad n K N G) yX5_readSum cX5_readSum 3 103 2264 [.ref (ad p0)] V L r'.1 r'.2 := (cG_GR D cy ad hWF 100).2.2.2.2.1 p0 V L r' hp0 hf
def f_X5_readProduct_T (N : Nat → Nat) (G : zG) (p0 : Nat) (V : zI) (L : zL) : Option (zI × zL) := (FF_GR 100).2.2.2.2.2.1 N G p0 V L
theorem c_X5_readProduct_T (D : va_G) (cy : Nat → ClassId) (ad : Nat → Nat) {n : Nat} {K N : Nat → Nat} {G : zG} (hWF : zWF n K G) {p0 : Nat} {V : zI} {L : zL} {r' : zI × zL} (hp0 : p0 < n ∧ K p0 = 4) (hf : f_X5_readProduct_T N G p0 V L = some r') : RCv (zC D cy ad n K N G) yX5_readProduct cX5_readProduct 3 103 2264 [.ref (ad p0)] V L r'.1 r'.2 := (cG_GR D cy ad hWF 100).2.2.2.2.2.1 p0 V L r' hp0 hf
def f_X5_readPart_T (N : Nat → Nat) (G : zG) (p0 : Nat) (V : zI) (L : zL) : Option (zI × zL) := (FF_GR 100).2.2.2.2.2.2.1 N G p0 V L
theorem c_X5_readPart_T (D : va_G) (cy : Nat → ClassId) (ad : Nat → Nat) {n : Nat} {K N : Nat → Nat} {G : zG} (hWF : zWF n K G) {p0 : Nat} {V : zI} {L : zL} {r' : zI × zL} (hp0 : p0 < n ∧ K p0 = 4) (hf : f_X5_readPart_T N G p0 V L = some r') : RCv (zC D cy ad n K N G) yX5_readPart cX5_readPart 1 103 2264 [.ref (ad p0)] V L r'.1 r'.2 := (cG_GR D cy ad hWF 100).2.2.2.2.2.2.1 p0 V L r' hp0 hf
def f_X5_readExtreme_T (N : Nat → Nat) (G : zG) (p0 : Nat) (x1 : Int32) (V : zI) (L : zL) : Option (zI × zL) := (FF_GR 100).2.2.2.2.2.2.2.1 N G p0 x1 V L
theorem c_X5_readExtreme_T (D : va_G) (cy : Nat → ClassId) (ad : Nat → Nat) {n : Nat} {K N : Nat → Nat} {G : zG} (hWF : zWF n K G) {p0 : Nat} {x1 : Int32} {V : zI} {L : zL} {r' : zI × zL} (hp0 : p0 < n ∧ K p0 = 4) (hf : f_X5_readExtreme_T N G p0 x1 V L = some r') : RCv (zC D cy ad n K N G) yX5_readExtreme cX5_readExtreme 2 103 2264 [.ref (ad p0), .int x1] V L r'.1 r'.2 := (cG_GR D cy ad hWF 100).2.2.2.2.2.2.2.1 p0 x1 V L r' hp0 hf
def f_X5_readChoice_T (N : Nat → Nat) (G : zG) (p0 : Nat) (V : zI) (L : zL) : Option (zI × zL) := (FF_GR 100).2.2.2.2.2.2.2.2 N G p0 V L
theorem c_X5_readChoice_T (D : va_G) (cy : Nat → ClassId) (ad : Nat → Nat) {n : Nat} {K N : Nat → Nat} {G : zG} (hWF : zWF n K G) {p0 : Nat} {V : zI} {L : zL} {r' : zI × zL} (hp0 : p0 < n ∧ K p0 = 4) (hf : f_X5_readChoice_T N G p0 V L = some r') : RCv (zC D cy ad n K N G) yX5_readChoice cX5_readChoice 1 103 2264 [.ref (ad p0)] V L r'.1 r'.2 := (cG_GR D cy ad hWF 100).2.2.2.2.2.2.2.2 p0 V L r' hp0 hf





