def g_X10_octet (N : Nat → Nat) (G : zG) (p0 : Nat) (p0_14 : Nat) (V : zI) (L : zL) (x1 : Int32) : Option (Int32) :=
  (if x1 < 0 then some (-1) else (if (V p0 15) ≤ x1 then some (-1) else if inB x1 (N p0_14) then some (V p0_14 x1.toNatClampNeg) else none))
def f_X10_octet (N : Nat → Nat) (G : zG) (p0 : Nat) (x1 : Int32) (V : zI) (L : zL) : Option (Int32) :=
  (G p0 14).bind fun p0_14 => g_X10_octet N G p0 p0_14 V L x1
set_option maxHeartbeats 4000000 in
set_option maxRecDepth 100000 in
theorem w_X10_octet {M : zM} {D : va_G} {cy : Nat → ClassId} {ad : Nat → Nat} {n : Nat} {K N : Nat → Nat} {G : zG} {V : zI} {L : zL} {r' : Int32} (X : RXc M D cy ad n K N G cX10_octet 2 RX10 0 0) (Z : RZi M (zC D cy ad n K N G) .int r' V L) {p0 : Nat} (hp0 : p0 < n ∧ K p0 = 8) {p0_14 : Nat} (hp0_14 : p0_14 < n ∧ K p0_14 = 100) (ep0_14 : G p0 14 = some p0_14) (x1 : Int32) (ls : Array Slot) (hl : lv_has ls 2 [(0, .ref (ad p0)), (1, .int x1)]) (hf : g_X10_octet N G p0 p0_14 V L x1 = some r') : RG M (zC D cy ad n K N G) V L 0 ls [] := by
  unfold g_X10_octet at hf
  refine z_iload_n X.1 dX10_octet_0 rfl (lv_at hl 1 rfl) ?_
  refine z_if_lt (tgt := 21) X.1 dX10_octet_1 (by decide) (fun c_ => ?_) (fun c_ => ?_)
  · have hf := (if_pos c_).symm.trans hf
    refine z_iconst (v := -1) X.1 dX10_octet_21 (by decide) ?_
    exact c_iretS X Z hf rfl dX10_octet_22
  · have hf := (if_neg c_).symm.trans hf
    refine z_iload_n X.1 dX10_octet_4 rfl (lv_at hl 1 rfl) ?_
    refine z_aload_n X.1 dX10_octet_5 rfl (lv_at hl 0 rfl) ?_
    refine c_geti X hp0 cf_X10_74 dX10_octet_6 ?_
    refine z_icmp_ge (tgt := 21) X.1 dX10_octet_9 (by decide) (fun c_ => ?_) (fun c_ => ?_)
    · have hf := (if_pos c_).symm.trans hf
      refine z_iconst (v := -1) X.1 dX10_octet_21 (by decide) ?_
      exact c_iretS X Z hf rfl dX10_octet_22
    · have hf := (if_neg c_).symm.trans hf
      refine z_aload_n X.1 dX10_octet_12 rfl (lv_at hl 0 rfl) ?_
      refine c_geta X hp0 cf_X10_71 ep0_14 dX10_octet_13 ?_
      refine z_iload_n X.1 dX10_octet_16 rfl (lv_at hl 1 rfl) ?_
      obtain ⟨hb1, hf⟩ := z_ite hf
      refine c_iald X hp0_14 hb1 dX10_octet_17 ?_
      refine z_goto (tgt := 22) X.1 dX10_octet_18 (by decide) ?_
      exact c_iretS X Z hf rfl dX10_octet_22

theorem c_X10_octet (D : va_G) (cy : Nat → ClassId) (ad : Nat → Nat) {n : Nat} {K N : Nat → Nat} {G : zG} (hWF : zWF n K G) {p0 : Nat} {x1 : Int32} {V : zI} {L : zL} (hp0 : p0 < n ∧ K p0 = 8) {r' : Int32} (hf : f_X10_octet N G p0 x1 V L = some r') : RCi (zC D cy ad n K N G) yX10_octet cX10_octet 2 .int 0 0 [.ref (ad p0), .int x1] V L r' V L := by
  unfold f_X10_octet at hf
  obtain ⟨p0_14, ep0_14, hf⟩ := z_bind hf
  have hp0_14 := hWF.get hp0 (k := 14) (c := 100) rfl ep0_14
  exact RCi.of (by decide) hWF (Nat.le_of_ble_eq_true rfl) (fun M X Z ls hl => w_X10_octet X Z hp0 hp0_14 ep0_14 x1 ls hl hf)
def f_X3_checkFits_37 (N : Nat → Nat) (G : zG) (p0 : Nat) (V : zI) (L : zL) (x1 : Int32) (x2 : Int32) : Option (Int32) :=
  (if x1 ≤ 0 then some 0 else (if (Int32.ofNat (N p0)) < x1 then some 0 else if inB (x1 - 1) (N p0) then (if x2 = ((V p0 (x1 - 1).toNatClampNeg) &&& 255) then some 1 else some 0) else none))
def b_X3_checkFits_6 (N : Nat → Nat) (G : zG) (p0 : Nat) (V : zI) (L : zL) (k6 : Int32 × Int32 × Int32 → Option (Int32)) : Int32 × Int32 × Int32 → Option (Int32) := fun ⟨x1, x2, x3⟩ =>
  (if (x1 - 1) ≤ x3 then f_X3_checkFits_37 N G p0 V L x1 x2 else (if (Int32.ofNat (N p0)) ≤ x3 then f_X3_checkFits_37 N G p0 V L x1 x2 else if inB x3 (N p0) then (f_X3_checkOn x2 ((V p0 x3.toNatClampNeg) &&& 255)).bind fun r2 => k6 (x1, r2, (x3 + 1)) else none))
def g_X3_checkFits (N : Nat → Nat) (G : zG) (p0 : Nat) (V : zI) (L : zL) (x1 : Int32) : Option (Int32) :=
  zfix (b_X3_checkFits_6 N G p0 V L) FU (x1, 191, 0)
def f_X3_checkFits (N : Nat → Nat) (G : zG) (p0 : Nat) (x1 : Int32) (V : zI) (L : zL) : Option (Int32) :=
  g_X3_checkFits N G p0 V L x1
set_option maxHeartbeats 4000000 in
set_option maxRecDepth 100000 in
theorem w_X3_checkFits_37 {M : zM} {D : va_G} {cy : Nat → ClassId} {ad : Nat → Nat} {n : Nat} {K N : Nat → Nat} {G : zG} {V : zI} {L : zL} {r' : Int32} (X : RXc M D cy ad n K N G cX3_checkFits 4 RX3 1 21) (Z : RZi M (zC D cy ad n K N G) .boolean r' V L) {p0 : Nat} (hp0 : p0 < n ∧ K p0 = 101) (x1 : Int32) (x2 : Int32) (ls : Array Slot) (hl : lv_has ls 4 [(0, .ref (ad p0)), (1, .int x1), (2, .int x2)]) (hf : f_X3_checkFits_37 N G p0 V L x1 x2 = some r') : RG M (zC D cy ad n K N G) V L 37 ls [] := by
  unfold f_X3_checkFits_37 at hf
  refine z_iload_n X.1 dX3_checkFits_37 rfl (lv_at hl 1 rfl) ?_
  refine z_if_le (tgt := 64) X.1 dX3_checkFits_38 (by decide) (fun c_ => ?_) (fun c_ => ?_)
  · have hf := (if_pos c_).symm.trans hf
    refine z_iconst (v := 0) X.1 dX3_checkFits_64 (by decide) ?_
    exact c_iretS X Z hf (by decide) dX3_checkFits_65
  · have hf := (if_neg c_).symm.trans hf
    refine z_iload_n X.1 dX3_checkFits_41 rfl (lv_at hl 1 rfl) ?_
    refine z_aload_n X.1 dX3_checkFits_42 rfl (lv_at hl 0 rfl) ?_
    refine c_alen101 X hp0 dX3_checkFits_43 ?_
    refine z_icmp_gt (tgt := 64) X.1 dX3_checkFits_44 (by decide) (fun c_ => ?_) (fun c_ => ?_)
    · have hf := (if_pos c_).symm.trans hf
      refine z_iconst (v := 0) X.1 dX3_checkFits_64 (by decide) ?_
      exact c_iretS X Z hf (by decide) dX3_checkFits_65
    · have hf := (if_neg c_).symm.trans hf
      refine z_iload_n X.1 dX3_checkFits_47 rfl (lv_at hl 2 rfl) ?_
      refine z_aload_n X.1 dX3_checkFits_48 rfl (lv_at hl 0 rfl) ?_
      refine z_iload_n X.1 dX3_checkFits_49 rfl (lv_at hl 1 rfl) ?_
      refine z_iconst (v := 1) X.1 dX3_checkFits_50 (by decide) ?_
      refine z_isub X.1 dX3_checkFits_51 ?_
      obtain ⟨hb1, hf⟩ := z_ite hf
      refine c_bald X hp0 hb1 dX3_checkFits_52 ?_
      refine z_sipush (v := 255) X.1 dX3_checkFits_53 (by decide) ?_
      refine z_iand X.1 dX3_checkFits_56 ?_
      refine z_icmp_ne (tgt := 64) X.1 dX3_checkFits_57 (by decide) (fun c_ => ?_) (fun c_ => ?_)
      · have hf := (if_neg c_).symm.trans hf
        refine z_iconst (v := 0) X.1 dX3_checkFits_64 (by decide) ?_
        exact c_iretS X Z hf (by decide) dX3_checkFits_65
      · have hf := (if_pos c_).symm.trans hf
        refine z_iconst (v := 1) X.1 dX3_checkFits_60 (by decide) ?_
        refine z_goto (tgt := 65) X.1 dX3_checkFits_61 (by decide) ?_
        exact c_iretS X Z hf (by decide) dX3_checkFits_65

set_option maxHeartbeats 4000000 in
set_option maxRecDepth 100000 in
theorem w_X3_checkFits_6 {M : zM} {D : va_G} {cy : Nat → ClassId} {ad : Nat → Nat} {n : Nat} {K N : Nat → Nat} {G : zG} {V : zI} {L : zL} {r' : Int32} (X : RXc M D cy ad n K N G cX3_checkFits 4 RX3 1 21) (Z : RZi M (zC D cy ad n K N G) .boolean r' V L) {p0 : Nat} (hp0 : p0 < n ∧ K p0 = 101) (nn : Nat) : ∀ (x1 : Int32) (x2 : Int32) (x3 : Int32) (ls : Array Slot) (hl : lv_has ls 4 [(0, .ref (ad p0)), (1, .int x1), (2, .int x2), (3, .int x3)]) (hf : zfix (b_X3_checkFits_6 N G p0 V L) nn (x1, x2, x3) = some r'), RG M (zC D cy ad n K N G) V L 6 ls [] := by
  induction nn with
  | zero => intro x1 x2 x3 ls hl hf; cases hf
  | succ nn ih =>
  intro x1 x2 x3 ls hl hf
  have hk6 : ∀ (x1 : Int32) (x2 : Int32) (x3 : Int32) (ls : Array Slot), lv_has ls 4 [(0, .ref (ad p0)), (1, .int x1), (2, .int x2), (3, .int x3)] → zfix (b_X3_checkFits_6 N G p0 V L) nn (x1, x2, x3) = some r' → RG M (zC D cy ad n K N G) V L 6 ls [] := ih
  have hf : b_X3_checkFits_6 N G p0 V L (zfix (b_X3_checkFits_6 N G p0 V L) nn) (x1, x2, x3) = some r' := hf
  generalize zfix (b_X3_checkFits_6 N G p0 V L) nn = k6 at hk6 hf
  clear ih
  unfold b_X3_checkFits_6 at hf
  refine z_iload_n X.1 dX3_checkFits_6 rfl (lv_at hl 3 rfl) ?_
  refine z_iload_n X.1 dX3_checkFits_7 rfl (lv_at hl 1 rfl) ?_
  refine z_iconst (v := 1) X.1 dX3_checkFits_8 (by decide) ?_
  refine z_isub X.1 dX3_checkFits_9 ?_
  refine z_icmp_ge (tgt := 37) X.1 dX3_checkFits_10 (by decide) (fun c_ => ?_) (fun c_ => ?_)
  · have hf := (if_pos c_).symm.trans hf
    exact w_X3_checkFits_37 X Z hp0 x1 x2 ls (lv_sub hl [0, 1, 2] rfl) hf
  · have hf := (if_neg c_).symm.trans hf
    refine z_iload_n X.1 dX3_checkFits_13 rfl (lv_at hl 3 rfl) ?_
    refine z_aload_n X.1 dX3_checkFits_14 rfl (lv_at hl 0 rfl) ?_
    refine c_alen101 X hp0 dX3_checkFits_15 ?_
    refine z_icmp_ge (tgt := 37) X.1 dX3_checkFits_16 (by decide) (fun c_ => ?_) (fun c_ => ?_)
    · have hf := (if_pos c_).symm.trans hf
      exact w_X3_checkFits_37 X Z hp0 x1 x2 ls (lv_sub hl [0, 1, 2] rfl) hf
    · have hf := (if_neg c_).symm.trans hf
      refine z_iload_n X.1 dX3_checkFits_19 rfl (lv_at hl 2 rfl) ?_
      refine z_aload_n X.1 dX3_checkFits_20 rfl (lv_at hl 0 rfl) ?_
      refine z_iload_n X.1 dX3_checkFits_21 rfl (lv_at hl 3 rfl) ?_
      obtain ⟨hb1, hf⟩ := z_ite hf
      refine c_bald X hp0 hb1 dX3_checkFits_22 ?_
      refine z_sipush (v := 255) X.1 dX3_checkFits_23 (by decide) ?_
      refine z_iand X.1 dX3_checkFits_26 ?_
      obtain ⟨r2, hc2, hf⟩ := z_bind hf
      refine c_callSi [.int x2, .int ((V p0 x3.toNatClampNeg) &&& 255)] X hl.1 (c_X3_checkOn D cy ad X.2.2 hc2) cm_X3_45 cw_X3_checkOn rfl cq_X3_checkOn ⟨by decide, by decide⟩ (Nat.le_of_ble_eq_true rfl) rfl dX3_checkFits_27 ?_
      refine z_istore_n (lv' := [(2, .int r2), (0, .ref (ad p0)), (1, .int x1), (3, .int x3)]) X.1 dX3_checkFits_30 rfl hl (by decide) rfl (fun ls hl => ?_)
      refine z_iinc (v := x3 + 1) (k0 := 3) (lv' := [(3, .int (x3 + 1)), (2, .int r2), (0, .ref (ad p0)), (1, .int x1)]) X.1 dX3_checkFits_31 hl rfl rfl (by decide) rfl (fun ls hl => ?_)
      refine z_goto (tgt := 6) X.1 dX3_checkFits_34 (by decide) ?_
      exact hk6 x1 r2 (x3 + 1) ls (lv_sub hl [2, 3, 1, 0] rfl) hf

set_option maxHeartbeats 4000000 in
set_option maxRecDepth 100000 in
theorem w_X3_checkFits {M : zM} {D : va_G} {cy : Nat → ClassId} {ad : Nat → Nat} {n : Nat} {K N : Nat → Nat} {G : zG} {V : zI} {L : zL} {r' : Int32} (X : RXc M D cy ad n K N G cX3_checkFits 4 RX3 1 21) (Z : RZi M (zC D cy ad n K N G) .boolean r' V L) {p0 : Nat} (hp0 : p0 < n ∧ K p0 = 101) (x1 : Int32) (ls : Array Slot) (hl : lv_has ls 4 [(0, .ref (ad p0)), (1, .int x1)]) (hf : g_X3_checkFits N G p0 V L x1 = some r') : RG M (zC D cy ad n K N G) V L 0 ls [] := by
  unfold g_X3_checkFits at hf
  refine z_sipush (v := 191) X.1 dX3_checkFits_0 (by decide) ?_
  refine z_istore_n (lv' := [(2, .int 191), (0, .ref (ad p0)), (1, .int x1)]) X.1 dX3_checkFits_3 rfl hl (by decide) rfl (fun ls hl => ?_)
  refine z_iconst (v := 0) X.1 dX3_checkFits_4 (by decide) ?_
  refine z_istore_n (lv' := [(3, .int 0), (2, .int 191), (0, .ref (ad p0)), (1, .int x1)]) X.1 dX3_checkFits_5 rfl hl (by decide) rfl (fun ls hl => ?_)
  exact w_X3_checkFits_6 X Z hp0 FU x1 191 0 ls (lv_sub hl [2, 3, 1, 0] rfl) hf

theorem c_X3_checkFits (D : va_G) (cy : Nat → ClassId) (ad : Nat → Nat) {n : Nat} {K N : Nat → Nat} {G : zG} (hWF : zWF n K G) {p0 : Nat} {x1 : Int32} {V : zI} {L : zL} (hp0 : p0 < n ∧ K p0 = 101) {r' : Int32} (hf : f_X3_checkFits N G p0 x1 V L = some r') : RCi (zC D cy ad n K N G) yX3_checkFits cX3_checkFits 4 .boolean 1 21 [.ref (ad p0), .int x1] V L r' V L := by
  unfold f_X3_checkFits at hf
  exact RCi.of (by decide) hWF (Nat.le_of_ble_eq_true rfl) (fun M X Z ls hl => w_X3_checkFits X Z hp0 x1 ls hl hf)
def b_X3_readCounts_5 (N : Nat → Nat) (G : zG) (p0 : Nat) (p1 : Nat) (p2 : Nat) (p2_1 : Nat) (p2_2 : Nat) (p2_3 : Nat) (k5 : Int32 × Int32 × zI × zL → Option (Int32 × zI × zL)) : Int32 × Int32 × zI × zL → Option (Int32 × zI × zL) := fun ⟨x3, x4, V, L⟩ =>
  (if 36 ≤ x4 then some (1, V, L) else (f_X9_isPair N G p1 (x4 / 6) (x4 - x4 / 6 * 6) V L).bind fun r1 => (if r1 = 0 then k5 (x3, (x4 + 1), V, L) else (if (Int32.ofNat (N p0)) ≤ (x3 + 2) then k5 (x3, (x4 + 1), V, L) else if inB x3 (N p0) then if inB x4 (N p2_1) then if inB (x3 + 1) (N p0) then if inB x4 (N p2_2) then if inB (x3 + 2) (N p0) then if inB x4 (N p2_3) then if inB x4 (N p2_1) then if inB x4 (N p2_2) then if inB x4 (N p2_3) then (if (if ((z_uI (z_uI (z_uI V p2_1 x4.toNatClampNeg ((V p0 x3.toNatClampNeg) &&& 255)) p2_2 x4.toNatClampNeg (((z_uI V p2_1 x4.toNatClampNeg ((V p0 x3.toNatClampNeg) &&& 255)) p0 (x3 + 1).toNatClampNeg) &&& 255)) p2_3 x4.toNatClampNeg (((z_uI (z_uI V p2_1 x4.toNatClampNeg ((V p0 x3.toNatClampNeg) &&& 255)) p2_2 x4.toNatClampNeg (((z_uI V p2_1 x4.toNatClampNeg ((V p0 x3.toNatClampNeg) &&& 255)) p0 (x3 + 1).toNatClampNeg) &&& 255)) p0 (x3 + 2).toNatClampNeg) &&& 255)) p2_1 x4.toNatClampNeg) < (if ((z_uI (z_uI (z_uI V p2_1 x4.toNatClampNeg ((V p0 x3.toNatClampNeg) &&& 255)) p2_2 x4.toNatClampNeg (((z_uI V p2_1 x4.toNatClampNeg ((V p0 x3.toNatClampNeg) &&& 255)) p0 (x3 + 1).toNatClampNeg) &&& 255)) p2_3 x4.toNatClampNeg (((z_uI (z_uI V p2_1 x4.toNatClampNeg ((V p0 x3.toNatClampNeg) &&& 255)) p2_2 x4.toNatClampNeg (((z_uI V p2_1 x4.toNatClampNeg ((V p0 x3.toNatClampNeg) &&& 255)) p0 (x3 + 1).toNatClampNeg) &&& 255)) p0 (x3 + 2).toNatClampNeg) &&& 255)) p2_2 x4.toNatClampNeg) < ((z_uI (z_uI (z_uI V p2_1 x4.toNatClampNeg ((V p0 x3.toNatClampNeg) &&& 255)) p2_2 x4.toNatClampNeg (((z_uI V p2_1 x4.toNatClampNeg ((V p0 x3.toNatClampNeg) &&& 255)) p0 (x3 + 1).toNatClampNeg) &&& 255)) p2_3 x4.toNatClampNeg (((z_uI (z_uI V p2_1 x4.toNatClampNeg ((V p0 x3.toNatClampNeg) &&& 255)) p2_2 x4.toNatClampNeg (((z_uI V p2_1 x4.toNatClampNeg ((V p0 x3.toNatClampNeg) &&& 255)) p0 (x3 + 1).toNatClampNeg) &&& 255)) p0 (x3 + 2).toNatClampNeg) &&& 255)) p2_3 x4.toNatClampNeg) then ((z_uI (z_uI (z_uI V p2_1 x4.toNatClampNeg ((V p0 x3.toNatClampNeg) &&& 255)) p2_2 x4.toNatClampNeg (((z_uI V p2_1 x4.toNatClampNeg ((V p0 x3.toNatClampNeg) &&& 255)) p0 (x3 + 1).toNatClampNeg) &&& 255)) p2_3 x4.toNatClampNeg (((z_uI (z_uI V p2_1 x4.toNatClampNeg ((V p0 x3.toNatClampNeg) &&& 255)) p2_2 x4.toNatClampNeg (((z_uI V p2_1 x4.toNatClampNeg ((V p0 x3.toNatClampNeg) &&& 255)) p0 (x3 + 1).toNatClampNeg) &&& 255)) p0 (x3 + 2).toNatClampNeg) &&& 255)) p2_3 x4.toNatClampNeg) else ((z_uI (z_uI (z_uI V p2_1 x4.toNatClampNeg ((V p0 x3.toNatClampNeg) &&& 255)) p2_2 x4.toNatClampNeg (((z_uI V p2_1 x4.toNatClampNeg ((V p0 x3.toNatClampNeg) &&& 255)) p0 (x3 + 1).toNatClampNeg) &&& 255)) p2_3 x4.toNatClampNeg (((z_uI (z_uI V p2_1 x4.toNatClampNeg ((V p0 x3.toNatClampNeg) &&& 255)) p2_2 x4.toNatClampNeg (((z_uI V p2_1 x4.toNatClampNeg ((V p0 x3.toNatClampNeg) &&& 255)) p0 (x3 + 1).toNatClampNeg) &&& 255)) p0 (x3 + 2).toNatClampNeg) &&& 255)) p2_2 x4.toNatClampNeg)) then (if ((z_uI (z_uI (z_uI V p2_1 x4.toNatClampNeg ((V p0 x3.toNatClampNeg) &&& 255)) p2_2 x4.toNatClampNeg (((z_uI V p2_1 x4.toNatClampNeg ((V p0 x3.toNatClampNeg) &&& 255)) p0 (x3 + 1).toNatClampNeg) &&& 255)) p2_3 x4.toNatClampNeg (((z_uI (z_uI V p2_1 x4.toNatClampNeg ((V p0 x3.toNatClampNeg) &&& 255)) p2_2 x4.toNatClampNeg (((z_uI V p2_1 x4.toNatClampNeg ((V p0 x3.toNatClampNeg) &&& 255)) p0 (x3 + 1).toNatClampNeg) &&& 255)) p0 (x3 + 2).toNatClampNeg) &&& 255)) p2_2 x4.toNatClampNeg) < ((z_uI (z_uI (z_uI V p2_1 x4.toNatClampNeg ((V p0 x3.toNatClampNeg) &&& 255)) p2_2 x4.toNatClampNeg (((z_uI V p2_1 x4.toNatClampNeg ((V p0 x3.toNatClampNeg) &&& 255)) p0 (x3 + 1).toNatClampNeg) &&& 255)) p2_3 x4.toNatClampNeg (((z_uI (z_uI V p2_1 x4.toNatClampNeg ((V p0 x3.toNatClampNeg) &&& 255)) p2_2 x4.toNatClampNeg (((z_uI V p2_1 x4.toNatClampNeg ((V p0 x3.toNatClampNeg) &&& 255)) p0 (x3 + 1).toNatClampNeg) &&& 255)) p0 (x3 + 2).toNatClampNeg) &&& 255)) p2_3 x4.toNatClampNeg) then ((z_uI (z_uI (z_uI V p2_1 x4.toNatClampNeg ((V p0 x3.toNatClampNeg) &&& 255)) p2_2 x4.toNatClampNeg (((z_uI V p2_1 x4.toNatClampNeg ((V p0 x3.toNatClampNeg) &&& 255)) p0 (x3 + 1).toNatClampNeg) &&& 255)) p2_3 x4.toNatClampNeg (((z_uI (z_uI V p2_1 x4.toNatClampNeg ((V p0 x3.toNatClampNeg) &&& 255)) p2_2 x4.toNatClampNeg (((z_uI V p2_1 x4.toNatClampNeg ((V p0 x3.toNatClampNeg) &&& 255)) p0 (x3 + 1).toNatClampNeg) &&& 255)) p0 (x3 + 2).toNatClampNeg) &&& 255)) p2_3 x4.toNatClampNeg) else ((z_uI (z_uI (z_uI V p2_1 x4.toNatClampNeg ((V p0 x3.toNatClampNeg) &&& 255)) p2_2 x4.toNatClampNeg (((z_uI V p2_1 x4.toNatClampNeg ((V p0 x3.toNatClampNeg) &&& 255)) p0 (x3 + 1).toNatClampNeg) &&& 255)) p2_3 x4.toNatClampNeg (((z_uI (z_uI V p2_1 x4.toNatClampNeg ((V p0 x3.toNatClampNeg) &&& 255)) p2_2 x4.toNatClampNeg (((z_uI V p2_1 x4.toNatClampNeg ((V p0 x3.toNatClampNeg) &&& 255)) p0 (x3 + 1).toNatClampNeg) &&& 255)) p0 (x3 + 2).toNatClampNeg) &&& 255)) p2_2 x4.toNatClampNeg)) else ((z_uI (z_uI (z_uI V p2_1 x4.toNatClampNeg ((V p0 x3.toNatClampNeg) &&& 255)) p2_2 x4.toNatClampNeg (((z_uI V p2_1 x4.toNatClampNeg ((V p0 x3.toNatClampNeg) &&& 255)) p0 (x3 + 1).toNatClampNeg) &&& 255)) p2_3 x4.toNatClampNeg (((z_uI (z_uI V p2_1 x4.toNatClampNeg ((V p0 x3.toNatClampNeg) &&& 255)) p2_2 x4.toNatClampNeg (((z_uI V p2_1 x4.toNatClampNeg ((V p0 x3.toNatClampNeg) &&& 255)) p0 (x3 + 1).toNatClampNeg) &&& 255)) p0 (x3 + 2).toNatClampNeg) &&& 255)) p2_1 x4.toNatClampNeg)) ≤ 99 then k5 ((x3 + 3), (x4 + 1), z_uI (z_uI (z_uI V p2_1 x4.toNatClampNeg ((V p0 x3.toNatClampNeg) &&& 255)) p2_2 x4.toNatClampNeg (((z_uI V p2_1 x4.toNatClampNeg ((V p0 x3.toNatClampNeg) &&& 255)) p0 (x3 + 1).toNatClampNeg) &&& 255)) p2_3 x4.toNatClampNeg (((z_uI (z_uI V p2_1 x4.toNatClampNeg ((V p0 x3.toNatClampNeg) &&& 255)) p2_2 x4.toNatClampNeg (((z_uI V p2_1 x4.toNatClampNeg ((V p0 x3.toNatClampNeg) &&& 255)) p0 (x3 + 1).toNatClampNeg) &&& 255)) p0 (x3 + 2).toNatClampNeg) &&& 255), L) else some (0, z_uI (z_uI (z_uI V p2_1 x4.toNatClampNeg ((V p0 x3.toNatClampNeg) &&& 255)) p2_2 x4.toNatClampNeg (((z_uI V p2_1 x4.toNatClampNeg ((V p0 x3.toNatClampNeg) &&& 255)) p0 (x3 + 1).toNatClampNeg) &&& 255)) p2_3 x4.toNatClampNeg (((z_uI (z_uI V p2_1 x4.toNatClampNeg ((V p0 x3.toNatClampNeg) &&& 255)) p2_2 x4.toNatClampNeg (((z_uI V p2_1 x4.toNatClampNeg ((V p0 x3.toNatClampNeg) &&& 255)) p0 (x3 + 1).toNatClampNeg) &&& 255)) p0 (x3 + 2).toNatClampNeg) &&& 255), L)) else none else none else none else none else none else none else none else none else none)))
def g_X3_readCounts (N : Nat → Nat) (G : zG) (p0 : Nat) (p1 : Nat) (p2 : Nat) (p2_1 : Nat) (p2_2 : Nat) (p2_3 : Nat) (V : zI) (L : zL) : Option (Int32 × zI × zL) :=
  zfix (b_X3_readCounts_5 N G p0 p1 p2 p2_1 p2_2 p2_3) FU (2, 0, V, L)
def f_X3_readCounts (N : Nat → Nat) (G : zG) (p0 : Nat) (p1 : Nat) (p2 : Nat) (V : zI) (L : zL) : Option (Int32 × zI × zL) :=
  (G p2 1).bind fun p2_1 => (G p2 2).bind fun p2_2 => (G p2 3).bind fun p2_3 => g_X3_readCounts N G p0 p1 p2 p2_1 p2_2 p2_3 V L
set_option maxHeartbeats 4000000 in
set_option maxRecDepth 100000 in
theorem w_X3_readCounts_5 {M : zM} {D : va_G} {cy : Nat → ClassId} {ad : Nat → Nat} {n : Nat} {K N : Nat → Nat} {G : zG} {r' : Int32 × zI × zL} (X : RXc M D cy ad n K N G cX3_readCounts 6 RX3 2 43) (Z : RZi M (zC D cy ad n K N G) .boolean r'.1 r'.2.1 r'.2.2) {p0 : Nat} (hp0 : p0 < n ∧ K p0 = 101) {p1 : Nat} (hp1 : p1 < n ∧ K p1 = 7) {p2 : Nat} (hp2 : p2 < n ∧ K p2 = 5) {p2_1 : Nat} (hp2_1 : p2_1 < n ∧ K p2_1 = 100) (ep2_1 : G p2 1 = some p2_1) {p2_2 : Nat} (hp2_2 : p2_2 < n ∧ K p2_2 = 100) (ep2_2 : G p2 2 = some p2_2) {p2_3 : Nat} (hp2_3 : p2_3 < n ∧ K p2_3 = 100) (ep2_3 : G p2 3 = some p2_3) (nn : Nat) : ∀ (x3 : Int32) (x4 : Int32) (V : zI) (L : zL) (ls : Array Slot) (hl : lv_has ls 6 [(0, .ref (ad p0)), (1, .ref (ad p1)), (2, .ref (ad p2)), (3, .int x3), (4, .int x4)]) (hf : zfix (b_X3_readCounts_5 N G p0 p1 p2 p2_1 p2_2 p2_3) nn (x3, x4, V, L) = some r'), RG M (zC D cy ad n K N G) V L 5 ls [] := by
  induction nn with
  | zero => intro x3 x4 V L ls hl hf; cases hf
  | succ nn ih =>
  intro x3 x4 V L ls hl hf
  have hk5 : ∀ (x3 : Int32) (x4 : Int32) (V : zI) (L : zL) (ls : Array Slot), lv_has ls 6 [(0, .ref (ad p0)), (1, .ref (ad p1)), (2, .ref (ad p2)), (3, .int x3), (4, .int x4)] → zfix (b_X3_readCounts_5 N G p0 p1 p2 p2_1 p2_2 p2_3) nn (x3, x4, V, L) = some r' → RG M (zC D cy ad n K N G) V L 5 ls [] := ih
  have hf : b_X3_readCounts_5 N G p0 p1 p2 p2_1 p2_2 p2_3 (zfix (b_X3_readCounts_5 N G p0 p1 p2 p2_1 p2_2 p2_3) nn) (x3, x4, V, L) = some r' := hf
  generalize zfix (b_X3_readCounts_5 N G p0 p1 p2 p2_1 p2_2 p2_3) nn = k5 at hk5 hf
  clear ih
  unfold b_X3_readCounts_5 at hf
  refine z_iload X.1 dX3_readCounts_5 (lv_at hl 4 rfl) ?_
  refine z_bipush (v := 36) X.1 dX3_readCounts_7 (by decide) ?_
  refine z_icmp_ge (tgt := 130) X.1 dX3_readCounts_9 (by decide) (fun c_ => ?_) (fun c_ => ?_)
  · have hf := (if_pos c_).symm.trans hf
    refine z_iconst (v := 1) X.1 dX3_readCounts_130 (by decide) ?_
    exact c_iret X Z hf (by decide) dX3_readCounts_131
  · have hf := (if_neg c_).symm.trans hf
    refine z_aload_n X.1 dX3_readCounts_12 rfl (lv_at hl 1 rfl) ?_
    refine z_iload X.1 dX3_readCounts_13 (lv_at hl 4 rfl) ?_
    refine z_bipush (v := 6) X.1 dX3_readCounts_15 (by decide) ?_
    refine z_idiv X.1 dX3_readCounts_17 (by decide) ?_
    refine z_iload X.1 dX3_readCounts_18 (lv_at hl 4 rfl) ?_
    refine z_bipush (v := 6) X.1 dX3_readCounts_20 (by decide) ?_
    refine z_irem X.1 dX3_readCounts_22 (by decide) ?_
    obtain ⟨r1, hc1, hf⟩ := z_bind hf
    refine c_callVi [.int (x4 / 6), .int (x4 - x4 / 6 * 6)] X hl.1 (c_X9_isPair D cy ad X.2.2 hp1 hc1) hp1 ⟨by decide, rfl⟩ cm_X3_49 cw_X9_isPair rfl cq_X9_isPair ⟨by decide, by decide⟩ (Nat.le_of_ble_eq_true rfl) rfl dX3_readCounts_23 ?_
    refine z_if_eq (tgt := 124) X.1 dX3_readCounts_26 (by decide) (fun c_ => ?_) (fun c_ => ?_)
    · have hf := (if_pos c_).symm.trans hf
      refine z_iinc (v := x4 + 1) (k0 := 4) (lv' := [(4, .int (x4 + 1)), (0, .ref (ad p0)), (1, .ref (ad p1)), (2, .ref (ad p2)), (3, .int x3)]) X.1 dX3_readCounts_124 hl rfl rfl (by decide) rfl (fun ls hl => ?_)
      refine z_goto (tgt := 5) X.1 dX3_readCounts_127 (by decide) ?_
      exact hk5 x3 (x4 + 1) V L ls (lv_sub hl [1, 2, 3, 4, 0] rfl) hf
    · have hf := (if_neg c_).symm.trans hf
      refine z_iload_n X.1 dX3_readCounts_29 rfl (lv_at hl 3 rfl) ?_
      refine z_iconst (v := 2) X.1 dX3_readCounts_30 (by decide) ?_
      refine z_iadd X.1 dX3_readCounts_31 ?_
      refine z_aload_n X.1 dX3_readCounts_32 rfl (lv_at hl 0 rfl) ?_
      refine c_alen101 X hp0 dX3_readCounts_33 ?_
      refine z_icmp_ge (tgt := 124) X.1 dX3_readCounts_34 (by decide) (fun c_ => ?_) (fun c_ => ?_)
      · have hf := (if_pos c_).symm.trans hf
        refine z_iinc (v := x4 + 1) (k0 := 4) (lv' := [(4, .int (x4 + 1)), (0, .ref (ad p0)), (1, .ref (ad p1)), (2, .ref (ad p2)), (3, .int x3)]) X.1 dX3_readCounts_124 hl rfl rfl (by decide) rfl (fun ls hl => ?_)
        refine z_goto (tgt := 5) X.1 dX3_readCounts_127 (by decide) ?_
        exact hk5 x3 (x4 + 1) V L ls (lv_sub hl [1, 2, 3, 4, 0] rfl) hf
      · have hf := (if_neg c_).symm.trans hf
        refine z_aload_n X.1 dX3_readCounts_37 rfl (lv_at hl 2 rfl) ?_
        refine c_geta X hp2 cf_X3_53 ep2_1 dX3_readCounts_38 ?_
        refine z_iload X.1 dX3_readCounts_41 (lv_at hl 4 rfl) ?_
        refine z_aload_n X.1 dX3_readCounts_43 rfl (lv_at hl 0 rfl) ?_
        refine z_iload_n X.1 dX3_readCounts_44 rfl (lv_at hl 3 rfl) ?_
        obtain ⟨hb2, hf⟩ := z_ite hf
        refine c_bald X hp0 hb2 dX3_readCounts_45 ?_
        refine z_sipush (v := 255) X.1 dX3_readCounts_46 (by decide) ?_
        refine z_iand X.1 dX3_readCounts_49 ?_
        obtain ⟨hb3, hf⟩ := z_ite hf
        refine c_iast X hp2_1 hb3 dX3_readCounts_50 ?_
        refine z_aload_n X.1 dX3_readCounts_51 rfl (lv_at hl 2 rfl) ?_
        refine c_geta X hp2 cf_X3_56 ep2_2 dX3_readCounts_52 ?_
        refine z_iload X.1 dX3_readCounts_55 (lv_at hl 4 rfl) ?_
        refine z_aload_n X.1 dX3_readCounts_57 rfl (lv_at hl 0 rfl) ?_
        refine z_iload_n X.1 dX3_readCounts_58 rfl (lv_at hl 3 rfl) ?_
        refine z_iconst (v := 1) X.1 dX3_readCounts_59 (by decide) ?_
        refine z_iadd X.1 dX3_readCounts_60 ?_
        obtain ⟨hb4, hf⟩ := z_ite hf
        refine c_bald X hp0 hb4 dX3_readCounts_61 ?_
        refine z_sipush (v := 255) X.1 dX3_readCounts_62 (by decide) ?_
        refine z_iand X.1 dX3_readCounts_65 ?_
        obtain ⟨hb5, hf⟩ := z_ite hf
        refine c_iast X hp2_2 hb5 dX3_readCounts_66 ?_
        refine z_aload_n X.1 dX3_readCounts_67 rfl (lv_at hl 2 rfl) ?_
        refine c_geta X hp2 cf_X3_59 ep2_3 dX3_readCounts_68 ?_
        refine z_iload X.1 dX3_readCounts_71 (lv_at hl 4 rfl) ?_
        refine z_aload_n X.1 dX3_readCounts_73 rfl (lv_at hl 0 rfl) ?_
        refine z_iload_n X.1 dX3_readCounts_74 rfl (lv_at hl 3 rfl) ?_
        refine z_iconst (v := 2) X.1 dX3_readCounts_75 (by decide) ?_
        refine z_iadd X.1 dX3_readCounts_76 ?_
        obtain ⟨hb6, hf⟩ := z_ite hf
        refine c_bald X hp0 hb6 dX3_readCounts_77 ?_
        refine z_sipush (v := 255) X.1 dX3_readCounts_78 (by decide) ?_
        refine z_iand X.1 dX3_readCounts_81 ?_
        obtain ⟨hb7, hf⟩ := z_ite hf
        refine c_iast X hp2_3 hb7 dX3_readCounts_82 ?_
        refine z_iinc (v := x3 + 3) (k0 := 3) (lv' := [(3, .int (x3 + 3)), (0, .ref (ad p0)), (1, .ref (ad p1)), (2, .ref (ad p2)), (4, .int x4)]) X.1 dX3_readCounts_83 hl rfl rfl (by decide) rfl (fun ls hl => ?_)
        refine z_aload_n X.1 dX3_readCounts_86 rfl (lv_at hl 3 rfl) ?_
        refine c_geta X hp2 cf_X3_53 ep2_1 dX3_readCounts_87 ?_
        refine z_iload X.1 dX3_readCounts_90 (lv_at hl 4 rfl) ?_
        obtain ⟨hb8, hf⟩ := z_ite hf
        refine c_iald X hp2_1 hb8 dX3_readCounts_92 ?_
        refine z_aload_n X.1 dX3_readCounts_93 rfl (lv_at hl 3 rfl) ?_
        refine c_geta X hp2 cf_X3_56 ep2_2 dX3_readCounts_94 ?_
        refine z_iload X.1 dX3_readCounts_97 (lv_at hl 4 rfl) ?_
        obtain ⟨hb9, hf⟩ := z_ite hf
        refine c_iald X hp2_2 hb9 dX3_readCounts_99 ?_
        refine z_aload_n X.1 dX3_readCounts_100 rfl (lv_at hl 3 rfl) ?_
        refine c_geta X hp2 cf_X3_59 ep2_3 dX3_readCounts_101 ?_
        refine z_iload X.1 dX3_readCounts_104 (lv_at hl 4 rfl) ?_
        obtain ⟨hb10, hf⟩ := z_ite hf
        refine c_iald X hp2_3 hb10 dX3_readCounts_106 ?_
        refine c_max X hl.1 cj_X3_62 ⟨by decide, Nat.le_of_ble_eq_true rfl⟩ dX3_readCounts_107 ?_
        refine c_max X hl.1 cj_X3_62 ⟨by decide, Nat.le_of_ble_eq_true rfl⟩ dX3_readCounts_110 ?_
        refine z_istore (lv' := [(5, .int (if ((z_uI (z_uI (z_uI V p2_1 x4.toNatClampNeg ((V p0 x3.toNatClampNeg) &&& 255)) p2_2 x4.toNatClampNeg (((z_uI V p2_1 x4.toNatClampNeg ((V p0 x3.toNatClampNeg) &&& 255)) p0 (x3 + 1).toNatClampNeg) &&& 255)) p2_3 x4.toNatClampNeg (((z_uI (z_uI V p2_1 x4.toNatClampNeg ((V p0 x3.toNatClampNeg) &&& 255)) p2_2 x4.toNatClampNeg (((z_uI V p2_1 x4.toNatClampNeg ((V p0 x3.toNatClampNeg) &&& 255)) p0 (x3 + 1).toNatClampNeg) &&& 255)) p0 (x3 + 2).toNatClampNeg) &&& 255)) p2_1 x4.toNatClampNeg) < (if ((z_uI (z_uI (z_uI V p2_1 x4.toNatClampNeg ((V p0 x3.toNatClampNeg) &&& 255)) p2_2 x4.toNatClampNeg (((z_uI V p2_1 x4.toNatClampNeg ((V p0 x3.toNatClampNeg) &&& 255)) p0 (x3 + 1).toNatClampNeg) &&& 255)) p2_3 x4.toNatClampNeg (((z_uI (z_uI V p2_1 x4.toNatClampNeg ((V p0 x3.toNatClampNeg) &&& 255)) p2_2 x4.toNatClampNeg (((z_uI V p2_1 x4.toNatClampNeg ((V p0 x3.toNatClampNeg) &&& 255)) p0 (x3 + 1).toNatClampNeg) &&& 255)) p0 (x3 + 2).toNatClampNeg) &&& 255)) p2_2 x4.toNatClampNeg) < ((z_uI (z_uI (z_uI V p2_1 x4.toNatClampNeg ((V p0 x3.toNatClampNeg) &&& 255)) p2_2 x4.toNatClampNeg (((z_uI V p2_1 x4.toNatClampNeg ((V p0 x3.toNatClampNeg) &&& 255)) p0 (x3 + 1).toNatClampNeg) &&& 255)) p2_3 x4.toNatClampNeg (((z_uI (z_uI V p2_1 x4.toNatClampNeg ((V p0 x3.toNatClampNeg) &&& 255)) p2_2 x4.toNatClampNeg (((z_uI V p2_1 x4.toNatClampNeg ((V p0 x3.toNatClampNeg) &&& 255)) p0 (x3 + 1).toNatClampNeg) &&& 255)) p0 (x3 + 2).toNatClampNeg) &&& 255)) p2_3 x4.toNatClampNeg) then ((z_uI (z_uI (z_uI V p2_1 x4.toNatClampNeg ((V p0 x3.toNatClampNeg) &&& 255)) p2_2 x4.toNatClampNeg (((z_uI V p2_1 x4.toNatClampNeg ((V p0 x3.toNatClampNeg) &&& 255)) p0 (x3 + 1).toNatClampNeg) &&& 255)) p2_3 x4.toNatClampNeg (((z_uI (z_uI V p2_1 x4.toNatClampNeg ((V p0 x3.toNatClampNeg) &&& 255)) p2_2 x4.toNatClampNeg (((z_uI V p2_1 x4.toNatClampNeg ((V p0 x3.toNatClampNeg) &&& 255)) p0 (x3 + 1).toNatClampNeg) &&& 255)) p0 (x3 + 2).toNatClampNeg) &&& 255)) p2_3 x4.toNatClampNeg) else ((z_uI (z_uI (z_uI V p2_1 x4.toNatClampNeg ((V p0 x3.toNatClampNeg) &&& 255)) p2_2 x4.toNatClampNeg (((z_uI V p2_1 x4.toNatClampNeg ((V p0 x3.toNatClampNeg) &&& 255)) p0 (x3 + 1).toNatClampNeg) &&& 255)) p2_3 x4.toNatClampNeg (((z_uI (z_uI V p2_1 x4.toNatClampNeg ((V p0 x3.toNatClampNeg) &&& 255)) p2_2 x4.toNatClampNeg (((z_uI V p2_1 x4.toNatClampNeg ((V p0 x3.toNatClampNeg) &&& 255)) p0 (x3 + 1).toNatClampNeg) &&& 255)) p0 (x3 + 2).toNatClampNeg) &&& 255)) p2_2 x4.toNatClampNeg)) then (if ((z_uI (z_uI (z_uI V p2_1 x4.toNatClampNeg ((V p0 x3.toNatClampNeg) &&& 255)) p2_2 x4.toNatClampNeg (((z_uI V p2_1 x4.toNatClampNeg ((V p0 x3.toNatClampNeg) &&& 255)) p0 (x3 + 1).toNatClampNeg) &&& 255)) p2_3 x4.toNatClampNeg (((z_uI (z_uI V p2_1 x4.toNatClampNeg ((V p0 x3.toNatClampNeg) &&& 255)) p2_2 x4.toNatClampNeg (((z_uI V p2_1 x4.toNatClampNeg ((V p0 x3.toNatClampNeg) &&& 255)) p0 (x3 + 1).toNatClampNeg) &&& 255)) p0 (x3 + 2).toNatClampNeg) &&& 255)) p2_2 x4.toNatClampNeg) < ((z_uI (z_uI (z_uI V p2_1 x4.toNatClampNeg ((V p0 x3.toNatClampNeg) &&& 255)) p2_2 x4.toNatClampNeg (((z_uI V p2_1 x4.toNatClampNeg ((V p0 x3.toNatClampNeg) &&& 255)) p0 (x3 + 1).toNatClampNeg) &&& 255)) p2_3 x4.toNatClampNeg (((z_uI (z_uI V p2_1 x4.toNatClampNeg ((V p0 x3.toNatClampNeg) &&& 255)) p2_2 x4.toNatClampNeg (((z_uI V p2_1 x4.toNatClampNeg ((V p0 x3.toNatClampNeg) &&& 255)) p0 (x3 + 1).toNatClampNeg) &&& 255)) p0 (x3 + 2).toNatClampNeg) &&& 255)) p2_3 x4.toNatClampNeg) then ((z_uI (z_uI (z_uI V p2_1 x4.toNatClampNeg ((V p0 x3.toNatClampNeg) &&& 255)) p2_2 x4.toNatClampNeg (((z_uI V p2_1 x4.toNatClampNeg ((V p0 x3.toNatClampNeg) &&& 255)) p0 (x3 + 1).toNatClampNeg) &&& 255)) p2_3 x4.toNatClampNeg (((z_uI (z_uI V p2_1 x4.toNatClampNeg ((V p0 x3.toNatClampNeg) &&& 255)) p2_2 x4.toNatClampNeg (((z_uI V p2_1 x4.toNatClampNeg ((V p0 x3.toNatClampNeg) &&& 255)) p0 (x3 + 1).toNatClampNeg) &&& 255)) p0 (x3 + 2).toNatClampNeg) &&& 255)) p2_3 x4.toNatClampNeg) else ((z_uI (z_uI (z_uI V p2_1 x4.toNatClampNeg ((V p0 x3.toNatClampNeg) &&& 255)) p2_2 x4.toNatClampNeg (((z_uI V p2_1 x4.toNatClampNeg ((V p0 x3.toNatClampNeg) &&& 255)) p0 (x3 + 1).toNatClampNeg) &&& 255)) p2_3 x4.toNatClampNeg (((z_uI (z_uI V p2_1 x4.toNatClampNeg ((V p0 x3.toNatClampNeg) &&& 255)) p2_2 x4.toNatClampNeg (((z_uI V p2_1 x4.toNatClampNeg ((V p0 x3.toNatClampNeg) &&& 255)) p0 (x3 + 1).toNatClampNeg) &&& 255)) p0 (x3 + 2).toNatClampNeg) &&& 255)) p2_2 x4.toNatClampNeg)) else ((z_uI (z_uI (z_uI V p2_1 x4.toNatClampNeg ((V p0 x3.toNatClampNeg) &&& 255)) p2_2 x4.toNatClampNeg (((z_uI V p2_1 x4.toNatClampNeg ((V p0 x3.toNatClampNeg) &&& 255)) p0 (x3 + 1).toNatClampNeg) &&& 255)) p2_3 x4.toNatClampNeg (((z_uI (z_uI V p2_1 x4.toNatClampNeg ((V p0 x3.toNatClampNeg) &&& 255)) p2_2 x4.toNatClampNeg (((z_uI V p2_1 x4.toNatClampNeg ((V p0 x3.toNatClampNeg) &&& 255)) p0 (x3 + 1).toNatClampNeg) &&& 255)) p0 (x3 + 2).toNatClampNeg) &&& 255)) p2_1 x4.toNatClampNeg))), (3, .int (x3 + 3)), (0, .ref (ad p0)), (1, .ref (ad p1)), (2, .ref (ad p2)), (4, .int x4)]) X.1 dX3_readCounts_113 hl (by decide) rfl (fun ls hl => ?_)
        refine z_iload X.1 dX3_readCounts_115 (lv_at hl 0 rfl) ?_
        refine z_bipush (v := 99) X.1 dX3_readCounts_117 (by decide) ?_
        refine z_icmp_le (tgt := 124) X.1 dX3_readCounts_119 (by decide) (fun c_ => ?_) (fun c_ => ?_)
        · have hf := (if_pos c_).symm.trans hf
          refine z_iinc (v := x4 + 1) (k0 := 5) (lv' := [(4, .int (x4 + 1)), (5, .int (if ((z_uI (z_uI (z_uI V p2_1 x4.toNatClampNeg ((V p0 x3.toNatClampNeg) &&& 255)) p2_2 x4.toNatClampNeg (((z_uI V p2_1 x4.toNatClampNeg ((V p0 x3.toNatClampNeg) &&& 255)) p0 (x3 + 1).toNatClampNeg) &&& 255)) p2_3 x4.toNatClampNeg (((z_uI (z_uI V p2_1 x4.toNatClampNeg ((V p0 x3.toNatClampNeg) &&& 255)) p2_2 x4.toNatClampNeg (((z_uI V p2_1 x4.toNatClampNeg ((V p0 x3.toNatClampNeg) &&& 255)) p0 (x3 + 1).toNatClampNeg) &&& 255)) p0 (x3 + 2).toNatClampNeg) &&& 255)) p2_1 x4.toNatClampNeg) < (if ((z_uI (z_uI (z_uI V p2_1 x4.toNatClampNeg ((V p0 x3.toNatClampNeg) &&& 255)) p2_2 x4.toNatClampNeg (((z_uI V p2_1 x4.toNatClampNeg ((V p0 x3.toNatClampNeg) &&& 255)) p0 (x3 + 1).toNatClampNeg) &&& 255)) p2_3 x4.toNatClampNeg (((z_uI (z_uI V p2_1 x4.toNatClampNeg ((V p0 x3.toNatClampNeg) &&& 255)) p2_2 x4.toNatClampNeg (((z_uI V p2_1 x4.toNatClampNeg ((V p0 x3.toNatClampNeg) &&& 255)) p0 (x3 + 1).toNatClampNeg) &&& 255)) p0 (x3 + 2).toNatClampNeg) &&& 255)) p2_2 x4.toNatClampNeg) < ((z_uI (z_uI (z_uI V p2_1 x4.toNatClampNeg ((V p0 x3.toNatClampNeg) &&& 255)) p2_2 x4.toNatClampNeg (((z_uI V p2_1 x4.toNatClampNeg ((V p0 x3.toNatClampNeg) &&& 255)) p0 (x3 + 1).toNatClampNeg) &&& 255)) p2_3 x4.toNatClampNeg (((z_uI (z_uI V p2_1 x4.toNatClampNeg ((V p0 x3.toNatClampNeg) &&& 255)) p2_2 x4.toNatClampNeg (((z_uI V p2_1 x4.toNatClampNeg ((V p0 x3.toNatClampNeg) &&& 255)) p0 (x3 + 1).toNatClampNeg) &&& 255)) p0 (x3 + 2).toNatClampNeg) &&& 255)) p2_3 x4.toNatClampNeg) then ((z_uI (z_uI (z_uI V p2_1 x4.toNatClampNeg ((V p0 x3.toNatClampNeg) &&& 255)) p2_2 x4.toNatClampNeg (((z_uI V p2_1 x4.toNatClampNeg ((V p0 x3.toNatClampNeg) &&& 255)) p0 (x3 + 1).toNatClampNeg) &&& 255)) p2_3 x4.toNatClampNeg (((z_uI (z_uI V p2_1 x4.toNatClampNeg ((V p0 x3.toNatClampNeg) &&& 255)) p2_2 x4.toNatClampNeg (((z_uI V p2_1 x4.toNatClampNeg ((V p0 x3.toNatClampNeg) &&& 255)) p0 (x3 + 1).toNatClampNeg) &&& 255)) p0 (x3 + 2).toNatClampNeg) &&& 255)) p2_3 x4.toNatClampNeg) else ((z_uI (z_uI (z_uI V p2_1 x4.toNatClampNeg ((V p0 x3.toNatClampNeg) &&& 255)) p2_2 x4.toNatClampNeg (((z_uI V p2_1 x4.toNatClampNeg ((V p0 x3.toNatClampNeg) &&& 255)) p0 (x3 + 1).toNatClampNeg) &&& 255)) p2_3 x4.toNatClampNeg (((z_uI (z_uI V p2_1 x4.toNatClampNeg ((V p0 x3.toNatClampNeg) &&& 255)) p2_2 x4.toNatClampNeg (((z_uI V p2_1 x4.toNatClampNeg ((V p0 x3.toNatClampNeg) &&& 255)) p0 (x3 + 1).toNatClampNeg) &&& 255)) p0 (x3 + 2).toNatClampNeg) &&& 255)) p2_2 x4.toNatClampNeg)) then (if ((z_uI (z_uI (z_uI V p2_1 x4.toNatClampNeg ((V p0 x3.toNatClampNeg) &&& 255)) p2_2 x4.toNatClampNeg (((z_uI V p2_1 x4.toNatClampNeg ((V p0 x3.toNatClampNeg) &&& 255)) p0 (x3 + 1).toNatClampNeg) &&& 255)) p2_3 x4.toNatClampNeg (((z_uI (z_uI V p2_1 x4.toNatClampNeg ((V p0 x3.toNatClampNeg) &&& 255)) p2_2 x4.toNatClampNeg (((z_uI V p2_1 x4.toNatClampNeg ((V p0 x3.toNatClampNeg) &&& 255)) p0 (x3 + 1).toNatClampNeg) &&& 255)) p0 (x3 + 2).toNatClampNeg) &&& 255)) p2_2 x4.toNatClampNeg) < ((z_uI (z_uI (z_uI V p2_1 x4.toNatClampNeg ((V p0 x3.toNatClampNeg) &&& 255)) p2_2 x4.toNatClampNeg (((z_uI V p2_1 x4.toNatClampNeg ((V p0 x3.toNatClampNeg) &&& 255)) p0 (x3 + 1).toNatClampNeg) &&& 255)) p2_3 x4.toNatClampNeg (((z_uI (z_uI V p2_1 x4.toNatClampNeg ((V p0 x3.toNatClampNeg) &&& 255)) p2_2 x4.toNatClampNeg (((z_uI V p2_1 x4.toNatClampNeg ((V p0 x3.toNatClampNeg) &&& 255)) p0 (x3 + 1).toNatClampNeg) &&& 255)) p0 (x3 + 2).toNatClampNeg) &&& 255)) p2_3 x4.toNatClampNeg) then ((z_uI (z_uI (z_uI V p2_1 x4.toNatClampNeg ((V p0 x3.toNatClampNeg) &&& 255)) p2_2 x4.toNatClampNeg (((z_uI V p2_1 x4.toNatClampNeg ((V p0 x3.toNatClampNeg) &&& 255)) p0 (x3 + 1).toNatClampNeg) &&& 255)) p2_3 x4.toNatClampNeg (((z_uI (z_uI V p2_1 x4.toNatClampNeg ((V p0 x3.toNatClampNeg) &&& 255)) p2_2 x4.toNatClampNeg (((z_uI V p2_1 x4.toNatClampNeg ((V p0 x3.toNatClampNeg) &&& 255)) p0 (x3 + 1).toNatClampNeg) &&& 255)) p0 (x3 + 2).toNatClampNeg) &&& 255)) p2_3 x4.toNatClampNeg) else ((z_uI (z_uI (z_uI V p2_1 x4.toNatClampNeg ((V p0 x3.toNatClampNeg) &&& 255)) p2_2 x4.toNatClampNeg (((z_uI V p2_1 x4.toNatClampNeg ((V p0 x3.toNatClampNeg) &&& 255)) p0 (x3 + 1).toNatClampNeg) &&& 255)) p2_3 x4.toNatClampNeg (((z_uI (z_uI V p2_1 x4.toNatClampNeg ((V p0 x3.toNatClampNeg) &&& 255)) p2_2 x4.toNatClampNeg (((z_uI V p2_1 x4.toNatClampNeg ((V p0 x3.toNatClampNeg) &&& 255)) p0 (x3 + 1).toNatClampNeg) &&& 255)) p0 (x3 + 2).toNatClampNeg) &&& 255)) p2_2 x4.toNatClampNeg)) else ((z_uI (z_uI (z_uI V p2_1 x4.toNatClampNeg ((V p0 x3.toNatClampNeg) &&& 255)) p2_2 x4.toNatClampNeg (((z_uI V p2_1 x4.toNatClampNeg ((V p0 x3.toNatClampNeg) &&& 255)) p0 (x3 + 1).toNatClampNeg) &&& 255)) p2_3 x4.toNatClampNeg (((z_uI (z_uI V p2_1 x4.toNatClampNeg ((V p0 x3.toNatClampNeg) &&& 255)) p2_2 x4.toNatClampNeg (((z_uI V p2_1 x4.toNatClampNeg ((V p0 x3.toNatClampNeg) &&& 255)) p0 (x3 + 1).toNatClampNeg) &&& 255)) p0 (x3 + 2).toNatClampNeg) &&& 255)) p2_1 x4.toNatClampNeg))), (3, .int (x3 + 3)), (0, .ref (ad p0)), (1, .ref (ad p1)), (2, .ref (ad p2))]) X.1 dX3_readCounts_124 hl rfl rfl (by decide) rfl (fun ls hl => ?_)
          refine z_goto (tgt := 5) X.1 dX3_readCounts_127 (by decide) ?_
          exact hk5 (x3 + 3) (x4 + 1) (z_uI (z_uI (z_uI V p2_1 x4.toNatClampNeg ((V p0 x3.toNatClampNeg) &&& 255)) p2_2 x4.toNatClampNeg (((z_uI V p2_1 x4.toNatClampNeg ((V p0 x3.toNatClampNeg) &&& 255)) p0 (x3 + 1).toNatClampNeg) &&& 255)) p2_3 x4.toNatClampNeg (((z_uI (z_uI V p2_1 x4.toNatClampNeg ((V p0 x3.toNatClampNeg) &&& 255)) p2_2 x4.toNatClampNeg (((z_uI V p2_1 x4.toNatClampNeg ((V p0 x3.toNatClampNeg) &&& 255)) p0 (x3 + 1).toNatClampNeg) &&& 255)) p0 (x3 + 2).toNatClampNeg) &&& 255)) L ls (lv_sub hl [3, 4, 5, 2, 0] rfl) hf
        · have hf := (if_neg c_).symm.trans hf
          refine z_iconst (v := 0) X.1 dX3_readCounts_122 (by decide) ?_
          exact c_iret X Z hf (by decide) dX3_readCounts_123

set_option maxHeartbeats 4000000 in
set_option maxRecDepth 100000 in
theorem w_X3_readCounts {M : zM} {D : va_G} {cy : Nat → ClassId} {ad : Nat → Nat} {n : Nat} {K N : Nat → Nat} {G : zG} {r' : Int32 × zI × zL} (X : RXc M D cy ad n K N G cX3_readCounts 6 RX3 2 43) (Z : RZi M (zC D cy ad n K N G) .boolean r'.1 r'.2.1 r'.2.2) {p0 : Nat} (hp0 : p0 < n ∧ K p0 = 101) {p1 : Nat} (hp1 : p1 < n ∧ K p1 = 7) {p2 : Nat} (hp2 : p2 < n ∧ K p2 = 5) {p2_1 : Nat} (hp2_1 : p2_1 < n ∧ K p2_1 = 100) (ep2_1 : G p2 1 = some p2_1) {p2_2 : Nat} (hp2_2 : p2_2 < n ∧ K p2_2 = 100) (ep2_2 : G p2 2 = some p2_2) {p2_3 : Nat} (hp2_3 : p2_3 < n ∧ K p2_3 = 100) (ep2_3 : G p2 3 = some p2_3)  (V : zI) (L : zL) (ls : Array Slot) (hl : lv_has ls 6 [(0, .ref (ad p0)), (1, .ref (ad p1)), (2, .ref (ad p2))]) (hf : g_X3_readCounts N G p0 p1 p2 p2_1 p2_2 p2_3 V L = some r') : RG M (zC D cy ad n K N G) V L 0 ls [] := by
  unfold g_X3_readCounts at hf
  refine z_iconst (v := 2) X.1 dX3_readCounts_0 (by decide) ?_
  refine z_istore_n (lv' := [(3, .int 2), (0, .ref (ad p0)), (1, .ref (ad p1)), (2, .ref (ad p2))]) X.1 dX3_readCounts_1 rfl hl (by decide) rfl (fun ls hl => ?_)
  refine z_iconst (v := 0) X.1 dX3_readCounts_2 (by decide) ?_
  refine z_istore (lv' := [(4, .int 0), (3, .int 2), (0, .ref (ad p0)), (1, .ref (ad p1)), (2, .ref (ad p2))]) X.1 dX3_readCounts_3 hl (by decide) rfl (fun ls hl => ?_)
  exact w_X3_readCounts_5 X Z hp0 hp1 hp2 hp2_1 ep2_1 hp2_2 ep2_2 hp2_3 ep2_3 FU 2 0 V L ls (lv_sub hl [2, 3, 4, 1, 0] rfl) hf

theorem c_X3_readCounts (D : va_G) (cy : Nat → ClassId) (ad : Nat → Nat) {n : Nat} {K N : Nat → Nat} {G : zG} (hWF : zWF n K G) {p0 : Nat} {p1 : Nat} {p2 : Nat} {V : zI} {L : zL} (hp0 : p0 < n ∧ K p0 = 101) (hp1 : p1 < n ∧ K p1 = 7) (hp2 : p2 < n ∧ K p2 = 5) {r' : Int32 × zI × zL} (hf : f_X3_readCounts N G p0 p1 p2 V L = some r') : RCi (zC D cy ad n K N G) yX3_readCounts cX3_readCounts 6 .boolean 2 43 [.ref (ad p0), .ref (ad p1), .ref (ad p2)] V L r'.1 r'.2.1 r'.2.2 := by
  unfold f_X3_readCounts at hf
  obtain ⟨p2_1, ep2_1, hf⟩ := z_bind hf
  have hp2_1 := hWF.get hp2 (k := 1) (c := 100) rfl ep2_1
  obtain ⟨p2_2, ep2_2, hf⟩ := z_bind hf
  have hp2_2 := hWF.get hp2 (k := 2) (c := 100) rfl ep2_2
  obtain ⟨p2_3, ep2_3, hf⟩ := z_bind hf
  have hp2_3 := hWF.get hp2 (k := 3) (c := 100) rfl ep2_3
  exact RCi.of (by decide) hWF (Nat.le_of_ble_eq_true rfl) (fun M X Z ls hl => w_X3_readCounts X Z hp0 hp1 hp2 hp2_1 ep2_1 hp2_2 ep2_2 hp2_3 ep2_3 V L ls hl hf)
def b_X3_readLetters_6 (N : Nat → Nat) (G : zG) (p0 : Nat) (p2 : Nat) (p3 : Nat) (p2_7 : Nat) (p3_5 : Nat) (p3_6 : Nat) (k6 : Int32 × Int32 × zI × zL → Option (Int32 × zI × zL)) : Int32 × Int32 × zI × zL → Option (Int32 × zI × zL) := fun ⟨x4, x5, V, L⟩ =>
  (if (V p3 4) ≤ x5 then some (1, V, L) else (if 60 ≤ x5 then some (1, V, L) else (if (Int32.ofNat (N p0)) ≤ (x4 + 2) then some (1, V, L) else if inB x4 (N p0) then if inB (x4 + 1) (N p0) then if inB (x4 + 2) (N p0) then (f_X9_isPair N G p2 ((V p0 x4.toNatClampNeg) &&& 255) ((V p0 (x4 + 1).toNatClampNeg) &&& 255) V L).bind fun r4 => (if r4 = 0 then some (0, V, L) else (if ((V p0 (x4 + 2).toNatClampNeg) &&& 255) < 1 then some (0, V, L) else if inB ((((V p0 x4.toNatClampNeg) &&& 255) * 6) + ((V p0 (x4 + 1).toNatClampNeg) &&& 255)) (N p2_7) then (if ((V p0 (x4 + 2).toNatClampNeg) &&& 255) ≤ (V p2_7 ((((V p0 x4.toNatClampNeg) &&& 255) * 6) + ((V p0 (x4 + 1).toNatClampNeg) &&& 255)).toNatClampNeg) then if inB x5 (N p3_5) then if inB x5 (N p3_6) then k6 ((x4 + 3), (x5 + 1), z_uI (z_uI V p3_5 x5.toNatClampNeg ((((V p0 x4.toNatClampNeg) &&& 255) * 6) + ((V p0 (x4 + 1).toNatClampNeg) &&& 255))) p3_6 x5.toNatClampNeg ((V p0 (x4 + 2).toNatClampNeg) &&& 255), L) else none else none else some (0, V, L)) else none)) else none else none else none)))
def g_X3_readLetters (N : Nat → Nat) (G : zG) (p0 : Nat) (p2 : Nat) (p3 : Nat) (p2_7 : Nat) (p3_5 : Nat) (p3_6 : Nat) (x1 : Int32) (V : zI) (L : zL) : Option (Int32 × zI × zL) :=
  zfix (b_X3_readLetters_6 N G p0 p2 p3 p2_7 p3_5 p3_6) FU (x1, 0, V, L)
def f_X3_readLetters (N : Nat → Nat) (G : zG) (p0 : Nat) (p2 : Nat) (p3 : Nat) (x1 : Int32) (V : zI) (L : zL) : Option (Int32 × zI × zL) :=
  (G p2 7).bind fun p2_7 => (G p3 5).bind fun p3_5 => (G p3 6).bind fun p3_6 => g_X3_readLetters N G p0 p2 p3 p2_7 p3_5 p3_6 x1 V L
set_option maxHeartbeats 4000000 in
set_option maxRecDepth 100000 in
theorem w_X3_readLetters_6 {M : zM} {D : va_G} {cy : Nat → ClassId} {ad : Nat → Nat} {n : Nat} {K N : Nat → Nat} {G : zG} {r' : Int32 × zI × zL} (X : RXc M D cy ad n K N G cX3_readLetters 10 RX3 2 43) (Z : RZi M (zC D cy ad n K N G) .boolean r'.1 r'.2.1 r'.2.2) {p0 : Nat} (hp0 : p0 < n ∧ K p0 = 101) {p2 : Nat} (hp2 : p2 < n ∧ K p2 = 7) {p3 : Nat} (hp3 : p3 < n ∧ K p3 = 5) {p2_7 : Nat} (hp2_7 : p2_7 < n ∧ K p2_7 = 100) (ep2_7 : G p2 7 = some p2_7) {p3_5 : Nat} (hp3_5 : p3_5 < n ∧ K p3_5 = 100) (ep3_5 : G p3 5 = some p3_5) {p3_6 : Nat} (hp3_6 : p3_6 < n ∧ K p3_6 = 100) (ep3_6 : G p3 6 = some p3_6) (nn : Nat) : ∀ (x4 : Int32) (x5 : Int32) (V : zI) (L : zL) (ls : Array Slot) (hl : lv_has ls 10 [(0, .ref (ad p0)), (2, .ref (ad p2)), (3, .ref (ad p3)), (4, .int x4), (5, .int x5)]) (hf : zfix (b_X3_readLetters_6 N G p0 p2 p3 p2_7 p3_5 p3_6) nn (x4, x5, V, L) = some r'), RG M (zC D cy ad n K N G) V L 6 ls [] := by
  induction nn with
  | zero => intro x4 x5 V L ls hl hf; cases hf
  | succ nn ih =>
  intro x4 x5 V L ls hl hf
  have hk6 : ∀ (x4 : Int32) (x5 : Int32) (V : zI) (L : zL) (ls : Array Slot), lv_has ls 10 [(0, .ref (ad p0)), (2, .ref (ad p2)), (3, .ref (ad p3)), (4, .int x4), (5, .int x5)] → zfix (b_X3_readLetters_6 N G p0 p2 p3 p2_7 p3_5 p3_6) nn (x4, x5, V, L) = some r' → RG M (zC D cy ad n K N G) V L 6 ls [] := ih
  have hf : b_X3_readLetters_6 N G p0 p2 p3 p2_7 p3_5 p3_6 (zfix (b_X3_readLetters_6 N G p0 p2 p3 p2_7 p3_5 p3_6) nn) (x4, x5, V, L) = some r' := hf
  generalize zfix (b_X3_readLetters_6 N G p0 p2 p3 p2_7 p3_5 p3_6) nn = k6 at hk6 hf
  clear ih
  unfold b_X3_readLetters_6 at hf
  refine z_iload X.1 dX3_readLetters_6 (lv_at hl 4 rfl) ?_
  refine z_aload_n X.1 dX3_readLetters_8 rfl (lv_at hl 2 rfl) ?_
  refine c_geti X hp3 cf_X3_30 dX3_readLetters_9 ?_
  refine z_icmp_ge (tgt := 135) X.1 dX3_readLetters_12 (by decide) (fun c_ => ?_) (fun c_ => ?_)
  · have hf := (if_pos c_).symm.trans hf
    refine z_iconst (v := 1) X.1 dX3_readLetters_135 (by decide) ?_
    exact c_iret X Z hf (by decide) dX3_readLetters_136
  · have hf := (if_neg c_).symm.trans hf
    refine z_iload X.1 dX3_readLetters_15 (lv_at hl 4 rfl) ?_
    refine z_bipush (v := 60) X.1 dX3_readLetters_17 (by decide) ?_
    refine z_icmp_ge (tgt := 135) X.1 dX3_readLetters_19 (by decide) (fun c_ => ?_) (fun c_ => ?_)
    · have hf := (if_pos c_).symm.trans hf
      refine z_iconst (v := 1) X.1 dX3_readLetters_135 (by decide) ?_
      exact c_iret X Z hf (by decide) dX3_readLetters_136
    · have hf := (if_neg c_).symm.trans hf
      refine z_iload X.1 dX3_readLetters_22 (lv_at hl 3 rfl) ?_
      refine z_iconst (v := 2) X.1 dX3_readLetters_24 (by decide) ?_
      refine z_iadd X.1 dX3_readLetters_25 ?_
      refine z_aload_n X.1 dX3_readLetters_26 rfl (lv_at hl 0 rfl) ?_
      refine c_alen101 X hp0 dX3_readLetters_27 ?_
      refine z_icmp_ge (tgt := 135) X.1 dX3_readLetters_28 (by decide) (fun c_ => ?_) (fun c_ => ?_)
      · have hf := (if_pos c_).symm.trans hf
        refine z_iconst (v := 1) X.1 dX3_readLetters_135 (by decide) ?_
        exact c_iret X Z hf (by decide) dX3_readLetters_136
      · have hf := (if_neg c_).symm.trans hf
        refine z_aload_n X.1 dX3_readLetters_31 rfl (lv_at hl 0 rfl) ?_
        refine z_iload X.1 dX3_readLetters_32 (lv_at hl 3 rfl) ?_
        obtain ⟨hb1, hf⟩ := z_ite hf
        refine c_bald X hp0 hb1 dX3_readLetters_34 ?_
        refine z_sipush (v := 255) X.1 dX3_readLetters_35 (by decide) ?_
        refine z_iand X.1 dX3_readLetters_38 ?_
        refine z_istore (lv' := [(6, .int ((V p0 x4.toNatClampNeg) &&& 255)), (0, .ref (ad p0)), (2, .ref (ad p2)), (3, .ref (ad p3)), (4, .int x4), (5, .int x5)]) X.1 dX3_readLetters_39 hl (by decide) rfl (fun ls hl => ?_)
        refine z_aload_n X.1 dX3_readLetters_41 rfl (lv_at hl 1 rfl) ?_
        refine z_iload X.1 dX3_readLetters_42 (lv_at hl 4 rfl) ?_
        refine z_iconst (v := 1) X.1 dX3_readLetters_44 (by decide) ?_
        refine z_iadd X.1 dX3_readLetters_45 ?_
        obtain ⟨hb2, hf⟩ := z_ite hf
        refine c_bald X hp0 hb2 dX3_readLetters_46 ?_
        refine z_sipush (v := 255) X.1 dX3_readLetters_47 (by decide) ?_
        refine z_iand X.1 dX3_readLetters_50 ?_
        refine z_istore (lv' := [(7, .int ((V p0 (x4 + 1).toNatClampNeg) &&& 255)), (6, .int ((V p0 x4.toNatClampNeg) &&& 255)), (0, .ref (ad p0)), (2, .ref (ad p2)), (3, .ref (ad p3)), (4, .int x4), (5, .int x5)]) X.1 dX3_readLetters_51 hl (by decide) rfl (fun ls hl => ?_)
        refine z_aload_n X.1 dX3_readLetters_53 rfl (lv_at hl 2 rfl) ?_
        refine z_iload X.1 dX3_readLetters_54 (lv_at hl 5 rfl) ?_
        refine z_iconst (v := 2) X.1 dX3_readLetters_56 (by decide) ?_
        refine z_iadd X.1 dX3_readLetters_57 ?_
        obtain ⟨hb3, hf⟩ := z_ite hf
        refine c_bald X hp0 hb3 dX3_readLetters_58 ?_
        refine z_sipush (v := 255) X.1 dX3_readLetters_59 (by decide) ?_
        refine z_iand X.1 dX3_readLetters_62 ?_
        refine z_istore (lv' := [(8, .int ((V p0 (x4 + 2).toNatClampNeg) &&& 255)), (7, .int ((V p0 (x4 + 1).toNatClampNeg) &&& 255)), (6, .int ((V p0 x4.toNatClampNeg) &&& 255)), (0, .ref (ad p0)), (2, .ref (ad p2)), (3, .ref (ad p3)), (4, .int x4), (5, .int x5)]) X.1 dX3_readLetters_63 hl (by decide) rfl (fun ls hl => ?_)
        refine z_aload_n X.1 dX3_readLetters_65 rfl (lv_at hl 4 rfl) ?_
        refine z_iload X.1 dX3_readLetters_66 (lv_at hl 2 rfl) ?_
        refine z_iload X.1 dX3_readLetters_68 (lv_at hl 1 rfl) ?_
        obtain ⟨r4, hc4, hf⟩ := z_bind hf
        refine c_callVi [.int ((V p0 x4.toNatClampNeg) &&& 255), .int ((V p0 (x4 + 1).toNatClampNeg) &&& 255)] X hl.1 (c_X9_isPair D cy ad X.2.2 hp2 hc4) hp2 ⟨by decide, rfl⟩ cm_X3_49 cw_X9_isPair rfl cq_X9_isPair ⟨by decide, by decide⟩ (Nat.le_of_ble_eq_true rfl) rfl dX3_readLetters_70 ?_
        refine z_if_ne (tgt := 78) X.1 dX3_readLetters_73 (by decide) (fun c_ => ?_) (fun c_ => ?_)
        · have hf := (if_neg c_).symm.trans hf
          refine z_iload X.1 dX3_readLetters_78 (lv_at hl 2 rfl) ?_
          refine z_bipush (v := 6) X.1 dX3_readLetters_80 (by decide) ?_
          refine z_imul X.1 dX3_readLetters_82 ?_
          refine z_iload X.1 dX3_readLetters_83 (lv_at hl 1 rfl) ?_
          refine z_iadd X.1 dX3_readLetters_85 ?_
          refine z_istore (lv' := [(9, .int ((((V p0 x4.toNatClampNeg) &&& 255) * 6) + ((V p0 (x4 + 1).toNatClampNeg) &&& 255))), (8, .int ((V p0 (x4 + 2).toNatClampNeg) &&& 255)), (7, .int ((V p0 (x4 + 1).toNatClampNeg) &&& 255)), (6, .int ((V p0 x4.toNatClampNeg) &&& 255)), (0, .ref (ad p0)), (2, .ref (ad p2)), (3, .ref (ad p3)), (4, .int x4), (5, .int x5)]) X.1 dX3_readLetters_86 hl (by decide) rfl (fun ls hl => ?_)
          refine z_iload X.1 dX3_readLetters_88 (lv_at hl 1 rfl) ?_
          refine z_iconst (v := 1) X.1 dX3_readLetters_90 (by decide) ?_
          refine z_icmp_lt (tgt := 106) X.1 dX3_readLetters_91 (by decide) (fun c_ => ?_) (fun c_ => ?_)
          · have hf := (if_pos c_).symm.trans hf
            refine z_iconst (v := 0) X.1 dX3_readLetters_106 (by decide) ?_
            exact c_iret X Z hf (by decide) dX3_readLetters_107
          · have hf := (if_neg c_).symm.trans hf
            refine z_iload X.1 dX3_readLetters_94 (lv_at hl 1 rfl) ?_
            refine z_aload_n X.1 dX3_readLetters_96 rfl (lv_at hl 5 rfl) ?_
            refine c_geta X hp2 cf_X3_67 ep2_7 dX3_readLetters_97 ?_
            refine z_iload X.1 dX3_readLetters_100 (lv_at hl 0 rfl) ?_
            obtain ⟨hb5, hf⟩ := z_ite hf
            refine c_iald X hp2_7 hb5 dX3_readLetters_102 ?_
            refine z_icmp_le (tgt := 108) X.1 dX3_readLetters_103 (by decide) (fun c_ => ?_) (fun c_ => ?_)
            · have hf := (if_pos c_).symm.trans hf
              refine z_aload_n X.1 dX3_readLetters_108 rfl (lv_at hl 6 rfl) ?_
              refine c_geta X hp3 cf_X3_70 ep3_5 dX3_readLetters_109 ?_
              refine z_iload X.1 dX3_readLetters_112 (lv_at hl 8 rfl) ?_
              refine z_iload X.1 dX3_readLetters_114 (lv_at hl 0 rfl) ?_
              obtain ⟨hb6, hf⟩ := z_ite hf
              refine c_iast X hp3_5 hb6 dX3_readLetters_116 ?_
              refine z_aload_n X.1 dX3_readLetters_117 rfl (lv_at hl 6 rfl) ?_
              refine c_geta X hp3 cf_X3_73 ep3_6 dX3_readLetters_118 ?_
              refine z_iload X.1 dX3_readLetters_121 (lv_at hl 8 rfl) ?_
              refine z_iload X.1 dX3_readLetters_123 (lv_at hl 1 rfl) ?_
              obtain ⟨hb7, hf⟩ := z_ite hf
              refine c_iast X hp3_6 hb7 dX3_readLetters_125 ?_
              refine z_iinc (v := x4 + 3) (k0 := 7) (lv' := [(4, .int (x4 + 3)), (9, .int ((((V p0 x4.toNatClampNeg) &&& 255) * 6) + ((V p0 (x4 + 1).toNatClampNeg) &&& 255))), (8, .int ((V p0 (x4 + 2).toNatClampNeg) &&& 255)), (7, .int ((V p0 (x4 + 1).toNatClampNeg) &&& 255)), (6, .int ((V p0 x4.toNatClampNeg) &&& 255)), (0, .ref (ad p0)), (2, .ref (ad p2)), (3, .ref (ad p3)), (5, .int x5)]) X.1 dX3_readLetters_126 hl rfl rfl (by decide) rfl (fun ls hl => ?_)
              refine z_iinc (v := x5 + 1) (k0 := 8) (lv' := [(5, .int (x5 + 1)), (4, .int (x4 + 3)), (9, .int ((((V p0 x4.toNatClampNeg) &&& 255) * 6) + ((V p0 (x4 + 1).toNatClampNeg) &&& 255))), (8, .int ((V p0 (x4 + 2).toNatClampNeg) &&& 255)), (7, .int ((V p0 (x4 + 1).toNatClampNeg) &&& 255)), (6, .int ((V p0 x4.toNatClampNeg) &&& 255)), (0, .ref (ad p0)), (2, .ref (ad p2)), (3, .ref (ad p3))]) X.1 dX3_readLetters_129 hl rfl rfl (by decide) rfl (fun ls hl => ?_)
              refine z_goto (tgt := 6) X.1 dX3_readLetters_132 (by decide) ?_
              exact hk6 (x4 + 3) (x5 + 1) (z_uI (z_uI V p3_5 x5.toNatClampNeg ((((V p0 x4.toNatClampNeg) &&& 255) * 6) + ((V p0 (x4 + 1).toNatClampNeg) &&& 255))) p3_6 x5.toNatClampNeg ((V p0 (x4 + 2).toNatClampNeg) &&& 255)) L ls (lv_sub hl [6, 7, 8, 1, 0] rfl) hf
            · have hf := (if_neg c_).symm.trans hf
              refine z_iconst (v := 0) X.1 dX3_readLetters_106 (by decide) ?_
              exact c_iret X Z hf (by decide) dX3_readLetters_107
        · have hf := (if_pos c_).symm.trans hf
          refine z_iconst (v := 0) X.1 dX3_readLetters_76 (by decide) ?_
          exact c_iret X Z hf (by decide) dX3_readLetters_77

set_option maxHeartbeats 4000000 in
set_option maxRecDepth 100000 in
theorem w_X3_readLetters {M : zM} {D : va_G} {cy : Nat → ClassId} {ad : Nat → Nat} {n : Nat} {K N : Nat → Nat} {G : zG} {r' : Int32 × zI × zL} (X : RXc M D cy ad n K N G cX3_readLetters 10 RX3 2 43) (Z : RZi M (zC D cy ad n K N G) .boolean r'.1 r'.2.1 r'.2.2) {p0 : Nat} (hp0 : p0 < n ∧ K p0 = 101) {p2 : Nat} (hp2 : p2 < n ∧ K p2 = 7) {p3 : Nat} (hp3 : p3 < n ∧ K p3 = 5) {p2_7 : Nat} (hp2_7 : p2_7 < n ∧ K p2_7 = 100) (ep2_7 : G p2 7 = some p2_7) {p3_5 : Nat} (hp3_5 : p3_5 < n ∧ K p3_5 = 100) (ep3_5 : G p3 5 = some p3_5) {p3_6 : Nat} (hp3_6 : p3_6 < n ∧ K p3_6 = 100) (ep3_6 : G p3 6 = some p3_6) (x1 : Int32) (V : zI) (L : zL) (ls : Array Slot) (hl : lv_has ls 10 [(0, .ref (ad p0)), (1, .int x1), (2, .ref (ad p2)), (3, .ref (ad p3))]) (hf : g_X3_readLetters N G p0 p2 p3 p2_7 p3_5 p3_6 x1 V L = some r') : RG M (zC D cy ad n K N G) V L 0 ls [] := by
  unfold g_X3_readLetters at hf
  refine z_iload_n X.1 dX3_readLetters_0 rfl (lv_at hl 1 rfl) ?_
  refine z_istore (lv' := [(4, .int x1), (0, .ref (ad p0)), (1, .int x1), (2, .ref (ad p2)), (3, .ref (ad p3))]) X.1 dX3_readLetters_1 hl (by decide) rfl (fun ls hl => ?_)
  refine z_iconst (v := 0) X.1 dX3_readLetters_3 (by decide) ?_
  refine z_istore (lv' := [(5, .int 0), (4, .int x1), (0, .ref (ad p0)), (1, .int x1), (2, .ref (ad p2)), (3, .ref (ad p3))]) X.1 dX3_readLetters_4 hl (by decide) rfl (fun ls hl => ?_)
  exact w_X3_readLetters_6 X Z hp0 hp2 hp3 hp2_7 ep2_7 hp3_5 ep3_5 hp3_6 ep3_6 FU x1 0 V L ls (lv_sub hl [2, 4, 5, 1, 0] rfl) hf

theorem c_X3_readLetters (D : va_G) (cy : Nat → ClassId) (ad : Nat → Nat) {n : Nat} {K N : Nat → Nat} {G : zG} (hWF : zWF n K G) {p0 : Nat} {p2 : Nat} {p3 : Nat} {x1 : Int32} {V : zI} {L : zL} (hp0 : p0 < n ∧ K p0 = 101) (hp2 : p2 < n ∧ K p2 = 7) (hp3 : p3 < n ∧ K p3 = 5) {r' : Int32 × zI × zL} (hf : f_X3_readLetters N G p0 p2 p3 x1 V L = some r') : RCi (zC D cy ad n K N G) yX3_readLetters cX3_readLetters 10 .boolean 2 43 [.ref (ad p0), .int x1, .ref (ad p2), .ref (ad p3)] V L r'.1 r'.2.1 r'.2.2 := by
  unfold f_X3_readLetters at hf
  obtain ⟨p2_7, ep2_7, hf⟩ := z_bind hf
  have hp2_7 := hWF.get hp2 (k := 7) (c := 100) rfl ep2_7
  obtain ⟨p3_5, ep3_5, hf⟩ := z_bind hf
  have hp3_5 := hWF.get hp3 (k := 5) (c := 100) rfl ep3_5
  obtain ⟨p3_6, ep3_6, hf⟩ := z_bind hf
  have hp3_6 := hWF.get hp3 (k := 6) (c := 100) rfl ep3_6
  exact RCi.of (by decide) hWF (Nat.le_of_ble_eq_true rfl) (fun M X Z ls hl => w_X3_readLetters X Z hp0 hp2 hp3 hp2_7 ep2_7 hp3_5 ep3_5 hp3_6 ep3_6 x1 V L ls hl hf)
def f_X3_read_99 (N : Nat → Nat) (G : zG) (p0 : Nat) (p2 : Nat) (p3 : Nat) (p2_6 : Nat) (x1 : Int32) (x5 : Int32) (s0 : Int32) (V : zI) (L : zL) : Option (Int32 × zI × zL) :=
  (if 999 < (V p3 0) then some (0, V, L) else (if 60 < (V p3 4) then some (0, V, L) else (if s0 = 0 then some (0, V, L) else (f_X3_checkFits N G p0 x1 V L).bind fun r1 => (if r1 = 0 then some (0, V, L) else (f_X3_readCounts N G p0 p2 p3 V L).bind fun r2 => (if r2.1 = 0 then some (0, r2.2.1, r2.2.2) else (f_X3_readLetters N G p0 p2 p3 (x5 + 1) r2.2.1 r2.2.2).bind fun r3 => (if r3.1 = 0 then some (0, r3.2.1, r3.2.2) else some (1, r3.2.1, r3.2.2)))))))
def g_X3_read (N : Nat → Nat) (G : zG) (p0 : Nat) (p2 : Nat) (p3 : Nat) (p2_6 : Nat) (x1 : Int32) (V : zI) (L : zL) : Option (Int32 × zI × zL) :=
  (if (Int32.ofNat (N p0)) < x1 then some (0, V, L) else (if (((2 : Int32) + (((V p2 0) * ((V p2 0) - 1)) * 3)) + 2) ≤ x1 then (f_X7_begin N G p3 p2_6 V L).bind fun r1 => if inB 0 (N p0) then if inB 1 (N p0) then if inB ((2 : Int32) + (((V p2 0) * ((V p2 0) - 1)) * 3)) (N p0) then (if x1 = ((((2 : Int32) + (((V p2 0) * ((V p2 0) - 1)) * 3)) + 2) + (((z_uI (z_uI r1.1 p3 0 ((((r1.1 p0 (0 : Int32).toNatClampNeg) &&& 255) <<< ((8 : Int32) &&& 31)) ||| ((r1.1 p0 (1 : Int32).toNatClampNeg) &&& 255))) p3 4 (((z_uI r1.1 p3 0 ((((r1.1 p0 (0 : Int32).toNatClampNeg) &&& 255) <<< ((8 : Int32) &&& 31)) ||| ((r1.1 p0 (1 : Int32).toNatClampNeg) &&& 255))) p0 ((2 : Int32) + (((V p2 0) * ((V p2 0) - 1)) * 3)).toNatClampNeg) &&& 255)) p3 4) * 3)) then f_X3_read_99 N G p0 p2 p3 p2_6 x1 ((2 : Int32) + (((V p2 0) * ((V p2 0) - 1)) * 3)) 1 (z_uI (z_uI r1.1 p3 0 ((((r1.1 p0 (0 : Int32).toNatClampNeg) &&& 255) <<< ((8 : Int32) &&& 31)) ||| ((r1.1 p0 (1 : Int32).toNatClampNeg) &&& 255))) p3 4 (((z_uI r1.1 p3 0 ((((r1.1 p0 (0 : Int32).toNatClampNeg) &&& 255) <<< ((8 : Int32) &&& 31)) ||| ((r1.1 p0 (1 : Int32).toNatClampNeg) &&& 255))) p0 ((2 : Int32) + (((V p2 0) * ((V p2 0) - 1)) * 3)).toNatClampNeg) &&& 255)) r1.2 else f_X3_read_99 N G p0 p2 p3 p2_6 x1 ((2 : Int32) + (((V p2 0) * ((V p2 0) - 1)) * 3)) 0 (z_uI (z_uI r1.1 p3 0 ((((r1.1 p0 (0 : Int32).toNatClampNeg) &&& 255) <<< ((8 : Int32) &&& 31)) ||| ((r1.1 p0 (1 : Int32).toNatClampNeg) &&& 255))) p3 4 (((z_uI r1.1 p3 0 ((((r1.1 p0 (0 : Int32).toNatClampNeg) &&& 255) <<< ((8 : Int32) &&& 31)) ||| ((r1.1 p0 (1 : Int32).toNatClampNeg) &&& 255))) p0 ((2 : Int32) + (((V p2 0) * ((V p2 0) - 1)) * 3)).toNatClampNeg) &&& 255)) r1.2) else none else none else none else some (0, V, L)))
def f_X3_read (N : Nat → Nat) (G : zG) (p0 : Nat) (p2 : Nat) (p3 : Nat) (x1 : Int32) (V : zI) (L : zL) : Option (Int32 × zI × zL) :=
  (G p2 6).bind fun p2_6 => g_X3_read N G p0 p2 p3 p2_6 x1 V L
set_option maxHeartbeats 4000000 in
set_option maxRecDepth 100000 in
theorem w_X3_read_99 {M : zM} {D : va_G} {cy : Nat → ClassId} {ad : Nat → Nat} {n : Nat} {K N : Nat → Nat} {G : zG} {r' : Int32 × zI × zL} (X : RXc M D cy ad n K N G cX3_read 7 RX3 3 72) (Z : RZi M (zC D cy ad n K N G) .boolean r'.1 r'.2.1 r'.2.2) {p0 : Nat} (hp0 : p0 < n ∧ K p0 = 101) {p2 : Nat} (hp2 : p2 < n ∧ K p2 = 7) {p3 : Nat} (hp3 : p3 < n ∧ K p3 = 5) {p2_6 : Nat} (hp2_6 : p2_6 < n ∧ K p2_6 = 100) (ep2_6 : G p2 6 = some p2_6) (x1 : Int32) (x5 : Int32) (s0 : Int32) (V : zI) (L : zL) (ls : Array Slot) (hl : lv_has ls 7 [(0, .ref (ad p0)), (1, .int x1), (2, .ref (ad p2)), (3, .ref (ad p3)), (5, .int x5)]) (hf : f_X3_read_99 N G p0 p2 p3 p2_6 x1 x5 s0 V L = some r') : RG M (zC D cy ad n K N G) V L 99 ls [.int s0] := by
  unfold f_X3_read_99 at hf
  refine z_istore (lv' := [(6, .int s0), (0, .ref (ad p0)), (1, .int x1), (2, .ref (ad p2)), (3, .ref (ad p3)), (5, .int x5)]) X.1 dX3_read_99 hl (by decide) rfl (fun ls hl => ?_)
  refine z_aload_n X.1 dX3_read_101 rfl (lv_at hl 4 rfl) ?_
  refine c_geti X hp3 cf_X3_27 dX3_read_102 ?_
  refine z_sipush (v := 999) X.1 dX3_read_105 (by decide) ?_
  refine z_icmp_gt (tgt := 159) X.1 dX3_read_108 (by decide) (fun c_ => ?_) (fun c_ => ?_)
  · have hf := (if_pos c_).symm.trans hf
    refine z_iconst (v := 0) X.1 dX3_read_159 (by decide) ?_
    exact c_iret X Z hf (by decide) dX3_read_160
  · have hf := (if_neg c_).symm.trans hf
    refine z_aload_n X.1 dX3_read_111 rfl (lv_at hl 4 rfl) ?_
    refine c_geti X hp3 cf_X3_30 dX3_read_112 ?_
    refine z_bipush (v := 60) X.1 dX3_read_115 (by decide) ?_
    refine z_icmp_gt (tgt := 159) X.1 dX3_read_117 (by decide) (fun c_ => ?_) (fun c_ => ?_)
    · have hf := (if_pos c_).symm.trans hf
      refine z_iconst (v := 0) X.1 dX3_read_159 (by decide) ?_
      exact c_iret X Z hf (by decide) dX3_read_160
    · have hf := (if_neg c_).symm.trans hf
      refine z_iload X.1 dX3_read_120 (lv_at hl 0 rfl) ?_
      refine z_if_eq (tgt := 159) X.1 dX3_read_122 (by decide) (fun c_ => ?_) (fun c_ => ?_)
      · have hf := (if_pos c_).symm.trans hf
        refine z_iconst (v := 0) X.1 dX3_read_159 (by decide) ?_
        exact c_iret X Z hf (by decide) dX3_read_160
      · have hf := (if_neg c_).symm.trans hf
        refine z_aload_n X.1 dX3_read_125 rfl (lv_at hl 1 rfl) ?_
        refine z_iload_n X.1 dX3_read_126 rfl (lv_at hl 2 rfl) ?_
        obtain ⟨r1, hc1, hf⟩ := z_bind hf
        refine c_callSi [.ref (ad p0), .int x1] X hl.1 (c_X3_checkFits D cy ad X.2.2 hp0 hc1) cm_X3_33 cw_X3_checkFits rfl cq_X3_checkFits ⟨by decide, by decide⟩ (Nat.le_of_ble_eq_true rfl) rfl dX3_read_127 ?_
        refine z_if_eq (tgt := 159) X.1 dX3_read_130 (by decide) (fun c_ => ?_) (fun c_ => ?_)
        · have hf := (if_pos c_).symm.trans hf
          refine z_iconst (v := 0) X.1 dX3_read_159 (by decide) ?_
          exact c_iret X Z hf (by decide) dX3_read_160
        · have hf := (if_neg c_).symm.trans hf
          refine z_aload_n X.1 dX3_read_133 rfl (lv_at hl 1 rfl) ?_
          refine z_aload_n X.1 dX3_read_134 rfl (lv_at hl 3 rfl) ?_
          refine z_aload_n X.1 dX3_read_135 rfl (lv_at hl 4 rfl) ?_
          obtain ⟨r2, hc2, hf⟩ := z_bind hf
          refine c_callSi [.ref (ad p0), .ref (ad p2), .ref (ad p3)] X hl.1 (c_X3_readCounts D cy ad X.2.2 hp0 hp2 hp3 hc2) cm_X3_37 cw_X3_readCounts rfl cq_X3_readCounts ⟨by decide, by decide⟩ (Nat.le_of_ble_eq_true rfl) rfl dX3_read_136 ?_
          refine z_if_eq (tgt := 159) X.1 dX3_read_139 (by decide) (fun c_ => ?_) (fun c_ => ?_)
          · have hf := (if_pos c_).symm.trans hf
            refine z_iconst (v := 0) X.1 dX3_read_159 (by decide) ?_
            exact c_iret X Z hf (by decide) dX3_read_160
          · have hf := (if_neg c_).symm.trans hf
            refine z_aload_n X.1 dX3_read_142 rfl (lv_at hl 1 rfl) ?_
            refine z_iload X.1 dX3_read_143 (lv_at hl 5 rfl) ?_
            refine z_iconst (v := 1) X.1 dX3_read_145 (by decide) ?_
            refine z_iadd X.1 dX3_read_146 ?_
            refine z_aload_n X.1 dX3_read_147 rfl (lv_at hl 3 rfl) ?_
            refine z_aload_n X.1 dX3_read_148 rfl (lv_at hl 4 rfl) ?_
            obtain ⟨r3, hc3, hf⟩ := z_bind hf
            refine c_callSi [.ref (ad p0), .int (x5 + 1), .ref (ad p2), .ref (ad p3)] X hl.1 (c_X3_readLetters D cy ad X.2.2 hp0 hp2 hp3 hc3) cm_X3_41 cw_X3_readLetters rfl cq_X3_readLetters ⟨by decide, by decide⟩ (Nat.le_of_ble_eq_true rfl) rfl dX3_read_149 ?_
            refine z_if_eq (tgt := 159) X.1 dX3_read_152 (by decide) (fun c_ => ?_) (fun c_ => ?_)
            · have hf := (if_pos c_).symm.trans hf
              refine z_iconst (v := 0) X.1 dX3_read_159 (by decide) ?_
              exact c_iret X Z hf (by decide) dX3_read_160
            · have hf := (if_neg c_).symm.trans hf
              refine z_iconst (v := 1) X.1 dX3_read_155 (by decide) ?_
              refine z_goto (tgt := 160) X.1 dX3_read_156 (by decide) ?_
              exact c_iret X Z hf (by decide) dX3_read_160

set_option maxHeartbeats 4000000 in
set_option maxRecDepth 100000 in
theorem w_X3_read {M : zM} {D : va_G} {cy : Nat → ClassId} {ad : Nat → Nat} {n : Nat} {K N : Nat → Nat} {G : zG} {r' : Int32 × zI × zL} (X : RXc M D cy ad n K N G cX3_read 7 RX3 3 72) (Z : RZi M (zC D cy ad n K N G) .boolean r'.1 r'.2.1 r'.2.2) {p0 : Nat} (hp0 : p0 < n ∧ K p0 = 101) {p2 : Nat} (hp2 : p2 < n ∧ K p2 = 7) {p3 : Nat} (hp3 : p3 < n ∧ K p3 = 5) {p2_6 : Nat} (hp2_6 : p2_6 < n ∧ K p2_6 = 100) (ep2_6 : G p2 6 = some p2_6) (x1 : Int32) (V : zI) (L : zL) (ls : Array Slot) (hl : lv_has ls 7 [(0, .ref (ad p0)), (1, .int x1), (2, .ref (ad p2)), (3, .ref (ad p3))]) (hf : g_X3_read N G p0 p2 p3 p2_6 x1 V L = some r') : RG M (zC D cy ad n K N G) V L 0 ls [] := by
  unfold g_X3_read at hf
  refine z_aload_n X.1 dX3_read_0 rfl (lv_at hl 2 rfl) ?_
  refine c_geti X hp2 cf_X3_11 dX3_read_1 ?_
  refine z_aload_n X.1 dX3_read_4 rfl (lv_at hl 2 rfl) ?_
  refine c_geti X hp2 cf_X3_11 dX3_read_5 ?_
  refine z_iconst (v := 1) X.1 dX3_read_8 (by decide) ?_
  refine z_isub X.1 dX3_read_9 ?_
  refine z_imul X.1 dX3_read_10 ?_
  refine z_iconst (v := 3) X.1 dX3_read_11 (by decide) ?_
  refine z_imul X.1 dX3_read_12 ?_
  refine z_istore (lv' := [(4, .int (((V p2 0) * ((V p2 0) - 1)) * 3)), (0, .ref (ad p0)), (1, .int x1), (2, .ref (ad p2)), (3, .ref (ad p3))]) X.1 dX3_read_13 hl (by decide) rfl (fun ls hl => ?_)
  refine z_iconst (v := 2) X.1 dX3_read_15 (by decide) ?_
  refine z_iload X.1 dX3_read_16 (lv_at hl 0 rfl) ?_
  refine z_iadd X.1 dX3_read_18 ?_
  refine z_istore (lv' := [(5, .int ((2 : Int32) + (((V p2 0) * ((V p2 0) - 1)) * 3))), (4, .int (((V p2 0) * ((V p2 0) - 1)) * 3)), (0, .ref (ad p0)), (1, .int x1), (2, .ref (ad p2)), (3, .ref (ad p3))]) X.1 dX3_read_19 hl (by decide) rfl (fun ls hl => ?_)
  refine z_iload_n X.1 dX3_read_21 rfl (lv_at hl 3 rfl) ?_
  refine z_aload_n X.1 dX3_read_22 rfl (lv_at hl 2 rfl) ?_
  refine c_alen101 X hp0 dX3_read_23 ?_
  refine z_icmp_gt (tgt := 35) X.1 dX3_read_24 (by decide) (fun c_ => ?_) (fun c_ => ?_)
  · have hf := (if_pos c_).symm.trans hf
    refine z_iconst (v := 0) X.1 dX3_read_35 (by decide) ?_
    exact c_iret X Z hf (by decide) dX3_read_36
  · have hf := (if_neg c_).symm.trans hf
    refine z_iload_n X.1 dX3_read_27 rfl (lv_at hl 3 rfl) ?_
    refine z_iload X.1 dX3_read_28 (lv_at hl 0 rfl) ?_
    refine z_iconst (v := 2) X.1 dX3_read_30 (by decide) ?_
    refine z_iadd X.1 dX3_read_31 ?_
    refine z_icmp_ge (tgt := 37) X.1 dX3_read_32 (by decide) (fun c_ => ?_) (fun c_ => ?_)
    · have hf := (if_pos c_).symm.trans hf
      refine z_aload_n X.1 dX3_read_37 rfl (lv_at hl 5 rfl) ?_
      refine z_aload_n X.1 dX3_read_38 rfl (lv_at hl 4 rfl) ?_
      refine c_geta X hp2 cf_X3_17 ep2_6 dX3_read_39 ?_
      obtain ⟨r1, hc1, hf⟩ := z_bind hf
      refine c_callVv [.ref (ad p2_6)] X hl.1 (c_X7_begin D cy ad X.2.2 hp3 hp2_6 hc1) hp3 ⟨by decide, rfl⟩ cm_X3_21 cw_X7_begin rfl cq_X7_begin ⟨by decide, by decide⟩ (Nat.le_of_ble_eq_true rfl) rfl dX3_read_42 ?_
      refine z_aload_n X.1 dX3_read_45 rfl (lv_at hl 5 rfl) ?_
      refine z_aload_n X.1 dX3_read_46 rfl (lv_at hl 2 rfl) ?_
      refine z_iconst (v := 0) X.1 dX3_read_47 (by decide) ?_
      obtain ⟨hb2, hf⟩ := z_ite hf
      refine c_bald X hp0 hb2 dX3_read_48 ?_
      refine z_sipush (v := 255) X.1 dX3_read_49 (by decide) ?_
      refine z_iand X.1 dX3_read_52 ?_
      refine z_bipush (v := 8) X.1 dX3_read_53 (by decide) ?_
      refine z_ishl X.1 dX3_read_55 ?_
      refine z_aload_n X.1 dX3_read_56 rfl (lv_at hl 2 rfl) ?_
      refine z_iconst (v := 1) X.1 dX3_read_57 (by decide) ?_
      obtain ⟨hb3, hf⟩ := z_ite hf
      refine c_bald X hp0 hb3 dX3_read_58 ?_
      refine z_sipush (v := 255) X.1 dX3_read_59 (by decide) ?_
      refine z_iand X.1 dX3_read_62 ?_
      refine z_ior X.1 dX3_read_63 ?_
      refine c_puti X hp3 cf_X3_27 cg_X7 cp_X7_0 rfl rfl dX3_read_64 ?_
      refine z_aload_n X.1 dX3_read_67 rfl (lv_at hl 5 rfl) ?_
      refine z_aload_n X.1 dX3_read_68 rfl (lv_at hl 2 rfl) ?_
      refine z_iload X.1 dX3_read_69 (lv_at hl 0 rfl) ?_
      obtain ⟨hb4, hf⟩ := z_ite hf
      refine c_bald X hp0 hb4 dX3_read_71 ?_
      refine z_sipush (v := 255) X.1 dX3_read_72 (by decide) ?_
      refine z_iand X.1 dX3_read_75 ?_
      refine c_puti X hp3 cf_X3_30 cg_X7 cp_X7_4 rfl rfl dX3_read_76 ?_
      refine z_iload_n X.1 dX3_read_79 rfl (lv_at hl 3 rfl) ?_
      refine z_iload X.1 dX3_read_80 (lv_at hl 0 rfl) ?_
      refine z_iconst (v := 2) X.1 dX3_read_82 (by decide) ?_
      refine z_iadd X.1 dX3_read_83 ?_
      refine z_aload_n X.1 dX3_read_84 rfl (lv_at hl 5 rfl) ?_
      refine c_geti X hp3 cf_X3_30 dX3_read_85 ?_
      refine z_iconst (v := 3) X.1 dX3_read_88 (by decide) ?_
      refine z_imul X.1 dX3_read_89 ?_
      refine z_iadd X.1 dX3_read_90 ?_
      refine z_icmp_ne (tgt := 98) X.1 dX3_read_91 (by decide) (fun c_ => ?_) (fun c_ => ?_)
      · have hf := (if_neg c_).symm.trans hf
        refine z_iconst (v := 0) X.1 dX3_read_98 (by decide) ?_
        exact w_X3_read_99 X Z hp0 hp2 hp3 hp2_6 ep2_6 x1 ((2 : Int32) + (((V p2 0) * ((V p2 0) - 1)) * 3)) 0 (z_uI (z_uI r1.1 p3 0 ((((r1.1 p0 (0 : Int32).toNatClampNeg) &&& 255) <<< ((8 : Int32) &&& 31)) ||| ((r1.1 p0 (1 : Int32).toNatClampNeg) &&& 255))) p3 4 (((z_uI r1.1 p3 0 ((((r1.1 p0 (0 : Int32).toNatClampNeg) &&& 255) <<< ((8 : Int32) &&& 31)) ||| ((r1.1 p0 (1 : Int32).toNatClampNeg) &&& 255))) p0 ((2 : Int32) + (((V p2 0) * ((V p2 0) - 1)) * 3)).toNatClampNeg) &&& 255)) r1.2 ls (lv_sub hl [2, 3, 4, 5, 0] rfl) hf
      · have hf := (if_pos c_).symm.trans hf
        refine z_iconst (v := 1) X.1 dX3_read_94 (by decide) ?_
        refine z_goto (tgt := 99) X.1 dX3_read_95 (by decide) ?_
        exact w_X3_read_99 X Z hp0 hp2 hp3 hp2_6 ep2_6 x1 ((2 : Int32) + (((V p2 0) * ((V p2 0) - 1)) * 3)) 1 (z_uI (z_uI r1.1 p3 0 ((((r1.1 p0 (0 : Int32).toNatClampNeg) &&& 255) <<< ((8 : Int32) &&& 31)) ||| ((r1.1 p0 (1 : Int32).toNatClampNeg) &&& 255))) p3 4 (((z_uI r1.1 p3 0 ((((r1.1 p0 (0 : Int32).toNatClampNeg) &&& 255) <<< ((8 : Int32) &&& 31)) ||| ((r1.1 p0 (1 : Int32).toNatClampNeg) &&& 255))) p0 ((2 : Int32) + (((V p2 0) * ((V p2 0) - 1)) * 3)).toNatClampNeg) &&& 255)) r1.2 ls (lv_sub hl [2, 3, 4, 5, 0] rfl) hf
    · have hf := (if_neg c_).symm.trans hf
      refine z_iconst (v := 0) X.1 dX3_read_35 (by decide) ?_
      exact c_iret X Z hf (by decide) dX3_read_36

theorem c_X3_read (D : va_G) (cy : Nat → ClassId) (ad : Nat → Nat) {n : Nat} {K N : Nat → Nat} {G : zG} (hWF : zWF n K G) {p0 : Nat} {p2 : Nat} {p3 : Nat} {x1 : Int32} {V : zI} {L : zL} (hp0 : p0 < n ∧ K p0 = 101) (hp2 : p2 < n ∧ K p2 = 7) (hp3 : p3 < n ∧ K p3 = 5) {r' : Int32 × zI × zL} (hf : f_X3_read N G p0 p2 p3 x1 V L = some r') : RCi (zC D cy ad n K N G) yX3_read cX3_read 7 .boolean 3 72 [.ref (ad p0), .int x1, .ref (ad p2), .ref (ad p3)] V L r'.1 r'.2.1 r'.2.2 := by
  unfold f_X3_read at hf
  obtain ⟨p2_6, ep2_6, hf⟩ := z_bind hf
  have hp2_6 := hWF.get hp2 (k := 6) (c := 100) rfl ep2_6
  exact RCi.of (by decide) hWF (Nat.le_of_ble_eq_true rfl) (fun M X Z ls hl => w_X3_read X Z hp0 hp2 hp3 hp2_6 ep2_6 x1 V L ls hl hf)
def g_X10_on (N : Nat → Nat) (G : zG) (p0 : Nat) (p0_0 : Nat) (p0_2 : Nat) (p0_5 : Nat) (p0_6 : Nat) (V : zI) (L : zL) : Option (Int32 × zI × zL) :=
  (f_X3_read N G p0_0 p0_2 p0_6 (V p0 1) (z_uI V p0 1 0) L).bind fun r1 => (if r1.1 = 0 then (f_X10_refuse N G p0 5 r1.2.1 r1.2.2).bind fun r3 => some (0, r3.2.1, r3.2.2) else (f_X7_copyFrom N G p0_5 p0_6 r1.2.1 r1.2.2).bind fun r2 => some (1, z_uI r2.1 p0 10 0, r2.2))
def f_X10_on (N : Nat → Nat) (G : zG) (p0 : Nat) (V : zI) (L : zL) : Option (Int32 × zI × zL) :=
  (G p0 0).bind fun p0_0 => (G p0 2).bind fun p0_2 => (G p0 5).bind fun p0_5 => (G p0 6).bind fun p0_6 => g_X10_on N G p0 p0_0 p0_2 p0_5 p0_6 V L
set_option maxHeartbeats 4000000 in
set_option maxRecDepth 100000 in
theorem w_X10_on {M : zM} {D : va_G} {cy : Nat → ClassId} {ad : Nat → Nat} {n : Nat} {K N : Nat → Nat} {G : zG} {r' : Int32 × zI × zL} (X : RXc M D cy ad n K N G cX10_on 2 RX10 4 98) (Z : RZi M (zC D cy ad n K N G) .boolean r'.1 r'.2.1 r'.2.2) {p0 : Nat} (hp0 : p0 < n ∧ K p0 = 8) {p0_0 : Nat} (hp0_0 : p0_0 < n ∧ K p0_0 = 101) (ep0_0 : G p0 0 = some p0_0) {p0_2 : Nat} (hp0_2 : p0_2 < n ∧ K p0_2 = 7) (ep0_2 : G p0 2 = some p0_2) {p0_5 : Nat} (hp0_5 : p0_5 < n ∧ K p0_5 = 5) (ep0_5 : G p0 5 = some p0_5) {p0_6 : Nat} (hp0_6 : p0_6 < n ∧ K p0_6 = 5) (ep0_6 : G p0 6 = some p0_6)  (V : zI) (L : zL) (ls : Array Slot) (hl : lv_has ls 2 [(0, .ref (ad p0))]) (hf : g_X10_on N G p0 p0_0 p0_2 p0_5 p0_6 V L = some r') : RG M (zC D cy ad n K N G) V L 0 ls [] := by
  unfold g_X10_on at hf
  refine z_aload_n X.1 dX10_on_0 rfl (lv_at hl 0 rfl) ?_
  refine c_geti X hp0 cf_X10_13 dX10_on_1 ?_
  refine z_istore_n (lv' := [(1, .int (V p0 1)), (0, .ref (ad p0))]) X.1 dX10_on_4 rfl hl (by decide) rfl (fun ls hl => ?_)
  refine z_aload_n X.1 dX10_on_5 rfl (lv_at hl 1 rfl) ?_
  refine z_iconst (v := 0) X.1 dX10_on_6 (by decide) ?_
  refine c_puti X hp0 cf_X10_13 cg_X10 cp_X10_1 rfl rfl dX10_on_7 ?_
  refine z_aload_n X.1 dX10_on_10 rfl (lv_at hl 1 rfl) ?_
  refine c_geta X hp0 cf_X10_9 ep0_0 dX10_on_11 ?_
  refine z_iload_n X.1 dX10_on_14 rfl (lv_at hl 0 rfl) ?_
  refine z_aload_n X.1 dX10_on_15 rfl (lv_at hl 1 rfl) ?_
  refine c_geta X hp0 cf_X10_20 ep0_2 dX10_on_16 ?_
  refine z_aload_n X.1 dX10_on_19 rfl (lv_at hl 1 rfl) ?_
  refine c_geta X hp0 cf_X10_37 ep0_6 dX10_on_20 ?_
  obtain ⟨r1, hc1, hf⟩ := z_bind hf
  refine c_callSi [.ref (ad p0_0), .int (V p0 1), .ref (ad p0_2), .ref (ad p0_6)] X hl.1 (c_X3_read D cy ad X.2.2 hp0_0 hp0_2 hp0_6 hc1) cm_X10_290 cw_X3_read rfl cq_X3_read ⟨by decide, by decide⟩ (Nat.le_of_ble_eq_true rfl) rfl dX10_on_23 ?_
  refine z_if_ne (tgt := 37) X.1 dX10_on_26 (by decide) (fun c_ => ?_) (fun c_ => ?_)
  · have hf := (if_neg c_).symm.trans hf
    refine z_aload_n X.1 dX10_on_37 rfl (lv_at hl 1 rfl) ?_
    refine c_geta X hp0 cf_X10_33 ep0_5 dX10_on_38 ?_
    refine z_aload_n X.1 dX10_on_41 rfl (lv_at hl 1 rfl) ?_
    refine c_geta X hp0 cf_X10_37 ep0_6 dX10_on_42 ?_
    obtain ⟨r2, hc2, hf⟩ := z_bind hf
    refine c_callVv [.ref (ad p0_6)] X hl.1 (c_X7_copyFrom D cy ad X.2.2 hp0_5 hp0_6 hc2) hp0_5 ⟨by decide, rfl⟩ cm_X10_186 cw_X7_copyFrom rfl cq_X7_copyFrom ⟨by decide, by decide⟩ (Nat.le_of_ble_eq_true rfl) rfl dX10_on_45 ?_
    refine z_aload_n X.1 dX10_on_48 rfl (lv_at hl 1 rfl) ?_
    refine z_iconst (v := 0) X.1 dX10_on_49 (by decide) ?_
    refine c_puti X hp0 cf_X10_58 cg_X10 cp_X10_10 rfl rfl dX10_on_50 ?_
    refine z_iconst (v := 1) X.1 dX10_on_53 (by decide) ?_
    exact c_iret X Z hf (by decide) dX10_on_54
  · have hf := (if_pos c_).symm.trans hf
    refine z_aload_n X.1 dX10_on_29 rfl (lv_at hl 1 rfl) ?_
    refine z_iconst (v := 5) X.1 dX10_on_30 (by decide) ?_
    obtain ⟨r3, hc3, hf⟩ := z_bind hf
    refine c_callVi [.int 5] X hl.1 (c_X10_refuse D cy ad X.2.2 hp0 hc3) hp0 ⟨by decide, rfl⟩ cm_X10_80 cw_X10_refuse rfl cq_X10_refuse ⟨by decide, by decide⟩ (Nat.le_of_ble_eq_true rfl) rfl dX10_on_31 ?_
    refine z_pop X.1 dX10_on_34 rfl ?_
    refine z_iconst (v := 0) X.1 dX10_on_35 (by decide) ?_
    exact c_iret X Z hf (by decide) dX10_on_36

theorem c_X10_on (D : va_G) (cy : Nat → ClassId) (ad : Nat → Nat) {n : Nat} {K N : Nat → Nat} {G : zG} (hWF : zWF n K G) {p0 : Nat} {V : zI} {L : zL} (hp0 : p0 < n ∧ K p0 = 8) {r' : Int32 × zI × zL} (hf : f_X10_on N G p0 V L = some r') : RCi (zC D cy ad n K N G) yX10_on cX10_on 2 .boolean 4 98 [.ref (ad p0)] V L r'.1 r'.2.1 r'.2.2 := by
  unfold f_X10_on at hf
  obtain ⟨p0_0, ep0_0, hf⟩ := z_bind hf
  have hp0_0 := hWF.get hp0 (k := 0) (c := 101) rfl ep0_0
  obtain ⟨p0_2, ep0_2, hf⟩ := z_bind hf
  have hp0_2 := hWF.get hp0 (k := 2) (c := 7) rfl ep0_2
  obtain ⟨p0_5, ep0_5, hf⟩ := z_bind hf
  have hp0_5 := hWF.get hp0 (k := 5) (c := 5) rfl ep0_5
  obtain ⟨p0_6, ep0_6, hf⟩ := z_bind hf
  have hp0_6 := hWF.get hp0 (k := 6) (c := 5) rfl ep0_6
  exact RCi.of (by decide) hWF (Nat.le_of_ble_eq_true rfl) (fun M X Z ls hl => w_X10_on X Z hp0 hp0_0 ep0_0 hp0_2 ep0_2 hp0_5 ep0_5 hp0_6 ep0_6 V L ls hl hf)
def g_X10_status (N : Nat → Nat) (G : zG) (p0 : Nat) (p0_16 : Nat) (V : zI) (L : zL) (x1 : Int32) : Option (Int32) :=
  (if x1 < 0 then some (-1) else (if 6 ≤ x1 then some (-1) else if inB x1 (N p0_16) then some (V p0_16 x1.toNatClampNeg) else none))
def f_X10_status (N : Nat → Nat) (G : zG) (p0 : Nat) (x1 : Int32) (V : zI) (L : zL) : Option (Int32) :=
  (G p0 16).bind fun p0_16 => g_X10_status N G p0 p0_16 V L x1
set_option maxHeartbeats 4000000 in
set_option maxRecDepth 100000 in
theorem w_X10_status {M : zM} {D : va_G} {cy : Nat → ClassId} {ad : Nat → Nat} {n : Nat} {K N : Nat → Nat} {G : zG} {V : zI} {L : zL} {r' : Int32} (X : RXc M D cy ad n K N G cX10_status 2 RX10 0 0) (Z : RZi M (zC D cy ad n K N G) .int r' V L) {p0 : Nat} (hp0 : p0 < n ∧ K p0 = 8) {p0_16 : Nat} (hp0_16 : p0_16 < n ∧ K p0_16 = 100) (ep0_16 : G p0 16 = some p0_16) (x1 : Int32) (ls : Array Slot) (hl : lv_has ls 2 [(0, .ref (ad p0)), (1, .int x1)]) (hf : g_X10_status N G p0 p0_16 V L x1 = some r') : RG M (zC D cy ad n K N G) V L 0 ls [] := by
  unfold g_X10_status at hf
  refine z_iload_n X.1 dX10_status_0 rfl (lv_at hl 1 rfl) ?_
  refine z_if_lt (tgt := 19) X.1 dX10_status_1 (by decide) (fun c_ => ?_) (fun c_ => ?_)
  · have hf := (if_pos c_).symm.trans hf
    refine z_iconst (v := -1) X.1 dX10_status_19 (by decide) ?_
    exact c_iretS X Z hf rfl dX10_status_20
  · have hf := (if_neg c_).symm.trans hf
    refine z_iload_n X.1 dX10_status_4 rfl (lv_at hl 1 rfl) ?_
    refine z_bipush (v := 6) X.1 dX10_status_5 (by decide) ?_
    refine z_icmp_ge (tgt := 19) X.1 dX10_status_7 (by decide) (fun c_ => ?_) (fun c_ => ?_)
    · have hf := (if_pos c_).symm.trans hf
      refine z_iconst (v := -1) X.1 dX10_status_19 (by decide) ?_
      exact c_iretS X Z hf rfl dX10_status_20
    · have hf := (if_neg c_).symm.trans hf
      refine z_aload_n X.1 dX10_status_10 rfl (lv_at hl 0 rfl) ?_
      refine c_geta X hp0 cf_X10_77 ep0_16 dX10_status_11 ?_
      refine z_iload_n X.1 dX10_status_14 rfl (lv_at hl 1 rfl) ?_
      obtain ⟨hb1, hf⟩ := z_ite hf
      refine c_iald X hp0_16 hb1 dX10_status_15 ?_
      refine z_goto (tgt := 20) X.1 dX10_status_16 (by decide) ?_
      exact c_iretS X Z hf rfl dX10_status_20

theorem c_X10_status (D : va_G) (cy : Nat → ClassId) (ad : Nat → Nat) {n : Nat} {K N : Nat → Nat} {G : zG} (hWF : zWF n K G) {p0 : Nat} {x1 : Int32} {V : zI} {L : zL} (hp0 : p0 < n ∧ K p0 = 8) {r' : Int32} (hf : f_X10_status N G p0 x1 V L = some r') : RCi (zC D cy ad n K N G) yX10_status cX10_status 2 .int 0 0 [.ref (ad p0), .int x1] V L r' V L := by
  unfold f_X10_status at hf
  obtain ⟨p0_16, ep0_16, hf⟩ := z_bind hf
  have hp0_16 := hWF.get hp0 (k := 16) (c := 100) rfl ep0_16
  exact RCi.of (by decide) hWF (Nat.le_of_ble_eq_true rfl) (fun M X Z ls hl => w_X10_status X Z hp0 hp0_16 ep0_16 x1 ls hl hf)
