


def b_X2_seek_2 (N : Nat → Nat) (G : zG) (p0 : Nat) (k2 : Int64 × Int32 × zI × zL → Option (zI × zL)) : Int64 × Int32 × zI × zL → Option (zI × zL) := fun ⟨x1, x3, V, L⟩ =>
  (if 3 < x3 then some (V, L) else (f_X2_choose_T N G p0 x1 x3 0 0 V L).bind fun r1 => (if r1.1 = 0 then k2 (x1, (x3 + 1), r1.2.1, r1.2.2) else some (z_uI r1.2.1 p0 3 x3, r1.2.2)))
def g_X2_seek (N : Nat → Nat) (G : zG) (p0 : Nat) (x1 : Int64) (V : zI) (L : zL) : Option (zI × zL) :=
  zfix (b_X2_seek_2 N G p0) FU (x1, 0, V, L)
def f_X2_seek (N : Nat → Nat) (G : zG) (p0 : Nat) (x1 : Int64) (V : zI) (L : zL) : Option (zI × zL) :=
  g_X2_seek N G p0 x1 V L
set_option maxHeartbeats 4000000 in
set_option maxRecDepth 100000 in
theorem w_X2_seek_2 {M : zM} {D : va_G} {cy : Nat → ClassId} {ad : Nat → Nat} {n : Nat} {K N : Nat → Nat} {G : zG} {r' : zI × zL} (X : RXc M D cy ad n K N G cX2_seek 4 RX2 13 328) (Z : RZv M (zC D cy ad n K N G) r'.1 r'.2) {p0 : Nat} (hp0 : p0 < n ∧ K p0 = 2) (nn : Nat) : ∀ (x1 : Int64) (x3 : Int32) (V : zI) (L : zL) (ls : Array Slot) (hl : lv_has ls 4 [(0, .ref (ad p0)), (1, .long x1), (3, .int x3)]) (hf : zfix (b_X2_seek_2 N G p0) nn (x1, x3, V, L) = some r'), RG M (zC D cy ad n K N G) V L 2 ls [] := by
  induction nn with
  | zero => intro x1 x3 V L ls hl hf; cases hf
  | succ nn ih =>
  intro x1 x3 V L ls hl hf
  have hk2 : ∀ (x1 : Int64) (x3 : Int32) (V : zI) (L : zL) (ls : Array Slot), lv_has ls 4 [(0, .ref (ad p0)), (1, .long x1), (3, .int x3)] → zfix (b_X2_seek_2 N G p0) nn (x1, x3, V, L) = some r' → RG M (zC D cy ad n K N G) V L 2 ls [] := ih
  have hf : b_X2_seek_2 N G p0 (zfix (b_X2_seek_2 N G p0) nn) (x1, x3, V, L) = some r' := hf
  generalize zfix (b_X2_seek_2 N G p0) nn = k2 at hk2 hf
  clear ih
  unfold b_X2_seek_2 at hf
  refine z_iload_n X.1 dX2_seek_2 rfl (lv_at hl 2 rfl) ?_
  refine z_iconst (v := 3) X.1 dX2_seek_3 (by decide) ?_
  refine z_icmp_gt (tgt := 30) X.1 dX2_seek_4 (by decide) (fun c_ => ?_) (fun c_ => ?_)
  · have hf := (if_pos c_).symm.trans hf
    exact c_vret X Z hf dX2_seek_30
  · have hf := (if_neg c_).symm.trans hf
    refine z_aload_n X.1 dX2_seek_7 rfl (lv_at hl 0 rfl) ?_
    refine z_lload_n X.1 dX2_seek_8 rfl (lv_at hl 1 rfl) ?_
    refine z_iload_n X.1 dX2_seek_9 rfl (lv_at hl 2 rfl) ?_
    refine z_iconst (v := 0) X.1 dX2_seek_10 (by decide) ?_
    refine z_iconst (v := 0) X.1 dX2_seek_11 (by decide) ?_
    obtain ⟨r1, hc1, hf⟩ := z_bind hf
    refine c_callVi [.long x1, .int x3, .int 0, .int 0] X hl.1 (c_X2_choose_T D cy ad X.2.2 hp0 hc1) hp0 ⟨by decide, rfl⟩ cm_X2_52 cw_X2_choose rfl cq_X2_choose ⟨by decide, by decide⟩ (Nat.le_of_ble_eq_true rfl) rfl dX2_seek_12 ?_
    refine z_if_eq (tgt := 24) X.1 dX2_seek_15 (by decide) (fun c_ => ?_) (fun c_ => ?_)
    · have hf := (if_pos c_).symm.trans hf
      refine z_iinc (v := x3 + 1) (k0 := 2) (lv' := [(3, .int (x3 + 1)), (0, .ref (ad p0)), (1, .long x1)]) X.1 dX2_seek_24 hl rfl rfl (by decide) rfl (fun ls hl => ?_)
      refine z_goto (tgt := 2) X.1 dX2_seek_27 (by decide) ?_
      exact hk2 x1 (x3 + 1) r1.2.1 r1.2.2 ls (lv_sub hl [1, 2, 0] rfl) hf
    · have hf := (if_neg c_).symm.trans hf
      refine z_aload_n X.1 dX2_seek_18 rfl (lv_at hl 0 rfl) ?_
      refine z_iload_n X.1 dX2_seek_19 rfl (lv_at hl 2 rfl) ?_
      refine c_puti X hp0 cf_X2_22 cg_X2 cp_X2_3 rfl rfl dX2_seek_20 ?_
      exact c_vret X Z hf dX2_seek_23

set_option maxHeartbeats 4000000 in
set_option maxRecDepth 100000 in
theorem w_X2_seek {M : zM} {D : va_G} {cy : Nat → ClassId} {ad : Nat → Nat} {n : Nat} {K N : Nat → Nat} {G : zG} {r' : zI × zL} (X : RXc M D cy ad n K N G cX2_seek 4 RX2 13 328) (Z : RZv M (zC D cy ad n K N G) r'.1 r'.2) {p0 : Nat} (hp0 : p0 < n ∧ K p0 = 2) (x1 : Int64) (V : zI) (L : zL) (ls : Array Slot) (hl : lv_has ls 4 [(0, .ref (ad p0)), (1, .long x1)]) (hf : g_X2_seek N G p0 x1 V L = some r') : RG M (zC D cy ad n K N G) V L 0 ls [] := by
  unfold g_X2_seek at hf
  refine z_iconst (v := 0) X.1 dX2_seek_0 (by decide) ?_
  refine z_istore_n (lv' := [(3, .int 0), (0, .ref (ad p0)), (1, .long x1)]) X.1 dX2_seek_1 rfl hl (by decide) rfl (fun ls hl => ?_)
  exact w_X2_seek_2 X Z hp0 FU x1 0 V L ls (lv_sub hl [1, 2, 0] rfl) hf

theorem c_X2_seek (D : va_G) (cy : Nat → ClassId) (ad : Nat → Nat) {n : Nat} {K N : Nat → Nat} {G : zG} (hWF : zWF n K G) {p0 : Nat} {x1 : Int64} {V : zI} {L : zL} (hp0 : p0 < n ∧ K p0 = 2) {r' : zI × zL} (hf : f_X2_seek N G p0 x1 V L = some r') : RCv (zC D cy ad n K N G) yX2_seek cX2_seek 4 13 328 [.ref (ad p0), .long x1] V L r'.1 r'.2 := by
  unfold f_X2_seek at hf
  exact RCv.of (by decide) hWF (Nat.le_of_ble_eq_true rfl) (fun M X Z ls hl => w_X2_seek X Z hp0 x1 V L ls hl hf)
def b_X2_seekWide_16 (N : Nat → Nat) (G : zG) (p0 : Nat) (p1 : Nat) (p1_7 : Nat) (k16 : Int64 × Int32 × zI × zL → Option (zI × zL)) : Int64 × Int32 × zI × zL → Option (zI × zL) := fun ⟨x2, x4, V, L⟩ =>
  (if 36 ≤ x4 then (f_X2_seek N G p0 x2 V L).bind fun r1 => some (r1.1, r1.2) else if inB x4 (N p1_7) then (if (V p1_7 x4.toNatClampNeg) ≤ 0 then k16 (x2, (x4 + 1), V, L) else (if (lg_cmp (((x2.toUInt64 >>> (x4.toInt64.toUInt64 &&& Int64.toUInt64 63)).toInt64) &&& 1) 0) = 0 then (f_X2_offer N G p0 x4 V L).bind fun r3 => k16 (x2, (x4 + 1), r3.1, r3.2) else k16 (x2, (x4 + 1), V, L))) else none)
def g_X2_seekWide (N : Nat → Nat) (G : zG) (p0 : Nat) (p1 : Nat) (p1_7 : Nat) (x2 : Int64) (V : zI) (L : zL) : Option (zI × zL) :=
  zfix (b_X2_seekWide_16 N G p0 p1 p1_7) FU (x2, 0, z_uI (z_uI V p0 4 1) p0 5 ((z_uI V p0 4 1) p1 0), L)
def f_X2_seekWide (N : Nat → Nat) (G : zG) (p0 : Nat) (p1 : Nat) (x2 : Int64) (V : zI) (L : zL) : Option (zI × zL) :=
  (G p1 7).bind fun p1_7 => g_X2_seekWide N G p0 p1 p1_7 x2 V L
set_option maxHeartbeats 4000000 in
set_option maxRecDepth 100000 in
theorem w_X2_seekWide_16 {M : zM} {D : va_G} {cy : Nat → ClassId} {ad : Nat → Nat} {n : Nat} {K N : Nat → Nat} {G : zG} {r' : zI × zL} (X : RXc M D cy ad n K N G cX2_seekWide 5 RX2 14 351) (Z : RZv M (zC D cy ad n K N G) r'.1 r'.2) {p0 : Nat} (hp0 : p0 < n ∧ K p0 = 2) {p1 : Nat} (hp1 : p1 < n ∧ K p1 = 7) {p1_7 : Nat} (hp1_7 : p1_7 < n ∧ K p1_7 = 100) (ep1_7 : G p1 7 = some p1_7) (nn : Nat) : ∀ (x2 : Int64) (x4 : Int32) (V : zI) (L : zL) (ls : Array Slot) (hl : lv_has ls 5 [(0, .ref (ad p0)), (1, .ref (ad p1)), (2, .long x2), (4, .int x4)]) (hf : zfix (b_X2_seekWide_16 N G p0 p1 p1_7) nn (x2, x4, V, L) = some r'), RG M (zC D cy ad n K N G) V L 16 ls [] := by
  induction nn with
  | zero => intro x2 x4 V L ls hl hf; cases hf
  | succ nn ih =>
  intro x2 x4 V L ls hl hf
  have hk16 : ∀ (x2 : Int64) (x4 : Int32) (V : zI) (L : zL) (ls : Array Slot), lv_has ls 5 [(0, .ref (ad p0)), (1, .ref (ad p1)), (2, .long x2), (4, .int x4)] → zfix (b_X2_seekWide_16 N G p0 p1 p1_7) nn (x2, x4, V, L) = some r' → RG M (zC D cy ad n K N G) V L 16 ls [] := ih
  have hf : b_X2_seekWide_16 N G p0 p1 p1_7 (zfix (b_X2_seekWide_16 N G p0 p1 p1_7) nn) (x2, x4, V, L) = some r' := hf
  generalize zfix (b_X2_seekWide_16 N G p0 p1 p1_7) nn = k16 at hk16 hf
  clear ih
  unfold b_X2_seekWide_16 at hf
  refine z_iload X.1 dX2_seekWide_16 (lv_at hl 3 rfl) ?_
  refine z_bipush (v := 36) X.1 dX2_seekWide_18 (by decide) ?_
  refine z_icmp_ge (tgt := 56) X.1 dX2_seekWide_20 (by decide) (fun c_ => ?_) (fun c_ => ?_)
  · have hf := (if_pos c_).symm.trans hf
    refine z_aload_n X.1 dX2_seekWide_56 rfl (lv_at hl 0 rfl) ?_
    refine z_lload_n X.1 dX2_seekWide_57 rfl (lv_at hl 2 rfl) ?_
    obtain ⟨r1, hc1, hf⟩ := z_bind hf
    refine c_callVv [.long x2] X hl.1 (c_X2_seek D cy ad X.2.2 hp0 hc1) hp0 ⟨by decide, rfl⟩ cm_X2_48 cw_X2_seek rfl cq_X2_seek ⟨by decide, by decide⟩ (Nat.le_of_ble_eq_true rfl) rfl dX2_seekWide_58 ?_
    exact c_vret X Z hf dX2_seekWide_61
  · have hf := (if_neg c_).symm.trans hf
    refine z_aload_n X.1 dX2_seekWide_23 rfl (lv_at hl 1 rfl) ?_
    refine c_geta X hp1 cf_X2_41 ep1_7 dX2_seekWide_24 ?_
    refine z_iload X.1 dX2_seekWide_27 (lv_at hl 3 rfl) ?_
    obtain ⟨hb2, hf⟩ := z_ite hf
    refine c_iald X hp1_7 hb2 dX2_seekWide_29 ?_
    refine z_if_le (tgt := 50) X.1 dX2_seekWide_30 (by decide) (fun c_ => ?_) (fun c_ => ?_)
    · have hf := (if_pos c_).symm.trans hf
      refine z_iinc (v := x4 + 1) (k0 := 3) (lv' := [(4, .int (x4 + 1)), (0, .ref (ad p0)), (1, .ref (ad p1)), (2, .long x2)]) X.1 dX2_seekWide_50 hl rfl rfl (by decide) rfl (fun ls hl => ?_)
      refine z_goto (tgt := 16) X.1 dX2_seekWide_53 (by decide) ?_
      exact hk16 x2 (x4 + 1) V L ls (lv_sub hl [1, 2, 3, 0] rfl) hf
    · have hf := (if_neg c_).symm.trans hf
      refine z_lload_n X.1 dX2_seekWide_33 rfl (lv_at hl 2 rfl) ?_
      refine z_iload X.1 dX2_seekWide_34 (lv_at hl 3 rfl) ?_
      refine z_lushr X.1 dX2_seekWide_36 ?_
      refine z_lconst (v := 1) X.1 dX2_seekWide_37 (by decide) ?_
      refine z_land X.1 dX2_seekWide_38 ?_
      refine z_lconst (v := 0) X.1 dX2_seekWide_39 (by decide) ?_
      refine z_lcmp X.1 dX2_seekWide_40 ?_
      refine z_if_ne (tgt := 50) X.1 dX2_seekWide_41 (by decide) (fun c_ => ?_) (fun c_ => ?_)
      · have hf := (if_neg c_).symm.trans hf
        refine z_iinc (v := x4 + 1) (k0 := 3) (lv' := [(4, .int (x4 + 1)), (0, .ref (ad p0)), (1, .ref (ad p1)), (2, .long x2)]) X.1 dX2_seekWide_50 hl rfl rfl (by decide) rfl (fun ls hl => ?_)
        refine z_goto (tgt := 16) X.1 dX2_seekWide_53 (by decide) ?_
        exact hk16 x2 (x4 + 1) V L ls (lv_sub hl [1, 2, 3, 0] rfl) hf
      · have hf := (if_pos c_).symm.trans hf
        refine z_aload_n X.1 dX2_seekWide_44 rfl (lv_at hl 0 rfl) ?_
        refine z_iload X.1 dX2_seekWide_45 (lv_at hl 3 rfl) ?_
        obtain ⟨r3, hc3, hf⟩ := z_bind hf
        refine c_callVv [.int x4] X hl.1 (c_X2_offer D cy ad X.2.2 hp0 hc3) hp0 ⟨by decide, rfl⟩ cm_X2_44 cw_X2_offer rfl cq_X2_offer ⟨by decide, by decide⟩ (Nat.le_of_ble_eq_true rfl) rfl dX2_seekWide_47 ?_
        refine z_iinc (v := x4 + 1) (k0 := 3) (lv' := [(4, .int (x4 + 1)), (0, .ref (ad p0)), (1, .ref (ad p1)), (2, .long x2)]) X.1 dX2_seekWide_50 hl rfl rfl (by decide) rfl (fun ls hl => ?_)
        refine z_goto (tgt := 16) X.1 dX2_seekWide_53 (by decide) ?_
        exact hk16 x2 (x4 + 1) r3.1 r3.2 ls (lv_sub hl [1, 2, 3, 0] rfl) hf

set_option maxHeartbeats 4000000 in
set_option maxRecDepth 100000 in
theorem w_X2_seekWide {M : zM} {D : va_G} {cy : Nat → ClassId} {ad : Nat → Nat} {n : Nat} {K N : Nat → Nat} {G : zG} {r' : zI × zL} (X : RXc M D cy ad n K N G cX2_seekWide 5 RX2 14 351) (Z : RZv M (zC D cy ad n K N G) r'.1 r'.2) {p0 : Nat} (hp0 : p0 < n ∧ K p0 = 2) {p1 : Nat} (hp1 : p1 < n ∧ K p1 = 7) {p1_7 : Nat} (hp1_7 : p1_7 < n ∧ K p1_7 = 100) (ep1_7 : G p1 7 = some p1_7) (x2 : Int64) (V : zI) (L : zL) (ls : Array Slot) (hl : lv_has ls 5 [(0, .ref (ad p0)), (1, .ref (ad p1)), (2, .long x2)]) (hf : g_X2_seekWide N G p0 p1 p1_7 x2 V L = some r') : RG M (zC D cy ad n K N G) V L 0 ls [] := by
  unfold g_X2_seekWide at hf
  refine z_aload_n X.1 dX2_seekWide_0 rfl (lv_at hl 0 rfl) ?_
  refine z_iconst (v := 1) X.1 dX2_seekWide_1 (by decide) ?_
  refine c_puti X hp0 cf_X2_25 cg_X2 cp_X2_4 (zB_nar (show zB 1 by decide)) (zB_fit (show zB 1 by decide)) dX2_seekWide_2 ?_
  refine z_aload_n X.1 dX2_seekWide_5 rfl (lv_at hl 0 rfl) ?_
  refine z_aload_n X.1 dX2_seekWide_6 rfl (lv_at hl 1 rfl) ?_
  refine c_geti X hp1 cf_X2_38 dX2_seekWide_7 ?_
  refine c_puti X hp0 cf_X2_29 cg_X2 cp_X2_5 rfl rfl dX2_seekWide_10 ?_
  refine z_iconst (v := 0) X.1 dX2_seekWide_13 (by decide) ?_
  refine z_istore (lv' := [(4, .int 0), (0, .ref (ad p0)), (1, .ref (ad p1)), (2, .long x2)]) X.1 dX2_seekWide_14 hl (by decide) rfl (fun ls hl => ?_)
  exact w_X2_seekWide_16 X Z hp0 hp1 hp1_7 ep1_7 FU x2 0 (z_uI (z_uI V p0 4 1) p0 5 ((z_uI V p0 4 1) p1 0)) L ls (lv_sub hl [1, 2, 3, 0] rfl) hf

theorem c_X2_seekWide (D : va_G) (cy : Nat → ClassId) (ad : Nat → Nat) {n : Nat} {K N : Nat → Nat} {G : zG} (hWF : zWF n K G) {p0 : Nat} {p1 : Nat} {x2 : Int64} {V : zI} {L : zL} (hp0 : p0 < n ∧ K p0 = 2) (hp1 : p1 < n ∧ K p1 = 7) {r' : zI × zL} (hf : f_X2_seekWide N G p0 p1 x2 V L = some r') : RCv (zC D cy ad n K N G) yX2_seekWide cX2_seekWide 5 14 351 [.ref (ad p0), .ref (ad p1), .long x2] V L r'.1 r'.2 := by
  unfold f_X2_seekWide at hf
  obtain ⟨p1_7, ep1_7, hf⟩ := z_bind hf
  have hp1_7 := hWF.get hp1 (k := 7) (c := 100) rfl ep1_7
  exact RCv.of (by decide) hWF (Nat.le_of_ble_eq_true rfl) (fun M X Z ls hl => w_X2_seekWide X Z hp0 hp1 hp1_7 ep1_7 x2 V L ls hl hf)
def b_X2_seekCut_13 (N : Nat → Nat) (G : zG) (p0 : Nat) (k13 : Int64 × Int32 × zI × zL → Option (zI × zL)) : Int64 × Int32 × zI × zL → Option (zI × zL) := fun ⟨x3, x5, V, L⟩ =>
  (if 36 ≤ x5 then (f_X2_seek N G p0 x3 V L).bind fun r1 => some (r1.1, r1.2) else (if (lg_cmp (((x3.toUInt64 >>> (x5.toInt64.toUInt64 &&& Int64.toUInt64 63)).toInt64) &&& 1) 0) = 0 then k13 (x3, (x5 + 1), V, L) else (f_X2_offer N G p0 x5 V L).bind fun r2 => k13 (x3, (x5 + 1), r2.1, r2.2)))
def g_X2_seekCut (N : Nat → Nat) (G : zG) (p0 : Nat) (x1 : Int32) (x2 : Int32) (x3 : Int64) (V : zI) (L : zL) : Option (zI × zL) :=
  zfix (b_X2_seekCut_13 N G p0) FU (x3, 0, z_uI (z_uI V p0 6 x1) p0 7 x2, L)
def f_X2_seekCut (N : Nat → Nat) (G : zG) (p0 : Nat) (x1 : Int32) (x2 : Int32) (x3 : Int64) (V : zI) (L : zL) : Option (zI × zL) :=
  g_X2_seekCut N G p0 x1 x2 x3 V L
set_option maxHeartbeats 4000000 in
set_option maxRecDepth 100000 in
theorem w_X2_seekCut_13 {M : zM} {D : va_G} {cy : Nat → ClassId} {ad : Nat → Nat} {n : Nat} {K N : Nat → Nat} {G : zG} {r' : zI × zL} (X : RXc M D cy ad n K N G cX2_seekCut 6 RX2 14 351) (Z : RZv M (zC D cy ad n K N G) r'.1 r'.2) {p0 : Nat} (hp0 : p0 < n ∧ K p0 = 2) (nn : Nat) : ∀ (x3 : Int64) (x5 : Int32) (V : zI) (L : zL) (ls : Array Slot) (hl : lv_has ls 6 [(0, .ref (ad p0)), (3, .long x3), (5, .int x5)]) (hf : zfix (b_X2_seekCut_13 N G p0) nn (x3, x5, V, L) = some r'), RG M (zC D cy ad n K N G) V L 13 ls [] := by
  induction nn with
  | zero => intro x3 x5 V L ls hl hf; cases hf
  | succ nn ih =>
  intro x3 x5 V L ls hl hf
  have hk13 : ∀ (x3 : Int64) (x5 : Int32) (V : zI) (L : zL) (ls : Array Slot), lv_has ls 6 [(0, .ref (ad p0)), (3, .long x3), (5, .int x5)] → zfix (b_X2_seekCut_13 N G p0) nn (x3, x5, V, L) = some r' → RG M (zC D cy ad n K N G) V L 13 ls [] := ih
  have hf : b_X2_seekCut_13 N G p0 (zfix (b_X2_seekCut_13 N G p0) nn) (x3, x5, V, L) = some r' := hf
  generalize zfix (b_X2_seekCut_13 N G p0) nn = k13 at hk13 hf
  clear ih
  unfold b_X2_seekCut_13 at hf
  refine z_iload X.1 dX2_seekCut_13 (lv_at hl 2 rfl) ?_
  refine z_bipush (v := 36) X.1 dX2_seekCut_15 (by decide) ?_
  refine z_icmp_ge (tgt := 43) X.1 dX2_seekCut_17 (by decide) (fun c_ => ?_) (fun c_ => ?_)
  · have hf := (if_pos c_).symm.trans hf
    refine z_aload_n X.1 dX2_seekCut_43 rfl (lv_at hl 0 rfl) ?_
    refine z_lload_n X.1 dX2_seekCut_44 rfl (lv_at hl 1 rfl) ?_
    obtain ⟨r1, hc1, hf⟩ := z_bind hf
    refine c_callVv [.long x3] X hl.1 (c_X2_seek D cy ad X.2.2 hp0 hc1) hp0 ⟨by decide, rfl⟩ cm_X2_48 cw_X2_seek rfl cq_X2_seek ⟨by decide, by decide⟩ (Nat.le_of_ble_eq_true rfl) rfl dX2_seekCut_45 ?_
    exact c_vret X Z hf dX2_seekCut_48
  · have hf := (if_neg c_).symm.trans hf
    refine z_lload_n X.1 dX2_seekCut_20 rfl (lv_at hl 1 rfl) ?_
    refine z_iload X.1 dX2_seekCut_21 (lv_at hl 2 rfl) ?_
    refine z_lushr X.1 dX2_seekCut_23 ?_
    refine z_lconst (v := 1) X.1 dX2_seekCut_24 (by decide) ?_
    refine z_land X.1 dX2_seekCut_25 ?_
    refine z_lconst (v := 0) X.1 dX2_seekCut_26 (by decide) ?_
    refine z_lcmp X.1 dX2_seekCut_27 ?_
    refine z_if_eq (tgt := 37) X.1 dX2_seekCut_28 (by decide) (fun c_ => ?_) (fun c_ => ?_)
    · have hf := (if_pos c_).symm.trans hf
      refine z_iinc (v := x5 + 1) (k0 := 2) (lv' := [(5, .int (x5 + 1)), (0, .ref (ad p0)), (3, .long x3)]) X.1 dX2_seekCut_37 hl rfl rfl (by decide) rfl (fun ls hl => ?_)
      refine z_goto (tgt := 13) X.1 dX2_seekCut_40 (by decide) ?_
      exact hk13 x3 (x5 + 1) V L ls (lv_sub hl [1, 2, 0] rfl) hf
    · have hf := (if_neg c_).symm.trans hf
      refine z_aload_n X.1 dX2_seekCut_31 rfl (lv_at hl 0 rfl) ?_
      refine z_iload X.1 dX2_seekCut_32 (lv_at hl 2 rfl) ?_
      obtain ⟨r2, hc2, hf⟩ := z_bind hf
      refine c_callVv [.int x5] X hl.1 (c_X2_offer D cy ad X.2.2 hp0 hc2) hp0 ⟨by decide, rfl⟩ cm_X2_44 cw_X2_offer rfl cq_X2_offer ⟨by decide, by decide⟩ (Nat.le_of_ble_eq_true rfl) rfl dX2_seekCut_34 ?_
      refine z_iinc (v := x5 + 1) (k0 := 2) (lv' := [(5, .int (x5 + 1)), (0, .ref (ad p0)), (3, .long x3)]) X.1 dX2_seekCut_37 hl rfl rfl (by decide) rfl (fun ls hl => ?_)
      refine z_goto (tgt := 13) X.1 dX2_seekCut_40 (by decide) ?_
      exact hk13 x3 (x5 + 1) r2.1 r2.2 ls (lv_sub hl [1, 2, 0] rfl) hf

set_option maxHeartbeats 4000000 in
set_option maxRecDepth 100000 in
theorem w_X2_seekCut {M : zM} {D : va_G} {cy : Nat → ClassId} {ad : Nat → Nat} {n : Nat} {K N : Nat → Nat} {G : zG} {r' : zI × zL} (X : RXc M D cy ad n K N G cX2_seekCut 6 RX2 14 351) (Z : RZv M (zC D cy ad n K N G) r'.1 r'.2) {p0 : Nat} (hp0 : p0 < n ∧ K p0 = 2) (x1 : Int32) (x2 : Int32) (x3 : Int64) (V : zI) (L : zL) (ls : Array Slot) (hl : lv_has ls 6 [(0, .ref (ad p0)), (1, .int x1), (2, .int x2), (3, .long x3)]) (hf : g_X2_seekCut N G p0 x1 x2 x3 V L = some r') : RG M (zC D cy ad n K N G) V L 0 ls [] := by
  unfold g_X2_seekCut at hf
  refine z_aload_n X.1 dX2_seekCut_0 rfl (lv_at hl 0 rfl) ?_
  refine z_iload_n X.1 dX2_seekCut_1 rfl (lv_at hl 1 rfl) ?_
  refine c_puti X hp0 cf_X2_32 cg_X2 cp_X2_6 rfl rfl dX2_seekCut_2 ?_
  refine z_aload_n X.1 dX2_seekCut_5 rfl (lv_at hl 0 rfl) ?_
  refine z_iload_n X.1 dX2_seekCut_6 rfl (lv_at hl 2 rfl) ?_
  refine c_puti X hp0 cf_X2_35 cg_X2 cp_X2_7 rfl rfl dX2_seekCut_7 ?_
  refine z_iconst (v := 0) X.1 dX2_seekCut_10 (by decide) ?_
  refine z_istore (lv' := [(5, .int 0), (0, .ref (ad p0)), (1, .int x1), (2, .int x2), (3, .long x3)]) X.1 dX2_seekCut_11 hl (by decide) rfl (fun ls hl => ?_)
  exact w_X2_seekCut_13 X Z hp0 FU x3 0 (z_uI (z_uI V p0 6 x1) p0 7 x2) L ls (lv_sub hl [1, 4, 0] rfl) hf

theorem c_X2_seekCut (D : va_G) (cy : Nat → ClassId) (ad : Nat → Nat) {n : Nat} {K N : Nat → Nat} {G : zG} (hWF : zWF n K G) {p0 : Nat} {x1 : Int32} {x2 : Int32} {x3 : Int64} {V : zI} {L : zL} (hp0 : p0 < n ∧ K p0 = 2) {r' : zI × zL} (hf : f_X2_seekCut N G p0 x1 x2 x3 V L = some r') : RCv (zC D cy ad n K N G) yX2_seekCut cX2_seekCut 6 14 351 [.ref (ad p0), .int x1, .int x2, .long x3] V L r'.1 r'.2 := by
  unfold f_X2_seekCut at hf
  exact RCv.of (by decide) hWF (Nat.le_of_ble_eq_true rfl) (fun M X Z ls hl => w_X2_seekCut X Z hp0 x1 x2 x3 V L ls hl hf)
