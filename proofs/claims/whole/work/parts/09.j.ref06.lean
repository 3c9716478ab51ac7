def b_bag_79 (k79 : Int32 × zI × zL → Option (Int32 × zI × zL)) : Int32 × zI × zL → Option (Int32 × zI × zL) := fun ⟨x3, V, L⟩ =>
  (if (V 0 60) ≤ x3 then some (V 0 60, V, L) else if inB ((2 : Int32) * x3) 1800 then if inB x3 16 then if inB (((2 : Int32) * x3) + 1) 1800 then if inB x3 16 then k79 ((x3 + 1), z_uI (z_uI V 33 x3.toNatClampNeg (V 1 ((2 : Int32) * x3).toNatClampNeg)) 34 x3.toNatClampNeg ((z_uI V 33 x3.toNatClampNeg (V 1 ((2 : Int32) * x3).toNatClampNeg)) 1 (((2 : Int32) * x3) + 1).toNatClampNeg), L) else none else none else none else none)
def f_bag_60 (x1 : Int32) (x2 : Int32) (V : zI) (L : zL) : Option (Int32 × zI × zL) :=
  (if x2 = 0 then (f_refuses 5 V L).bind fun r1 => some (r1.1, r1.2.1, r1.2.2) else zfix (b_bag_79) FU (0, z_uI V 0 60 (x1 / 2), L))
def b_bag_34 (k34 : Int32 × Int32 × Int32 × zI × zL → Option (Int32 × zI × zL)) : Int32 × Int32 × Int32 × zI × zL → Option (Int32 × zI × zL) := fun ⟨x1, x2, x3, V, L⟩ =>
  (if x1 ≤ x3 then f_bag_60 x1 x2 V L else (if x2 = 0 then f_bag_60 x1 x2 V L else if inB x3 1800 then (f_isTown (V 1 x3.toNatClampNeg) V L).bind fun r2 => k34 (x1, r2.1, (x3 + 2), r2.2.1, r2.2.2) else none))
def f_bag_31 (x1 : Int32) (s0 : Int32) (V : zI) (L : zL) : Option (Int32 × zI × zL) :=
  zfix (b_bag_34) FU (x1, s0, 0, V, L)
def f_bag_30 (x1 : Int32) (V : zI) (L : zL) : Option (Int32 × zI × zL) :=
  f_bag_31 x1 0 V L
def f_bag (V : zI) (L : zL) : Option (Int32 × zI × zL) :=
  (if (V 0 1) ≤ 0 then f_bag_30 (V 0 1) (z_uI V 0 1 0) L else (if ((V 0 1) - (V 0 1) / 2 * 2) = 0 then (if 32 < (V 0 1) then f_bag_30 (V 0 1) (z_uI V 0 1 0) L else f_bag_31 (V 0 1) 1 (z_uI V 0 1 0) L) else f_bag_30 (V 0 1) (z_uI V 0 1 0) L))
set_option maxHeartbeats 4000000 in
set_option maxRecDepth 100000 in
theorem w_bag_79 {M : zM} {D : va_G} {cy : Nat → ClassId} {ad : Nat → Nat} {r' : Int32 × zI × zL} (X : RX M (zR D cy ad) cX11_bag 4 RX11 1 21) (Z : RZi M (zR D cy ad) .int r'.1 r'.2.1 r'.2.2) (n : Nat) : ∀ (x3 : Int32) (V : zI) (L : zL) (ls : Array Slot) (hl : lv_has ls 4 [(0, .ref (ad 0)), (3, .int x3)]) (hf : zfix (b_bag_79) n (x3, V, L) = some r'), RG M (zR D cy ad) V L 79 ls [] := by
  induction n with
  | zero => intro x3 V L ls hl hf; cases hf
  | succ n ih =>
  intro x3 V L ls hl hf
  have hk79 : ∀ (x3 : Int32) (V : zI) (L : zL) (ls : Array Slot), lv_has ls 4 [(0, .ref (ad 0)), (3, .int x3)] → zfix (b_bag_79) n (x3, V, L) = some r' → RG M (zR D cy ad) V L 79 ls [] := ih
  have hf : b_bag_79 (zfix (b_bag_79) n) (x3, V, L) = some r' := hf
  generalize zfix (b_bag_79) n = k79 at hk79 hf
  unfold b_bag_79 at hf
  clear ih
  refine z_iload_n X dX11_bag_79 rfl (lv_at hl 1 rfl) ?_
  refine z_aload_n X dX11_bag_80 rfl (lv_at hl 0 rfl) ?_
  refine m_geti X ff_60 dX11_bag_81 ?_
  refine z_icmp_ge (tgt := 123) X dX11_bag_84 (by decide) (fun c_ => ?_) (fun c_ => ?_)
  · have hf := (if_pos c_).symm.trans hf
    refine z_aload_n X dX11_bag_123 rfl (lv_at hl 0 rfl) ?_
    refine m_geti X ff_60 dX11_bag_124 ?_
    exact m_iret X Z hf rfl dX11_bag_127
  · have hf := (if_neg c_).symm.trans hf
    refine z_aload_n X dX11_bag_87 rfl (lv_at hl 0 rfl) ?_
    refine m_geta X ff_61 dX11_bag_88 ?_
    refine z_iload_n X dX11_bag_91 rfl (lv_at hl 1 rfl) ?_
    refine z_aload_n X dX11_bag_92 rfl (lv_at hl 0 rfl) ?_
    refine m_geta X ff_0 dX11_bag_93 ?_
    refine z_iconst (v := 2) X dX11_bag_96 (by decide) ?_
    refine z_iload_n X dX11_bag_97 rfl (lv_at hl 1 rfl) ?_
    refine z_imul X dX11_bag_98 ?_
    obtain ⟨hb1, hf⟩ := z_ite hf
    refine m_iald X pa_1 hb1 dX11_bag_99 ?_
    obtain ⟨hb2, hf⟩ := z_ite hf
    refine m_iast X pa_33 hb2 dX11_bag_100 ?_
    refine z_aload_n X dX11_bag_101 rfl (lv_at hl 0 rfl) ?_
    refine m_geta X ff_62 dX11_bag_102 ?_
    refine z_iload_n X dX11_bag_105 rfl (lv_at hl 1 rfl) ?_
    refine z_aload_n X dX11_bag_106 rfl (lv_at hl 0 rfl) ?_
    refine m_geta X ff_0 dX11_bag_107 ?_
    refine z_iconst (v := 2) X dX11_bag_110 (by decide) ?_
    refine z_iload_n X dX11_bag_111 rfl (lv_at hl 1 rfl) ?_
    refine z_imul X dX11_bag_112 ?_
    refine z_iconst (v := 1) X dX11_bag_113 (by decide) ?_
    refine z_iadd X dX11_bag_114 ?_
    obtain ⟨hb3, hf⟩ := z_ite hf
    refine m_iald X pa_1 hb3 dX11_bag_115 ?_
    obtain ⟨hb4, hf⟩ := z_ite hf
    refine m_iast X pa_34 hb4 dX11_bag_116 ?_
    refine z_iinc (v := x3 + 1) (k0 := 1) (lv' := [(3, .int (x3 + 1)), (0, .ref (ad 0))]) X dX11_bag_117 hl rfl rfl (by decide) rfl (fun ls hl => ?_)
    refine z_goto (tgt := 79) X dX11_bag_120 (by decide) ?_
    exact hk79 (x3 + 1) (z_uI (z_uI V 33 x3.toNatClampNeg (V 1 ((2 : Int32) * x3).toNatClampNeg)) 34 x3.toNatClampNeg ((z_uI V 33 x3.toNatClampNeg (V 1 ((2 : Int32) * x3).toNatClampNeg)) 1 (((2 : Int32) * x3) + 1).toNatClampNeg)) L ls (lv_sub hl [1, 0] rfl) hf

set_option maxHeartbeats 4000000 in
set_option maxRecDepth 100000 in
theorem w_bag_60 {M : zM} {D : va_G} {cy : Nat → ClassId} {ad : Nat → Nat} {r' : Int32 × zI × zL} (X : RX M (zR D cy ad) cX11_bag 4 RX11 1 21) (Z : RZi M (zR D cy ad) .int r'.1 r'.2.1 r'.2.2) (x1 : Int32) (x2 : Int32) (V : zI) (L : zL) (ls : Array Slot) (hl : lv_has ls 4 [(0, .ref (ad 0)), (1, .int x1), (2, .int x2)]) (hf : f_bag_60 x1 x2 V L = some r') : RG M (zR D cy ad) V L 60 ls [] := by
  unfold f_bag_60 at hf
  refine z_iload_n X dX11_bag_60 rfl (lv_at hl 2 rfl) ?_
  refine z_if_ne (tgt := 70) X dX11_bag_61 (by decide) (fun c_ => ?_) (fun c_ => ?_)
  · have hf := (if_neg c_).symm.trans hf
    refine z_aload_n X dX11_bag_70 rfl (lv_at hl 0 rfl) ?_
    refine z_iload_n X dX11_bag_71 rfl (lv_at hl 1 rfl) ?_
    refine z_iconst (v := 2) X dX11_bag_72 (by decide) ?_
    refine z_idiv X dX11_bag_73 (by decide) ?_
    refine m_puti X fp_60 dX11_bag_74 ?_
    refine z_iconst (v := 0) X dX11_bag_77 (by decide) ?_
    refine z_istore_n (lv' := [(3, .int 0), (0, .ref (ad 0)), (1, .int x1), (2, .int x2)]) X dX11_bag_78 rfl hl (by decide) rfl (fun ls hl => ?_)
    exact w_bag_79 X Z FU 0 (z_uI V 0 60 (x1 / 2)) L ls (lv_sub hl [1, 0] rfl) hf
  · have hf := (if_pos c_).symm.trans hf
    refine z_aload_n X dX11_bag_64 rfl (lv_at hl 0 rfl) ?_
    refine z_iconst (v := 5) X dX11_bag_65 (by decide) ?_
    obtain ⟨r1, hc1, hf⟩ := z_bind hf
    refine m_callVi [.int 5] X hl.1 (c_refuses D cy ad hc1) gm_refuses pd_refuses rfl ⟨by decide, by decide⟩ (Nat.le_of_ble_eq_true rfl) rfl dX11_bag_66 ?_
    exact m_iret X Z hf rfl dX11_bag_69

set_option maxHeartbeats 4000000 in
set_option maxRecDepth 100000 in
theorem w_bag_34 {M : zM} {D : va_G} {cy : Nat → ClassId} {ad : Nat → Nat} {r' : Int32 × zI × zL} (X : RX M (zR D cy ad) cX11_bag 4 RX11 1 21) (Z : RZi M (zR D cy ad) .int r'.1 r'.2.1 r'.2.2) (n : Nat) : ∀ (x1 : Int32) (x2 : Int32) (x3 : Int32) (V : zI) (L : zL) (ls : Array Slot) (hl : lv_has ls 4 [(0, .ref (ad 0)), (1, .int x1), (2, .int x2), (3, .int x3)]) (hf : zfix (b_bag_34) n (x1, x2, x3, V, L) = some r'), RG M (zR D cy ad) V L 34 ls [] := by
  induction n with
  | zero => intro x1 x2 x3 V L ls hl hf; cases hf
  | succ n ih =>
  intro x1 x2 x3 V L ls hl hf
  have hk34 : ∀ (x1 : Int32) (x2 : Int32) (x3 : Int32) (V : zI) (L : zL) (ls : Array Slot), lv_has ls 4 [(0, .ref (ad 0)), (1, .int x1), (2, .int x2), (3, .int x3)] → zfix (b_bag_34) n (x1, x2, x3, V, L) = some r' → RG M (zR D cy ad) V L 34 ls [] := ih
  have hf : b_bag_34 (zfix (b_bag_34) n) (x1, x2, x3, V, L) = some r' := hf
  generalize zfix (b_bag_34) n = k34 at hk34 hf
  unfold b_bag_34 at hf
  clear ih
  refine z_iload_n X dX11_bag_34 rfl (lv_at hl 3 rfl) ?_
  refine z_iload_n X dX11_bag_35 rfl (lv_at hl 1 rfl) ?_
  refine z_icmp_ge (tgt := 60) X dX11_bag_36 (by decide) (fun c_ => ?_) (fun c_ => ?_)
  · have hf := (if_pos c_).symm.trans hf
    exact w_bag_60 X Z x1 x2 V L ls (lv_sub hl [0, 1, 2] rfl) hf
  · have hf := (if_neg c_).symm.trans hf
    refine z_iload_n X dX11_bag_39 rfl (lv_at hl 2 rfl) ?_
    refine z_if_eq (tgt := 60) X dX11_bag_40 (by decide) (fun c_ => ?_) (fun c_ => ?_)
    · have hf := (if_pos c_).symm.trans hf
      exact w_bag_60 X Z x1 x2 V L ls (lv_sub hl [0, 1, 2] rfl) hf
    · have hf := (if_neg c_).symm.trans hf
      refine z_aload_n X dX11_bag_43 rfl (lv_at hl 0 rfl) ?_
      refine z_aload_n X dX11_bag_44 rfl (lv_at hl 0 rfl) ?_
      refine m_geta X ff_0 dX11_bag_45 ?_
      refine z_iload_n X dX11_bag_48 rfl (lv_at hl 3 rfl) ?_
      obtain ⟨hb1, hf⟩ := z_ite hf
      refine m_iald X pa_1 hb1 dX11_bag_49 ?_
      obtain ⟨r2, hc2, hf⟩ := z_bind hf
      refine m_callVi [.int (V 1 x3.toNatClampNeg)] X hl.1 (c_isTown D cy ad hc2) gm_isTown pd_isTown rfl ⟨by decide, by decide⟩ (Nat.le_of_ble_eq_true rfl) rfl dX11_bag_50 ?_
      refine z_istore_n (lv' := [(2, .int r2.1), (0, .ref (ad 0)), (1, .int x1), (3, .int x3)]) X dX11_bag_53 rfl hl (by decide) rfl (fun ls hl => ?_)
      refine z_iinc (v := x3 + 2) (k0 := 3) (lv' := [(3, .int (x3 + 2)), (2, .int r2.1), (0, .ref (ad 0)), (1, .int x1)]) X dX11_bag_54 hl rfl rfl (by decide) rfl (fun ls hl => ?_)
      refine z_goto (tgt := 34) X dX11_bag_57 (by decide) ?_
      exact hk34 x1 r2.1 (x3 + 2) r2.2.1 r2.2.2 ls (lv_sub hl [2, 3, 1, 0] rfl) hf

set_option maxHeartbeats 4000000 in
set_option maxRecDepth 100000 in
theorem w_bag_31 {M : zM} {D : va_G} {cy : Nat → ClassId} {ad : Nat → Nat} {r' : Int32 × zI × zL} (X : RX M (zR D cy ad) cX11_bag 4 RX11 1 21) (Z : RZi M (zR D cy ad) .int r'.1 r'.2.1 r'.2.2) (x1 : Int32) (s0 : Int32) (V : zI) (L : zL) (ls : Array Slot) (hl : lv_has ls 4 [(0, .ref (ad 0)), (1, .int x1)]) (hf : f_bag_31 x1 s0 V L = some r') : RG M (zR D cy ad) V L 31 ls [.int s0] := by
  unfold f_bag_31 at hf
  refine z_istore_n (lv' := [(2, .int s0), (0, .ref (ad 0)), (1, .int x1)]) X dX11_bag_31 rfl hl (by decide) rfl (fun ls hl => ?_)
  refine z_iconst (v := 0) X dX11_bag_32 (by decide) ?_
  refine z_istore_n (lv' := [(3, .int 0), (2, .int s0), (0, .ref (ad 0)), (1, .int x1)]) X dX11_bag_33 rfl hl (by decide) rfl (fun ls hl => ?_)
  exact w_bag_34 X Z FU x1 s0 0 V L ls (lv_sub hl [2, 3, 1, 0] rfl) hf

set_option maxHeartbeats 4000000 in
set_option maxRecDepth 100000 in
theorem w_bag_30 {M : zM} {D : va_G} {cy : Nat → ClassId} {ad : Nat → Nat} {r' : Int32 × zI × zL} (X : RX M (zR D cy ad) cX11_bag 4 RX11 1 21) (Z : RZi M (zR D cy ad) .int r'.1 r'.2.1 r'.2.2) (x1 : Int32) (V : zI) (L : zL) (ls : Array Slot) (hl : lv_has ls 4 [(0, .ref (ad 0)), (1, .int x1)]) (hf : f_bag_30 x1 V L = some r') : RG M (zR D cy ad) V L 30 ls [] := by
  unfold f_bag_30 at hf
  refine z_iconst (v := 0) X dX11_bag_30 (by decide) ?_
  exact w_bag_31 X Z x1 0 V L ls (lv_sub hl [0, 1] rfl) hf

set_option maxHeartbeats 4000000 in
set_option maxRecDepth 100000 in
theorem w_bag {M : zM} {D : va_G} {cy : Nat → ClassId} {ad : Nat → Nat} {r' : Int32 × zI × zL} (X : RX M (zR D cy ad) cX11_bag 4 RX11 1 21) (Z : RZi M (zR D cy ad) .int r'.1 r'.2.1 r'.2.2)  (V : zI) (L : zL) (ls : Array Slot) (hl : lv_has ls 4 [(0, .ref (ad 0))]) (hf : f_bag V L = some r') : RG M (zR D cy ad) V L 0 ls [] := by
  unfold f_bag at hf
  refine z_aload_n X dX11_bag_0 rfl (lv_at hl 0 rfl) ?_
  refine m_geti X ff_1 dX11_bag_1 ?_
  refine z_istore_n (lv' := [(1, .int (V 0 1)), (0, .ref (ad 0))]) X dX11_bag_4 rfl hl (by decide) rfl (fun ls hl => ?_)
  refine z_aload_n X dX11_bag_5 rfl (lv_at hl 1 rfl) ?_
  refine z_iconst (v := 0) X dX11_bag_6 (by decide) ?_
  refine m_puti X fp_1 dX11_bag_7 ?_
  refine z_iload_n X dX11_bag_10 rfl (lv_at hl 0 rfl) ?_
  refine z_if_le (tgt := 30) X dX11_bag_11 (by decide) (fun c_ => ?_) (fun c_ => ?_)
  · have hf := (if_pos c_).symm.trans hf
    exact w_bag_30 X Z (V 0 1) (z_uI V 0 1 0) L ls (lv_sub hl [1, 0] rfl) hf
  · have hf := (if_neg c_).symm.trans hf
    refine z_iload_n X dX11_bag_14 rfl (lv_at hl 0 rfl) ?_
    refine z_iconst (v := 2) X dX11_bag_15 (by decide) ?_
    refine z_irem X dX11_bag_16 (by decide) ?_
    refine z_if_ne (tgt := 30) X dX11_bag_17 (by decide) (fun c_ => ?_) (fun c_ => ?_)
    · have hf := (if_neg c_).symm.trans hf
      exact w_bag_30 X Z (V 0 1) (z_uI V 0 1 0) L ls (lv_sub hl [1, 0] rfl) hf
    · have hf := (if_pos c_).symm.trans hf
      refine z_iload_n X dX11_bag_20 rfl (lv_at hl 0 rfl) ?_
      refine z_bipush (v := 32) X dX11_bag_21 (by decide) ?_
      refine z_icmp_gt (tgt := 30) X dX11_bag_23 (by decide) (fun c_ => ?_) (fun c_ => ?_)
      · have hf := (if_pos c_).symm.trans hf
        exact w_bag_30 X Z (V 0 1) (z_uI V 0 1 0) L ls (lv_sub hl [1, 0] rfl) hf
      · have hf := (if_neg c_).symm.trans hf
        refine z_iconst (v := 1) X dX11_bag_26 (by decide) ?_
        refine z_goto (tgt := 31) X dX11_bag_27 (by decide) ?_
        exact w_bag_31 X Z (V 0 1) 1 (z_uI V 0 1 0) L ls (lv_sub hl [1, 0] rfl) hf

theorem c_bag (D : va_G) (cy : Nat → ClassId) (ad : Nat → Nat)  {V : zI} {L : zL} {r' : Int32 × zI × zL} (hf : f_bag V L = some r') : RMi (zR D cy ad) yX11_bag cX11_bag 4 .int 1 21 [.ref (ad 0)] V L r'.1 r'.2.1 r'.2.2 :=
  RMi.of (by decide) zR_nd (Nat.le_of_ble_eq_true rfl) (fun M X Z ls hl => w_bag X Z V L ls hl hf)
def b_isBag_2 (k2 : Int32 × Int32 × zI × zL → Option (Int32 × zI × zL)) : Int32 × Int32 × zI × zL → Option (Int32 × zI × zL) := fun ⟨x1, x2, V, L⟩ =>
  (if (V 0 60) ≤ x2 then some (1, V, L) else if inB x2 16 then (f_at 0 x1 (V 33 x2.toNatClampNeg) V L).bind fun r2 => if inB r2.1 792 then if inB x2 16 then (if (r2.2.1 21 r2.1.toNatClampNeg) = (r2.2.1 34 x2.toNatClampNeg) then k2 (x1, (x2 + 1), r2.2.1, r2.2.2) else some (0, r2.2.1, r2.2.2)) else none else none else none)
def f_isBag (x1 : Int32) (V : zI) (L : zL) : Option (Int32 × zI × zL) :=
  zfix (b_isBag_2) FU (x1, 0, V, L)
set_option maxHeartbeats 4000000 in
set_option maxRecDepth 100000 in
theorem w_isBag_2 {M : zM} {D : va_G} {cy : Nat → ClassId} {ad : Nat → Nat} {r' : Int32 × zI × zL} (X : RX M (zR D cy ad) cX11_isBag 3 RX11 1 23) (Z : RZi M (zR D cy ad) .boolean r'.1 r'.2.1 r'.2.2) (n : Nat) : ∀ (x1 : Int32) (x2 : Int32) (V : zI) (L : zL) (ls : Array Slot) (hl : lv_has ls 3 [(0, .ref (ad 0)), (1, .int x1), (2, .int x2)]) (hf : zfix (b_isBag_2) n (x1, x2, V, L) = some r'), RG M (zR D cy ad) V L 2 ls [] := by
  induction n with
  | zero => intro x1 x2 V L ls hl hf; cases hf
  | succ n ih =>
  intro x1 x2 V L ls hl hf
  have hk2 : ∀ (x1 : Int32) (x2 : Int32) (V : zI) (L : zL) (ls : Array Slot), lv_has ls 3 [(0, .ref (ad 0)), (1, .int x1), (2, .int x2)] → zfix (b_isBag_2) n (x1, x2, V, L) = some r' → RG M (zR D cy ad) V L 2 ls [] := ih
  have hf : b_isBag_2 (zfix (b_isBag_2) n) (x1, x2, V, L) = some r' := hf
  generalize zfix (b_isBag_2) n = k2 at hk2 hf
  unfold b_isBag_2 at hf
  clear ih
  refine z_iload_n X dX11_isBag_2 rfl (lv_at hl 2 rfl) ?_
  refine z_aload_n X dX11_isBag_3 rfl (lv_at hl 0 rfl) ?_
  refine m_geti X ff_60 dX11_isBag_4 ?_
  refine z_icmp_ge (tgt := 44) X dX11_isBag_7 (by decide) (fun c_ => ?_) (fun c_ => ?_)
  · have hf := (if_pos c_).symm.trans hf
    refine z_iconst (v := 1) X dX11_isBag_44 (by decide) ?_
    exact m_iret X Z hf (by decide) dX11_isBag_45
  · have hf := (if_neg c_).symm.trans hf
    refine z_aload_n X dX11_isBag_10 rfl (lv_at hl 0 rfl) ?_
    refine m_geta X ff_40 dX11_isBag_11 ?_
    refine z_aload_n X dX11_isBag_14 rfl (lv_at hl 0 rfl) ?_
    refine z_iconst (v := 0) X dX11_isBag_15 (by decide) ?_
    refine z_iload_n X dX11_isBag_16 rfl (lv_at hl 1 rfl) ?_
    refine z_aload_n X dX11_isBag_17 rfl (lv_at hl 0 rfl) ?_
    refine m_geta X ff_61 dX11_isBag_18 ?_
    refine z_iload_n X dX11_isBag_21 rfl (lv_at hl 2 rfl) ?_
    obtain ⟨hb1, hf⟩ := z_ite hf
    refine m_iald X pa_33 hb1 dX11_isBag_22 ?_
    obtain ⟨r2, hc2, hf⟩ := z_bind hf
    refine m_callVi [.int 0, .int x1, .int (V 33 x2.toNatClampNeg)] X hl.1 (c_at D cy ad hc2) gm_at pd_at rfl ⟨by decide, by decide⟩ (Nat.le_of_ble_eq_true rfl) rfl dX11_isBag_23 ?_
    obtain ⟨hb3, hf⟩ := z_ite hf
    refine m_iald X pa_21 hb3 dX11_isBag_26 ?_
    refine z_aload_n X dX11_isBag_27 rfl (lv_at hl 0 rfl) ?_
    refine m_geta X ff_62 dX11_isBag_28 ?_
    refine z_iload_n X dX11_isBag_31 rfl (lv_at hl 2 rfl) ?_
    obtain ⟨hb4, hf⟩ := z_ite hf
    refine m_iald X pa_34 hb4 dX11_isBag_32 ?_
    refine z_icmp_eq (tgt := 38) X dX11_isBag_33 (by decide) (fun c_ => ?_) (fun c_ => ?_)
    · have hf := (if_pos c_).symm.trans hf
      refine z_iinc (v := x2 + 1) (k0 := 2) (lv' := [(2, .int (x2 + 1)), (0, .ref (ad 0)), (1, .int x1)]) X dX11_isBag_38 hl rfl rfl (by decide) rfl (fun ls hl => ?_)
      refine z_goto (tgt := 2) X dX11_isBag_41 (by decide) ?_
      exact hk2 x1 (x2 + 1) r2.2.1 r2.2.2 ls (lv_sub hl [1, 2, 0] rfl) hf
    · have hf := (if_neg c_).symm.trans hf
      refine z_iconst (v := 0) X dX11_isBag_36 (by decide) ?_
      exact m_iret X Z hf (by decide) dX11_isBag_37

set_option maxHeartbeats 4000000 in
set_option maxRecDepth 100000 in
theorem w_isBag {M : zM} {D : va_G} {cy : Nat → ClassId} {ad : Nat → Nat} {r' : Int32 × zI × zL} (X : RX M (zR D cy ad) cX11_isBag 3 RX11 1 23) (Z : RZi M (zR D cy ad) .boolean r'.1 r'.2.1 r'.2.2) (x1 : Int32) (V : zI) (L : zL) (ls : Array Slot) (hl : lv_has ls 3 [(0, .ref (ad 0)), (1, .int x1)]) (hf : f_isBag x1 V L = some r') : RG M (zR D cy ad) V L 0 ls [] := by
  unfold f_isBag at hf
  refine z_iconst (v := 0) X dX11_isBag_0 (by decide) ?_
  refine z_istore_n (lv' := [(2, .int 0), (0, .ref (ad 0)), (1, .int x1)]) X dX11_isBag_1 rfl hl (by decide) rfl (fun ls hl => ?_)
  exact w_isBag_2 X Z FU x1 0 V L ls (lv_sub hl [1, 2, 0] rfl) hf

theorem c_isBag (D : va_G) (cy : Nat → ClassId) (ad : Nat → Nat) {x1 : Int32} {V : zI} {L : zL} {r' : Int32 × zI × zL} (hf : f_isBag x1 V L = some r') : RMi (zR D cy ad) yX11_isBag cX11_isBag 3 .boolean 1 23 [.ref (ad 0), .int x1] V L r'.1 r'.2.1 r'.2.2 :=
  RMi.of (by decide) zR_nd (Nat.le_of_ble_eq_true rfl) (fun M X Z ls hl => w_isBag X Z x1 V L ls hl hf)
def b_whose_112 (k68 : Int32 × Int32 × Int32 × Int32 × Int32 × zI × zL → Option (Int32 × zI × zL)) (k92 : Int32 × Int32 × Int32 × Int32 × Int32 × Int32 × Int32 × zI × zL → Option (Int32 × zI × zL)) (k112 : Int32 × Int32 × Int32 × Int32 × Int32 × Int32 × Int32 × Int32 × Int32 × zI × zL → Option (Int32 × zI × zL)) : Int32 × Int32 × Int32 × Int32 × Int32 × Int32 × Int32 × Int32 × Int32 × zI × zL → Option (Int32 × zI × zL) := fun ⟨x1, x2, x3, x4, x5, x6, x7, x8, x9, V, L⟩ =>
  if inB (V 0 13) 2 then (if (V 2 (V 0 13).toNatClampNeg) ≤ x9 then (if x8 ≤ x6 then k92 (x1, x2, x3, x4, x5, x6, (x7 + 1), V, L) else k92 (x1, x2, x3, x4, x5, x8, (x7 + 1), V, L)) else (f_has2 x2 x7).bind fun r2 => (if r2 = 0 then k112 (x1, x2, x3, x4, x5, x6, x7, (x8 + 0), (x9 + 1), V, L) else (f_has2 x2 x9).bind fun r3 => (if r3 = 0 then k112 (x1, x2, x3, x4, x5, x6, x7, (x8 + 0), (x9 + 1), V, L) else (f_at 0 x7 x5 V L).bind fun r4 => if inB r4.1 792 then (f_at 0 x9 x5 r4.2.1 r4.2.2).bind fun r6 => if inB r6.1 792 then (if (r4.2.1 21 r4.1.toNatClampNeg) = (r6.2.1 21 r6.1.toNatClampNeg) then k112 (x1, x2, x3, x4, x5, x6, x7, (x8 + 1), (x9 + 1), r6.2.1, r6.2.2) else k112 (x1, x2, x3, x4, x5, x6, x7, (x8 + 0), (x9 + 1), r6.2.1, r6.2.2)) else none else none))) else none
def b_whose_92 (k68 : Int32 × Int32 × Int32 × Int32 × Int32 × zI × zL → Option (Int32 × zI × zL)) (k92 : Int32 × Int32 × Int32 × Int32 × Int32 × Int32 × Int32 × zI × zL → Option (Int32 × zI × zL)) : Int32 × Int32 × Int32 × Int32 × Int32 × Int32 × Int32 × zI × zL → Option (Int32 × zI × zL) := fun ⟨x1, x2, x3, x4, x5, x6, x7, V, L⟩ =>
  if inB (V 0 13) 2 then (if (V 2 (V 0 13).toNatClampNeg) ≤ x7 then (if x6 < x4 then k68 (x1, x2, x5, x6, (x5 + 1), V, L) else k68 (x1, x2, x3, x4, (x5 + 1), V, L)) else zfix (b_whose_112 k68 k92) FU (x1, x2, x3, x4, x5, x6, x7, 0, 0, V, L)) else none
def f_whose_236 (x1 : Int32) (x3 : Int32) (x4 : Int32) (V : zI) (L : zL) : Option (Int32 × zI × zL) :=
  (if x3 = (-1) then some (x3, V, L) else (if x1 = 1 then some (x3, V, L) else some (x4, V, L)))
def b_whose_68 (k68 : Int32 × Int32 × Int32 × Int32 × Int32 × zI × zL → Option (Int32 × zI × zL)) : Int32 × Int32 × Int32 × Int32 × Int32 × zI × zL → Option (Int32 × zI × zL) := fun ⟨x1, x2, x3, x4, x5, V, L⟩ =>
  if inB (V 0 13) 2 then (if (V 2 (V 0 13).toNatClampNeg) ≤ x5 then f_whose_236 x1 x3 x4 V L else (if x2 = 0 then f_whose_236 x1 x3 x4 V L else zfix (b_whose_92 k68) FU (x1, x2, x3, x4, x5, 0, 0, V, L))) else none
def b_whose_15 (k15 : Int32 × Int32 × Int32 × zI × zL → Option (Int32 × zI × zL)) : Int32 × Int32 × Int32 × zI × zL → Option (Int32 × zI × zL) := fun ⟨x1, x2, x3, V, L⟩ =>
  if inB (V 0 13) 2 then (if (V 2 (V 0 13).toNatClampNeg) ≤ x3 then (if x1 = 0 then some (x2, V, L) else zfix (b_whose_68) FU (x1, x2, (-1), 100000000, 0, V, L)) else (f_isBag x3 V L).bind fun r2 => (if r2.1 = 0 then k15 (x1, (x2 ||| 0), (x3 + 1), r2.2.1, r2.2.2) else k15 (x1, (x2 ||| ((1 : Int32) <<< (x3 &&& 31))), (x3 + 1), r2.2.1, r2.2.2))) else none
def f_whose (x1 : Int32) (V : zI) (L : zL) : Option (Int32 × zI × zL) :=
  (f_is x1 0 2).bind fun r1 => (if r1 = 0 then some ((-1), V, L) else zfix (b_whose_15) FU (x1, 0, 0, V, L))
set_option maxHeartbeats 4000000 in
set_option maxRecDepth 100000 in
theorem w_whose_112 {M : zM} {D : va_G} {cy : Nat → ClassId} {ad : Nat → Nat} {r' : Int32 × zI × zL} (X : RX M (zR D cy ad) cX11_whose 10 RX11 2 45) (Z : RZi M (zR D cy ad) .int r'.1 r'.2.1 r'.2.2) {k68 : Int32 × Int32 × Int32 × Int32 × Int32 × zI × zL → Option (Int32 × zI × zL)} {k92 : Int32 × Int32 × Int32 × Int32 × Int32 × Int32 × Int32 × zI × zL → Option (Int32 × zI × zL)} (hk68 : ∀ (x1 : Int32) (x2 : Int32) (x3 : Int32) (x4 : Int32) (x5 : Int32) (V : zI) (L : zL) (ls : Array Slot), lv_has ls 10 [(0, .ref (ad 0)), (1, .int x1), (2, .int x2), (3, .int x3), (4, .int x4), (5, .int x5)] → k68 (x1, x2, x3, x4, x5, V, L) = some r' → RG M (zR D cy ad) V L 68 ls []) (hk92 : ∀ (x1 : Int32) (x2 : Int32) (x3 : Int32) (x4 : Int32) (x5 : Int32) (x6 : Int32) (x7 : Int32) (V : zI) (L : zL) (ls : Array Slot), lv_has ls 10 [(0, .ref (ad 0)), (1, .int x1), (2, .int x2), (3, .int x3), (4, .int x4), (5, .int x5), (6, .int x6), (7, .int x7)] → k92 (x1, x2, x3, x4, x5, x6, x7, V, L) = some r' → RG M (zR D cy ad) V L 92 ls []) (n : Nat) : ∀ (x1 : Int32) (x2 : Int32) (x3 : Int32) (x4 : Int32) (x5 : Int32) (x6 : Int32) (x7 : Int32) (x8 : Int32) (x9 : Int32) (V : zI) (L : zL) (ls : Array Slot) (hl : lv_has ls 10 [(0, .ref (ad 0)), (1, .int x1), (2, .int x2), (3, .int x3), (4, .int x4), (5, .int x5), (6, .int x6), (7, .int x7), (8, .int x8), (9, .int x9)]) (hf : zfix (b_whose_112 k68 k92) n (x1, x2, x3, x4, x5, x6, x7, x8, x9, V, L) = some r'), RG M (zR D cy ad) V L 112 ls [] := by
  induction n with
  | zero => intro x1 x2 x3 x4 x5 x6 x7 x8 x9 V L ls hl hf; cases hf
  | succ n ih =>
  intro x1 x2 x3 x4 x5 x6 x7 x8 x9 V L ls hl hf
  have hk112 : ∀ (x1 : Int32) (x2 : Int32) (x3 : Int32) (x4 : Int32) (x5 : Int32) (x6 : Int32) (x7 : Int32) (x8 : Int32) (x9 : Int32) (V : zI) (L : zL) (ls : Array Slot), lv_has ls 10 [(0, .ref (ad 0)), (1, .int x1), (2, .int x2), (3, .int x3), (4, .int x4), (5, .int x5), (6, .int x6), (7, .int x7), (8, .int x8), (9, .int x9)] → zfix (b_whose_112 k68 k92) n (x1, x2, x3, x4, x5, x6, x7, x8, x9, V, L) = some r' → RG M (zR D cy ad) V L 112 ls [] := ih
  have hf : b_whose_112 k68 k92 (zfix (b_whose_112 k68 k92) n) (x1, x2, x3, x4, x5, x6, x7, x8, x9, V, L) = some r' := hf
  generalize zfix (b_whose_112 k68 k92) n = k112 at hk112 hf
  unfold b_whose_112 at hf
  clear ih
  refine z_iload X dX11_whose_112 (lv_at hl 9 rfl) ?_
  refine z_aload_n X dX11_whose_114 rfl (lv_at hl 0 rfl) ?_
  refine m_geta X ff_14 dX11_whose_115 ?_
  refine z_aload_n X dX11_whose_118 rfl (lv_at hl 0 rfl) ?_
  refine m_geti X ff_13 dX11_whose_119 ?_
  obtain ⟨hb1, hf⟩ := z_ite hf
  refine m_iald X pa_2 hb1 dX11_whose_122 ?_
  refine z_icmp_ge (tgt := 191) X dX11_whose_123 (by decide) (fun c_ => ?_) (fun c_ => ?_)
  · have hf := (if_pos c_).symm.trans hf
    refine z_iload X dX11_whose_191 (lv_at hl 8 rfl) ?_
    refine z_iload X dX11_whose_193 (lv_at hl 6 rfl) ?_
    refine z_icmp_le (tgt := 203) X dX11_whose_195 (by decide) (fun c_ => ?_) (fun c_ => ?_)
    · have hf := (if_pos c_).symm.trans hf
      refine z_iload X dX11_whose_203 (lv_at hl 6 rfl) ?_
      refine z_istore (lv' := [(6, .int x6), (0, .ref (ad 0)), (1, .int x1), (2, .int x2), (3, .int x3), (4, .int x4), (5, .int x5), (7, .int x7), (8, .int x8), (9, .int x9)]) X dX11_whose_205 hl (by decide) rfl (fun ls hl => ?_)
      refine z_iinc (v := x7 + 1) (k0 := 7) (lv' := [(7, .int (x7 + 1)), (6, .int x6), (0, .ref (ad 0)), (1, .int x1), (2, .int x2), (3, .int x3), (4, .int x4), (5, .int x5), (8, .int x8), (9, .int x9)]) X dX11_whose_207 hl rfl rfl (by decide) rfl (fun ls hl => ?_)
      refine z_goto (tgt := 92) X dX11_whose_210 (by decide) ?_
      exact hk92 x1 x2 x3 x4 x5 x6 (x7 + 1) V L ls (lv_sub hl [2, 3, 4, 5, 6, 7, 1, 0] rfl) hf
    · have hf := (if_neg c_).symm.trans hf
      refine z_iload X dX11_whose_198 (lv_at hl 8 rfl) ?_
      refine z_goto (tgt := 205) X dX11_whose_200 (by decide) ?_
      refine z_istore (lv' := [(6, .int x8), (0, .ref (ad 0)), (1, .int x1), (2, .int x2), (3, .int x3), (4, .int x4), (5, .int x5), (7, .int x7), (8, .int x8), (9, .int x9)]) X dX11_whose_205 hl (by decide) rfl (fun ls hl => ?_)
      refine z_iinc (v := x7 + 1) (k0 := 7) (lv' := [(7, .int (x7 + 1)), (6, .int x8), (0, .ref (ad 0)), (1, .int x1), (2, .int x2), (3, .int x3), (4, .int x4), (5, .int x5), (8, .int x8), (9, .int x9)]) X dX11_whose_207 hl rfl rfl (by decide) rfl (fun ls hl => ?_)
      refine z_goto (tgt := 92) X dX11_whose_210 (by decide) ?_
      exact hk92 x1 x2 x3 x4 x5 x8 (x7 + 1) V L ls (lv_sub hl [2, 3, 4, 5, 6, 7, 1, 0] rfl) hf
  · have hf := (if_neg c_).symm.trans hf
    refine z_iload X dX11_whose_126 (lv_at hl 8 rfl) ?_
    refine z_iload_n X dX11_whose_128 rfl (lv_at hl 2 rfl) ?_
    refine z_iload X dX11_whose_129 (lv_at hl 7 rfl) ?_
    obtain ⟨r2, hc2, hf⟩ := z_bind hf
    refine m_callSi [.int x2, .int x7] X hl.1 (c_has2 D cy ad hc2) gm_has2 pd_has2 rfl ⟨by decide, by decide⟩ (Nat.le_of_ble_eq_true rfl) rfl dX11_whose_131 ?_
    refine z_if_eq (tgt := 181) X dX11_whose_134 (by decide) (fun c_ => ?_) (fun c_ => ?_)
    · have hf := (if_pos c_).symm.trans hf
      refine z_iconst (v := 0) X dX11_whose_181 (by decide) ?_
      refine z_iadd X dX11_whose_182 ?_
      refine z_istore (lv' := [(8, .int (x8 + 0)), (0, .ref (ad 0)), (1, .int x1), (2, .int x2), (3, .int x3), (4, .int x4), (5, .int x5), (6, .int x6), (7, .int x7), (9, .int x9)]) X dX11_whose_183 hl (by decide) rfl (fun ls hl => ?_)
      refine z_iinc (v := x9 + 1) (k0 := 9) (lv' := [(9, .int (x9 + 1)), (8, .int (x8 + 0)), (0, .ref (ad 0)), (1, .int x1), (2, .int x2), (3, .int x3), (4, .int x4), (5, .int x5), (6, .int x6), (7, .int x7)]) X dX11_whose_185 hl rfl rfl (by decide) rfl (fun ls hl => ?_)
      refine z_goto (tgt := 112) X dX11_whose_188 (by decide) ?_
      exact hk112 x1 x2 x3 x4 x5 x6 x7 (x8 + 0) (x9 + 1) V L ls (lv_sub hl [2, 3, 4, 5, 6, 7, 8, 9, 1, 0] rfl) hf
    · have hf := (if_neg c_).symm.trans hf
      refine z_iload_n X dX11_whose_137 rfl (lv_at hl 2 rfl) ?_
      refine z_iload X dX11_whose_138 (lv_at hl 9 rfl) ?_
      obtain ⟨r3, hc3, hf⟩ := z_bind hf
      refine m_callSi [.int x2, .int x9] X hl.1 (c_has2 D cy ad hc3) gm_has2 pd_has2 rfl ⟨by decide, by decide⟩ (Nat.le_of_ble_eq_true rfl) rfl dX11_whose_140 ?_
      refine z_if_eq (tgt := 181) X dX11_whose_143 (by decide) (fun c_ => ?_) (fun c_ => ?_)
      · have hf := (if_pos c_).symm.trans hf
        refine z_iconst (v := 0) X dX11_whose_181 (by decide) ?_
        refine z_iadd X dX11_whose_182 ?_
        refine z_istore (lv' := [(8, .int (x8 + 0)), (0, .ref (ad 0)), (1, .int x1), (2, .int x2), (3, .int x3), (4, .int x4), (5, .int x5), (6, .int x6), (7, .int x7), (9, .int x9)]) X dX11_whose_183 hl (by decide) rfl (fun ls hl => ?_)
        refine z_iinc (v := x9 + 1) (k0 := 9) (lv' := [(9, .int (x9 + 1)), (8, .int (x8 + 0)), (0, .ref (ad 0)), (1, .int x1), (2, .int x2), (3, .int x3), (4, .int x4), (5, .int x5), (6, .int x6), (7, .int x7)]) X dX11_whose_185 hl rfl rfl (by decide) rfl (fun ls hl => ?_)
        refine z_goto (tgt := 112) X dX11_whose_188 (by decide) ?_
        exact hk112 x1 x2 x3 x4 x5 x6 x7 (x8 + 0) (x9 + 1) V L ls (lv_sub hl [2, 3, 4, 5, 6, 7, 8, 9, 1, 0] rfl) hf
      · have hf := (if_neg c_).symm.trans hf
        refine z_aload_n X dX11_whose_146 rfl (lv_at hl 0 rfl) ?_
        refine m_geta X ff_40 dX11_whose_147 ?_
        refine z_aload_n X dX11_whose_150 rfl (lv_at hl 0 rfl) ?_
        refine z_iconst (v := 0) X dX11_whose_151 (by decide) ?_
        refine z_iload X dX11_whose_152 (lv_at hl 7 rfl) ?_
        refine z_iload X dX11_whose_154 (lv_at hl 5 rfl) ?_
        obtain ⟨r4, hc4, hf⟩ := z_bind hf
        refine m_callVi [.int 0, .int x7, .int x5] X hl.1 (c_at D cy ad hc4) gm_at pd_at rfl ⟨by decide, by decide⟩ (Nat.le_of_ble_eq_true rfl) rfl dX11_whose_156 ?_
        obtain ⟨hb5, hf⟩ := z_ite hf
        refine m_iald X pa_21 hb5 dX11_whose_159 ?_
        refine z_aload_n X dX11_whose_160 rfl (lv_at hl 0 rfl) ?_
        refine m_geta X ff_40 dX11_whose_161 ?_
        refine z_aload_n X dX11_whose_164 rfl (lv_at hl 0 rfl) ?_
        refine z_iconst (v := 0) X dX11_whose_165 (by decide) ?_
        refine z_iload X dX11_whose_166 (lv_at hl 9 rfl) ?_
        refine z_iload X dX11_whose_168 (lv_at hl 5 rfl) ?_
        obtain ⟨r6, hc6, hf⟩ := z_bind hf
        refine m_callVi [.int 0, .int x9, .int x5] X hl.1 (c_at D cy ad hc6) gm_at pd_at rfl ⟨by decide, by decide⟩ (Nat.le_of_ble_eq_true rfl) rfl dX11_whose_170 ?_
        obtain ⟨hb7, hf⟩ := z_ite hf
        refine m_iald X pa_21 hb7 dX11_whose_173 ?_
        refine z_icmp_ne (tgt := 181) X dX11_whose_174 (by decide) (fun c_ => ?_) (fun c_ => ?_)
        · have hf := (if_neg c_).symm.trans hf
          refine z_iconst (v := 0) X dX11_whose_181 (by decide) ?_
          refine z_iadd X dX11_whose_182 ?_
          refine z_istore (lv' := [(8, .int (x8 + 0)), (0, .ref (ad 0)), (1, .int x1), (2, .int x2), (3, .int x3), (4, .int x4), (5, .int x5), (6, .int x6), (7, .int x7), (9, .int x9)]) X dX11_whose_183 hl (by decide) rfl (fun ls hl => ?_)
          refine z_iinc (v := x9 + 1) (k0 := 9) (lv' := [(9, .int (x9 + 1)), (8, .int (x8 + 0)), (0, .ref (ad 0)), (1, .int x1), (2, .int x2), (3, .int x3), (4, .int x4), (5, .int x5), (6, .int x6), (7, .int x7)]) X dX11_whose_185 hl rfl rfl (by decide) rfl (fun ls hl => ?_)
          refine z_goto (tgt := 112) X dX11_whose_188 (by decide) ?_
          exact hk112 x1 x2 x3 x4 x5 x6 x7 (x8 + 0) (x9 + 1) r6.2.1 r6.2.2 ls (lv_sub hl [2, 3, 4, 5, 6, 7, 8, 9, 1, 0] rfl) hf
        · have hf := (if_pos c_).symm.trans hf
          refine z_iconst (v := 1) X dX11_whose_177 (by decide) ?_
          refine z_goto (tgt := 182) X dX11_whose_178 (by decide) ?_
          refine z_iadd X dX11_whose_182 ?_
          refine z_istore (lv' := [(8, .int (x8 + 1)), (0, .ref (ad 0)), (1, .int x1), (2, .int x2), (3, .int x3), (4, .int x4), (5, .int x5), (6, .int x6), (7, .int x7), (9, .int x9)]) X dX11_whose_183 hl (by decide) rfl (fun ls hl => ?_)
          refine z_iinc (v := x9 + 1) (k0 := 9) (lv' := [(9, .int (x9 + 1)), (8, .int (x8 + 1)), (0, .ref (ad 0)), (1, .int x1), (2, .int x2), (3, .int x3), (4, .int x4), (5, .int x5), (6, .int x6), (7, .int x7)]) X dX11_whose_185 hl rfl rfl (by decide) rfl (fun ls hl => ?_)
          refine z_goto (tgt := 112) X dX11_whose_188 (by decide) ?_
          exact hk112 x1 x2 x3 x4 x5 x6 x7 (x8 + 1) (x9 + 1) r6.2.1 r6.2.2 ls (lv_sub hl [2, 3, 4, 5, 6, 7, 8, 9, 1, 0] rfl) hf

set_option maxHeartbeats 4000000 in
set_option maxRecDepth 100000 in
theorem w_whose_92 {M : zM} {D : va_G} {cy : Nat → ClassId} {ad : Nat → Nat} {r' : Int32 × zI × zL} (X : RX M (zR D cy ad) cX11_whose 10 RX11 2 45) (Z : RZi M (zR D cy ad) .int r'.1 r'.2.1 r'.2.2) {k68 : Int32 × Int32 × Int32 × Int32 × Int32 × zI × zL → Option (Int32 × zI × zL)} (hk68 : ∀ (x1 : Int32) (x2 : Int32) (x3 : Int32) (x4 : Int32) (x5 : Int32) (V : zI) (L : zL) (ls : Array Slot), lv_has ls 10 [(0, .ref (ad 0)), (1, .int x1), (2, .int x2), (3, .int x3), (4, .int x4), (5, .int x5)] → k68 (x1, x2, x3, x4, x5, V, L) = some r' → RG M (zR D cy ad) V L 68 ls []) (n : Nat) : ∀ (x1 : Int32) (x2 : Int32) (x3 : Int32) (x4 : Int32) (x5 : Int32) (x6 : Int32) (x7 : Int32) (V : zI) (L : zL) (ls : Array Slot) (hl : lv_has ls 10 [(0, .ref (ad 0)), (1, .int x1), (2, .int x2), (3, .int x3), (4, .int x4), (5, .int x5), (6, .int x6), (7, .int x7)]) (hf : zfix (b_whose_92 k68) n (x1, x2, x3, x4, x5, x6, x7, V, L) = some r'), RG M (zR D cy ad) V L 92 ls [] := by
  induction n with
  | zero => intro x1 x2 x3 x4 x5 x6 x7 V L ls hl hf; cases hf
  | succ n ih =>
  intro x1 x2 x3 x4 x5 x6 x7 V L ls hl hf
  have hk92 : ∀ (x1 : Int32) (x2 : Int32) (x3 : Int32) (x4 : Int32) (x5 : Int32) (x6 : Int32) (x7 : Int32) (V : zI) (L : zL) (ls : Array Slot), lv_has ls 10 [(0, .ref (ad 0)), (1, .int x1), (2, .int x2), (3, .int x3), (4, .int x4), (5, .int x5), (6, .int x6), (7, .int x7)] → zfix (b_whose_92 k68) n (x1, x2, x3, x4, x5, x6, x7, V, L) = some r' → RG M (zR D cy ad) V L 92 ls [] := ih
  have hf : b_whose_92 k68 (zfix (b_whose_92 k68) n) (x1, x2, x3, x4, x5, x6, x7, V, L) = some r' := hf
  generalize zfix (b_whose_92 k68) n = k92 at hk92 hf
  unfold b_whose_92 at hf
  clear ih
  refine z_iload X dX11_whose_92 (lv_at hl 7 rfl) ?_
  refine z_aload_n X dX11_whose_94 rfl (lv_at hl 0 rfl) ?_
  refine m_geta X ff_14 dX11_whose_95 ?_
  refine z_aload_n X dX11_whose_98 rfl (lv_at hl 0 rfl) ?_
  refine m_geti X ff_13 dX11_whose_99 ?_
  obtain ⟨hb1, hf⟩ := z_ite hf
  refine m_iald X pa_2 hb1 dX11_whose_102 ?_
  refine z_icmp_ge (tgt := 213) X dX11_whose_103 (by decide) (fun c_ => ?_) (fun c_ => ?_)
  · have hf := (if_pos c_).symm.trans hf
    refine z_iload X dX11_whose_213 (lv_at hl 6 rfl) ?_
    refine z_iload X dX11_whose_215 (lv_at hl 4 rfl) ?_
    refine z_icmp_lt (tgt := 223) X dX11_whose_217 (by decide) (fun c_ => ?_) (fun c_ => ?_)
    · have hf := (if_pos c_).symm.trans hf
      refine z_iload X dX11_whose_223 (lv_at hl 6 rfl) ?_
      refine z_istore (lv' := [(4, .int x6), (0, .ref (ad 0)), (1, .int x1), (2, .int x2), (3, .int x3), (5, .int x5), (6, .int x6), (7, .int x7)]) X dX11_whose_225 hl (by decide) rfl (fun ls hl => ?_)
      refine z_iload X dX11_whose_227 (lv_at hl 5 rfl) ?_
      refine z_istore_n (lv' := [(3, .int x5), (4, .int x6), (0, .ref (ad 0)), (1, .int x1), (2, .int x2), (5, .int x5), (6, .int x6), (7, .int x7)]) X dX11_whose_229 rfl hl (by decide) rfl (fun ls hl => ?_)
      refine z_iinc (v := x5 + 1) (k0 := 5) (lv' := [(5, .int (x5 + 1)), (3, .int x5), (4, .int x6), (0, .ref (ad 0)), (1, .int x1), (2, .int x2), (6, .int x6), (7, .int x7)]) X dX11_whose_230 hl rfl rfl (by decide) rfl (fun ls hl => ?_)
      refine z_goto (tgt := 68) X dX11_whose_233 (by decide) ?_
      exact hk68 x1 x2 x5 x6 (x5 + 1) V L ls (lv_sub hl [3, 4, 5, 1, 2, 0] rfl) hf
    · have hf := (if_neg c_).symm.trans hf
      refine z_goto (tgt := 230) X dX11_whose_220 (by decide) ?_
      refine z_iinc (v := x5 + 1) (k0 := 5) (lv' := [(5, .int (x5 + 1)), (0, .ref (ad 0)), (1, .int x1), (2, .int x2), (3, .int x3), (4, .int x4), (6, .int x6), (7, .int x7)]) X dX11_whose_230 hl rfl rfl (by decide) rfl (fun ls hl => ?_)
      refine z_goto (tgt := 68) X dX11_whose_233 (by decide) ?_
      exact hk68 x1 x2 x3 x4 (x5 + 1) V L ls (lv_sub hl [1, 2, 3, 4, 5, 0] rfl) hf
  · have hf := (if_neg c_).symm.trans hf
    refine z_iconst (v := 0) X dX11_whose_106 (by decide) ?_
    refine z_istore (lv' := [(8, .int 0), (0, .ref (ad 0)), (1, .int x1), (2, .int x2), (3, .int x3), (4, .int x4), (5, .int x5), (6, .int x6), (7, .int x7)]) X dX11_whose_107 hl (by decide) rfl (fun ls hl => ?_)
    refine z_iconst (v := 0) X dX11_whose_109 (by decide) ?_
    refine z_istore (lv' := [(9, .int 0), (8, .int 0), (0, .ref (ad 0)), (1, .int x1), (2, .int x2), (3, .int x3), (4, .int x4), (5, .int x5), (6, .int x6), (7, .int x7)]) X dX11_whose_110 hl (by decide) rfl (fun ls hl => ?_)
    exact w_whose_112 X Z hk68 hk92 FU x1 x2 x3 x4 x5 x6 x7 0 0 V L ls (lv_sub hl [2, 3, 4, 5, 6, 7, 8, 9, 1, 0] rfl) hf

set_option maxHeartbeats 4000000 in
set_option maxRecDepth 100000 in
theorem w_whose_236 {M : zM} {D : va_G} {cy : Nat → ClassId} {ad : Nat → Nat} {r' : Int32 × zI × zL} (X : RX M (zR D cy ad) cX11_whose 10 RX11 2 45) (Z : RZi M (zR D cy ad) .int r'.1 r'.2.1 r'.2.2) (x1 : Int32) (x3 : Int32) (x4 : Int32) (V : zI) (L : zL) (ls : Array Slot) (hl : lv_has ls 10 [(0, .ref (ad 0)), (1, .int x1), (3, .int x3), (4, .int x4)]) (hf : f_whose_236 x1 x3 x4 V L = some r') : RG M (zR D cy ad) V L 236 ls [] := by
  unfold f_whose_236 at hf
  refine z_iload_n X dX11_whose_236 rfl (lv_at hl 2 rfl) ?_
  refine z_iconst (v := -1) X dX11_whose_237 (by decide) ?_
  refine z_icmp_eq (tgt := 246) X dX11_whose_238 (by decide) (fun c_ => ?_) (fun c_ => ?_)
  · have hf := (if_pos c_).symm.trans hf
    refine z_iload_n X dX11_whose_246 rfl (lv_at hl 2 rfl) ?_
    refine z_goto (tgt := 252) X dX11_whose_247 (by decide) ?_
    exact m_iret X Z hf rfl dX11_whose_252
  · have hf := (if_neg c_).symm.trans hf
    refine z_iload_n X dX11_whose_241 rfl (lv_at hl 1 rfl) ?_
    refine z_iconst (v := 1) X dX11_whose_242 (by decide) ?_
    refine z_icmp_ne (tgt := 250) X dX11_whose_243 (by decide) (fun c_ => ?_) (fun c_ => ?_)
    · have hf := (if_neg c_).symm.trans hf
      refine z_iload X dX11_whose_250 (lv_at hl 3 rfl) ?_
      exact m_iret X Z hf rfl dX11_whose_252
    · have hf := (if_pos c_).symm.trans hf
      refine z_iload_n X dX11_whose_246 rfl (lv_at hl 2 rfl) ?_
      refine z_goto (tgt := 252) X dX11_whose_247 (by decide) ?_
      exact m_iret X Z hf rfl dX11_whose_252

set_option maxHeartbeats 4000000 in
set_option maxRecDepth 100000 in
theorem w_whose_68 {M : zM} {D : va_G} {cy : Nat → ClassId} {ad : Nat → Nat} {r' : Int32 × zI × zL} (X : RX M (zR D cy ad) cX11_whose 10 RX11 2 45) (Z : RZi M (zR D cy ad) .int r'.1 r'.2.1 r'.2.2) (n : Nat) : ∀ (x1 : Int32) (x2 : Int32) (x3 : Int32) (x4 : Int32) (x5 : Int32) (V : zI) (L : zL) (ls : Array Slot) (hl : lv_has ls 10 [(0, .ref (ad 0)), (1, .int x1), (2, .int x2), (3, .int x3), (4, .int x4), (5, .int x5)]) (hf : zfix (b_whose_68) n (x1, x2, x3, x4, x5, V, L) = some r'), RG M (zR D cy ad) V L 68 ls [] := by
  induction n with
  | zero => intro x1 x2 x3 x4 x5 V L ls hl hf; cases hf
  | succ n ih =>
  intro x1 x2 x3 x4 x5 V L ls hl hf
  have hk68 : ∀ (x1 : Int32) (x2 : Int32) (x3 : Int32) (x4 : Int32) (x5 : Int32) (V : zI) (L : zL) (ls : Array Slot), lv_has ls 10 [(0, .ref (ad 0)), (1, .int x1), (2, .int x2), (3, .int x3), (4, .int x4), (5, .int x5)] → zfix (b_whose_68) n (x1, x2, x3, x4, x5, V, L) = some r' → RG M (zR D cy ad) V L 68 ls [] := ih
  have hf : b_whose_68 (zfix (b_whose_68) n) (x1, x2, x3, x4, x5, V, L) = some r' := hf
  generalize zfix (b_whose_68) n = k68 at hk68 hf
  unfold b_whose_68 at hf
  clear ih
  refine z_iload X dX11_whose_68 (lv_at hl 5 rfl) ?_
  refine z_aload_n X dX11_whose_70 rfl (lv_at hl 0 rfl) ?_
  refine m_geta X ff_14 dX11_whose_71 ?_
  refine z_aload_n X dX11_whose_74 rfl (lv_at hl 0 rfl) ?_
  refine m_geti X ff_13 dX11_whose_75 ?_
  obtain ⟨hb1, hf⟩ := z_ite hf
  refine m_iald X pa_2 hb1 dX11_whose_78 ?_
  refine z_icmp_ge (tgt := 236) X dX11_whose_79 (by decide) (fun c_ => ?_) (fun c_ => ?_)
  · have hf := (if_pos c_).symm.trans hf
    exact w_whose_236 X Z x1 x3 x4 V L ls (lv_sub hl [0, 1, 3, 4] rfl) hf
  · have hf := (if_neg c_).symm.trans hf
    refine z_iload_n X dX11_whose_82 rfl (lv_at hl 2 rfl) ?_
    refine z_if_eq (tgt := 236) X dX11_whose_83 (by decide) (fun c_ => ?_) (fun c_ => ?_)
    · have hf := (if_pos c_).symm.trans hf
      exact w_whose_236 X Z x1 x3 x4 V L ls (lv_sub hl [0, 1, 3, 4] rfl) hf
    · have hf := (if_neg c_).symm.trans hf
      refine z_iconst (v := 0) X dX11_whose_86 (by decide) ?_
      refine z_istore (lv' := [(6, .int 0), (0, .ref (ad 0)), (1, .int x1), (2, .int x2), (3, .int x3), (4, .int x4), (5, .int x5)]) X dX11_whose_87 hl (by decide) rfl (fun ls hl => ?_)
      refine z_iconst (v := 0) X dX11_whose_89 (by decide) ?_
      refine z_istore (lv' := [(7, .int 0), (6, .int 0), (0, .ref (ad 0)), (1, .int x1), (2, .int x2), (3, .int x3), (4, .int x4), (5, .int x5)]) X dX11_whose_90 hl (by decide) rfl (fun ls hl => ?_)
      exact w_whose_92 X Z hk68 FU x1 x2 x3 x4 x5 0 0 V L ls (lv_sub hl [2, 3, 4, 5, 6, 7, 1, 0] rfl) hf

set_option maxHeartbeats 4000000 in
set_option maxRecDepth 100000 in
theorem w_whose_15 {M : zM} {D : va_G} {cy : Nat → ClassId} {ad : Nat → Nat} {r' : Int32 × zI × zL} (X : RX M (zR D cy ad) cX11_whose 10 RX11 2 45) (Z : RZi M (zR D cy ad) .int r'.1 r'.2.1 r'.2.2) (n : Nat) : ∀ (x1 : Int32) (x2 : Int32) (x3 : Int32) (V : zI) (L : zL) (ls : Array Slot) (hl : lv_has ls 10 [(0, .ref (ad 0)), (1, .int x1), (2, .int x2), (3, .int x3)]) (hf : zfix (b_whose_15) n (x1, x2, x3, V, L) = some r'), RG M (zR D cy ad) V L 15 ls [] := by
  induction n with
  | zero => intro x1 x2 x3 V L ls hl hf; cases hf
  | succ n ih =>
  intro x1 x2 x3 V L ls hl hf
  have hk15 : ∀ (x1 : Int32) (x2 : Int32) (x3 : Int32) (V : zI) (L : zL) (ls : Array Slot), lv_has ls 10 [(0, .ref (ad 0)), (1, .int x1), (2, .int x2), (3, .int x3)] → zfix (b_whose_15) n (x1, x2, x3, V, L) = some r' → RG M (zR D cy ad) V L 15 ls [] := ih
  have hf : b_whose_15 (zfix (b_whose_15) n) (x1, x2, x3, V, L) = some r' := hf
  generalize zfix (b_whose_15) n = k15 at hk15 hf
  unfold b_whose_15 at hf
  clear ih
  refine z_iload_n X dX11_whose_15 rfl (lv_at hl 3 rfl) ?_
  refine z_aload_n X dX11_whose_16 rfl (lv_at hl 0 rfl) ?_
  refine m_geta X ff_14 dX11_whose_17 ?_
  refine z_aload_n X dX11_whose_20 rfl (lv_at hl 0 rfl) ?_
  refine m_geti X ff_13 dX11_whose_21 ?_
  obtain ⟨hb1, hf⟩ := z_ite hf
  refine m_iald X pa_2 hb1 dX11_whose_24 ?_
  refine z_icmp_ge (tgt := 52) X dX11_whose_25 (by decide) (fun c_ => ?_) (fun c_ => ?_)
  · have hf := (if_pos c_).symm.trans hf
    refine z_iload_n X dX11_whose_52 rfl (lv_at hl 1 rfl) ?_
    refine z_if_ne (tgt := 58) X dX11_whose_53 (by decide) (fun c_ => ?_) (fun c_ => ?_)
    · have hf := (if_neg c_).symm.trans hf
      refine z_iconst (v := -1) X dX11_whose_58 (by decide) ?_
      refine z_istore_n (lv' := [(3, .int (-1)), (0, .ref (ad 0)), (1, .int x1), (2, .int x2)]) X dX11_whose_59 rfl hl (by decide) rfl (fun ls hl => ?_)
      refine z_ldcw X dX11_whose_60 kc_373 ?_
      refine z_istore (lv' := [(4, .int 100000000), (3, .int (-1)), (0, .ref (ad 0)), (1, .int x1), (2, .int x2)]) X dX11_whose_63 hl (by decide) rfl (fun ls hl => ?_)
      refine z_iconst (v := 0) X dX11_whose_65 (by decide) ?_
      refine z_istore (lv' := [(5, .int 0), (4, .int 100000000), (3, .int (-1)), (0, .ref (ad 0)), (1, .int x1), (2, .int x2)]) X dX11_whose_66 hl (by decide) rfl (fun ls hl => ?_)
      exact w_whose_68 X Z FU x1 x2 (-1) 100000000 0 V L ls (lv_sub hl [3, 4, 5, 2, 1, 0] rfl) hf
    · have hf := (if_pos c_).symm.trans hf
      refine z_iload_n X dX11_whose_56 rfl (lv_at hl 2 rfl) ?_
      exact m_iret X Z hf rfl dX11_whose_57
  · have hf := (if_neg c_).symm.trans hf
    refine z_iload_n X dX11_whose_28 rfl (lv_at hl 2 rfl) ?_
    refine z_aload_n X dX11_whose_29 rfl (lv_at hl 0 rfl) ?_
    refine z_iload_n X dX11_whose_30 rfl (lv_at hl 3 rfl) ?_
    obtain ⟨r2, hc2, hf⟩ := z_bind hf
    refine m_callVi [.int x3] X hl.1 (c_isBag D cy ad hc2) gm_isBag pd_isBag rfl ⟨by decide, by decide⟩ (Nat.le_of_ble_eq_true rfl) rfl dX11_whose_31 ?_
    refine z_if_eq (tgt := 43) X dX11_whose_34 (by decide) (fun c_ => ?_) (fun c_ => ?_)
    · have hf := (if_pos c_).symm.trans hf
      refine z_iconst (v := 0) X dX11_whose_43 (by decide) ?_
      refine z_ior X dX11_whose_44 ?_
      refine z_istore_n (lv' := [(2, .int (x2 ||| 0)), (0, .ref (ad 0)), (1, .int x1), (3, .int x3)]) X dX11_whose_45 rfl hl (by decide) rfl (fun ls hl => ?_)
      refine z_iinc (v := x3 + 1) (k0 := 3) (lv' := [(3, .int (x3 + 1)), (2, .int (x2 ||| 0)), (0, .ref (ad 0)), (1, .int x1)]) X dX11_whose_46 hl rfl rfl (by decide) rfl (fun ls hl => ?_)
      refine z_goto (tgt := 15) X dX11_whose_49 (by decide) ?_
      exact hk15 x1 (x2 ||| 0) (x3 + 1) r2.2.1 r2.2.2 ls (lv_sub hl [2, 3, 1, 0] rfl) hf
    · have hf := (if_neg c_).symm.trans hf
      refine z_iconst (v := 1) X dX11_whose_37 (by decide) ?_
      refine z_iload_n X dX11_whose_38 rfl (lv_at hl 3 rfl) ?_
      refine z_ishl X dX11_whose_39 ?_
      refine z_goto (tgt := 44) X dX11_whose_40 (by decide) ?_
      refine z_ior X dX11_whose_44 ?_
      refine z_istore_n (lv' := [(2, .int (x2 ||| ((1 : Int32) <<< (x3 &&& 31)))), (0, .ref (ad 0)), (1, .int x1), (3, .int x3)]) X dX11_whose_45 rfl hl (by decide) rfl (fun ls hl => ?_)
      refine z_iinc (v := x3 + 1) (k0 := 3) (lv' := [(3, .int (x3 + 1)), (2, .int (x2 ||| ((1 : Int32) <<< (x3 &&& 31)))), (0, .ref (ad 0)), (1, .int x1)]) X dX11_whose_46 hl rfl rfl (by decide) rfl (fun ls hl => ?_)
      refine z_goto (tgt := 15) X dX11_whose_49 (by decide) ?_
      exact hk15 x1 (x2 ||| ((1 : Int32) <<< (x3 &&& 31))) (x3 + 1) r2.2.1 r2.2.2 ls (lv_sub hl [2, 3, 1, 0] rfl) hf

set_option maxHeartbeats 4000000 in
set_option maxRecDepth 100000 in
theorem w_whose {M : zM} {D : va_G} {cy : Nat → ClassId} {ad : Nat → Nat} {r' : Int32 × zI × zL} (X : RX M (zR D cy ad) cX11_whose 10 RX11 2 45) (Z : RZi M (zR D cy ad) .int r'.1 r'.2.1 r'.2.2) (x1 : Int32) (V : zI) (L : zL) (ls : Array Slot) (hl : lv_has ls 10 [(0, .ref (ad 0)), (1, .int x1)]) (hf : f_whose x1 V L = some r') : RG M (zR D cy ad) V L 0 ls [] := by
  unfold f_whose at hf
  refine z_iload_n X dX11_whose_0 rfl (lv_at hl 1 rfl) ?_
  refine z_iconst (v := 0) X dX11_whose_1 (by decide) ?_
  refine z_iconst (v := 2) X dX11_whose_2 (by decide) ?_
  obtain ⟨r1, hc1, hf⟩ := z_bind hf
  refine m_callSi [.int x1, .int 0, .int 2] X hl.1 (c_is D cy ad hc1) gm_is pd_is rfl ⟨by decide, by decide⟩ (Nat.le_of_ble_eq_true rfl) rfl dX11_whose_3 ?_
  refine z_if_ne (tgt := 11) X dX11_whose_6 (by decide) (fun c_ => ?_) (fun c_ => ?_)
  · have hf := (if_neg c_).symm.trans hf
    refine z_iconst (v := 0) X dX11_whose_11 (by decide) ?_
    refine z_istore_n (lv' := [(2, .int 0), (0, .ref (ad 0)), (1, .int x1)]) X dX11_whose_12 rfl hl (by decide) rfl (fun ls hl => ?_)
    refine z_iconst (v := 0) X dX11_whose_13 (by decide) ?_
    refine z_istore_n (lv' := [(3, .int 0), (2, .int 0), (0, .ref (ad 0)), (1, .int x1)]) X dX11_whose_14 rfl hl (by decide) rfl (fun ls hl => ?_)
    exact w_whose_15 X Z FU x1 0 0 V L ls (lv_sub hl [2, 3, 1, 0] rfl) hf
  · have hf := (if_pos c_).symm.trans hf
    refine z_iconst (v := -1) X dX11_whose_9 (by decide) ?_
    exact m_iret X Z hf rfl dX11_whose_10

theorem c_whose (D : va_G) (cy : Nat → ClassId) (ad : Nat → Nat) {x1 : Int32} {V : zI} {L : zL} {r' : Int32 × zI × zL} (hf : f_whose x1 V L = some r') : RMi (zR D cy ad) yX11_whose cX11_whose 10 .int 2 45 [.ref (ad 0), .int x1] V L r'.1 r'.2.1 r'.2.2 :=
  RMi.of (by decide) zR_nd (Nat.le_of_ble_eq_true rfl) (fun M X Z ls hl => w_whose X Z x1 V L ls hl hf)
def b_days_25 (k25 : Int32 × Int32 × Int32 × zI × zL → Option (Int32 × zI × zL)) : Int32 × Int32 × Int32 × zI × zL → Option (Int32 × zI × zL) := fun ⟨x1, x2, x3, V, L⟩ =>
  (if x1 ≤ x3 then some (x2, V, L) else (f_passes 0 0 V L).bind fun r1 => k25 (x1, (x2 + (r1.1 0 52)), (x3 + 1), r1.1, r1.2))
def f_days (x1 : Int32) (V : zI) (L : zL) : Option (Int32 × zI × zL) :=
  (f_isAhead x1 1 100 V L).bind fun r1 => (if r1.1 = 0 then (f_refuses 2 r1.2.1 r1.2.2).bind fun r3 => some (r3.1, r3.2.1, r3.2.2) else (f_keeps r1.2.1 r1.2.2).bind fun r2 => zfix (b_days_25) FU (x1, 0, 0, r2.1, r2.2))
set_option maxHeartbeats 4000000 in
set_option maxRecDepth 100000 in
theorem w_days_25 {M : zM} {D : va_G} {cy : Nat → ClassId} {ad : Nat → Nat} {r' : Int32 × zI × zL} (X : RX M (zR D cy ad) cX11_days 4 RX11 6 146) (Z : RZi M (zR D cy ad) .int r'.1 r'.2.1 r'.2.2) (n : Nat) : ∀ (x1 : Int32) (x2 : Int32) (x3 : Int32) (V : zI) (L : zL) (ls : Array Slot) (hl : lv_has ls 4 [(0, .ref (ad 0)), (1, .int x1), (2, .int x2), (3, .int x3)]) (hf : zfix (b_days_25) n (x1, x2, x3, V, L) = some r'), RG M (zR D cy ad) V L 25 ls [] := by
  induction n with
  | zero => intro x1 x2 x3 V L ls hl hf; cases hf
  | succ n ih =>
  intro x1 x2 x3 V L ls hl hf
  have hk25 : ∀ (x1 : Int32) (x2 : Int32) (x3 : Int32) (V : zI) (L : zL) (ls : Array Slot), lv_has ls 4 [(0, .ref (ad 0)), (1, .int x1), (2, .int x2), (3, .int x3)] → zfix (b_days_25) n (x1, x2, x3, V, L) = some r' → RG M (zR D cy ad) V L 25 ls [] := ih
  have hf : b_days_25 (zfix (b_days_25) n) (x1, x2, x3, V, L) = some r' := hf
  generalize zfix (b_days_25) n = k25 at hk25 hf
  unfold b_days_25 at hf
  clear ih
  refine z_iload_n X dX11_days_25 rfl (lv_at hl 3 rfl) ?_
  refine z_iload_n X dX11_days_26 rfl (lv_at hl 1 rfl) ?_
  refine z_icmp_ge (tgt := 49) X dX11_days_27 (by decide) (fun c_ => ?_) (fun c_ => ?_)
  · have hf := (if_pos c_).symm.trans hf
    refine z_iload_n X dX11_days_49 rfl (lv_at hl 2 rfl) ?_
    exact m_iret X Z hf rfl dX11_days_50
  · have hf := (if_neg c_).symm.trans hf
    refine z_aload_n X dX11_days_30 rfl (lv_at hl 0 rfl) ?_
    refine z_iconst (v := 0) X dX11_days_31 (by decide) ?_
    refine z_iconst (v := 0) X dX11_days_32 (by decide) ?_
    obtain ⟨r1, hc1, hf⟩ := z_bind hf
    refine m_callVv [.int 0, .int 0] X hl.1 (c_passes D cy ad hc1) gm_passes pd_passes rfl ⟨by decide, by decide⟩ (Nat.le_of_ble_eq_true rfl) rfl dX11_days_33 ?_
    refine z_iload_n X dX11_days_36 rfl (lv_at hl 2 rfl) ?_
    refine z_aload_n X dX11_days_37 rfl (lv_at hl 0 rfl) ?_
    refine m_geti X ff_52 dX11_days_38 ?_
    refine z_iadd X dX11_days_41 ?_
    refine z_istore_n (lv' := [(2, .int (x2 + (r1.1 0 52))), (0, .ref (ad 0)), (1, .int x1), (3, .int x3)]) X dX11_days_42 rfl hl (by decide) rfl (fun ls hl => ?_)
    refine z_iinc (v := x3 + 1) (k0 := 3) (lv' := [(3, .int (x3 + 1)), (2, .int (x2 + (r1.1 0 52))), (0, .ref (ad 0)), (1, .int x1)]) X dX11_days_43 hl rfl rfl (by decide) rfl (fun ls hl => ?_)
    refine z_goto (tgt := 25) X dX11_days_46 (by decide) ?_
    exact hk25 x1 (x2 + (r1.1 0 52)) (x3 + 1) r1.1 r1.2 ls (lv_sub hl [2, 3, 1, 0] rfl) hf

set_option maxHeartbeats 4000000 in
set_option maxRecDepth 100000 in
theorem w_days {M : zM} {D : va_G} {cy : Nat → ClassId} {ad : Nat → Nat} {r' : Int32 × zI × zL} (X : RX M (zR D cy ad) cX11_days 4 RX11 6 146) (Z : RZi M (zR D cy ad) .int r'.1 r'.2.1 r'.2.2) (x1 : Int32) (V : zI) (L : zL) (ls : Array Slot) (hl : lv_has ls 4 [(0, .ref (ad 0)), (1, .int x1)]) (hf : f_days x1 V L = some r') : RG M (zR D cy ad) V L 0 ls [] := by
  unfold f_days at hf
  refine z_aload_n X dX11_days_0 rfl (lv_at hl 0 rfl) ?_
  refine z_iload_n X dX11_days_1 rfl (lv_at hl 1 rfl) ?_
  refine z_iconst (v := 1) X dX11_days_2 (by decide) ?_
  refine z_bipush (v := 100) X dX11_days_3 (by decide) ?_
  obtain ⟨r1, hc1, hf⟩ := z_bind hf
  refine m_callVi [.int x1, .int 1, .int 100] X hl.1 (c_isAhead D cy ad hc1) gm_isAhead pd_isAhead rfl ⟨by decide, by decide⟩ (Nat.le_of_ble_eq_true rfl) rfl dX11_days_5 ?_
  refine z_if_ne (tgt := 17) X dX11_days_8 (by decide) (fun c_ => ?_) (fun c_ => ?_)
  · have hf := (if_neg c_).symm.trans hf
    refine z_aload_n X dX11_days_17 rfl (lv_at hl 0 rfl) ?_
    obtain ⟨r2, hc2, hf⟩ := z_bind hf
    refine m_callVv [] X hl.1 (c_keeps D cy ad hc2) gm_keeps pd_keeps rfl ⟨by decide, by decide⟩ (Nat.le_of_ble_eq_true rfl) rfl dX11_days_18 ?_
    refine z_iconst (v := 0) X dX11_days_21 (by decide) ?_
    refine z_istore_n (lv' := [(2, .int 0), (0, .ref (ad 0)), (1, .int x1)]) X dX11_days_22 rfl hl (by decide) rfl (fun ls hl => ?_)
    refine z_iconst (v := 0) X dX11_days_23 (by decide) ?_
    refine z_istore_n (lv' := [(3, .int 0), (2, .int 0), (0, .ref (ad 0)), (1, .int x1)]) X dX11_days_24 rfl hl (by decide) rfl (fun ls hl => ?_)
    exact w_days_25 X Z FU x1 0 0 r2.1 r2.2 ls (lv_sub hl [2, 3, 1, 0] rfl) hf
  · have hf := (if_pos c_).symm.trans hf
    refine z_aload_n X dX11_days_11 rfl (lv_at hl 0 rfl) ?_
    refine z_iconst (v := 2) X dX11_days_12 (by decide) ?_
    obtain ⟨r3, hc3, hf⟩ := z_bind hf
    refine m_callVi [.int 2] X hl.1 (c_refuses D cy ad hc3) gm_refuses pd_refuses rfl ⟨by decide, by decide⟩ (Nat.le_of_ble_eq_true rfl) rfl dX11_days_13 ?_
    exact m_iret X Z hf rfl dX11_days_16

theorem c_days (D : va_G) (cy : Nat → ClassId) (ad : Nat → Nat) {x1 : Int32} {V : zI} {L : zL} {r' : Int32 × zI × zL} (hf : f_days x1 V L = some r') : RMi (zR D cy ad) yX11_days cX11_days 4 .int 6 146 [.ref (ad 0), .int x1] V L r'.1 r'.2.1 r'.2.2 :=
  RMi.of (by decide) zR_nd (Nat.le_of_ble_eq_true rfl) (fun M X Z ls hl => w_days X Z x1 V L ls hl hf)
def b_chance_25 (k25 : Int32 × Int32 × Int32 × zI × zL → Option (Int32 × zI × zL)) : Int32 × Int32 × Int32 × zI × zL → Option (Int32 × zI × zL) := fun ⟨x1, x2, x3, V, L⟩ =>
  (if x1 ≤ x3 then some (x2, V, L) else (f_passes 0 1 V L).bind fun r1 => k25 (x1, (x2 + (r1.1 0 53)), (x3 + 1), r1.1, r1.2))
def f_chance (x1 : Int32) (V : zI) (L : zL) : Option (Int32 × zI × zL) :=
  (f_isAhead x1 1 100 V L).bind fun r1 => (if r1.1 = 0 then (f_refuses 2 r1.2.1 r1.2.2).bind fun r3 => some (r3.1, r3.2.1, r3.2.2) else (f_keeps r1.2.1 r1.2.2).bind fun r2 => zfix (b_chance_25) FU (x1, 0, 0, r2.1, r2.2))
set_option maxHeartbeats 4000000 in
set_option maxRecDepth 100000 in
theorem w_chance_25 {M : zM} {D : va_G} {cy : Nat → ClassId} {ad : Nat → Nat} {r' : Int32 × zI × zL} (X : RX M (zR D cy ad) cX11_chance 4 RX11 6 146) (Z : RZi M (zR D cy ad) .int r'.1 r'.2.1 r'.2.2) (n : Nat) : ∀ (x1 : Int32) (x2 : Int32) (x3 : Int32) (V : zI) (L : zL) (ls : Array Slot) (hl : lv_has ls 4 [(0, .ref (ad 0)), (1, .int x1), (2, .int x2), (3, .int x3)]) (hf : zfix (b_chance_25) n (x1, x2, x3, V, L) = some r'), RG M (zR D cy ad) V L 25 ls [] := by
  induction n with
  | zero => intro x1 x2 x3 V L ls hl hf; cases hf
  | succ n ih =>
  intro x1 x2 x3 V L ls hl hf
  have hk25 : ∀ (x1 : Int32) (x2 : Int32) (x3 : Int32) (V : zI) (L : zL) (ls : Array Slot), lv_has ls 4 [(0, .ref (ad 0)), (1, .int x1), (2, .int x2), (3, .int x3)] → zfix (b_chance_25) n (x1, x2, x3, V, L) = some r' → RG M (zR D cy ad) V L 25 ls [] := ih
  have hf : b_chance_25 (zfix (b_chance_25) n) (x1, x2, x3, V, L) = some r' := hf
  generalize zfix (b_chance_25) n = k25 at hk25 hf
  unfold b_chance_25 at hf
  clear ih
  refine z_iload_n X dX11_chance_25 rfl (lv_at hl 3 rfl) ?_
  refine z_iload_n X dX11_chance_26 rfl (lv_at hl 1 rfl) ?_
  refine z_icmp_ge (tgt := 49) X dX11_chance_27 (by decide) (fun c_ => ?_) (fun c_ => ?_)
  · have hf := (if_pos c_).symm.trans hf
    refine z_iload_n X dX11_chance_49 rfl (lv_at hl 2 rfl) ?_
    exact m_iret X Z hf rfl dX11_chance_50
  · have hf := (if_neg c_).symm.trans hf
    refine z_aload_n X dX11_chance_30 rfl (lv_at hl 0 rfl) ?_
    refine z_iconst (v := 0) X dX11_chance_31 (by decide) ?_
    refine z_iconst (v := 1) X dX11_chance_32 (by decide) ?_
    obtain ⟨r1, hc1, hf⟩ := z_bind hf
    refine m_callVv [.int 0, .int 1] X hl.1 (c_passes D cy ad hc1) gm_passes pd_passes rfl ⟨by decide, by decide⟩ (Nat.le_of_ble_eq_true rfl) rfl dX11_chance_33 ?_
    refine z_iload_n X dX11_chance_36 rfl (lv_at hl 2 rfl) ?_
    refine z_aload_n X dX11_chance_37 rfl (lv_at hl 0 rfl) ?_
    refine m_geti X ff_53 dX11_chance_38 ?_
    refine z_iadd X dX11_chance_41 ?_
    refine z_istore_n (lv' := [(2, .int (x2 + (r1.1 0 53))), (0, .ref (ad 0)), (1, .int x1), (3, .int x3)]) X dX11_chance_42 rfl hl (by decide) rfl (fun ls hl => ?_)
    refine z_iinc (v := x3 + 1) (k0 := 3) (lv' := [(3, .int (x3 + 1)), (2, .int (x2 + (r1.1 0 53))), (0, .ref (ad 0)), (1, .int x1)]) X dX11_chance_43 hl rfl rfl (by decide) rfl (fun ls hl => ?_)
    refine z_goto (tgt := 25) X dX11_chance_46 (by decide) ?_
    exact hk25 x1 (x2 + (r1.1 0 53)) (x3 + 1) r1.1 r1.2 ls (lv_sub hl [2, 3, 1, 0] rfl) hf

set_option maxHeartbeats 4000000 in
set_option maxRecDepth 100000 in
theorem w_chance {M : zM} {D : va_G} {cy : Nat → ClassId} {ad : Nat → Nat} {r' : Int32 × zI × zL} (X : RX M (zR D cy ad) cX11_chance 4 RX11 6 146) (Z : RZi M (zR D cy ad) .int r'.1 r'.2.1 r'.2.2) (x1 : Int32) (V : zI) (L : zL) (ls : Array Slot) (hl : lv_has ls 4 [(0, .ref (ad 0)), (1, .int x1)]) (hf : f_chance x1 V L = some r') : RG M (zR D cy ad) V L 0 ls [] := by
  unfold f_chance at hf
  refine z_aload_n X dX11_chance_0 rfl (lv_at hl 0 rfl) ?_
  refine z_iload_n X dX11_chance_1 rfl (lv_at hl 1 rfl) ?_
  refine z_iconst (v := 1) X dX11_chance_2 (by decide) ?_
  refine z_bipush (v := 100) X dX11_chance_3 (by decide) ?_
  obtain ⟨r1, hc1, hf⟩ := z_bind hf
  refine m_callVi [.int x1, .int 1, .int 100] X hl.1 (c_isAhead D cy ad hc1) gm_isAhead pd_isAhead rfl ⟨by decide, by decide⟩ (Nat.le_of_ble_eq_true rfl) rfl dX11_chance_5 ?_
  refine z_if_ne (tgt := 17) X dX11_chance_8 (by decide) (fun c_ => ?_) (fun c_ => ?_)
  · have hf := (if_neg c_).symm.trans hf
    refine z_aload_n X dX11_chance_17 rfl (lv_at hl 0 rfl) ?_
    obtain ⟨r2, hc2, hf⟩ := z_bind hf
    refine m_callVv [] X hl.1 (c_keeps D cy ad hc2) gm_keeps pd_keeps rfl ⟨by decide, by decide⟩ (Nat.le_of_ble_eq_true rfl) rfl dX11_chance_18 ?_
    refine z_iconst (v := 0) X dX11_chance_21 (by decide) ?_
    refine z_istore_n (lv' := [(2, .int 0), (0, .ref (ad 0)), (1, .int x1)]) X dX11_chance_22 rfl hl (by decide) rfl (fun ls hl => ?_)
    refine z_iconst (v := 0) X dX11_chance_23 (by decide) ?_
    refine z_istore_n (lv' := [(3, .int 0), (2, .int 0), (0, .ref (ad 0)), (1, .int x1)]) X dX11_chance_24 rfl hl (by decide) rfl (fun ls hl => ?_)
    exact w_chance_25 X Z FU x1 0 0 r2.1 r2.2 ls (lv_sub hl [2, 3, 1, 0] rfl) hf
  · have hf := (if_pos c_).symm.trans hf
    refine z_aload_n X dX11_chance_11 rfl (lv_at hl 0 rfl) ?_
    refine z_iconst (v := 2) X dX11_chance_12 (by decide) ?_
    obtain ⟨r3, hc3, hf⟩ := z_bind hf
    refine m_callVi [.int 2] X hl.1 (c_refuses D cy ad hc3) gm_refuses pd_refuses rfl ⟨by decide, by decide⟩ (Nat.le_of_ble_eq_true rfl) rfl dX11_chance_13 ?_
    exact m_iret X Z hf rfl dX11_chance_16

theorem c_chance (D : va_G) (cy : Nat → ClassId) (ad : Nat → Nat) {x1 : Int32} {V : zI} {L : zL} {r' : Int32 × zI × zL} (hf : f_chance x1 V L = some r') : RMi (zR D cy ad) yX11_chance cX11_chance 4 .int 6 146 [.ref (ad 0), .int x1] V L r'.1 r'.2.1 r'.2.2 :=
  RMi.of (by decide) zR_nd (Nat.le_of_ble_eq_true rfl) (fun M X Z ls hl => w_chance X Z x1 V L ls hl hf)
def f_give_55 (V : zI) (L : zL) : Option (Int32 × zI × zL) :=
  (f_refuses 3 V L).bind fun r1 => (if r1.1 < 0 then some (0, r1.2.1, r1.2.2) else some (1, r1.2.1, r1.2.2))
def f_give_69 (x1 : Int32) (x2 : Int32) (x3 : Int32) (V : zI) (L : zL) : Option (Int32 × zI × zL) :=
  (f_keeps V L).bind fun r1 => (f_at 0 x1 x2 r1.1 r1.2).bind fun r2 => if inB r2.1 792 then if inB r2.1 792 then (if x3 = x2 then some (1, z_uI r2.2.1 21 r2.1.toNatClampNeg ((r2.2.1 21 r2.1.toNatClampNeg) - 1), r2.2.2) else (f_at 0 x3 x2 (z_uI r2.2.1 21 r2.1.toNatClampNeg ((r2.2.1 21 r2.1.toNatClampNeg) - 1)) r2.2.2).bind fun r5 => if inB r5.1 792 then if inB r5.1 792 then some (1, z_uI r5.2.1 21 r5.1.toNatClampNeg ((r5.2.1 21 r5.1.toNatClampNeg) + 1), r5.2.2) else none else none) else none else none
def f_give (x1 : Int32) (x2 : Int32) (x3 : Int32) (V : zI) (L : zL) : Option (Int32 × zI × zL) :=
  (f_isPair x1 x2 V L).bind fun r1 => (if r1.1 = 0 then f_give_55 r1.2.1 r1.2.2 else (f_isPair x1 x3 r1.2.1 r1.2.2).bind fun r2 => (if r2.1 = 0 then f_give_55 r2.2.1 r2.2.2 else (f_at 0 x1 x2 r2.2.1 r2.2.2).bind fun r3 => if inB r3.1 792 then (if (r3.2.1 21 r3.1.toNatClampNeg) = 0 then f_give_55 r3.2.1 r3.2.2 else (if x3 = x2 then f_give_69 x1 x2 x3 r3.2.1 r3.2.2 else (f_at 0 x3 x2 r3.2.1 r3.2.2).bind fun r5 => if inB r5.1 792 then (if (r5.2.1 21 r5.1.toNatClampNeg) = 99 then f_give_55 r5.2.1 r5.2.2 else f_give_69 x1 x2 x3 r5.2.1 r5.2.2) else none)) else none))
set_option maxHeartbeats 4000000 in
set_option maxRecDepth 100000 in
theorem w_give_55 {M : zM} {D : va_G} {cy : Nat → ClassId} {ad : Nat → Nat} {r' : Int32 × zI × zL} (X : RX M (zR D cy ad) cX11_give 4 RX11 2 43) (Z : RZi M (zR D cy ad) .boolean r'.1 r'.2.1 r'.2.2)  (V : zI) (L : zL) (ls : Array Slot) (hl : lv_has ls 4 [(0, .ref (ad 0))]) (hf : f_give_55 V L = some r') : RG M (zR D cy ad) V L 55 ls [] := by
  unfold f_give_55 at hf
  refine z_aload_n X dX11_give_55 rfl (lv_at hl 0 rfl) ?_
  refine z_iconst (v := 3) X dX11_give_56 (by decide) ?_
  obtain ⟨r1, hc1, hf⟩ := z_bind hf
  refine m_callVi [.int 3] X hl.1 (c_refuses D cy ad hc1) gm_refuses pd_refuses rfl ⟨by decide, by decide⟩ (Nat.le_of_ble_eq_true rfl) rfl dX11_give_57 ?_
  refine z_if_lt (tgt := 67) X dX11_give_60 (by decide) (fun c_ => ?_) (fun c_ => ?_)
  · have hf := (if_pos c_).symm.trans hf
    refine z_iconst (v := 0) X dX11_give_67 (by decide) ?_
    exact m_iret X Z hf (by decide) dX11_give_68
  · have hf := (if_neg c_).symm.trans hf
    refine z_iconst (v := 1) X dX11_give_63 (by decide) ?_
    refine z_goto (tgt := 68) X dX11_give_64 (by decide) ?_
    exact m_iret X Z hf (by decide) dX11_give_68

set_option maxHeartbeats 4000000 in
set_option maxRecDepth 100000 in
theorem w_give_69 {M : zM} {D : va_G} {cy : Nat → ClassId} {ad : Nat → Nat} {r' : Int32 × zI × zL} (X : RX M (zR D cy ad) cX11_give 4 RX11 2 43) (Z : RZi M (zR D cy ad) .boolean r'.1 r'.2.1 r'.2.2) (x1 : Int32) (x2 : Int32) (x3 : Int32) (V : zI) (L : zL) (ls : Array Slot) (hl : lv_has ls 4 [(0, .ref (ad 0)), (1, .int x1), (2, .int x2), (3, .int x3)]) (hf : f_give_69 x1 x2 x3 V L = some r') : RG M (zR D cy ad) V L 69 ls [] := by
  unfold f_give_69 at hf
  refine z_aload_n X dX11_give_69 rfl (lv_at hl 0 rfl) ?_
  obtain ⟨r1, hc1, hf⟩ := z_bind hf
  refine m_callVv [] X hl.1 (c_keeps D cy ad hc1) gm_keeps pd_keeps rfl ⟨by decide, by decide⟩ (Nat.le_of_ble_eq_true rfl) rfl dX11_give_70 ?_
  refine z_aload_n X dX11_give_73 rfl (lv_at hl 0 rfl) ?_
  refine m_geta X ff_40 dX11_give_74 ?_
  refine z_aload_n X dX11_give_77 rfl (lv_at hl 0 rfl) ?_
  refine z_iconst (v := 0) X dX11_give_78 (by decide) ?_
  refine z_iload_n X dX11_give_79 rfl (lv_at hl 1 rfl) ?_
  refine z_iload_n X dX11_give_80 rfl (lv_at hl 2 rfl) ?_
  obtain ⟨r2, hc2, hf⟩ := z_bind hf
  refine m_callVi [.int 0, .int x1, .int x2] X hl.1 (c_at D cy ad hc2) gm_at pd_at rfl ⟨by decide, by decide⟩ (Nat.le_of_ble_eq_true rfl) rfl dX11_give_81 ?_
  refine z_dup2 X dX11_give_84 rfl rfl ?_
  obtain ⟨hb3, hf⟩ := z_ite hf
  refine m_iald X pa_21 hb3 dX11_give_85 ?_
  refine z_iconst (v := 1) X dX11_give_86 (by decide) ?_
  refine z_isub X dX11_give_87 ?_
  obtain ⟨hb4, hf⟩ := z_ite hf
  refine m_iast X pa_21 hb4 dX11_give_88 ?_
  refine z_iload_n X dX11_give_89 rfl (lv_at hl 3 rfl) ?_
  refine z_iload_n X dX11_give_90 rfl (lv_at hl 2 rfl) ?_
  refine z_icmp_eq (tgt := 110) X dX11_give_91 (by decide) (fun c_ => ?_) (fun c_ => ?_)
  · have hf := (if_pos c_).symm.trans hf
    refine z_iconst (v := 1) X dX11_give_110 (by decide) ?_
    exact m_iret X Z hf (by decide) dX11_give_111
  · have hf := (if_neg c_).symm.trans hf
    refine z_aload_n X dX11_give_94 rfl (lv_at hl 0 rfl) ?_
    refine m_geta X ff_40 dX11_give_95 ?_
    refine z_aload_n X dX11_give_98 rfl (lv_at hl 0 rfl) ?_
    refine z_iconst (v := 0) X dX11_give_99 (by decide) ?_
    refine z_iload_n X dX11_give_100 rfl (lv_at hl 3 rfl) ?_
    refine z_iload_n X dX11_give_101 rfl (lv_at hl 2 rfl) ?_
    obtain ⟨r5, hc5, hf⟩ := z_bind hf
    refine m_callVi [.int 0, .int x3, .int x2] X hl.1 (c_at D cy ad hc5) gm_at pd_at rfl ⟨by decide, by decide⟩ (Nat.le_of_ble_eq_true rfl) rfl dX11_give_102 ?_
    refine z_dup2 X dX11_give_105 rfl rfl ?_
    obtain ⟨hb6, hf⟩ := z_ite hf
    refine m_iald X pa_21 hb6 dX11_give_106 ?_
    refine z_iconst (v := 1) X dX11_give_107 (by decide) ?_
    refine z_iadd X dX11_give_108 ?_
    obtain ⟨hb7, hf⟩ := z_ite hf
    refine m_iast X pa_21 hb7 dX11_give_109 ?_
    refine z_iconst (v := 1) X dX11_give_110 (by decide) ?_
    exact m_iret X Z hf (by decide) dX11_give_111

set_option maxHeartbeats 4000000 in
set_option maxRecDepth 100000 in
theorem w_give {M : zM} {D : va_G} {cy : Nat → ClassId} {ad : Nat → Nat} {r' : Int32 × zI × zL} (X : RX M (zR D cy ad) cX11_give 4 RX11 2 43) (Z : RZi M (zR D cy ad) .boolean r'.1 r'.2.1 r'.2.2) (x1 : Int32) (x2 : Int32) (x3 : Int32) (V : zI) (L : zL) (ls : Array Slot) (hl : lv_has ls 4 [(0, .ref (ad 0)), (1, .int x1), (2, .int x2), (3, .int x3)]) (hf : f_give x1 x2 x3 V L = some r') : RG M (zR D cy ad) V L 0 ls [] := by
  unfold f_give at hf
  refine z_aload_n X dX11_give_0 rfl (lv_at hl 0 rfl) ?_
  refine z_iload_n X dX11_give_1 rfl (lv_at hl 1 rfl) ?_
  refine z_iload_n X dX11_give_2 rfl (lv_at hl 2 rfl) ?_
  obtain ⟨r1, hc1, hf⟩ := z_bind hf
  refine m_callVi [.int x1, .int x2] X hl.1 (c_isPair D cy ad hc1) gm_isPair pd_isPair rfl ⟨by decide, by decide⟩ (Nat.le_of_ble_eq_true rfl) rfl dX11_give_3 ?_
  refine z_if_eq (tgt := 55) X dX11_give_6 (by decide) (fun c_ => ?_) (fun c_ => ?_)
  · have hf := (if_pos c_).symm.trans hf
    exact w_give_55 X Z r1.2.1 r1.2.2 ls (lv_sub hl [0] rfl) hf
  · have hf := (if_neg c_).symm.trans hf
    refine z_aload_n X dX11_give_9 rfl (lv_at hl 0 rfl) ?_
    refine z_iload_n X dX11_give_10 rfl (lv_at hl 1 rfl) ?_
    refine z_iload_n X dX11_give_11 rfl (lv_at hl 3 rfl) ?_
    obtain ⟨r2, hc2, hf⟩ := z_bind hf
    refine m_callVi [.int x1, .int x3] X hl.1 (c_isPair D cy ad hc2) gm_isPair pd_isPair rfl ⟨by decide, by decide⟩ (Nat.le_of_ble_eq_true rfl) rfl dX11_give_12 ?_
    refine z_if_eq (tgt := 55) X dX11_give_15 (by decide) (fun c_ => ?_) (fun c_ => ?_)
    · have hf := (if_pos c_).symm.trans hf
      exact w_give_55 X Z r2.2.1 r2.2.2 ls (lv_sub hl [0] rfl) hf
    · have hf := (if_neg c_).symm.trans hf
      refine z_aload_n X dX11_give_18 rfl (lv_at hl 0 rfl) ?_
      refine m_geta X ff_40 dX11_give_19 ?_
      refine z_aload_n X dX11_give_22 rfl (lv_at hl 0 rfl) ?_
      refine z_iconst (v := 0) X dX11_give_23 (by decide) ?_
      refine z_iload_n X dX11_give_24 rfl (lv_at hl 1 rfl) ?_
      refine z_iload_n X dX11_give_25 rfl (lv_at hl 2 rfl) ?_
      obtain ⟨r3, hc3, hf⟩ := z_bind hf
      refine m_callVi [.int 0, .int x1, .int x2] X hl.1 (c_at D cy ad hc3) gm_at pd_at rfl ⟨by decide, by decide⟩ (Nat.le_of_ble_eq_true rfl) rfl dX11_give_26 ?_
      obtain ⟨hb4, hf⟩ := z_ite hf
      refine m_iald X pa_21 hb4 dX11_give_29 ?_
      refine z_if_eq (tgt := 55) X dX11_give_30 (by decide) (fun c_ => ?_) (fun c_ => ?_)
      · have hf := (if_pos c_).symm.trans hf
        exact w_give_55 X Z r3.2.1 r3.2.2 ls (lv_sub hl [0] rfl) hf
      · have hf := (if_neg c_).symm.trans hf
        refine z_iload_n X dX11_give_33 rfl (lv_at hl 3 rfl) ?_
        refine z_iload_n X dX11_give_34 rfl (lv_at hl 2 rfl) ?_
        refine z_icmp_eq (tgt := 69) X dX11_give_35 (by decide) (fun c_ => ?_) (fun c_ => ?_)
        · have hf := (if_pos c_).symm.trans hf
          exact w_give_69 X Z x1 x2 x3 r3.2.1 r3.2.2 ls (lv_sub hl [0, 1, 2, 3] rfl) hf
        · have hf := (if_neg c_).symm.trans hf
          refine z_aload_n X dX11_give_38 rfl (lv_at hl 0 rfl) ?_
          refine m_geta X ff_40 dX11_give_39 ?_
          refine z_aload_n X dX11_give_42 rfl (lv_at hl 0 rfl) ?_
          refine z_iconst (v := 0) X dX11_give_43 (by decide) ?_
          refine z_iload_n X dX11_give_44 rfl (lv_at hl 3 rfl) ?_
          refine z_iload_n X dX11_give_45 rfl (lv_at hl 2 rfl) ?_
          obtain ⟨r5, hc5, hf⟩ := z_bind hf
          refine m_callVi [.int 0, .int x3, .int x2] X hl.1 (c_at D cy ad hc5) gm_at pd_at rfl ⟨by decide, by decide⟩ (Nat.le_of_ble_eq_true rfl) rfl dX11_give_46 ?_
          obtain ⟨hb6, hf⟩ := z_ite hf
          refine m_iald X pa_21 hb6 dX11_give_49 ?_
          refine z_bipush (v := 99) X dX11_give_50 (by decide) ?_
          refine z_icmp_ne (tgt := 69) X dX11_give_52 (by decide) (fun c_ => ?_) (fun c_ => ?_)
          · have hf := (if_neg c_).symm.trans hf
            exact w_give_69 X Z x1 x2 x3 r5.2.1 r5.2.2 ls (lv_sub hl [0, 1, 2, 3] rfl) hf
          · have hf := (if_pos c_).symm.trans hf
            exact w_give_55 X Z r5.2.1 r5.2.2 ls (lv_sub hl [0] rfl) hf

theorem c_give (D : va_G) (cy : Nat → ClassId) (ad : Nat → Nat) {x1 : Int32} {x2 : Int32} {x3 : Int32} {V : zI} {L : zL} {r' : Int32 × zI × zL} (hf : f_give x1 x2 x3 V L = some r') : RMi (zR D cy ad) yX11_give cX11_give 4 .boolean 2 43 [.ref (ad 0), .int x1, .int x2, .int x3] V L r'.1 r'.2.1 r'.2.2 :=
  RMi.of (by decide) zR_nd (Nat.le_of_ble_eq_true rfl) (fun M X Z ls hl => w_give X Z x1 x2 x3 V L ls hl hf)
def f_find_26 (V : zI) (L : zL) : Option (Int32 × zI × zL) :=
  (f_refuses 3 V L).bind fun r1 => (if r1.1 < 0 then some (0, r1.2.1, r1.2.2) else some (1, r1.2.1, r1.2.2))
def f_find (x1 : Int32) (x2 : Int32) (V : zI) (L : zL) : Option (Int32 × zI × zL) :=
  (f_isPair x1 x2 V L).bind fun r1 => (if r1.1 = 0 then f_find_26 r1.2.1 r1.2.2 else (f_at 0 x1 x2 r1.2.1 r1.2.2).bind fun r2 => if inB r2.1 792 then (if (r2.2.1 21 r2.1.toNatClampNeg) = 99 then f_find_26 r2.2.1 r2.2.2 else (f_keeps r2.2.1 r2.2.2).bind fun r4 => (f_at 0 x1 x2 r4.1 r4.2).bind fun r5 => if inB r5.1 792 then if inB r5.1 792 then some (1, z_uI r5.2.1 21 r5.1.toNatClampNeg ((r5.2.1 21 r5.1.toNatClampNeg) + 1), r5.2.2) else none else none) else none)
set_option maxHeartbeats 4000000 in
set_option maxRecDepth 100000 in
theorem w_find_26 {M : zM} {D : va_G} {cy : Nat → ClassId} {ad : Nat → Nat} {r' : Int32 × zI × zL} (X : RX M (zR D cy ad) cX11_find 3 RX11 2 43) (Z : RZi M (zR D cy ad) .boolean r'.1 r'.2.1 r'.2.2)  (V : zI) (L : zL) (ls : Array Slot) (hl : lv_has ls 3 [(0, .ref (ad 0))]) (hf : f_find_26 V L = some r') : RG M (zR D cy ad) V L 26 ls [] := by
  unfold f_find_26 at hf
  refine z_aload_n X dX11_find_26 rfl (lv_at hl 0 rfl) ?_
  refine z_iconst (v := 3) X dX11_find_27 (by decide) ?_
  obtain ⟨r1, hc1, hf⟩ := z_bind hf
  refine m_callVi [.int 3] X hl.1 (c_refuses D cy ad hc1) gm_refuses pd_refuses rfl ⟨by decide, by decide⟩ (Nat.le_of_ble_eq_true rfl) rfl dX11_find_28 ?_
  refine z_if_lt (tgt := 38) X dX11_find_31 (by decide) (fun c_ => ?_) (fun c_ => ?_)
  · have hf := (if_pos c_).symm.trans hf
    refine z_iconst (v := 0) X dX11_find_38 (by decide) ?_
    exact m_iret X Z hf (by decide) dX11_find_39
  · have hf := (if_neg c_).symm.trans hf
    refine z_iconst (v := 1) X dX11_find_34 (by decide) ?_
    refine z_goto (tgt := 39) X dX11_find_35 (by decide) ?_
    exact m_iret X Z hf (by decide) dX11_find_39

set_option maxHeartbeats 4000000 in
set_option maxRecDepth 100000 in
theorem w_find {M : zM} {D : va_G} {cy : Nat → ClassId} {ad : Nat → Nat} {r' : Int32 × zI × zL} (X : RX M (zR D cy ad) cX11_find 3 RX11 2 43) (Z : RZi M (zR D cy ad) .boolean r'.1 r'.2.1 r'.2.2) (x1 : Int32) (x2 : Int32) (V : zI) (L : zL) (ls : Array Slot) (hl : lv_has ls 3 [(0, .ref (ad 0)), (1, .int x1), (2, .int x2)]) (hf : f_find x1 x2 V L = some r') : RG M (zR D cy ad) V L 0 ls [] := by
  unfold f_find at hf
  refine z_aload_n X dX11_find_0 rfl (lv_at hl 0 rfl) ?_
  refine z_iload_n X dX11_find_1 rfl (lv_at hl 1 rfl) ?_
  refine z_iload_n X dX11_find_2 rfl (lv_at hl 2 rfl) ?_
  obtain ⟨r1, hc1, hf⟩ := z_bind hf
  refine m_callVi [.int x1, .int x2] X hl.1 (c_isPair D cy ad hc1) gm_isPair pd_isPair rfl ⟨by decide, by decide⟩ (Nat.le_of_ble_eq_true rfl) rfl dX11_find_3 ?_
  refine z_if_eq (tgt := 26) X dX11_find_6 (by decide) (fun c_ => ?_) (fun c_ => ?_)
  · have hf := (if_pos c_).symm.trans hf
    exact w_find_26 X Z r1.2.1 r1.2.2 ls (lv_sub hl [0] rfl) hf
  · have hf := (if_neg c_).symm.trans hf
    refine z_aload_n X dX11_find_9 rfl (lv_at hl 0 rfl) ?_
    refine m_geta X ff_40 dX11_find_10 ?_
    refine z_aload_n X dX11_find_13 rfl (lv_at hl 0 rfl) ?_
    refine z_iconst (v := 0) X dX11_find_14 (by decide) ?_
    refine z_iload_n X dX11_find_15 rfl (lv_at hl 1 rfl) ?_
    refine z_iload_n X dX11_find_16 rfl (lv_at hl 2 rfl) ?_
    obtain ⟨r2, hc2, hf⟩ := z_bind hf
    refine m_callVi [.int 0, .int x1, .int x2] X hl.1 (c_at D cy ad hc2) gm_at pd_at rfl ⟨by decide, by decide⟩ (Nat.le_of_ble_eq_true rfl) rfl dX11_find_17 ?_
    obtain ⟨hb3, hf⟩ := z_ite hf
    refine m_iald X pa_21 hb3 dX11_find_20 ?_
    refine z_bipush (v := 99) X dX11_find_21 (by decide) ?_
    refine z_icmp_ne (tgt := 40) X dX11_find_23 (by decide) (fun c_ => ?_) (fun c_ => ?_)
    · have hf := (if_neg c_).symm.trans hf
      refine z_aload_n X dX11_find_40 rfl (lv_at hl 0 rfl) ?_
      obtain ⟨r4, hc4, hf⟩ := z_bind hf
      refine m_callVv [] X hl.1 (c_keeps D cy ad hc4) gm_keeps pd_keeps rfl ⟨by decide, by decide⟩ (Nat.le_of_ble_eq_true rfl) rfl dX11_find_41 ?_
      refine z_aload_n X dX11_find_44 rfl (lv_at hl 0 rfl) ?_
      refine m_geta X ff_40 dX11_find_45 ?_
      refine z_aload_n X dX11_find_48 rfl (lv_at hl 0 rfl) ?_
      refine z_iconst (v := 0) X dX11_find_49 (by decide) ?_
      refine z_iload_n X dX11_find_50 rfl (lv_at hl 1 rfl) ?_
      refine z_iload_n X dX11_find_51 rfl (lv_at hl 2 rfl) ?_
      obtain ⟨r5, hc5, hf⟩ := z_bind hf
      refine m_callVi [.int 0, .int x1, .int x2] X hl.1 (c_at D cy ad hc5) gm_at pd_at rfl ⟨by decide, by decide⟩ (Nat.le_of_ble_eq_true rfl) rfl dX11_find_52 ?_
      refine z_dup2 X dX11_find_55 rfl rfl ?_
      obtain ⟨hb6, hf⟩ := z_ite hf
      refine m_iald X pa_21 hb6 dX11_find_56 ?_
      refine z_iconst (v := 1) X dX11_find_57 (by decide) ?_
      refine z_iadd X dX11_find_58 ?_
      obtain ⟨hb7, hf⟩ := z_ite hf
      refine m_iast X pa_21 hb7 dX11_find_59 ?_
      refine z_iconst (v := 1) X dX11_find_60 (by decide) ?_
      exact m_iret X Z hf (by decide) dX11_find_61
    · have hf := (if_pos c_).symm.trans hf
      exact w_find_26 X Z r2.2.1 r2.2.2 ls (lv_sub hl [0] rfl) hf

theorem c_find (D : va_G) (cy : Nat → ClassId) (ad : Nat → Nat) {x1 : Int32} {x2 : Int32} {V : zI} {L : zL} {r' : Int32 × zI × zL} (hf : f_find x1 x2 V L = some r') : RMi (zR D cy ad) yX11_find cX11_find 3 .boolean 2 43 [.ref (ad 0), .int x1, .int x2] V L r'.1 r'.2.1 r'.2.2 :=
  RMi.of (by decide) zR_nd (Nat.le_of_ble_eq_true rfl) (fun M X Z ls hl => w_find X Z x1 x2 V L ls hl hf)
def f_burn_24 (V : zI) (L : zL) : Option (Int32 × zI × zL) :=
  (f_refuses 3 V L).bind fun r1 => some (r1.1, r1.2.1, r1.2.2)
def f_burn (x1 : Int32) (x2 : Int32) (V : zI) (L : zL) : Option (Int32 × zI × zL) :=
  (f_isPair x1 x2 V L).bind fun r1 => (if r1.1 = 0 then f_burn_24 r1.2.1 r1.2.2 else (f_at 0 x1 x2 r1.2.1 r1.2.2).bind fun r2 => if inB r2.1 792 then (if (r2.2.1 21 r2.1.toNatClampNeg) = 0 then f_burn_24 r2.2.1 r2.2.2 else (f_keeps r2.2.1 r2.2.2).bind fun r4 => (f_at 0 x1 x2 r4.1 r4.2).bind fun r5 => if inB r5.1 792 then (f_at 0 x1 x2 r5.2.1 r5.2.2).bind fun r7 => if inB r7.1 792 then some (r5.2.1 21 r5.1.toNatClampNeg, z_uI r7.2.1 21 r7.1.toNatClampNeg 0, r7.2.2) else none else none) else none)
set_option maxHeartbeats 4000000 in
set_option maxRecDepth 100000 in
theorem w_burn_24 {M : zM} {D : va_G} {cy : Nat → ClassId} {ad : Nat → Nat} {r' : Int32 × zI × zL} (X : RX M (zR D cy ad) cX11_burn 4 RX11 2 43) (Z : RZi M (zR D cy ad) .int r'.1 r'.2.1 r'.2.2)  (V : zI) (L : zL) (ls : Array Slot) (hl : lv_has ls 4 [(0, .ref (ad 0))]) (hf : f_burn_24 V L = some r') : RG M (zR D cy ad) V L 24 ls [] := by
  unfold f_burn_24 at hf
  refine z_aload_n X dX11_burn_24 rfl (lv_at hl 0 rfl) ?_
  refine z_iconst (v := 3) X dX11_burn_25 (by decide) ?_
  obtain ⟨r1, hc1, hf⟩ := z_bind hf
  refine m_callVi [.int 3] X hl.1 (c_refuses D cy ad hc1) gm_refuses pd_refuses rfl ⟨by decide, by decide⟩ (Nat.le_of_ble_eq_true rfl) rfl dX11_burn_26 ?_
  exact m_iret X Z hf rfl dX11_burn_29

set_option maxHeartbeats 4000000 in
set_option maxRecDepth 100000 in
theorem w_burn {M : zM} {D : va_G} {cy : Nat → ClassId} {ad : Nat → Nat} {r' : Int32 × zI × zL} (X : RX M (zR D cy ad) cX11_burn 4 RX11 2 43) (Z : RZi M (zR D cy ad) .int r'.1 r'.2.1 r'.2.2) (x1 : Int32) (x2 : Int32) (V : zI) (L : zL) (ls : Array Slot) (hl : lv_has ls 4 [(0, .ref (ad 0)), (1, .int x1), (2, .int x2)]) (hf : f_burn x1 x2 V L = some r') : RG M (zR D cy ad) V L 0 ls [] := by
  unfold f_burn at hf
  refine z_aload_n X dX11_burn_0 rfl (lv_at hl 0 rfl) ?_
  refine z_iload_n X dX11_burn_1 rfl (lv_at hl 1 rfl) ?_
  refine z_iload_n X dX11_burn_2 rfl (lv_at hl 2 rfl) ?_
  obtain ⟨r1, hc1, hf⟩ := z_bind hf
  refine m_callVi [.int x1, .int x2] X hl.1 (c_isPair D cy ad hc1) gm_isPair pd_isPair rfl ⟨by decide, by decide⟩ (Nat.le_of_ble_eq_true rfl) rfl dX11_burn_3 ?_
  refine z_if_eq (tgt := 24) X dX11_burn_6 (by decide) (fun c_ => ?_) (fun c_ => ?_)
  · have hf := (if_pos c_).symm.trans hf
    exact w_burn_24 X Z r1.2.1 r1.2.2 ls (lv_sub hl [0] rfl) hf
  · have hf := (if_neg c_).symm.trans hf
    refine z_aload_n X dX11_burn_9 rfl (lv_at hl 0 rfl) ?_
    refine m_geta X ff_40 dX11_burn_10 ?_
    refine z_aload_n X dX11_burn_13 rfl (lv_at hl 0 rfl) ?_
    refine z_iconst (v := 0) X dX11_burn_14 (by decide) ?_
    refine z_iload_n X dX11_burn_15 rfl (lv_at hl 1 rfl) ?_
    refine z_iload_n X dX11_burn_16 rfl (lv_at hl 2 rfl) ?_
    obtain ⟨r2, hc2, hf⟩ := z_bind hf
    refine m_callVi [.int 0, .int x1, .int x2] X hl.1 (c_at D cy ad hc2) gm_at pd_at rfl ⟨by decide, by decide⟩ (Nat.le_of_ble_eq_true rfl) rfl dX11_burn_17 ?_
    obtain ⟨hb3, hf⟩ := z_ite hf
    refine m_iald X pa_21 hb3 dX11_burn_20 ?_
    refine z_if_ne (tgt := 30) X dX11_burn_21 (by decide) (fun c_ => ?_) (fun c_ => ?_)
    · have hf := (if_neg c_).symm.trans hf
      refine z_aload_n X dX11_burn_30 rfl (lv_at hl 0 rfl) ?_
      obtain ⟨r4, hc4, hf⟩ := z_bind hf
      refine m_callVv [] X hl.1 (c_keeps D cy ad hc4) gm_keeps pd_keeps rfl ⟨by decide, by decide⟩ (Nat.le_of_ble_eq_true rfl) rfl dX11_burn_31 ?_
      refine z_aload_n X dX11_burn_34 rfl (lv_at hl 0 rfl) ?_
      refine m_geta X ff_40 dX11_burn_35 ?_
      refine z_aload_n X dX11_burn_38 rfl (lv_at hl 0 rfl) ?_
      refine z_iconst (v := 0) X dX11_burn_39 (by decide) ?_
      refine z_iload_n X dX11_burn_40 rfl (lv_at hl 1 rfl) ?_
      refine z_iload_n X dX11_burn_41 rfl (lv_at hl 2 rfl) ?_
      obtain ⟨r5, hc5, hf⟩ := z_bind hf
      refine m_callVi [.int 0, .int x1, .int x2] X hl.1 (c_at D cy ad hc5) gm_at pd_at rfl ⟨by decide, by decide⟩ (Nat.le_of_ble_eq_true rfl) rfl dX11_burn_42 ?_
      obtain ⟨hb6, hf⟩ := z_ite hf
      refine m_iald X pa_21 hb6 dX11_burn_45 ?_
      refine z_istore_n (lv' := [(3, .int (r5.2.1 21 r5.1.toNatClampNeg)), (0, .ref (ad 0)), (1, .int x1), (2, .int x2)]) X dX11_burn_46 rfl hl (by decide) rfl (fun ls hl => ?_)
      refine z_aload_n X dX11_burn_47 rfl (lv_at hl 1 rfl) ?_
      refine m_geta X ff_40 dX11_burn_48 ?_
      refine z_aload_n X dX11_burn_51 rfl (lv_at hl 1 rfl) ?_
      refine z_iconst (v := 0) X dX11_burn_52 (by decide) ?_
      refine z_iload_n X dX11_burn_53 rfl (lv_at hl 2 rfl) ?_
      refine z_iload_n X dX11_burn_54 rfl (lv_at hl 3 rfl) ?_
      obtain ⟨r7, hc7, hf⟩ := z_bind hf
      refine m_callVi [.int 0, .int x1, .int x2] X hl.1 (c_at D cy ad hc7) gm_at pd_at rfl ⟨by decide, by decide⟩ (Nat.le_of_ble_eq_true rfl) rfl dX11_burn_55 ?_
      refine z_iconst (v := 0) X dX11_burn_58 (by decide) ?_
      obtain ⟨hb8, hf⟩ := z_ite hf
      refine m_iast X pa_21 hb8 dX11_burn_59 ?_
      refine z_iload_n X dX11_burn_60 rfl (lv_at hl 0 rfl) ?_
      exact m_iret X Z hf rfl dX11_burn_61
    · have hf := (if_pos c_).symm.trans hf
      exact w_burn_24 X Z r2.2.1 r2.2.2 ls (lv_sub hl [0] rfl) hf

theorem c_burn (D : va_G) (cy : Nat → ClassId) (ad : Nat → Nat) {x1 : Int32} {x2 : Int32} {V : zI} {L : zL} {r' : Int32 × zI × zL} (hf : f_burn x1 x2 V L = some r') : RMi (zR D cy ad) yX11_burn cX11_burn 4 .int 2 43 [.ref (ad 0), .int x1, .int x2] V L r'.1 r'.2.1 r'.2.2 :=
  RMi.of (by decide) zR_nd (Nat.le_of_ble_eq_true rfl) (fun M X Z ls hl => w_burn X Z x1 x2 V L ls hl hf)
def f_seed (x1 : Int32) (V : zI) (L : zL) : Option (Int32 × zI × zL) :=
  (if 0 ≤ x1 then some (1, V, z_uL L 0 49 ((x1 : Int32).toInt64)) else (f_refuses 5 V L).bind fun r1 => (if r1.1 < 0 then some (0, r1.2.1, r1.2.2) else some (1, r1.2.1, r1.2.2)))
set_option maxHeartbeats 4000000 in
set_option maxRecDepth 100000 in
theorem w_seed {M : zM} {D : va_G} {cy : Nat → ClassId} {ad : Nat → Nat} {r' : Int32 × zI × zL} (X : RX M (zR D cy ad) cX11_seed 2 RX11 1 21) (Z : RZi M (zR D cy ad) .boolean r'.1 r'.2.1 r'.2.2) (x1 : Int32) (V : zI) (L : zL) (ls : Array Slot) (hl : lv_has ls 2 [(0, .ref (ad 0)), (1, .int x1)]) (hf : f_seed x1 V L = some r') : RG M (zR D cy ad) V L 0 ls [] := by
  unfold f_seed at hf
  refine z_iload_n X dX11_seed_0 rfl (lv_at hl 1 rfl) ?_
  refine z_if_ge (tgt := 18) X dX11_seed_1 (by decide) (fun c_ => ?_) (fun c_ => ?_)
  · have hf := (if_pos c_).symm.trans hf
    refine z_aload_n X dX11_seed_18 rfl (lv_at hl 0 rfl) ?_
    refine z_iload_n X dX11_seed_19 rfl (lv_at hl 1 rfl) ?_
    refine z_i2l X dX11_seed_20 ?_
    refine m_putl X fp_49 dX11_seed_21 ?_
    refine z_iconst (v := 1) X dX11_seed_24 (by decide) ?_
    exact m_iret X Z hf (by decide) dX11_seed_25
  · have hf := (if_neg c_).symm.trans hf
    refine z_aload_n X dX11_seed_4 rfl (lv_at hl 0 rfl) ?_
    refine z_iconst (v := 5) X dX11_seed_5 (by decide) ?_
    obtain ⟨r1, hc1, hf⟩ := z_bind hf
    refine m_callVi [.int 5] X hl.1 (c_refuses D cy ad hc1) gm_refuses pd_refuses rfl ⟨by decide, by decide⟩ (Nat.le_of_ble_eq_true rfl) rfl dX11_seed_6 ?_
    refine z_if_lt (tgt := 16) X dX11_seed_9 (by decide) (fun c_ => ?_) (fun c_ => ?_)
    · have hf := (if_pos c_).symm.trans hf
      refine z_iconst (v := 0) X dX11_seed_16 (by decide) ?_
      exact m_iret X Z hf (by decide) dX11_seed_17
    · have hf := (if_neg c_).symm.trans hf
      refine z_iconst (v := 1) X dX11_seed_12 (by decide) ?_
      refine z_goto (tgt := 17) X dX11_seed_13 (by decide) ?_
      exact m_iret X Z hf (by decide) dX11_seed_17

theorem c_seed (D : va_G) (cy : Nat → ClassId) (ad : Nat → Nat) {x1 : Int32} {V : zI} {L : zL} {r' : Int32 × zI × zL} (hf : f_seed x1 V L = some r') : RMi (zR D cy ad) yX11_seed cX11_seed 2 .boolean 1 21 [.ref (ad 0), .int x1] V L r'.1 r'.2.1 r'.2.2 :=
  RMi.of (by decide) zR_nd (Nat.le_of_ble_eq_true rfl) (fun M X Z ls hl => w_seed X Z x1 V L ls hl hf)
def f_kept (x1 : Int32) (x2 : Int32) (V : zI) (L : zL) : Option (Int32 × zI × zL) :=
  (f_is x1 0 ((V 26 ((0) : Int32).toNatClampNeg) - 1)).bind fun r2 => (if r2 = 0 then some ((-1), V, L) else (f_is x2 0 3).bind fun r3 => (if r3 = 0 then some ((-1), V, L) else if inB (((4 : Int32) * x1) + x2) 4400 then some (V 27 (((4 : Int32) * x1) + x2).toNatClampNeg, V, L) else none))
set_option maxHeartbeats 4000000 in
set_option maxRecDepth 100000 in
theorem w_kept {M : zM} {D : va_G} {cy : Nat → ClassId} {ad : Nat → Nat} {r' : Int32 × zI × zL} (X : RX M (zR D cy ad) cX11_kept 3 RX11 1 22) (Z : RZi M (zR D cy ad) .int r'.1 r'.2.1 r'.2.2) (x1 : Int32) (x2 : Int32) (V : zI) (L : zL) (ls : Array Slot) (hl : lv_has ls 3 [(0, .ref (ad 0)), (1, .int x1), (2, .int x2)]) (hf : f_kept x1 x2 V L = some r') : RG M (zR D cy ad) V L 0 ls [] := by
  unfold f_kept at hf
  refine z_iload_n X dX11_kept_0 rfl (lv_at hl 1 rfl) ?_
  refine z_iconst (v := 0) X dX11_kept_1 (by decide) ?_
  refine z_aload_n X dX11_kept_2 rfl (lv_at hl 0 rfl) ?_
  refine m_geta X ff_45 dX11_kept_3 ?_
  refine z_iconst (v := 0) X dX11_kept_6 (by decide) ?_
  refine m_iald X pa_26 (show inB 0 22 by decide) dX11_kept_7 ?_
  refine z_iconst (v := 1) X dX11_kept_8 (by decide) ?_
  refine z_isub X dX11_kept_9 ?_
  obtain ⟨r2, hc2, hf⟩ := z_bind hf
  refine m_callSi [.int x1, .int 0, .int ((V 26 ((0) : Int32).toNatClampNeg) - 1)] X hl.1 (c_is D cy ad hc2) gm_is pd_is rfl ⟨by decide, by decide⟩ (Nat.le_of_ble_eq_true rfl) rfl dX11_kept_10 ?_
  refine z_if_eq (tgt := 38) X dX11_kept_13 (by decide) (fun c_ => ?_) (fun c_ => ?_)
  · have hf := (if_pos c_).symm.trans hf
    refine z_iconst (v := -1) X dX11_kept_38 (by decide) ?_
    exact m_iret X Z hf rfl dX11_kept_39
  · have hf := (if_neg c_).symm.trans hf
    refine z_iload_n X dX11_kept_16 rfl (lv_at hl 2 rfl) ?_
    refine z_iconst (v := 0) X dX11_kept_17 (by decide) ?_
    refine z_iconst (v := 3) X dX11_kept_18 (by decide) ?_
    obtain ⟨r3, hc3, hf⟩ := z_bind hf
    refine m_callSi [.int x2, .int 0, .int 3] X hl.1 (c_is D cy ad hc3) gm_is pd_is rfl ⟨by decide, by decide⟩ (Nat.le_of_ble_eq_true rfl) rfl dX11_kept_19 ?_
    refine z_if_eq (tgt := 38) X dX11_kept_22 (by decide) (fun c_ => ?_) (fun c_ => ?_)
    · have hf := (if_pos c_).symm.trans hf
      refine z_iconst (v := -1) X dX11_kept_38 (by decide) ?_
      exact m_iret X Z hf rfl dX11_kept_39
    · have hf := (if_neg c_).symm.trans hf
      refine z_aload_n X dX11_kept_25 rfl (lv_at hl 0 rfl) ?_
      refine m_geta X ff_46 dX11_kept_26 ?_
      refine z_iconst (v := 4) X dX11_kept_29 (by decide) ?_
      refine z_iload_n X dX11_kept_30 rfl (lv_at hl 1 rfl) ?_
      refine z_imul X dX11_kept_31 ?_
      refine z_iload_n X dX11_kept_32 rfl (lv_at hl 2 rfl) ?_
      refine z_iadd X dX11_kept_33 ?_
      obtain ⟨hb4, hf⟩ := z_ite hf
      refine m_iald X pa_27 hb4 dX11_kept_34 ?_
      refine z_goto (tgt := 39) X dX11_kept_35 (by decide) ?_
      exact m_iret X Z hf rfl dX11_kept_39

theorem c_kept (D : va_G) (cy : Nat → ClassId) (ad : Nat → Nat) {x1 : Int32} {x2 : Int32} {V : zI} {L : zL} {r' : Int32 × zI × zL} (hf : f_kept x1 x2 V L = some r') : RMi (zR D cy ad) yX11_kept cX11_kept 3 .int 1 22 [.ref (ad 0), .int x1, .int x2] V L r'.1 r'.2.1 r'.2.2 :=
  RMi.of (by decide) zR_nd (Nat.le_of_ble_eq_true rfl) (fun M X Z ls hl => w_kept X Z x1 x2 V L ls hl hf)
def b_writes__4 (k4 : Int32 × Int32 × zI × zL → Option (zI × zL)) : Int32 × Int32 × zI × zL → Option (zI × zL) := fun ⟨x1, x3, V, L⟩ =>
  (if x3 < 0 then some (V, L) else if inB (V 0 64) 280 then k4 (x1, (x3 + Int32.ofInt (-1)), z_uI (z_uI V 35 (V 0 64).toNatClampNeg ((x1 >>> (((8 : Int32) * x3) &&& 31)) &&& 255)) 0 64 (((z_uI V 35 (V 0 64).toNatClampNeg ((x1 >>> (((8 : Int32) * x3) &&& 31)) &&& 255)) 0 64) + 1), L) else none)
def f_writes_ (x1 : Int32) (x2 : Int32) (V : zI) (L : zL) : Option (zI × zL) :=
  zfix (b_writes__4) FU (x1, (x2 - 1), V, L)
set_option maxHeartbeats 4000000 in
set_option maxRecDepth 100000 in
theorem w_writes__4 {M : zM} {D : va_G} {cy : Nat → ClassId} {ad : Nat → Nat} {r' : zI × zL} (X : RX M (zR D cy ad) cX11_writes_ 4 RX11 0 0) (Z : RZv M (zR D cy ad) r'.1 r'.2) (n : Nat) : ∀ (x1 : Int32) (x3 : Int32) (V : zI) (L : zL) (ls : Array Slot) (hl : lv_has ls 4 [(0, .ref (ad 0)), (1, .int x1), (3, .int x3)]) (hf : zfix (b_writes__4) n (x1, x3, V, L) = some r'), RG M (zR D cy ad) V L 4 ls [] := by
  induction n with
  | zero => intro x1 x3 V L ls hl hf; cases hf
  | succ n ih =>
  intro x1 x3 V L ls hl hf
  have hk4 : ∀ (x1 : Int32) (x3 : Int32) (V : zI) (L : zL) (ls : Array Slot), lv_has ls 4 [(0, .ref (ad 0)), (1, .int x1), (3, .int x3)] → zfix (b_writes__4) n (x1, x3, V, L) = some r' → RG M (zR D cy ad) V L 4 ls [] := ih
  have hf : b_writes__4 (zfix (b_writes__4) n) (x1, x3, V, L) = some r' := hf
  generalize zfix (b_writes__4) n = k4 at hk4 hf
  unfold b_writes__4 at hf
  clear ih
  refine z_iload_n X dX11_writes__4 rfl (lv_at hl 2 rfl) ?_
  refine z_if_lt (tgt := 43) X dX11_writes__5 (by decide) (fun c_ => ?_) (fun c_ => ?_)
  · have hf := (if_pos c_).symm.trans hf
    exact m_vret X Z hf dX11_writes__43
  · have hf := (if_neg c_).symm.trans hf
    refine z_aload_n X dX11_writes__8 rfl (lv_at hl 0 rfl) ?_
    refine m_geta X ff_63 dX11_writes__9 ?_
    refine z_aload_n X dX11_writes__12 rfl (lv_at hl 0 rfl) ?_
    refine m_geti X ff_64 dX11_writes__13 ?_
    refine z_iload_n X dX11_writes__16 rfl (lv_at hl 1 rfl) ?_
    refine z_bipush (v := 8) X dX11_writes__17 (by decide) ?_
    refine z_iload_n X dX11_writes__19 rfl (lv_at hl 2 rfl) ?_
    refine z_imul X dX11_writes__20 ?_
    refine z_ishr X dX11_writes__21 ?_
    refine z_sipush (v := 255) X dX11_writes__22 (by decide) ?_
    refine z_iand X dX11_writes__25 ?_
    obtain ⟨hb1, hf⟩ := z_ite hf
    refine m_iast X pa_35 hb1 dX11_writes__26 ?_
    refine z_aload_n X dX11_writes__27 rfl (lv_at hl 0 rfl) ?_
    refine z_dup X dX11_writes__28 rfl ?_
    refine m_geti X ff_64 dX11_writes__29 ?_
    refine z_iconst (v := 1) X dX11_writes__32 (by decide) ?_
    refine z_iadd X dX11_writes__33 ?_
    refine m_puti X fp_64 dX11_writes__34 ?_
    refine z_iinc (v := x3 + Int32.ofInt (-1)) (k0 := 2) (lv' := [(3, .int (x3 + Int32.ofInt (-1))), (0, .ref (ad 0)), (1, .int x1)]) X dX11_writes__37 hl rfl rfl (by decide) rfl (fun ls hl => ?_)
    refine z_goto (tgt := 4) X dX11_writes__40 (by decide) ?_
    exact hk4 x1 (x3 + Int32.ofInt (-1)) (z_uI (z_uI V 35 (V 0 64).toNatClampNeg ((x1 >>> (((8 : Int32) * x3) &&& 31)) &&& 255)) 0 64 (((z_uI V 35 (V 0 64).toNatClampNeg ((x1 >>> (((8 : Int32) * x3) &&& 31)) &&& 255)) 0 64) + 1)) L ls (lv_sub hl [1, 2, 0] rfl) hf

set_option maxHeartbeats 4000000 in
set_option maxRecDepth 100000 in
theorem w_writes_ {M : zM} {D : va_G} {cy : Nat → ClassId} {ad : Nat → Nat} {r' : zI × zL} (X : RX M (zR D cy ad) cX11_writes_ 4 RX11 0 0) (Z : RZv M (zR D cy ad) r'.1 r'.2) (x1 : Int32) (x2 : Int32) (V : zI) (L : zL) (ls : Array Slot) (hl : lv_has ls 4 [(0, .ref (ad 0)), (1, .int x1), (2, .int x2)]) (hf : f_writes_ x1 x2 V L = some r') : RG M (zR D cy ad) V L 0 ls [] := by
  unfold f_writes_ at hf
  refine z_iload_n X dX11_writes__0 rfl (lv_at hl 2 rfl) ?_
  refine z_iconst (v := 1) X dX11_writes__1 (by decide) ?_
  refine z_isub X dX11_writes__2 ?_
  refine z_istore_n (lv' := [(3, .int (x2 - 1)), (0, .ref (ad 0)), (1, .int x1), (2, .int x2)]) X dX11_writes__3 rfl hl (by decide) rfl (fun ls hl => ?_)
  exact w_writes__4 X Z FU x1 (x2 - 1) V L ls (lv_sub hl [1, 2, 0] rfl) hf

theorem c_writes_ (D : va_G) (cy : Nat → ClassId) (ad : Nat → Nat) {x1 : Int32} {x2 : Int32} {V : zI} {L : zL} {r' : zI × zL} (hf : f_writes_ x1 x2 V L = some r') : RMv (zR D cy ad) yX11_writes_ cX11_writes_ 4 0 0 [.ref (ad 0), .int x1, .int x2] V L r'.1 r'.2 :=
  RMv.of (by decide) zR_nd (Nat.le_of_ble_eq_true rfl) (fun M X Z ls hl => w_writes_ X Z x1 x2 V L ls hl hf)
def b_image_33 (k18 : Int32 × zI × zL → Option (Int32 × zI × zL)) (k33 : Int32 × Int32 × zI × zL → Option (Int32 × zI × zL)) : Int32 × Int32 × zI × zL → Option (Int32 × zI × zL) := fun ⟨x1, x2, V, L⟩ =>
  if inB (V 0 13) 2 then (if (V 2 (V 0 13).toNatClampNeg) ≤ x2 then k18 ((x1 + 1), V, L) else (if x1 = x2 then k33 (x1, (x2 + 1), V, L) else (f_at 0 x1 x2 V L).bind fun r2 => if inB r2.1 792 then (f_writes_ (r2.2.1 21 r2.1.toNatClampNeg) 1 r2.2.1 r2.2.2).bind fun r4 => (f_at 0 x1 x2 r4.1 r4.2).bind fun r5 => if inB r5.1 792 then (f_writes_ (r5.2.1 22 r5.1.toNatClampNeg) 1 r5.2.1 r5.2.2).bind fun r7 => (f_at 0 x1 x2 r7.1 r7.2).bind fun r8 => if inB r8.1 792 then (f_writes_ (r8.2.1 23 r8.1.toNatClampNeg) 1 r8.2.1 r8.2.2).bind fun r10 => k33 (x1, (x2 + 1), r10.1, r10.2) else none else none else none)) else none
def b_image_165 (k165 : Int32 × Int32 × zI × zL → Option (Int32 × zI × zL)) : Int32 × Int32 × zI × zL → Option (Int32 × zI × zL) := fun ⟨x1, x2, V, L⟩ =>
  (if (V 0 64) ≤ x2 then (f_writes_ x1 1 V L).bind fun r1 => some (r1.1 0 64, r1.1, r1.2) else if inB x2 280 then k165 (((((5 : Int32) * x1) + (V 35 x2.toNatClampNeg)) - (((5 : Int32) * x1) + (V 35 x2.toNatClampNeg)) / 251 * 251), (x2 + 1), V, L) else none)
def b_image_130 (k130 : Int32 × zI × zL → Option (Int32 × zI × zL)) : Int32 × zI × zL → Option (Int32 × zI × zL) := fun ⟨x1, V, L⟩ =>
  (if ((3 : Int32) * (V 24 ((0) : Int32).toNatClampNeg)) ≤ x1 then zfix (b_image_165) FU (191, 0, V, L) else if inB x1 3960 then (f_writes_ (V 25 x1.toNatClampNeg) 1 V L).bind fun r3 => k130 ((x1 + 1), r3.1, r3.2) else none)
def b_image_18 (k18 : Int32 × zI × zL → Option (Int32 × zI × zL)) : Int32 × zI × zL → Option (Int32 × zI × zL) := fun ⟨x1, V, L⟩ =>
  if inB (V 0 13) 2 then (if (V 2 (V 0 13).toNatClampNeg) ≤ x1 then (f_writes_ (V 24 ((0) : Int32).toNatClampNeg) 1 V L).bind fun r3 => zfix (b_image_130) FU (0, r3.1, r3.2) else zfix (b_image_33 k18) FU (x1, 0, V, L)) else none
def f_image (V : zI) (L : zL) : Option (Int32 × zI × zL) :=
  (f_writes_ ((z_uI V 0 64 0) 20 ((0) : Int32).toNatClampNeg) 2 (z_uI V 0 64 0) L).bind fun r2 => zfix (b_image_18) FU (0, r2.1, r2.2)
set_option maxHeartbeats 4000000 in
set_option maxRecDepth 100000 in
theorem w_image_33 {M : zM} {D : va_G} {cy : Nat → ClassId} {ad : Nat → Nat} {r' : Int32 × zI × zL} (X : RX M (zR D cy ad) cX11_image 3 RX11 1 23) (Z : RZi M (zR D cy ad) .int r'.1 r'.2.1 r'.2.2) {k18 : Int32 × zI × zL → Option (Int32 × zI × zL)} (hk18 : ∀ (x1 : Int32) (V : zI) (L : zL) (ls : Array Slot), lv_has ls 3 [(0, .ref (ad 0)), (1, .int x1)] → k18 (x1, V, L) = some r' → RG M (zR D cy ad) V L 18 ls []) (n : Nat) : ∀ (x1 : Int32) (x2 : Int32) (V : zI) (L : zL) (ls : Array Slot) (hl : lv_has ls 3 [(0, .ref (ad 0)), (1, .int x1), (2, .int x2)]) (hf : zfix (b_image_33 k18) n (x1, x2, V, L) = some r'), RG M (zR D cy ad) V L 33 ls [] := by
  induction n with
  | zero => intro x1 x2 V L ls hl hf; cases hf
  | succ n ih =>
  intro x1 x2 V L ls hl hf
  have hk33 : ∀ (x1 : Int32) (x2 : Int32) (V : zI) (L : zL) (ls : Array Slot), lv_has ls 3 [(0, .ref (ad 0)), (1, .int x1), (2, .int x2)] → zfix (b_image_33 k18) n (x1, x2, V, L) = some r' → RG M (zR D cy ad) V L 33 ls [] := ih
  have hf : b_image_33 k18 (zfix (b_image_33 k18) n) (x1, x2, V, L) = some r' := hf
  generalize zfix (b_image_33 k18) n = k33 at hk33 hf
  unfold b_image_33 at hf
  clear ih
  refine z_iload_n X dX11_image_33 rfl (lv_at hl 2 rfl) ?_
  refine z_aload_n X dX11_image_34 rfl (lv_at hl 0 rfl) ?_
  refine m_geta X ff_14 dX11_image_35 ?_
  refine z_aload_n X dX11_image_38 rfl (lv_at hl 0 rfl) ?_
  refine m_geti X ff_13 dX11_image_39 ?_
  obtain ⟨hb1, hf⟩ := z_ite hf
  refine m_iald X pa_2 hb1 dX11_image_42 ?_
  refine z_icmp_ge (tgt := 111) X dX11_image_43 (by decide) (fun c_ => ?_) (fun c_ => ?_)
  · have hf := (if_pos c_).symm.trans hf
    refine z_iinc (v := x1 + 1) (k0 := 1) (lv' := [(1, .int (x1 + 1)), (0, .ref (ad 0)), (2, .int x2)]) X dX11_image_111 hl rfl rfl (by decide) rfl (fun ls hl => ?_)
    refine z_goto (tgt := 18) X dX11_image_114 (by decide) ?_
    exact hk18 (x1 + 1) V L ls (lv_sub hl [1, 0] rfl) hf
  · have hf := (if_neg c_).symm.trans hf
    refine z_iload_n X dX11_image_46 rfl (lv_at hl 1 rfl) ?_
    refine z_iload_n X dX11_image_47 rfl (lv_at hl 2 rfl) ?_
    refine z_icmp_ne (tgt := 54) X dX11_image_48 (by decide) (fun c_ => ?_) (fun c_ => ?_)
    · have hf := (if_neg c_).symm.trans hf
      refine z_aload_n X dX11_image_54 rfl (lv_at hl 0 rfl) ?_
      refine z_aload_n X dX11_image_55 rfl (lv_at hl 0 rfl) ?_
      refine m_geta X ff_40 dX11_image_56 ?_
      refine z_aload_n X dX11_image_59 rfl (lv_at hl 0 rfl) ?_
      refine z_iconst (v := 0) X dX11_image_60 (by decide) ?_
      refine z_iload_n X dX11_image_61 rfl (lv_at hl 1 rfl) ?_
      refine z_iload_n X dX11_image_62 rfl (lv_at hl 2 rfl) ?_
      obtain ⟨r2, hc2, hf⟩ := z_bind hf
      refine m_callVi [.int 0, .int x1, .int x2] X hl.1 (c_at D cy ad hc2) gm_at pd_at rfl ⟨by decide, by decide⟩ (Nat.le_of_ble_eq_true rfl) rfl dX11_image_63 ?_
      obtain ⟨hb3, hf⟩ := z_ite hf
      refine m_iald X pa_21 hb3 dX11_image_66 ?_
      refine z_iconst (v := 1) X dX11_image_67 (by decide) ?_
      obtain ⟨r4, hc4, hf⟩ := z_bind hf
      refine m_callVv [.int (r2.2.1 21 r2.1.toNatClampNeg), .int 1] X hl.1 (c_writes_ D cy ad hc4) gm_writes_ pd_writes_ rfl ⟨by decide, by decide⟩ (Nat.le_of_ble_eq_true rfl) rfl dX11_image_68 ?_
      refine z_aload_n X dX11_image_71 rfl (lv_at hl 0 rfl) ?_
      refine z_aload_n X dX11_image_72 rfl (lv_at hl 0 rfl) ?_
      refine m_geta X ff_41 dX11_image_73 ?_
      refine z_aload_n X dX11_image_76 rfl (lv_at hl 0 rfl) ?_
      refine z_iconst (v := 0) X dX11_image_77 (by decide) ?_
      refine z_iload_n X dX11_image_78 rfl (lv_at hl 1 rfl) ?_
      refine z_iload_n X dX11_image_79 rfl (lv_at hl 2 rfl) ?_
      obtain ⟨r5, hc5, hf⟩ := z_bind hf
      refine m_callVi [.int 0, .int x1, .int x2] X hl.1 (c_at D cy ad hc5) gm_at pd_at rfl ⟨by decide, by decide⟩ (Nat.le_of_ble_eq_true rfl) rfl dX11_image_80 ?_
      obtain ⟨hb6, hf⟩ := z_ite hf
      refine m_iald X pa_22 hb6 dX11_image_83 ?_
      refine z_iconst (v := 1) X dX11_image_84 (by decide) ?_
      obtain ⟨r7, hc7, hf⟩ := z_bind hf
      refine m_callVv [.int (r5.2.1 22 r5.1.toNatClampNeg), .int 1] X hl.1 (c_writes_ D cy ad hc7) gm_writes_ pd_writes_ rfl ⟨by decide, by decide⟩ (Nat.le_of_ble_eq_true rfl) rfl dX11_image_85 ?_
      refine z_aload_n X dX11_image_88 rfl (lv_at hl 0 rfl) ?_
      refine z_aload_n X dX11_image_89 rfl (lv_at hl 0 rfl) ?_
      refine m_geta X ff_42 dX11_image_90 ?_
      refine z_aload_n X dX11_image_93 rfl (lv_at hl 0 rfl) ?_
      refine z_iconst (v := 0) X dX11_image_94 (by decide) ?_
      refine z_iload_n X dX11_image_95 rfl (lv_at hl 1 rfl) ?_
      refine z_iload_n X dX11_image_96 rfl (lv_at hl 2 rfl) ?_
      obtain ⟨r8, hc8, hf⟩ := z_bind hf
      refine m_callVi [.int 0, .int x1, .int x2] X hl.1 (c_at D cy ad hc8) gm_at pd_at rfl ⟨by decide, by decide⟩ (Nat.le_of_ble_eq_true rfl) rfl dX11_image_97 ?_
      obtain ⟨hb9, hf⟩ := z_ite hf
      refine m_iald X pa_23 hb9 dX11_image_100 ?_
      refine z_iconst (v := 1) X dX11_image_101 (by decide) ?_
      obtain ⟨r10, hc10, hf⟩ := z_bind hf
      refine m_callVv [.int (r8.2.1 23 r8.1.toNatClampNeg), .int 1] X hl.1 (c_writes_ D cy ad hc10) gm_writes_ pd_writes_ rfl ⟨by decide, by decide⟩ (Nat.le_of_ble_eq_true rfl) rfl dX11_image_102 ?_
      refine z_iinc (v := x2 + 1) (k0 := 2) (lv' := [(2, .int (x2 + 1)), (0, .ref (ad 0)), (1, .int x1)]) X dX11_image_105 hl rfl rfl (by decide) rfl (fun ls hl => ?_)
      refine z_goto (tgt := 33) X dX11_image_108 (by decide) ?_
      exact hk33 x1 (x2 + 1) r10.1 r10.2 ls (lv_sub hl [1, 2, 0] rfl) hf
    · have hf := (if_pos c_).symm.trans hf
      refine z_goto (tgt := 105) X dX11_image_51 (by decide) ?_
      refine z_iinc (v := x2 + 1) (k0 := 2) (lv' := [(2, .int (x2 + 1)), (0, .ref (ad 0)), (1, .int x1)]) X dX11_image_105 hl rfl rfl (by decide) rfl (fun ls hl => ?_)
      refine z_goto (tgt := 33) X dX11_image_108 (by decide) ?_
      exact hk33 x1 (x2 + 1) V L ls (lv_sub hl [1, 2, 0] rfl) hf

set_option maxHeartbeats 4000000 in
set_option maxRecDepth 100000 in
theorem w_image_165 {M : zM} {D : va_G} {cy : Nat → ClassId} {ad : Nat → Nat} {r' : Int32 × zI × zL} (X : RX M (zR D cy ad) cX11_image 3 RX11 1 23) (Z : RZi M (zR D cy ad) .int r'.1 r'.2.1 r'.2.2) (n : Nat) : ∀ (x1 : Int32) (x2 : Int32) (V : zI) (L : zL) (ls : Array Slot) (hl : lv_has ls 3 [(0, .ref (ad 0)), (1, .int x1), (2, .int x2)]) (hf : zfix (b_image_165) n (x1, x2, V, L) = some r'), RG M (zR D cy ad) V L 165 ls [] := by
  induction n with
  | zero => intro x1 x2 V L ls hl hf; cases hf
  | succ n ih =>
  intro x1 x2 V L ls hl hf
  have hk165 : ∀ (x1 : Int32) (x2 : Int32) (V : zI) (L : zL) (ls : Array Slot), lv_has ls 3 [(0, .ref (ad 0)), (1, .int x1), (2, .int x2)] → zfix (b_image_165) n (x1, x2, V, L) = some r' → RG M (zR D cy ad) V L 165 ls [] := ih
  have hf : b_image_165 (zfix (b_image_165) n) (x1, x2, V, L) = some r' := hf
  generalize zfix (b_image_165) n = k165 at hk165 hf
  unfold b_image_165 at hf
  clear ih
  refine z_iload_n X dX11_image_165 rfl (lv_at hl 2 rfl) ?_
  refine z_aload_n X dX11_image_166 rfl (lv_at hl 0 rfl) ?_
  refine m_geti X ff_64 dX11_image_167 ?_
  refine z_icmp_ge (tgt := 194) X dX11_image_170 (by decide) (fun c_ => ?_) (fun c_ => ?_)
  · have hf := (if_pos c_).symm.trans hf
    refine z_aload_n X dX11_image_194 rfl (lv_at hl 0 rfl) ?_
    refine z_iload_n X dX11_image_195 rfl (lv_at hl 1 rfl) ?_
    refine z_iconst (v := 1) X dX11_image_196 (by decide) ?_
    obtain ⟨r1, hc1, hf⟩ := z_bind hf
    refine m_callVv [.int x1, .int 1] X hl.1 (c_writes_ D cy ad hc1) gm_writes_ pd_writes_ rfl ⟨by decide, by decide⟩ (Nat.le_of_ble_eq_true rfl) rfl dX11_image_197 ?_
    refine z_aload_n X dX11_image_200 rfl (lv_at hl 0 rfl) ?_
    refine m_geti X ff_64 dX11_image_201 ?_
    exact m_iret X Z hf rfl dX11_image_204
  · have hf := (if_neg c_).symm.trans hf
    refine z_iconst (v := 5) X dX11_image_173 (by decide) ?_
    refine z_iload_n X dX11_image_174 rfl (lv_at hl 1 rfl) ?_
    refine z_imul X dX11_image_175 ?_
    refine z_aload_n X dX11_image_176 rfl (lv_at hl 0 rfl) ?_
    refine m_geta X ff_63 dX11_image_177 ?_
    refine z_iload_n X dX11_image_180 rfl (lv_at hl 2 rfl) ?_
    obtain ⟨hb2, hf⟩ := z_ite hf
    refine m_iald X pa_35 hb2 dX11_image_181 ?_
    refine z_iadd X dX11_image_182 ?_
    refine z_sipush (v := 251) X dX11_image_183 (by decide) ?_
    refine z_irem X dX11_image_186 (by decide) ?_
    refine z_istore_n (lv' := [(1, .int ((((5 : Int32) * x1) + (V 35 x2.toNatClampNeg)) - (((5 : Int32) * x1) + (V 35 x2.toNatClampNeg)) / 251 * 251)), (0, .ref (ad 0)), (2, .int x2)]) X dX11_image_187 rfl hl (by decide) rfl (fun ls hl => ?_)
    refine z_iinc (v := x2 + 1) (k0 := 2) (lv' := [(2, .int (x2 + 1)), (1, .int ((((5 : Int32) * x1) + (V 35 x2.toNatClampNeg)) - (((5 : Int32) * x1) + (V 35 x2.toNatClampNeg)) / 251 * 251)), (0, .ref (ad 0))]) X dX11_image_188 hl rfl rfl (by decide) rfl (fun ls hl => ?_)
    refine z_goto (tgt := 165) X dX11_image_191 (by decide) ?_
    exact hk165 ((((5 : Int32) * x1) + (V 35 x2.toNatClampNeg)) - (((5 : Int32) * x1) + (V 35 x2.toNatClampNeg)) / 251 * 251) (x2 + 1) V L ls (lv_sub hl [2, 1, 0] rfl) hf

set_option maxHeartbeats 4000000 in
set_option maxRecDepth 100000 in
theorem w_image_130 {M : zM} {D : va_G} {cy : Nat → ClassId} {ad : Nat → Nat} {r' : Int32 × zI × zL} (X : RX M (zR D cy ad) cX11_image 3 RX11 1 23) (Z : RZi M (zR D cy ad) .int r'.1 r'.2.1 r'.2.2) (n : Nat) : ∀ (x1 : Int32) (V : zI) (L : zL) (ls : Array Slot) (hl : lv_has ls 3 [(0, .ref (ad 0)), (1, .int x1)]) (hf : zfix (b_image_130) n (x1, V, L) = some r'), RG M (zR D cy ad) V L 130 ls [] := by
  induction n with
  | zero => intro x1 V L ls hl hf; cases hf
  | succ n ih =>
  intro x1 V L ls hl hf
  have hk130 : ∀ (x1 : Int32) (V : zI) (L : zL) (ls : Array Slot), lv_has ls 3 [(0, .ref (ad 0)), (1, .int x1)] → zfix (b_image_130) n (x1, V, L) = some r' → RG M (zR D cy ad) V L 130 ls [] := ih
  have hf : b_image_130 (zfix (b_image_130) n) (x1, V, L) = some r' := hf
  generalize zfix (b_image_130) n = k130 at hk130 hf
  unfold b_image_130 at hf
  clear ih
  refine z_iload_n X dX11_image_130 rfl (lv_at hl 1 rfl) ?_
  refine z_iconst (v := 3) X dX11_image_131 (by decide) ?_
  refine z_aload_n X dX11_image_132 rfl (lv_at hl 0 rfl) ?_
  refine m_geta X ff_43 dX11_image_133 ?_
  refine z_iconst (v := 0) X dX11_image_136 (by decide) ?_
  refine m_iald X pa_24 (show inB 0 22 by decide) dX11_image_137 ?_
  refine z_imul X dX11_image_138 ?_
  refine z_icmp_ge (tgt := 159) X dX11_image_139 (by decide) (fun c_ => ?_) (fun c_ => ?_)
  · have hf := (if_pos c_).symm.trans hf
    refine z_sipush (v := 191) X dX11_image_159 (by decide) ?_
    refine z_istore_n (lv' := [(1, .int 191), (0, .ref (ad 0))]) X dX11_image_162 rfl hl (by decide) rfl (fun ls hl => ?_)
    refine z_iconst (v := 0) X dX11_image_163 (by decide) ?_
    refine z_istore_n (lv' := [(2, .int 0), (1, .int 191), (0, .ref (ad 0))]) X dX11_image_164 rfl hl (by decide) rfl (fun ls hl => ?_)
    exact w_image_165 X Z FU 191 0 V L ls (lv_sub hl [2, 1, 0] rfl) hf
  · have hf := (if_neg c_).symm.trans hf
    refine z_aload_n X dX11_image_142 rfl (lv_at hl 0 rfl) ?_
    refine z_aload_n X dX11_image_143 rfl (lv_at hl 0 rfl) ?_
    refine m_geta X ff_44 dX11_image_144 ?_
    refine z_iload_n X dX11_image_147 rfl (lv_at hl 1 rfl) ?_
    obtain ⟨hb2, hf⟩ := z_ite hf
    refine m_iald X pa_25 hb2 dX11_image_148 ?_
    refine z_iconst (v := 1) X dX11_image_149 (by decide) ?_
    obtain ⟨r3, hc3, hf⟩ := z_bind hf
    refine m_callVv [.int (V 25 x1.toNatClampNeg), .int 1] X hl.1 (c_writes_ D cy ad hc3) gm_writes_ pd_writes_ rfl ⟨by decide, by decide⟩ (Nat.le_of_ble_eq_true rfl) rfl dX11_image_150 ?_
    refine z_iinc (v := x1 + 1) (k0 := 1) (lv' := [(1, .int (x1 + 1)), (0, .ref (ad 0))]) X dX11_image_153 hl rfl rfl (by decide) rfl (fun ls hl => ?_)
    refine z_goto (tgt := 130) X dX11_image_156 (by decide) ?_
    exact hk130 (x1 + 1) r3.1 r3.2 ls (lv_sub hl [1, 0] rfl) hf

set_option maxHeartbeats 4000000 in
set_option maxRecDepth 100000 in
theorem w_image_18 {M : zM} {D : va_G} {cy : Nat → ClassId} {ad : Nat → Nat} {r' : Int32 × zI × zL} (X : RX M (zR D cy ad) cX11_image 3 RX11 1 23) (Z : RZi M (zR D cy ad) .int r'.1 r'.2.1 r'.2.2) (n : Nat) : ∀ (x1 : Int32) (V : zI) (L : zL) (ls : Array Slot) (hl : lv_has ls 3 [(0, .ref (ad 0)), (1, .int x1)]) (hf : zfix (b_image_18) n (x1, V, L) = some r'), RG M (zR D cy ad) V L 18 ls [] := by
  induction n with
  | zero => intro x1 V L ls hl hf; cases hf
  | succ n ih =>
  intro x1 V L ls hl hf
  have hk18 : ∀ (x1 : Int32) (V : zI) (L : zL) (ls : Array Slot), lv_has ls 3 [(0, .ref (ad 0)), (1, .int x1)] → zfix (b_image_18) n (x1, V, L) = some r' → RG M (zR D cy ad) V L 18 ls [] := ih
  have hf : b_image_18 (zfix (b_image_18) n) (x1, V, L) = some r' := hf
  generalize zfix (b_image_18) n = k18 at hk18 hf
  unfold b_image_18 at hf
  clear ih
  refine z_iload_n X dX11_image_18 rfl (lv_at hl 1 rfl) ?_
  refine z_aload_n X dX11_image_19 rfl (lv_at hl 0 rfl) ?_
  refine m_geta X ff_14 dX11_image_20 ?_
  refine z_aload_n X dX11_image_23 rfl (lv_at hl 0 rfl) ?_
  refine m_geti X ff_13 dX11_image_24 ?_
  obtain ⟨hb1, hf⟩ := z_ite hf
  refine m_iald X pa_2 hb1 dX11_image_27 ?_
  refine z_icmp_ge (tgt := 117) X dX11_image_28 (by decide) (fun c_ => ?_) (fun c_ => ?_)
  · have hf := (if_pos c_).symm.trans hf
    refine z_aload_n X dX11_image_117 rfl (lv_at hl 0 rfl) ?_
    refine z_aload_n X dX11_image_118 rfl (lv_at hl 0 rfl) ?_
    refine m_geta X ff_43 dX11_image_119 ?_
    refine z_iconst (v := 0) X dX11_image_122 (by decide) ?_
    refine m_iald X pa_24 (show inB 0 22 by decide) dX11_image_123 ?_
    refine z_iconst (v := 1) X dX11_image_124 (by decide) ?_
    obtain ⟨r3, hc3, hf⟩ := z_bind hf
    refine m_callVv [.int (V 24 ((0) : Int32).toNatClampNeg), .int 1] X hl.1 (c_writes_ D cy ad hc3) gm_writes_ pd_writes_ rfl ⟨by decide, by decide⟩ (Nat.le_of_ble_eq_true rfl) rfl dX11_image_125 ?_
    refine z_iconst (v := 0) X dX11_image_128 (by decide) ?_
    refine z_istore_n (lv' := [(1, .int 0), (0, .ref (ad 0))]) X dX11_image_129 rfl hl (by decide) rfl (fun ls hl => ?_)
    exact w_image_130 X Z FU 0 r3.1 r3.2 ls (lv_sub hl [1, 0] rfl) hf
  · have hf := (if_neg c_).symm.trans hf
    refine z_iconst (v := 0) X dX11_image_31 (by decide) ?_
    refine z_istore_n (lv' := [(2, .int 0), (0, .ref (ad 0)), (1, .int x1)]) X dX11_image_32 rfl hl (by decide) rfl (fun ls hl => ?_)
    exact w_image_33 X Z hk18 FU x1 0 V L ls (lv_sub hl [1, 2, 0] rfl) hf

set_option maxHeartbeats 4000000 in
set_option maxRecDepth 100000 in
theorem w_image {M : zM} {D : va_G} {cy : Nat → ClassId} {ad : Nat → Nat} {r' : Int32 × zI × zL} (X : RX M (zR D cy ad) cX11_image 3 RX11 1 23) (Z : RZi M (zR D cy ad) .int r'.1 r'.2.1 r'.2.2)  (V : zI) (L : zL) (ls : Array Slot) (hl : lv_has ls 3 [(0, .ref (ad 0))]) (hf : f_image V L = some r') : RG M (zR D cy ad) V L 0 ls [] := by
  unfold f_image at hf
  refine z_aload_n X dX11_image_0 rfl (lv_at hl 0 rfl) ?_
  refine z_iconst (v := 0) X dX11_image_1 (by decide) ?_
  refine m_puti X fp_64 dX11_image_2 ?_
  refine z_aload_n X dX11_image_5 rfl (lv_at hl 0 rfl) ?_
  refine z_aload_n X dX11_image_6 rfl (lv_at hl 0 rfl) ?_
  refine m_geta X ff_39 dX11_image_7 ?_
  refine z_iconst (v := 0) X dX11_image_10 (by decide) ?_
  refine m_iald X pa_20 (show inB 0 22 by decide) dX11_image_11 ?_
  refine z_iconst (v := 2) X dX11_image_12 (by decide) ?_
  obtain ⟨r2, hc2, hf⟩ := z_bind hf
  refine m_callVv [.int ((z_uI V 0 64 0) 20 ((0) : Int32).toNatClampNeg), .int 2] X hl.1 (c_writes_ D cy ad hc2) gm_writes_ pd_writes_ rfl ⟨by decide, by decide⟩ (Nat.le_of_ble_eq_true rfl) rfl dX11_image_13 ?_
  refine z_iconst (v := 0) X dX11_image_16 (by decide) ?_
  refine z_istore_n (lv' := [(1, .int 0), (0, .ref (ad 0))]) X dX11_image_17 rfl hl (by decide) rfl (fun ls hl => ?_)
  exact w_image_18 X Z FU 0 r2.1 r2.2 ls (lv_sub hl [1, 0] rfl) hf

theorem c_image (D : va_G) (cy : Nat → ClassId) (ad : Nat → Nat)  {V : zI} {L : zL} {r' : Int32 × zI × zL} (hf : f_image V L = some r') : RMi (zR D cy ad) yX11_image cX11_image 3 .int 1 23 [.ref (ad 0)] V L r'.1 r'.2.1 r'.2.2 :=
  RMi.of (by decide) zR_nd (Nat.le_of_ble_eq_true rfl) (fun M X Z ls hl => w_image X Z V L ls hl hf)
def f_octet (x1 : Int32) (V : zI) (L : zL) : Option (Int32 × zI × zL) :=
  (f_is x1 0 ((V 0 64) - 1)).bind fun r1 => (if r1 = 0 then some ((-1), V, L) else if inB x1 280 then some (V 35 x1.toNatClampNeg, V, L) else none)
set_option maxHeartbeats 4000000 in
set_option maxRecDepth 100000 in
theorem w_octet {M : zM} {D : va_G} {cy : Nat → ClassId} {ad : Nat → Nat} {r' : Int32 × zI × zL} (X : RX M (zR D cy ad) cX11_octet 2 RX11 1 22) (Z : RZi M (zR D cy ad) .int r'.1 r'.2.1 r'.2.2) (x1 : Int32) (V : zI) (L : zL) (ls : Array Slot) (hl : lv_has ls 2 [(0, .ref (ad 0)), (1, .int x1)]) (hf : f_octet x1 V L = some r') : RG M (zR D cy ad) V L 0 ls [] := by
  unfold f_octet at hf
  refine z_iload_n X dX11_octet_0 rfl (lv_at hl 1 rfl) ?_
  refine z_iconst (v := 0) X dX11_octet_1 (by decide) ?_
  refine z_aload_n X dX11_octet_2 rfl (lv_at hl 0 rfl) ?_
  refine m_geti X ff_64 dX11_octet_3 ?_
  refine z_iconst (v := 1) X dX11_octet_6 (by decide) ?_
  refine z_isub X dX11_octet_7 ?_
  obtain ⟨r1, hc1, hf⟩ := z_bind hf
  refine m_callSi [.int x1, .int 0, .int ((V 0 64) - 1)] X hl.1 (c_is D cy ad hc1) gm_is pd_is rfl ⟨by decide, by decide⟩ (Nat.le_of_ble_eq_true rfl) rfl dX11_octet_8 ?_
  refine z_if_eq (tgt := 23) X dX11_octet_11 (by decide) (fun c_ => ?_) (fun c_ => ?_)
  · have hf := (if_pos c_).symm.trans hf
    refine z_iconst (v := -1) X dX11_octet_23 (by decide) ?_
    exact m_iret X Z hf rfl dX11_octet_24
  · have hf := (if_neg c_).symm.trans hf
    refine z_aload_n X dX11_octet_14 rfl (lv_at hl 0 rfl) ?_
    refine m_geta X ff_63 dX11_octet_15 ?_
    refine z_iload_n X dX11_octet_18 rfl (lv_at hl 1 rfl) ?_
    obtain ⟨hb2, hf⟩ := z_ite hf
    refine m_iald X pa_35 hb2 dX11_octet_19 ?_
    refine z_goto (tgt := 24) X dX11_octet_20 (by decide) ?_
    exact m_iret X Z hf rfl dX11_octet_24

theorem c_octet (D : va_G) (cy : Nat → ClassId) (ad : Nat → Nat) {x1 : Int32} {V : zI} {L : zL} {r' : Int32 × zI × zL} (hf : f_octet x1 V L = some r') : RMi (zR D cy ad) yX11_octet cX11_octet 2 .int 1 22 [.ref (ad 0), .int x1] V L r'.1 r'.2.1 r'.2.2 :=
  RMi.of (by decide) zR_nd (Nat.le_of_ble_eq_true rfl) (fun M X Z ls hl => w_octet X Z x1 V L ls hl hf)
def b_pairOn_3 (k3 : Int32 × Int32 × Int32 × Int32 × zI × zL → Option (Int32 × zI × zL)) : Int32 × Int32 × Int32 × Int32 × zI × zL → Option (Int32 × zI × zL) := fun ⟨x1, x2, x3, x4, V, L⟩ =>
  (if 3 ≤ x4 then (f_at 1 x1 x2 V L).bind fun r1 => if inB x3 1800 then if inB r1.1 792 then (f_at 1 x1 x2 (z_uI r1.2.1 21 r1.1.toNatClampNeg (r1.2.1 1 x3.toNatClampNeg)) r1.2.2).bind fun r4 => if inB (x3 + 1) 1800 then if inB r4.1 792 then (f_at 1 x1 x2 (z_uI r4.2.1 22 r4.1.toNatClampNeg (r4.2.1 1 (x3 + 1).toNatClampNeg)) r4.2.2).bind fun r7 => if inB (x3 + 2) 1800 then if inB r7.1 792 then some (1, z_uI r7.2.1 23 r7.1.toNatClampNeg (r7.2.1 1 (x3 + 2).toNatClampNeg), r7.2.2) else none else none else none else none else none else none else if inB (x3 + x4) 1800 then (if (V 1 (x3 + x4).toNatClampNeg) ≤ 99 then k3 (x1, x2, x3, (x4 + 1), V, L) else some (0, V, L)) else none)
def f_pairOn (x1 : Int32) (x2 : Int32) (x3 : Int32) (V : zI) (L : zL) : Option (Int32 × zI × zL) :=
  zfix (b_pairOn_3) FU (x1, x2, x3, 0, V, L)
set_option maxHeartbeats 4000000 in
set_option maxRecDepth 100000 in
theorem w_pairOn_3 {M : zM} {D : va_G} {cy : Nat → ClassId} {ad : Nat → Nat} {r' : Int32 × zI × zL} (X : RX M (zR D cy ad) cX11_pairOn 5 RX11 1 23) (Z : RZi M (zR D cy ad) .boolean r'.1 r'.2.1 r'.2.2) (n : Nat) : ∀ (x1 : Int32) (x2 : Int32) (x3 : Int32) (x4 : Int32) (V : zI) (L : zL) (ls : Array Slot) (hl : lv_has ls 5 [(0, .ref (ad 0)), (1, .int x1), (2, .int x2), (3, .int x3), (4, .int x4)]) (hf : zfix (b_pairOn_3) n (x1, x2, x3, x4, V, L) = some r'), RG M (zR D cy ad) V L 3 ls [] := by
  induction n with
  | zero => intro x1 x2 x3 x4 V L ls hl hf; cases hf
  | succ n ih =>
  intro x1 x2 x3 x4 V L ls hl hf
  have hk3 : ∀ (x1 : Int32) (x2 : Int32) (x3 : Int32) (x4 : Int32) (V : zI) (L : zL) (ls : Array Slot), lv_has ls 5 [(0, .ref (ad 0)), (1, .int x1), (2, .int x2), (3, .int x3), (4, .int x4)] → zfix (b_pairOn_3) n (x1, x2, x3, x4, V, L) = some r' → RG M (zR D cy ad) V L 3 ls [] := ih
  have hf : b_pairOn_3 (zfix (b_pairOn_3) n) (x1, x2, x3, x4, V, L) = some r' := hf
  generalize zfix (b_pairOn_3) n = k3 at hk3 hf
  unfold b_pairOn_3 at hf
  clear ih
  refine z_iload X dX11_pairOn_3 (lv_at hl 4 rfl) ?_
  refine z_iconst (v := 3) X dX11_pairOn_5 (by decide) ?_
  refine z_icmp_ge (tgt := 31) X dX11_pairOn_6 (by decide) (fun c_ => ?_) (fun c_ => ?_)
  · have hf := (if_pos c_).symm.trans hf
    refine z_aload_n X dX11_pairOn_31 rfl (lv_at hl 0 rfl) ?_
    refine m_geta X ff_40 dX11_pairOn_32 ?_
    refine z_aload_n X dX11_pairOn_35 rfl (lv_at hl 0 rfl) ?_
    refine z_iconst (v := 1) X dX11_pairOn_36 (by decide) ?_
    refine z_iload_n X dX11_pairOn_37 rfl (lv_at hl 1 rfl) ?_
    refine z_iload_n X dX11_pairOn_38 rfl (lv_at hl 2 rfl) ?_
    obtain ⟨r1, hc1, hf⟩ := z_bind hf
    refine m_callVi [.int 1, .int x1, .int x2] X hl.1 (c_at D cy ad hc1) gm_at pd_at rfl ⟨by decide, by decide⟩ (Nat.le_of_ble_eq_true rfl) rfl dX11_pairOn_39 ?_
    refine z_aload_n X dX11_pairOn_42 rfl (lv_at hl 0 rfl) ?_
    refine m_geta X ff_0 dX11_pairOn_43 ?_
    refine z_iload_n X dX11_pairOn_46 rfl (lv_at hl 3 rfl) ?_
    obtain ⟨hb2, hf⟩ := z_ite hf
    refine m_iald X pa_1 hb2 dX11_pairOn_47 ?_
    obtain ⟨hb3, hf⟩ := z_ite hf
    refine m_iast X pa_21 hb3 dX11_pairOn_48 ?_
    refine z_aload_n X dX11_pairOn_49 rfl (lv_at hl 0 rfl) ?_
    refine m_geta X ff_41 dX11_pairOn_50 ?_
    refine z_aload_n X dX11_pairOn_53 rfl (lv_at hl 0 rfl) ?_
    refine z_iconst (v := 1) X dX11_pairOn_54 (by decide) ?_
    refine z_iload_n X dX11_pairOn_55 rfl (lv_at hl 1 rfl) ?_
    refine z_iload_n X dX11_pairOn_56 rfl (lv_at hl 2 rfl) ?_
    obtain ⟨r4, hc4, hf⟩ := z_bind hf
    refine m_callVi [.int 1, .int x1, .int x2] X hl.1 (c_at D cy ad hc4) gm_at pd_at rfl ⟨by decide, by decide⟩ (Nat.le_of_ble_eq_true rfl) rfl dX11_pairOn_57 ?_
    refine z_aload_n X dX11_pairOn_60 rfl (lv_at hl 0 rfl) ?_
    refine m_geta X ff_0 dX11_pairOn_61 ?_
    refine z_iload_n X dX11_pairOn_64 rfl (lv_at hl 3 rfl) ?_
    refine z_iconst (v := 1) X dX11_pairOn_65 (by decide) ?_
    refine z_iadd X dX11_pairOn_66 ?_
    obtain ⟨hb5, hf⟩ := z_ite hf
    refine m_iald X pa_1 hb5 dX11_pairOn_67 ?_
    obtain ⟨hb6, hf⟩ := z_ite hf
    refine m_iast X pa_22 hb6 dX11_pairOn_68 ?_
    refine z_aload_n X dX11_pairOn_69 rfl (lv_at hl 0 rfl) ?_
    refine m_geta X ff_42 dX11_pairOn_70 ?_
    refine z_aload_n X dX11_pairOn_73 rfl (lv_at hl 0 rfl) ?_
    refine z_iconst (v := 1) X dX11_pairOn_74 (by decide) ?_
    refine z_iload_n X dX11_pairOn_75 rfl (lv_at hl 1 rfl) ?_
    refine z_iload_n X dX11_pairOn_76 rfl (lv_at hl 2 rfl) ?_
    obtain ⟨r7, hc7, hf⟩ := z_bind hf
    refine m_callVi [.int 1, .int x1, .int x2] X hl.1 (c_at D cy ad hc7) gm_at pd_at rfl ⟨by decide, by decide⟩ (Nat.le_of_ble_eq_true rfl) rfl dX11_pairOn_77 ?_
    refine z_aload_n X dX11_pairOn_80 rfl (lv_at hl 0 rfl) ?_
    refine m_geta X ff_0 dX11_pairOn_81 ?_
    refine z_iload_n X dX11_pairOn_84 rfl (lv_at hl 3 rfl) ?_
    refine z_iconst (v := 2) X dX11_pairOn_85 (by decide) ?_
    refine z_iadd X dX11_pairOn_86 ?_
    obtain ⟨hb8, hf⟩ := z_ite hf
    refine m_iald X pa_1 hb8 dX11_pairOn_87 ?_
    obtain ⟨hb9, hf⟩ := z_ite hf
    refine m_iast X pa_23 hb9 dX11_pairOn_88 ?_
    refine z_iconst (v := 1) X dX11_pairOn_89 (by decide) ?_
    exact m_iret X Z hf (by decide) dX11_pairOn_90
  · have hf := (if_neg c_).symm.trans hf
    refine z_aload_n X dX11_pairOn_9 rfl (lv_at hl 0 rfl) ?_
    refine m_geta X ff_0 dX11_pairOn_10 ?_
    refine z_iload_n X dX11_pairOn_13 rfl (lv_at hl 3 rfl) ?_
    refine z_iload X dX11_pairOn_14 (lv_at hl 4 rfl) ?_
    refine z_iadd X dX11_pairOn_16 ?_
    obtain ⟨hb10, hf⟩ := z_ite hf
    refine m_iald X pa_1 hb10 dX11_pairOn_17 ?_
    refine z_bipush (v := 99) X dX11_pairOn_18 (by decide) ?_
    refine z_icmp_le (tgt := 25) X dX11_pairOn_20 (by decide) (fun c_ => ?_) (fun c_ => ?_)
    · have hf := (if_pos c_).symm.trans hf
      refine z_iinc (v := x4 + 1) (k0 := 4) (lv' := [(4, .int (x4 + 1)), (0, .ref (ad 0)), (1, .int x1), (2, .int x2), (3, .int x3)]) X dX11_pairOn_25 hl rfl rfl (by decide) rfl (fun ls hl => ?_)
      refine z_goto (tgt := 3) X dX11_pairOn_28 (by decide) ?_
      exact hk3 x1 x2 x3 (x4 + 1) V L ls (lv_sub hl [1, 2, 3, 4, 0] rfl) hf
    · have hf := (if_neg c_).symm.trans hf
      refine z_iconst (v := 0) X dX11_pairOn_23 (by decide) ?_
      exact m_iret X Z hf (by decide) dX11_pairOn_24

set_option maxHeartbeats 4000000 in
set_option maxRecDepth 100000 in
theorem w_pairOn {M : zM} {D : va_G} {cy : Nat → ClassId} {ad : Nat → Nat} {r' : Int32 × zI × zL} (X : RX M (zR D cy ad) cX11_pairOn 5 RX11 1 23) (Z : RZi M (zR D cy ad) .boolean r'.1 r'.2.1 r'.2.2) (x1 : Int32) (x2 : Int32) (x3 : Int32) (V : zI) (L : zL) (ls : Array Slot) (hl : lv_has ls 5 [(0, .ref (ad 0)), (1, .int x1), (2, .int x2), (3, .int x3)]) (hf : f_pairOn x1 x2 x3 V L = some r') : RG M (zR D cy ad) V L 0 ls [] := by
  unfold f_pairOn at hf
  refine z_iconst (v := 0) X dX11_pairOn_0 (by decide) ?_
  refine z_istore (lv' := [(4, .int 0), (0, .ref (ad 0)), (1, .int x1), (2, .int x2), (3, .int x3)]) X dX11_pairOn_1 hl (by decide) rfl (fun ls hl => ?_)
  exact w_pairOn_3 X Z FU x1 x2 x3 0 V L ls (lv_sub hl [1, 2, 3, 4, 0] rfl) hf

theorem c_pairOn (D : va_G) (cy : Nat → ClassId) (ad : Nat → Nat) {x1 : Int32} {x2 : Int32} {x3 : Int32} {V : zI} {L : zL} {r' : Int32 × zI × zL} (hf : f_pairOn x1 x2 x3 V L = some r') : RMi (zR D cy ad) yX11_pairOn cX11_pairOn 5 .boolean 1 23 [.ref (ad 0), .int x1, .int x2, .int x3] V L r'.1 r'.2.1 r'.2.2 :=
  RMi.of (by decide) zR_nd (Nat.le_of_ble_eq_true rfl) (fun M X Z ls hl => w_pairOn X Z x1 x2 x3 V L ls hl hf)
