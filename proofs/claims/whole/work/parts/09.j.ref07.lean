def b_mailOn_79 (k79 : Int32 × Int32 × Int32 × zI × zL → Option (Int32 × zI × zL)) : Int32 × Int32 × Int32 × zI × zL → Option (Int32 × zI × zL) := fun ⟨x1, x2, x3, V, L⟩ =>
  (if 3 ≤ x3 then some (1, V, L) else if inB (x2 + x3) 1800 then if inB (((3 : Int32) * ((60 : Int32) + x1)) + x3) 3960 then k79 (x1, x2, (x3 + 1), z_uI V 25 (((3 : Int32) * ((60 : Int32) + x1)) + x3).toNatClampNeg (V 1 (x2 + x3).toNatClampNeg), L) else none else none)
def f_mailOn (x1 : Int32) (x2 : Int32) (V : zI) (L : zL) : Option (Int32 × zI × zL) :=
  if inB x2 1800 then if inB (x2 + 1) 1800 then (f_isPair (V 1 x2.toNatClampNeg) (V 1 (x2 + 1).toNatClampNeg) V L).bind fun r3 => (if r3.1 = 0 then some (0, r3.2.1, r3.2.2) else if inB x2 1800 then if inB (x2 + 1) 1800 then (f_isWay (r3.2.1 1 x2.toNatClampNeg) (r3.2.1 1 (x2 + 1).toNatClampNeg) r3.2.1 r3.2.2).bind fun r6 => (if r6.1 = 0 then some (0, r6.2.1, r6.2.2) else if inB (x2 + 2) 1800 then if inB x2 1800 then if inB (x2 + 1) 1800 then (f_wayBy (r6.2.1 1 x2.toNatClampNeg) (r6.2.1 1 (x2 + 1).toNatClampNeg) r6.2.1 r6.2.2).bind fun r10 => (f_is (r6.2.1 1 (x2 + 2).toNatClampNeg) 1 r10.1).bind fun r11 => (if r11 = 0 then some (0, r10.2.1, r10.2.2) else zfix (b_mailOn_79) FU (x1, x2, 0, r10.2.1, r10.2.2)) else none else none else none) else none else none) else none else none
set_option maxHeartbeats 4000000 in
set_option maxRecDepth 100000 in
theorem w_mailOn_79 {M : zM} {D : va_G} {cy : Nat → ClassId} {ad : Nat → Nat} {r' : Int32 × zI × zL} (X : RX M (zR D cy ad) cX11_mailOn 4 RX11 3 67) (Z : RZi M (zR D cy ad) .boolean r'.1 r'.2.1 r'.2.2) (n : Nat) : ∀ (x1 : Int32) (x2 : Int32) (x3 : Int32) (V : zI) (L : zL) (ls : Array Slot) (hl : lv_has ls 4 [(0, .ref (ad 0)), (1, .int x1), (2, .int x2), (3, .int x3)]) (hf : zfix (b_mailOn_79) n (x1, x2, x3, V, L) = some r'), RG M (zR D cy ad) V L 79 ls [] := by
  induction n with
  | zero => intro x1 x2 x3 V L ls hl hf; cases hf
  | succ n ih =>
  intro x1 x2 x3 V L ls hl hf
  have hk79 : ∀ (x1 : Int32) (x2 : Int32) (x3 : Int32) (V : zI) (L : zL) (ls : Array Slot), lv_has ls 4 [(0, .ref (ad 0)), (1, .int x1), (2, .int x2), (3, .int x3)] → zfix (b_mailOn_79) n (x1, x2, x3, V, L) = some r' → RG M (zR D cy ad) V L 79 ls [] := ih
  have hf : b_mailOn_79 (zfix (b_mailOn_79) n) (x1, x2, x3, V, L) = some r' := hf
  generalize zfix (b_mailOn_79) n = k79 at hk79 hf
  unfold b_mailOn_79 at hf
  clear ih
  refine z_iload_n X dX11_mailOn_79 rfl (lv_at hl 3 rfl) ?_
  refine z_iconst (v := 3) X dX11_mailOn_80 (by decide) ?_
  refine z_icmp_ge (tgt := 111) X dX11_mailOn_81 (by decide) (fun c_ => ?_) (fun c_ => ?_)
  · have hf := (if_pos c_).symm.trans hf
    refine z_iconst (v := 1) X dX11_mailOn_111 (by decide) ?_
    exact m_iret X Z hf (by decide) dX11_mailOn_112
  · have hf := (if_neg c_).symm.trans hf
    refine z_aload_n X dX11_mailOn_84 rfl (lv_at hl 0 rfl) ?_
    refine m_geta X ff_44 dX11_mailOn_85 ?_
    refine z_iconst (v := 3) X dX11_mailOn_88 (by decide) ?_
    refine z_bipush (v := 60) X dX11_mailOn_89 (by decide) ?_
    refine z_iload_n X dX11_mailOn_91 rfl (lv_at hl 1 rfl) ?_
    refine z_iadd X dX11_mailOn_92 ?_
    refine z_imul X dX11_mailOn_93 ?_
    refine z_iload_n X dX11_mailOn_94 rfl (lv_at hl 3 rfl) ?_
    refine z_iadd X dX11_mailOn_95 ?_
    refine z_aload_n X dX11_mailOn_96 rfl (lv_at hl 0 rfl) ?_
    refine m_geta X ff_0 dX11_mailOn_97 ?_
    refine z_iload_n X dX11_mailOn_100 rfl (lv_at hl 2 rfl) ?_
    refine z_iload_n X dX11_mailOn_101 rfl (lv_at hl 3 rfl) ?_
    refine z_iadd X dX11_mailOn_102 ?_
    obtain ⟨hb1, hf⟩ := z_ite hf
    refine m_iald X pa_1 hb1 dX11_mailOn_103 ?_
    obtain ⟨hb2, hf⟩ := z_ite hf
    refine m_iast X pa_25 hb2 dX11_mailOn_104 ?_
    refine z_iinc (v := x3 + 1) (k0 := 3) (lv' := [(3, .int (x3 + 1)), (0, .ref (ad 0)), (1, .int x1), (2, .int x2)]) X dX11_mailOn_105 hl rfl rfl (by decide) rfl (fun ls hl => ?_)
    refine z_goto (tgt := 79) X dX11_mailOn_108 (by decide) ?_
    exact hk79 x1 x2 (x3 + 1) (z_uI V 25 (((3 : Int32) * ((60 : Int32) + x1)) + x3).toNatClampNeg (V 1 (x2 + x3).toNatClampNeg)) L ls (lv_sub hl [1, 2, 3, 0] rfl) hf

set_option maxHeartbeats 4000000 in
set_option maxRecDepth 100000 in
theorem w_mailOn {M : zM} {D : va_G} {cy : Nat → ClassId} {ad : Nat → Nat} {r' : Int32 × zI × zL} (X : RX M (zR D cy ad) cX11_mailOn 4 RX11 3 67) (Z : RZi M (zR D cy ad) .boolean r'.1 r'.2.1 r'.2.2) (x1 : Int32) (x2 : Int32) (V : zI) (L : zL) (ls : Array Slot) (hl : lv_has ls 4 [(0, .ref (ad 0)), (1, .int x1), (2, .int x2)]) (hf : f_mailOn x1 x2 V L = some r') : RG M (zR D cy ad) V L 0 ls [] := by
  unfold f_mailOn at hf
  refine z_aload_n X dX11_mailOn_0 rfl (lv_at hl 0 rfl) ?_
  refine z_aload_n X dX11_mailOn_1 rfl (lv_at hl 0 rfl) ?_
  refine m_geta X ff_0 dX11_mailOn_2 ?_
  refine z_iload_n X dX11_mailOn_5 rfl (lv_at hl 2 rfl) ?_
  obtain ⟨hb1, hf⟩ := z_ite hf
  refine m_iald X pa_1 hb1 dX11_mailOn_6 ?_
  refine z_aload_n X dX11_mailOn_7 rfl (lv_at hl 0 rfl) ?_
  refine m_geta X ff_0 dX11_mailOn_8 ?_
  refine z_iload_n X dX11_mailOn_11 rfl (lv_at hl 2 rfl) ?_
  refine z_iconst (v := 1) X dX11_mailOn_12 (by decide) ?_
  refine z_iadd X dX11_mailOn_13 ?_
  obtain ⟨hb2, hf⟩ := z_ite hf
  refine m_iald X pa_1 hb2 dX11_mailOn_14 ?_
  obtain ⟨r3, hc3, hf⟩ := z_bind hf
  refine m_callVi [.int (V 1 x2.toNatClampNeg), .int (V 1 (x2 + 1).toNatClampNeg)] X hl.1 (c_isPair D cy ad hc3) gm_isPair pd_isPair rfl ⟨by decide, by decide⟩ (Nat.le_of_ble_eq_true rfl) rfl dX11_mailOn_15 ?_
  refine z_if_eq (tgt := 75) X dX11_mailOn_18 (by decide) (fun c_ => ?_) (fun c_ => ?_)
  · have hf := (if_pos c_).symm.trans hf
    refine z_iconst (v := 0) X dX11_mailOn_75 (by decide) ?_
    exact m_iret X Z hf (by decide) dX11_mailOn_76
  · have hf := (if_neg c_).symm.trans hf
    refine z_aload_n X dX11_mailOn_21 rfl (lv_at hl 0 rfl) ?_
    refine z_aload_n X dX11_mailOn_22 rfl (lv_at hl 0 rfl) ?_
    refine m_geta X ff_0 dX11_mailOn_23 ?_
    refine z_iload_n X dX11_mailOn_26 rfl (lv_at hl 2 rfl) ?_
    obtain ⟨hb4, hf⟩ := z_ite hf
    refine m_iald X pa_1 hb4 dX11_mailOn_27 ?_
    refine z_aload_n X dX11_mailOn_28 rfl (lv_at hl 0 rfl) ?_
    refine m_geta X ff_0 dX11_mailOn_29 ?_
    refine z_iload_n X dX11_mailOn_32 rfl (lv_at hl 2 rfl) ?_
    refine z_iconst (v := 1) X dX11_mailOn_33 (by decide) ?_
    refine z_iadd X dX11_mailOn_34 ?_
    obtain ⟨hb5, hf⟩ := z_ite hf
    refine m_iald X pa_1 hb5 dX11_mailOn_35 ?_
    obtain ⟨r6, hc6, hf⟩ := z_bind hf
    refine m_callVi [.int (r3.2.1 1 x2.toNatClampNeg), .int (r3.2.1 1 (x2 + 1).toNatClampNeg)] X hl.1 (c_isWay D cy ad hc6) gm_isWay pd_isWay rfl ⟨by decide, by decide⟩ (Nat.le_of_ble_eq_true rfl) rfl dX11_mailOn_36 ?_
    refine z_if_eq (tgt := 75) X dX11_mailOn_39 (by decide) (fun c_ => ?_) (fun c_ => ?_)
    · have hf := (if_pos c_).symm.trans hf
      refine z_iconst (v := 0) X dX11_mailOn_75 (by decide) ?_
      exact m_iret X Z hf (by decide) dX11_mailOn_76
    · have hf := (if_neg c_).symm.trans hf
      refine z_aload_n X dX11_mailOn_42 rfl (lv_at hl 0 rfl) ?_
      refine m_geta X ff_0 dX11_mailOn_43 ?_
      refine z_iload_n X dX11_mailOn_46 rfl (lv_at hl 2 rfl) ?_
      refine z_iconst (v := 2) X dX11_mailOn_47 (by decide) ?_
      refine z_iadd X dX11_mailOn_48 ?_
      obtain ⟨hb7, hf⟩ := z_ite hf
      refine m_iald X pa_1 hb7 dX11_mailOn_49 ?_
      refine z_iconst (v := 1) X dX11_mailOn_50 (by decide) ?_
      refine z_aload_n X dX11_mailOn_51 rfl (lv_at hl 0 rfl) ?_
      refine z_aload_n X dX11_mailOn_52 rfl (lv_at hl 0 rfl) ?_
      refine m_geta X ff_0 dX11_mailOn_53 ?_
      refine z_iload_n X dX11_mailOn_56 rfl (lv_at hl 2 rfl) ?_
      obtain ⟨hb8, hf⟩ := z_ite hf
      refine m_iald X pa_1 hb8 dX11_mailOn_57 ?_
      refine z_aload_n X dX11_mailOn_58 rfl (lv_at hl 0 rfl) ?_
      refine m_geta X ff_0 dX11_mailOn_59 ?_
      refine z_iload_n X dX11_mailOn_62 rfl (lv_at hl 2 rfl) ?_
      refine z_iconst (v := 1) X dX11_mailOn_63 (by decide) ?_
      refine z_iadd X dX11_mailOn_64 ?_
      obtain ⟨hb9, hf⟩ := z_ite hf
      refine m_iald X pa_1 hb9 dX11_mailOn_65 ?_
      obtain ⟨r10, hc10, hf⟩ := z_bind hf
      refine m_callVi [.int (r6.2.1 1 x2.toNatClampNeg), .int (r6.2.1 1 (x2 + 1).toNatClampNeg)] X hl.1 (c_wayBy D cy ad hc10) gm_wayBy pd_wayBy rfl ⟨by decide, by decide⟩ (Nat.le_of_ble_eq_true rfl) rfl dX11_mailOn_66 ?_
      obtain ⟨r11, hc11, hf⟩ := z_bind hf
      refine m_callSi [.int (r6.2.1 1 (x2 + 2).toNatClampNeg), .int 1, .int r10.1] X hl.1 (c_is D cy ad hc11) gm_is pd_is rfl ⟨by decide, by decide⟩ (Nat.le_of_ble_eq_true rfl) rfl dX11_mailOn_69 ?_
      refine z_if_ne (tgt := 77) X dX11_mailOn_72 (by decide) (fun c_ => ?_) (fun c_ => ?_)
      · have hf := (if_neg c_).symm.trans hf
        refine z_iconst (v := 0) X dX11_mailOn_77 (by decide) ?_
        refine z_istore_n (lv' := [(3, .int 0), (0, .ref (ad 0)), (1, .int x1), (2, .int x2)]) X dX11_mailOn_78 rfl hl (by decide) rfl (fun ls hl => ?_)
        exact w_mailOn_79 X Z FU x1 x2 0 r10.2.1 r10.2.2 ls (lv_sub hl [1, 2, 3, 0] rfl) hf
      · have hf := (if_pos c_).symm.trans hf
        refine z_iconst (v := 0) X dX11_mailOn_75 (by decide) ?_
        exact m_iret X Z hf (by decide) dX11_mailOn_76

theorem c_mailOn (D : va_G) (cy : Nat → ClassId) (ad : Nat → Nat) {x1 : Int32} {x2 : Int32} {V : zI} {L : zL} {r' : Int32 × zI × zL} (hf : f_mailOn x1 x2 V L = some r') : RMi (zR D cy ad) yX11_mailOn cX11_mailOn 4 .boolean 3 67 [.ref (ad 0), .int x1, .int x2] V L r'.1 r'.2.1 r'.2.2 :=
  RMi.of (by decide) zR_nd (Nat.le_of_ble_eq_true rfl) (fun M X Z ls hl => w_mailOn X Z x1 x2 V L ls hl hf)
def b_comesOn_199 (k190 : Int32 × Int32 × Int32 × Int32 × zI × zL → Option (Int32 × zI × zL)) (k199 : Int32 × Int32 × Int32 × Int32 × Int32 × zI × zL → Option (Int32 × zI × zL)) : Int32 × Int32 × Int32 × Int32 × Int32 × zI × zL → Option (Int32 × zI × zL) := fun ⟨x2, x3, x5, x6, x7, V, L⟩ =>
  (if x2 ≤ x7 then k190 (x2, x3, x5, (x6 + 1), V, L) else (if x6 = x7 then k199 (x2, x3, x5, x6, (x7 + 1), V, L) else (f_pairOn x6 x7 x5 V L).bind fun r1 => (if r1.1 = 0 then some (0, r1.2.1, r1.2.2) else k199 (x2, x3, (x5 + 3), x6, (x7 + 1), r1.2.1, r1.2.2))))
def b_comesOn_248 (k248 : Int32 × Int32 × zI × zL → Option (Int32 × zI × zL)) : Int32 × Int32 × zI × zL → Option (Int32 × zI × zL) := fun ⟨x3, x6, V, L⟩ =>
  (if (V 24 ((1) : Int32).toNatClampNeg) ≤ x6 then some (1, V, L) else (f_mailOn x6 (x3 + ((3 : Int32) * x6)) V L).bind fun r2 => (if r2.1 = 0 then some (0, r2.2.1, r2.2.2) else k248 (x3, (x6 + 1), r2.2.1, r2.2.2)))
def b_comesOn_190 (k190 : Int32 × Int32 × Int32 × Int32 × zI × zL → Option (Int32 × zI × zL)) : Int32 × Int32 × Int32 × Int32 × zI × zL → Option (Int32 × zI × zL) := fun ⟨x2, x3, x5, x6, V, L⟩ =>
  (if x2 ≤ x6 then zfix (b_comesOn_248) FU (x3, 0, V, L) else zfix (b_comesOn_199 k190) FU (x2, x3, x5, x6, 0, V, L))
def b_comesOn_88 (k88 : Int32 × Int32 × Int32 × Int32 × Int32 × zI × zL → Option (Int32 × zI × zL)) : Int32 × Int32 × Int32 × Int32 × Int32 × zI × zL → Option (Int32 × zI × zL) := fun ⟨x1, x2, x3, x4, x5, V, L⟩ =>
  (if (x1 - 1) ≤ x5 then if inB (x1 - 1) 1800 then (if (V 1 (x1 - 1).toNatClampNeg) = x4 then (f_copies 1 0 V L).bind fun r2 => if inB (x3 - 1) 1800 then zfix (b_comesOn_190) FU (x2, x3, 2, 0, z_uI (z_uI (z_uI r2.1 20 ((1) : Int32).toNatClampNeg (((r2.1 1 ((0) : Int32).toNatClampNeg) <<< (8 &&& 31)) ||| (r2.1 1 ((1) : Int32).toNatClampNeg))) 24 ((1) : Int32).toNatClampNeg ((z_uI r2.1 20 ((1) : Int32).toNatClampNeg (((r2.1 1 ((0) : Int32).toNatClampNeg) <<< (8 &&& 31)) ||| (r2.1 1 ((1) : Int32).toNatClampNeg))) 1 (x3 - 1).toNatClampNeg)) 26 ((1) : Int32).toNatClampNeg 0, r2.2) else none else some (0, V, L)) else none else if inB x5 1800 then k88 (x1, x2, x3, ((((5 : Int32) * x4) + (V 1 x5.toNatClampNeg)) - (((5 : Int32) * x4) + (V 1 x5.toNatClampNeg)) / 251 * 251), (x5 + 1), V, L) else none)
def f_comesOn (x1 : Int32) (V : zI) (L : zL) : Option (Int32 × zI × zL) :=
  if inB (V 0 13) 2 then (if x1 < ((3 : Int32) + (((3 : Int32) * (V 2 (V 0 13).toNatClampNeg)) * ((V 2 (V 0 13).toNatClampNeg) - 1))) then some (0, V, L) else if inB (((3 : Int32) + (((3 : Int32) * (V 2 (V 0 13).toNatClampNeg)) * ((V 2 (V 0 13).toNatClampNeg) - 1))) - 1) 1800 then (if 60 < (V 1 (((3 : Int32) + (((3 : Int32) * (V 2 (V 0 13).toNatClampNeg)) * ((V 2 (V 0 13).toNatClampNeg) - 1))) - 1).toNatClampNeg) then some (0, V, L) else if inB (((3 : Int32) + (((3 : Int32) * (V 2 (V 0 13).toNatClampNeg)) * ((V 2 (V 0 13).toNatClampNeg) - 1))) - 1) 1800 then (if x1 = ((((3 : Int32) + (((3 : Int32) * (V 2 (V 0 13).toNatClampNeg)) * ((V 2 (V 0 13).toNatClampNeg) - 1))) + ((3 : Int32) * (V 1 (((3 : Int32) + (((3 : Int32) * (V 2 (V 0 13).toNatClampNeg)) * ((V 2 (V 0 13).toNatClampNeg) - 1))) - 1).toNatClampNeg))) + 1) then (if (((V 1 ((0) : Int32).toNatClampNeg) <<< (8 &&& 31)) ||| (V 1 ((1) : Int32).toNatClampNeg)) ≤ 999 then zfix (b_comesOn_88) FU (x1, (V 2 (V 0 13).toNatClampNeg), ((3 : Int32) + (((3 : Int32) * (V 2 (V 0 13).toNatClampNeg)) * ((V 2 (V 0 13).toNatClampNeg) - 1))), 191, 0, V, L) else some (0, V, L)) else some (0, V, L)) else none) else none) else none
set_option maxHeartbeats 4000000 in
set_option maxRecDepth 100000 in
theorem w_comesOn_199 {M : zM} {D : va_G} {cy : Nat → ClassId} {ad : Nat → Nat} {r' : Int32 × zI × zL} (X : RX M (zR D cy ad) cX11_comesOn 8 RX11 4 90) (Z : RZi M (zR D cy ad) .boolean r'.1 r'.2.1 r'.2.2) {k190 : Int32 × Int32 × Int32 × Int32 × zI × zL → Option (Int32 × zI × zL)} (hk190 : ∀ (x2 : Int32) (x3 : Int32) (x5 : Int32) (x6 : Int32) (V : zI) (L : zL) (ls : Array Slot), lv_has ls 8 [(0, .ref (ad 0)), (2, .int x2), (3, .int x3), (5, .int x5), (6, .int x6)] → k190 (x2, x3, x5, x6, V, L) = some r' → RG M (zR D cy ad) V L 190 ls []) (n : Nat) : ∀ (x2 : Int32) (x3 : Int32) (x5 : Int32) (x6 : Int32) (x7 : Int32) (V : zI) (L : zL) (ls : Array Slot) (hl : lv_has ls 8 [(0, .ref (ad 0)), (2, .int x2), (3, .int x3), (5, .int x5), (6, .int x6), (7, .int x7)]) (hf : zfix (b_comesOn_199 k190) n (x2, x3, x5, x6, x7, V, L) = some r'), RG M (zR D cy ad) V L 199 ls [] := by
  induction n with
  | zero => intro x2 x3 x5 x6 x7 V L ls hl hf; cases hf
  | succ n ih =>
  intro x2 x3 x5 x6 x7 V L ls hl hf
  have hk199 : ∀ (x2 : Int32) (x3 : Int32) (x5 : Int32) (x6 : Int32) (x7 : Int32) (V : zI) (L : zL) (ls : Array Slot), lv_has ls 8 [(0, .ref (ad 0)), (2, .int x2), (3, .int x3), (5, .int x5), (6, .int x6), (7, .int x7)] → zfix (b_comesOn_199 k190) n (x2, x3, x5, x6, x7, V, L) = some r' → RG M (zR D cy ad) V L 199 ls [] := ih
  have hf : b_comesOn_199 k190 (zfix (b_comesOn_199 k190) n) (x2, x3, x5, x6, x7, V, L) = some r' := hf
  generalize zfix (b_comesOn_199 k190) n = k199 at hk199 hf
  unfold b_comesOn_199 at hf
  clear ih
  refine z_iload X dX11_comesOn_199 (lv_at hl 5 rfl) ?_
  refine z_iload_n X dX11_comesOn_201 rfl (lv_at hl 1 rfl) ?_
  refine z_icmp_ge (tgt := 239) X dX11_comesOn_202 (by decide) (fun c_ => ?_) (fun c_ => ?_)
  · have hf := (if_pos c_).symm.trans hf
    refine z_iinc (v := x6 + 1) (k0 := 4) (lv' := [(6, .int (x6 + 1)), (0, .ref (ad 0)), (2, .int x2), (3, .int x3), (5, .int x5), (7, .int x7)]) X dX11_comesOn_239 hl rfl rfl (by decide) rfl (fun ls hl => ?_)
    refine z_goto (tgt := 190) X dX11_comesOn_242 (by decide) ?_
    exact hk190 x2 x3 x5 (x6 + 1) V L ls (lv_sub hl [1, 2, 3, 4, 0] rfl) hf
  · have hf := (if_neg c_).symm.trans hf
    refine z_iload X dX11_comesOn_205 (lv_at hl 4 rfl) ?_
    refine z_iload X dX11_comesOn_207 (lv_at hl 5 rfl) ?_
    refine z_icmp_ne (tgt := 215) X dX11_comesOn_209 (by decide) (fun c_ => ?_) (fun c_ => ?_)
    · have hf := (if_neg c_).symm.trans hf
      refine z_aload_n X dX11_comesOn_215 rfl (lv_at hl 0 rfl) ?_
      refine z_iload X dX11_comesOn_216 (lv_at hl 4 rfl) ?_
      refine z_iload X dX11_comesOn_218 (lv_at hl 5 rfl) ?_
      refine z_iload X dX11_comesOn_220 (lv_at hl 3 rfl) ?_
      obtain ⟨r1, hc1, hf⟩ := z_bind hf
      refine m_callVi [.int x6, .int x7, .int x5] X hl.1 (c_pairOn D cy ad hc1) gm_pairOn pd_pairOn rfl ⟨by decide, by decide⟩ (Nat.le_of_ble_eq_true rfl) rfl dX11_comesOn_222 ?_
      refine z_if_ne (tgt := 230) X dX11_comesOn_225 (by decide) (fun c_ => ?_) (fun c_ => ?_)
      · have hf := (if_neg c_).symm.trans hf
        refine z_iinc (v := x5 + 3) (k0 := 3) (lv' := [(5, .int (x5 + 3)), (0, .ref (ad 0)), (2, .int x2), (3, .int x3), (6, .int x6), (7, .int x7)]) X dX11_comesOn_230 hl rfl rfl (by decide) rfl (fun ls hl => ?_)
        refine z_iinc (v := x7 + 1) (k0 := 5) (lv' := [(7, .int (x7 + 1)), (5, .int (x5 + 3)), (0, .ref (ad 0)), (2, .int x2), (3, .int x3), (6, .int x6)]) X dX11_comesOn_233 hl rfl rfl (by decide) rfl (fun ls hl => ?_)
        refine z_goto (tgt := 199) X dX11_comesOn_236 (by decide) ?_
        exact hk199 x2 x3 (x5 + 3) x6 (x7 + 1) r1.2.1 r1.2.2 ls (lv_sub hl [2, 3, 4, 1, 5, 0] rfl) hf
      · have hf := (if_pos c_).symm.trans hf
        refine z_iconst (v := 0) X dX11_comesOn_228 (by decide) ?_
        exact m_iret X Z hf (by decide) dX11_comesOn_229
    · have hf := (if_pos c_).symm.trans hf
      refine z_goto (tgt := 233) X dX11_comesOn_212 (by decide) ?_
      refine z_iinc (v := x7 + 1) (k0 := 5) (lv' := [(7, .int (x7 + 1)), (0, .ref (ad 0)), (2, .int x2), (3, .int x3), (5, .int x5), (6, .int x6)]) X dX11_comesOn_233 hl rfl rfl (by decide) rfl (fun ls hl => ?_)
      refine z_goto (tgt := 199) X dX11_comesOn_236 (by decide) ?_
      exact hk199 x2 x3 x5 x6 (x7 + 1) V L ls (lv_sub hl [1, 2, 3, 4, 5, 0] rfl) hf

set_option maxHeartbeats 4000000 in
set_option maxRecDepth 100000 in
theorem w_comesOn_248 {M : zM} {D : va_G} {cy : Nat → ClassId} {ad : Nat → Nat} {r' : Int32 × zI × zL} (X : RX M (zR D cy ad) cX11_comesOn 8 RX11 4 90) (Z : RZi M (zR D cy ad) .boolean r'.1 r'.2.1 r'.2.2) (n : Nat) : ∀ (x3 : Int32) (x6 : Int32) (V : zI) (L : zL) (ls : Array Slot) (hl : lv_has ls 8 [(0, .ref (ad 0)), (3, .int x3), (6, .int x6)]) (hf : zfix (b_comesOn_248) n (x3, x6, V, L) = some r'), RG M (zR D cy ad) V L 248 ls [] := by
  induction n with
  | zero => intro x3 x6 V L ls hl hf; cases hf
  | succ n ih =>
  intro x3 x6 V L ls hl hf
  have hk248 : ∀ (x3 : Int32) (x6 : Int32) (V : zI) (L : zL) (ls : Array Slot), lv_has ls 8 [(0, .ref (ad 0)), (3, .int x3), (6, .int x6)] → zfix (b_comesOn_248) n (x3, x6, V, L) = some r' → RG M (zR D cy ad) V L 248 ls [] := ih
  have hf : b_comesOn_248 (zfix (b_comesOn_248) n) (x3, x6, V, L) = some r' := hf
  generalize zfix (b_comesOn_248) n = k248 at hk248 hf
  unfold b_comesOn_248 at hf
  clear ih
  refine z_iload X dX11_comesOn_248 (lv_at hl 2 rfl) ?_
  refine z_aload_n X dX11_comesOn_250 rfl (lv_at hl 0 rfl) ?_
  refine m_geta X ff_43 dX11_comesOn_251 ?_
  refine z_iconst (v := 1) X dX11_comesOn_254 (by decide) ?_
  refine m_iald X pa_24 (show inB 1 22 by decide) dX11_comesOn_255 ?_
  refine z_icmp_ge (tgt := 282) X dX11_comesOn_256 (by decide) (fun c_ => ?_) (fun c_ => ?_)
  · have hf := (if_pos c_).symm.trans hf
    refine z_iconst (v := 1) X dX11_comesOn_282 (by decide) ?_
    exact m_iret X Z hf (by decide) dX11_comesOn_283
  · have hf := (if_neg c_).symm.trans hf
    refine z_aload_n X dX11_comesOn_259 rfl (lv_at hl 0 rfl) ?_
    refine z_iload X dX11_comesOn_260 (lv_at hl 2 rfl) ?_
    refine z_iload_n X dX11_comesOn_262 rfl (lv_at hl 1 rfl) ?_
    refine z_iconst (v := 3) X dX11_comesOn_263 (by decide) ?_
    refine z_iload X dX11_comesOn_264 (lv_at hl 2 rfl) ?_
    refine z_imul X dX11_comesOn_266 ?_
    refine z_iadd X dX11_comesOn_267 ?_
    obtain ⟨r2, hc2, hf⟩ := z_bind hf
    refine m_callVi [.int x6, .int (x3 + ((3 : Int32) * x6))] X hl.1 (c_mailOn D cy ad hc2) gm_mailOn pd_mailOn rfl ⟨by decide, by decide⟩ (Nat.le_of_ble_eq_true rfl) rfl dX11_comesOn_268 ?_
    refine z_if_ne (tgt := 276) X dX11_comesOn_271 (by decide) (fun c_ => ?_) (fun c_ => ?_)
    · have hf := (if_neg c_).symm.trans hf
      refine z_iinc (v := x6 + 1) (k0 := 2) (lv' := [(6, .int (x6 + 1)), (0, .ref (ad 0)), (3, .int x3)]) X dX11_comesOn_276 hl rfl rfl (by decide) rfl (fun ls hl => ?_)
      refine z_goto (tgt := 248) X dX11_comesOn_279 (by decide) ?_
      exact hk248 x3 (x6 + 1) r2.2.1 r2.2.2 ls (lv_sub hl [1, 2, 0] rfl) hf
    · have hf := (if_pos c_).symm.trans hf
      refine z_iconst (v := 0) X dX11_comesOn_274 (by decide) ?_
      exact m_iret X Z hf (by decide) dX11_comesOn_275

set_option maxHeartbeats 4000000 in
set_option maxRecDepth 100000 in
theorem w_comesOn_190 {M : zM} {D : va_G} {cy : Nat → ClassId} {ad : Nat → Nat} {r' : Int32 × zI × zL} (X : RX M (zR D cy ad) cX11_comesOn 8 RX11 4 90) (Z : RZi M (zR D cy ad) .boolean r'.1 r'.2.1 r'.2.2) (n : Nat) : ∀ (x2 : Int32) (x3 : Int32) (x5 : Int32) (x6 : Int32) (V : zI) (L : zL) (ls : Array Slot) (hl : lv_has ls 8 [(0, .ref (ad 0)), (2, .int x2), (3, .int x3), (5, .int x5), (6, .int x6)]) (hf : zfix (b_comesOn_190) n (x2, x3, x5, x6, V, L) = some r'), RG M (zR D cy ad) V L 190 ls [] := by
  induction n with
  | zero => intro x2 x3 x5 x6 V L ls hl hf; cases hf
  | succ n ih =>
  intro x2 x3 x5 x6 V L ls hl hf
  have hk190 : ∀ (x2 : Int32) (x3 : Int32) (x5 : Int32) (x6 : Int32) (V : zI) (L : zL) (ls : Array Slot), lv_has ls 8 [(0, .ref (ad 0)), (2, .int x2), (3, .int x3), (5, .int x5), (6, .int x6)] → zfix (b_comesOn_190) n (x2, x3, x5, x6, V, L) = some r' → RG M (zR D cy ad) V L 190 ls [] := ih
  have hf : b_comesOn_190 (zfix (b_comesOn_190) n) (x2, x3, x5, x6, V, L) = some r' := hf
  generalize zfix (b_comesOn_190) n = k190 at hk190 hf
  unfold b_comesOn_190 at hf
  clear ih
  refine z_iload X dX11_comesOn_190 (lv_at hl 4 rfl) ?_
  refine z_iload_n X dX11_comesOn_192 rfl (lv_at hl 1 rfl) ?_
  refine z_icmp_ge (tgt := 245) X dX11_comesOn_193 (by decide) (fun c_ => ?_) (fun c_ => ?_)
  · have hf := (if_pos c_).symm.trans hf
    refine z_iconst (v := 0) X dX11_comesOn_245 (by decide) ?_
    refine z_istore (lv' := [(6, .int 0), (0, .ref (ad 0)), (2, .int x2), (3, .int x3), (5, .int x5)]) X dX11_comesOn_246 hl (by decide) rfl (fun ls hl => ?_)
    exact w_comesOn_248 X Z FU x3 0 V L ls (lv_sub hl [1, 3, 0] rfl) hf
  · have hf := (if_neg c_).symm.trans hf
    refine z_iconst (v := 0) X dX11_comesOn_196 (by decide) ?_
    refine z_istore (lv' := [(7, .int 0), (0, .ref (ad 0)), (2, .int x2), (3, .int x3), (5, .int x5), (6, .int x6)]) X dX11_comesOn_197 hl (by decide) rfl (fun ls hl => ?_)
    exact w_comesOn_199 X Z hk190 FU x2 x3 x5 x6 0 V L ls (lv_sub hl [1, 2, 3, 4, 5, 0] rfl) hf

set_option maxHeartbeats 4000000 in
set_option maxRecDepth 100000 in
theorem w_comesOn_88 {M : zM} {D : va_G} {cy : Nat → ClassId} {ad : Nat → Nat} {r' : Int32 × zI × zL} (X : RX M (zR D cy ad) cX11_comesOn 8 RX11 4 90) (Z : RZi M (zR D cy ad) .boolean r'.1 r'.2.1 r'.2.2) (n : Nat) : ∀ (x1 : Int32) (x2 : Int32) (x3 : Int32) (x4 : Int32) (x5 : Int32) (V : zI) (L : zL) (ls : Array Slot) (hl : lv_has ls 8 [(0, .ref (ad 0)), (1, .int x1), (2, .int x2), (3, .int x3), (4, .int x4), (5, .int x5)]) (hf : zfix (b_comesOn_88) n (x1, x2, x3, x4, x5, V, L) = some r'), RG M (zR D cy ad) V L 88 ls [] := by
  induction n with
  | zero => intro x1 x2 x3 x4 x5 V L ls hl hf; cases hf
  | succ n ih =>
  intro x1 x2 x3 x4 x5 V L ls hl hf
  have hk88 : ∀ (x1 : Int32) (x2 : Int32) (x3 : Int32) (x4 : Int32) (x5 : Int32) (V : zI) (L : zL) (ls : Array Slot), lv_has ls 8 [(0, .ref (ad 0)), (1, .int x1), (2, .int x2), (3, .int x3), (4, .int x4), (5, .int x5)] → zfix (b_comesOn_88) n (x1, x2, x3, x4, x5, V, L) = some r' → RG M (zR D cy ad) V L 88 ls [] := ih
  have hf : b_comesOn_88 (zfix (b_comesOn_88) n) (x1, x2, x3, x4, x5, V, L) = some r' := hf
  generalize zfix (b_comesOn_88) n = k88 at hk88 hf
  unfold b_comesOn_88 at hf
  clear ih
  refine z_iload X dX11_comesOn_88 (lv_at hl 5 rfl) ?_
  refine z_iload_n X dX11_comesOn_90 rfl (lv_at hl 1 rfl) ?_
  refine z_iconst (v := 1) X dX11_comesOn_91 (by decide) ?_
  refine z_isub X dX11_comesOn_92 ?_
  refine z_icmp_ge (tgt := 120) X dX11_comesOn_93 (by decide) (fun c_ => ?_) (fun c_ => ?_)
  · have hf := (if_pos c_).symm.trans hf
    refine z_aload_n X dX11_comesOn_120 rfl (lv_at hl 0 rfl) ?_
    refine m_geta X ff_0 dX11_comesOn_121 ?_
    refine z_iload_n X dX11_comesOn_124 rfl (lv_at hl 1 rfl) ?_
    refine z_iconst (v := 1) X dX11_comesOn_125 (by decide) ?_
    refine z_isub X dX11_comesOn_126 ?_
    obtain ⟨hb1, hf⟩ := z_ite hf
    refine m_iald X pa_1 hb1 dX11_comesOn_127 ?_
    refine z_iload X dX11_comesOn_128 (lv_at hl 4 rfl) ?_
    refine z_icmp_eq (tgt := 135) X dX11_comesOn_130 (by decide) (fun c_ => ?_) (fun c_ => ?_)
    · have hf := (if_pos c_).symm.trans hf
      refine z_aload_n X dX11_comesOn_135 rfl (lv_at hl 0 rfl) ?_
      refine z_iconst (v := 1) X dX11_comesOn_136 (by decide) ?_
      refine z_iconst (v := 0) X dX11_comesOn_137 (by decide) ?_
      obtain ⟨r2, hc2, hf⟩ := z_bind hf
      refine m_callVv [.int 1, .int 0] X hl.1 (c_copies D cy ad hc2) gm_copies pd_copies rfl ⟨by decide, by decide⟩ (Nat.le_of_ble_eq_true rfl) rfl dX11_comesOn_138 ?_
      refine z_aload_n X dX11_comesOn_141 rfl (lv_at hl 0 rfl) ?_
      refine m_geta X ff_39 dX11_comesOn_142 ?_
      refine z_iconst (v := 1) X dX11_comesOn_145 (by decide) ?_
      refine z_aload_n X dX11_comesOn_146 rfl (lv_at hl 0 rfl) ?_
      refine m_geta X ff_0 dX11_comesOn_147 ?_
      refine z_iconst (v := 0) X dX11_comesOn_150 (by decide) ?_
      refine m_iald X pa_1 (show inB 0 1800 by decide) dX11_comesOn_151 ?_
      refine z_bipush (v := 8) X dX11_comesOn_152 (by decide) ?_
      refine z_ishl X dX11_comesOn_154 ?_
      refine z_aload_n X dX11_comesOn_155 rfl (lv_at hl 0 rfl) ?_
      refine m_geta X ff_0 dX11_comesOn_156 ?_
      refine z_iconst (v := 1) X dX11_comesOn_159 (by decide) ?_
      refine m_iald X pa_1 (show inB 1 1800 by decide) dX11_comesOn_160 ?_
      refine z_ior X dX11_comesOn_161 ?_
      refine m_iast X pa_20 (show inB 1 22 by decide) dX11_comesOn_162 ?_
      refine z_aload_n X dX11_comesOn_163 rfl (lv_at hl 0 rfl) ?_
      refine m_geta X ff_43 dX11_comesOn_164 ?_
      refine z_iconst (v := 1) X dX11_comesOn_167 (by decide) ?_
      refine z_aload_n X dX11_comesOn_168 rfl (lv_at hl 0 rfl) ?_
      refine m_geta X ff_0 dX11_comesOn_169 ?_
      refine z_iload_n X dX11_comesOn_172 rfl (lv_at hl 3 rfl) ?_
      refine z_iconst (v := 1) X dX11_comesOn_173 (by decide) ?_
      refine z_isub X dX11_comesOn_174 ?_
      obtain ⟨hb6, hf⟩ := z_ite hf
      refine m_iald X pa_1 hb6 dX11_comesOn_175 ?_
      refine m_iast X pa_24 (show inB 1 22 by decide) dX11_comesOn_176 ?_
      refine z_aload_n X dX11_comesOn_177 rfl (lv_at hl 0 rfl) ?_
      refine m_geta X ff_45 dX11_comesOn_178 ?_
      refine z_iconst (v := 1) X dX11_comesOn_181 (by decide) ?_
      refine z_iconst (v := 0) X dX11_comesOn_182 (by decide) ?_
      refine m_iast X pa_26 (show inB 1 22 by decide) dX11_comesOn_183 ?_
      refine z_iconst (v := 2) X dX11_comesOn_184 (by decide) ?_
      refine z_istore (lv' := [(5, .int 2), (0, .ref (ad 0)), (1, .int x1), (2, .int x2), (3, .int x3), (4, .int x4)]) X dX11_comesOn_185 hl (by decide) rfl (fun ls hl => ?_)
      refine z_iconst (v := 0) X dX11_comesOn_187 (by decide) ?_
      refine z_istore (lv' := [(6, .int 0), (5, .int 2), (0, .ref (ad 0)), (1, .int x1), (2, .int x2), (3, .int x3), (4, .int x4)]) X dX11_comesOn_188 hl (by decide) rfl (fun ls hl => ?_)
      exact w_comesOn_190 X Z FU x2 x3 2 0 (z_uI (z_uI (z_uI r2.1 20 ((1) : Int32).toNatClampNeg (((r2.1 1 ((0) : Int32).toNatClampNeg) <<< (8 &&& 31)) ||| (r2.1 1 ((1) : Int32).toNatClampNeg))) 24 ((1) : Int32).toNatClampNeg ((z_uI r2.1 20 ((1) : Int32).toNatClampNeg (((r2.1 1 ((0) : Int32).toNatClampNeg) <<< (8 &&& 31)) ||| (r2.1 1 ((1) : Int32).toNatClampNeg))) 1 (x3 - 1).toNatClampNeg)) 26 ((1) : Int32).toNatClampNeg 0) r2.2 ls (lv_sub hl [2, 4, 5, 1, 0] rfl) hf
    · have hf := (if_neg c_).symm.trans hf
      refine z_iconst (v := 0) X dX11_comesOn_133 (by decide) ?_
      exact m_iret X Z hf (by decide) dX11_comesOn_134
  · have hf := (if_neg c_).symm.trans hf
    refine z_iconst (v := 5) X dX11_comesOn_96 (by decide) ?_
    refine z_iload X dX11_comesOn_97 (lv_at hl 4 rfl) ?_
    refine z_imul X dX11_comesOn_99 ?_
    refine z_aload_n X dX11_comesOn_100 rfl (lv_at hl 0 rfl) ?_
    refine m_geta X ff_0 dX11_comesOn_101 ?_
    refine z_iload X dX11_comesOn_104 (lv_at hl 5 rfl) ?_
    obtain ⟨hb9, hf⟩ := z_ite hf
    refine m_iald X pa_1 hb9 dX11_comesOn_106 ?_
    refine z_iadd X dX11_comesOn_107 ?_
    refine z_sipush (v := 251) X dX11_comesOn_108 (by decide) ?_
    refine z_irem X dX11_comesOn_111 (by decide) ?_
    refine z_istore (lv' := [(4, .int ((((5 : Int32) * x4) + (V 1 x5.toNatClampNeg)) - (((5 : Int32) * x4) + (V 1 x5.toNatClampNeg)) / 251 * 251)), (0, .ref (ad 0)), (1, .int x1), (2, .int x2), (3, .int x3), (5, .int x5)]) X dX11_comesOn_112 hl (by decide) rfl (fun ls hl => ?_)
    refine z_iinc (v := x5 + 1) (k0 := 5) (lv' := [(5, .int (x5 + 1)), (4, .int ((((5 : Int32) * x4) + (V 1 x5.toNatClampNeg)) - (((5 : Int32) * x4) + (V 1 x5.toNatClampNeg)) / 251 * 251)), (0, .ref (ad 0)), (1, .int x1), (2, .int x2), (3, .int x3)]) X dX11_comesOn_114 hl rfl rfl (by decide) rfl (fun ls hl => ?_)
    refine z_goto (tgt := 88) X dX11_comesOn_117 (by decide) ?_
    exact hk88 x1 x2 x3 ((((5 : Int32) * x4) + (V 1 x5.toNatClampNeg)) - (((5 : Int32) * x4) + (V 1 x5.toNatClampNeg)) / 251 * 251) (x5 + 1) V L ls (lv_sub hl [2, 3, 4, 5, 1, 0] rfl) hf

set_option maxHeartbeats 4000000 in
set_option maxRecDepth 100000 in
theorem w_comesOn {M : zM} {D : va_G} {cy : Nat → ClassId} {ad : Nat → Nat} {r' : Int32 × zI × zL} (X : RX M (zR D cy ad) cX11_comesOn 8 RX11 4 90) (Z : RZi M (zR D cy ad) .boolean r'.1 r'.2.1 r'.2.2) (x1 : Int32) (V : zI) (L : zL) (ls : Array Slot) (hl : lv_has ls 8 [(0, .ref (ad 0)), (1, .int x1)]) (hf : f_comesOn x1 V L = some r') : RG M (zR D cy ad) V L 0 ls [] := by
  unfold f_comesOn at hf
  refine z_aload_n X dX11_comesOn_0 rfl (lv_at hl 0 rfl) ?_
  refine m_geta X ff_14 dX11_comesOn_1 ?_
  refine z_aload_n X dX11_comesOn_4 rfl (lv_at hl 0 rfl) ?_
  refine m_geti X ff_13 dX11_comesOn_5 ?_
  obtain ⟨hb1, hf⟩ := z_ite hf
  refine m_iald X pa_2 hb1 dX11_comesOn_8 ?_
  refine z_istore_n (lv' := [(2, .int (V 2 (V 0 13).toNatClampNeg)), (0, .ref (ad 0)), (1, .int x1)]) X dX11_comesOn_9 rfl hl (by decide) rfl (fun ls hl => ?_)
  refine z_iconst (v := 3) X dX11_comesOn_10 (by decide) ?_
  refine z_iconst (v := 3) X dX11_comesOn_11 (by decide) ?_
  refine z_iload_n X dX11_comesOn_12 rfl (lv_at hl 0 rfl) ?_
  refine z_imul X dX11_comesOn_13 ?_
  refine z_iload_n X dX11_comesOn_14 rfl (lv_at hl 0 rfl) ?_
  refine z_iconst (v := 1) X dX11_comesOn_15 (by decide) ?_
  refine z_isub X dX11_comesOn_16 ?_
  refine z_imul X dX11_comesOn_17 ?_
  refine z_iadd X dX11_comesOn_18 ?_
  refine z_istore_n (lv' := [(3, .int ((3 : Int32) + (((3 : Int32) * (V 2 (V 0 13).toNatClampNeg)) * ((V 2 (V 0 13).toNatClampNeg) - 1)))), (2, .int (V 2 (V 0 13).toNatClampNeg)), (0, .ref (ad 0)), (1, .int x1)]) X dX11_comesOn_19 rfl hl (by decide) rfl (fun ls hl => ?_)
  refine z_iload_n X dX11_comesOn_20 rfl (lv_at hl 3 rfl) ?_
  refine z_iload_n X dX11_comesOn_21 rfl (lv_at hl 0 rfl) ?_
  refine z_icmp_lt (tgt := 78) X dX11_comesOn_22 (by decide) (fun c_ => ?_) (fun c_ => ?_)
  · have hf := (if_pos c_).symm.trans hf
    refine z_iconst (v := 0) X dX11_comesOn_78 (by decide) ?_
    exact m_iret X Z hf (by decide) dX11_comesOn_79
  · have hf := (if_neg c_).symm.trans hf
    refine z_aload_n X dX11_comesOn_25 rfl (lv_at hl 2 rfl) ?_
    refine m_geta X ff_0 dX11_comesOn_26 ?_
    refine z_iload_n X dX11_comesOn_29 rfl (lv_at hl 0 rfl) ?_
    refine z_iconst (v := 1) X dX11_comesOn_30 (by decide) ?_
    refine z_isub X dX11_comesOn_31 ?_
    obtain ⟨hb2, hf⟩ := z_ite hf
    refine m_iald X pa_1 hb2 dX11_comesOn_32 ?_
    refine z_bipush (v := 60) X dX11_comesOn_33 (by decide) ?_
    refine z_icmp_gt (tgt := 78) X dX11_comesOn_35 (by decide) (fun c_ => ?_) (fun c_ => ?_)
    · have hf := (if_pos c_).symm.trans hf
      refine z_iconst (v := 0) X dX11_comesOn_78 (by decide) ?_
      exact m_iret X Z hf (by decide) dX11_comesOn_79
    · have hf := (if_neg c_).symm.trans hf
      refine z_iload_n X dX11_comesOn_38 rfl (lv_at hl 3 rfl) ?_
      refine z_iload_n X dX11_comesOn_39 rfl (lv_at hl 0 rfl) ?_
      refine z_iconst (v := 3) X dX11_comesOn_40 (by decide) ?_
      refine z_aload_n X dX11_comesOn_41 rfl (lv_at hl 2 rfl) ?_
      refine m_geta X ff_0 dX11_comesOn_42 ?_
      refine z_iload_n X dX11_comesOn_45 rfl (lv_at hl 0 rfl) ?_
      refine z_iconst (v := 1) X dX11_comesOn_46 (by decide) ?_
      refine z_isub X dX11_comesOn_47 ?_
      obtain ⟨hb3, hf⟩ := z_ite hf
      refine m_iald X pa_1 hb3 dX11_comesOn_48 ?_
      refine z_imul X dX11_comesOn_49 ?_
      refine z_iadd X dX11_comesOn_50 ?_
      refine z_iconst (v := 1) X dX11_comesOn_51 (by decide) ?_
      refine z_iadd X dX11_comesOn_52 ?_
      refine z_icmp_ne (tgt := 78) X dX11_comesOn_53 (by decide) (fun c_ => ?_) (fun c_ => ?_)
      · have hf := (if_neg c_).symm.trans hf
        refine z_iconst (v := 0) X dX11_comesOn_78 (by decide) ?_
        exact m_iret X Z hf (by decide) dX11_comesOn_79
      · have hf := (if_pos c_).symm.trans hf
        refine z_aload_n X dX11_comesOn_56 rfl (lv_at hl 2 rfl) ?_
        refine m_geta X ff_0 dX11_comesOn_57 ?_
        refine z_iconst (v := 0) X dX11_comesOn_60 (by decide) ?_
        refine m_iald X pa_1 (show inB 0 1800 by decide) dX11_comesOn_61 ?_
        refine z_bipush (v := 8) X dX11_comesOn_62 (by decide) ?_
        refine z_ishl X dX11_comesOn_64 ?_
        refine z_aload_n X dX11_comesOn_65 rfl (lv_at hl 2 rfl) ?_
        refine m_geta X ff_0 dX11_comesOn_66 ?_
        refine z_iconst (v := 1) X dX11_comesOn_69 (by decide) ?_
        refine m_iald X pa_1 (show inB 1 1800 by decide) dX11_comesOn_70 ?_
        refine z_ior X dX11_comesOn_71 ?_
        refine z_sipush (v := 999) X dX11_comesOn_72 (by decide) ?_
        refine z_icmp_le (tgt := 80) X dX11_comesOn_75 (by decide) (fun c_ => ?_) (fun c_ => ?_)
        · have hf := (if_pos c_).symm.trans hf
          refine z_sipush (v := 191) X dX11_comesOn_80 (by decide) ?_
          refine z_istore (lv' := [(4, .int 191), (3, .int ((3 : Int32) + (((3 : Int32) * (V 2 (V 0 13).toNatClampNeg)) * ((V 2 (V 0 13).toNatClampNeg) - 1)))), (2, .int (V 2 (V 0 13).toNatClampNeg)), (0, .ref (ad 0)), (1, .int x1)]) X dX11_comesOn_83 hl (by decide) rfl (fun ls hl => ?_)
          refine z_iconst (v := 0) X dX11_comesOn_85 (by decide) ?_
          refine z_istore (lv' := [(5, .int 0), (4, .int 191), (3, .int ((3 : Int32) + (((3 : Int32) * (V 2 (V 0 13).toNatClampNeg)) * ((V 2 (V 0 13).toNatClampNeg) - 1)))), (2, .int (V 2 (V 0 13).toNatClampNeg)), (0, .ref (ad 0)), (1, .int x1)]) X dX11_comesOn_86 hl (by decide) rfl (fun ls hl => ?_)
          exact w_comesOn_88 X Z FU x1 (V 2 (V 0 13).toNatClampNeg) ((3 : Int32) + (((3 : Int32) * (V 2 (V 0 13).toNatClampNeg)) * ((V 2 (V 0 13).toNatClampNeg) - 1))) 191 0 V L ls (lv_sub hl [4, 5, 3, 2, 1, 0] rfl) hf
        · have hf := (if_neg c_).symm.trans hf
          refine z_iconst (v := 0) X dX11_comesOn_78 (by decide) ?_
          exact m_iret X Z hf (by decide) dX11_comesOn_79

theorem c_comesOn (D : va_G) (cy : Nat → ClassId) (ad : Nat → Nat) {x1 : Int32} {V : zI} {L : zL} {r' : Int32 × zI × zL} (hf : f_comesOn x1 V L = some r') : RMi (zR D cy ad) yX11_comesOn cX11_comesOn 8 .boolean 4 90 [.ref (ad 0), .int x1] V L r'.1 r'.2.1 r'.2.2 :=
  RMi.of (by decide) zR_nd (Nat.le_of_ble_eq_true rfl) (fun M X Z ls hl => w_comesOn X Z x1 V L ls hl hf)
def f_on (V : zI) (L : zL) : Option (Int32 × zI × zL) :=
  (f_comesOn (V 0 1) (z_uI V 0 1 0) L).bind fun r1 => (if r1.1 = 0 then (f_refuses 5 r1.2.1 r1.2.2).bind fun r3 => (if r3.1 < 0 then some (0, r3.2.1, r3.2.2) else some (1, r3.2.1, r3.2.2)) else (f_copies 0 1 r1.2.1 r1.2.2).bind fun r2 => some (1, z_uI r2.1 0 48 0, r2.2))
set_option maxHeartbeats 4000000 in
set_option maxRecDepth 100000 in
theorem w_on {M : zM} {D : va_G} {cy : Nat → ClassId} {ad : Nat → Nat} {r' : Int32 × zI × zL} (X : RX M (zR D cy ad) cX11_on 2 RX11 5 117) (Z : RZi M (zR D cy ad) .boolean r'.1 r'.2.1 r'.2.2)  (V : zI) (L : zL) (ls : Array Slot) (hl : lv_has ls 2 [(0, .ref (ad 0))]) (hf : f_on V L = some r') : RG M (zR D cy ad) V L 0 ls [] := by
  unfold f_on at hf
  refine z_aload_n X dX11_on_0 rfl (lv_at hl 0 rfl) ?_
  refine m_geti X ff_1 dX11_on_1 ?_
  refine z_istore_n (lv' := [(1, .int (V 0 1)), (0, .ref (ad 0))]) X dX11_on_4 rfl hl (by decide) rfl (fun ls hl => ?_)
  refine z_aload_n X dX11_on_5 rfl (lv_at hl 1 rfl) ?_
  refine z_iconst (v := 0) X dX11_on_6 (by decide) ?_
  refine m_puti X fp_1 dX11_on_7 ?_
  refine z_aload_n X dX11_on_10 rfl (lv_at hl 1 rfl) ?_
  refine z_iload_n X dX11_on_11 rfl (lv_at hl 0 rfl) ?_
  obtain ⟨r1, hc1, hf⟩ := z_bind hf
  refine m_callVi [.int (V 0 1)] X hl.1 (c_comesOn D cy ad hc1) gm_comesOn pd_comesOn rfl ⟨by decide, by decide⟩ (Nat.le_of_ble_eq_true rfl) rfl dX11_on_12 ?_
  refine z_if_ne (tgt := 32) X dX11_on_15 (by decide) (fun c_ => ?_) (fun c_ => ?_)
  · have hf := (if_neg c_).symm.trans hf
    refine z_aload_n X dX11_on_32 rfl (lv_at hl 1 rfl) ?_
    refine z_iconst (v := 0) X dX11_on_33 (by decide) ?_
    refine z_iconst (v := 1) X dX11_on_34 (by decide) ?_
    obtain ⟨r2, hc2, hf⟩ := z_bind hf
    refine m_callVv [.int 0, .int 1] X hl.1 (c_copies D cy ad hc2) gm_copies pd_copies rfl ⟨by decide, by decide⟩ (Nat.le_of_ble_eq_true rfl) rfl dX11_on_35 ?_
    refine z_aload_n X dX11_on_38 rfl (lv_at hl 1 rfl) ?_
    refine z_iconst (v := 0) X dX11_on_39 (by decide) ?_
    refine m_puti X fp_48 dX11_on_40 ?_
    refine z_iconst (v := 1) X dX11_on_43 (by decide) ?_
    exact m_iret X Z hf (by decide) dX11_on_44
  · have hf := (if_pos c_).symm.trans hf
    refine z_aload_n X dX11_on_18 rfl (lv_at hl 1 rfl) ?_
    refine z_iconst (v := 5) X dX11_on_19 (by decide) ?_
    obtain ⟨r3, hc3, hf⟩ := z_bind hf
    refine m_callVi [.int 5] X hl.1 (c_refuses D cy ad hc3) gm_refuses pd_refuses rfl ⟨by decide, by decide⟩ (Nat.le_of_ble_eq_true rfl) rfl dX11_on_20 ?_
    refine z_if_lt (tgt := 30) X dX11_on_23 (by decide) (fun c_ => ?_) (fun c_ => ?_)
    · have hf := (if_pos c_).symm.trans hf
      refine z_iconst (v := 0) X dX11_on_30 (by decide) ?_
      exact m_iret X Z hf (by decide) dX11_on_31
    · have hf := (if_neg c_).symm.trans hf
      refine z_iconst (v := 1) X dX11_on_26 (by decide) ?_
      refine z_goto (tgt := 31) X dX11_on_27 (by decide) ?_
      exact m_iret X Z hf (by decide) dX11_on_31

theorem c_on (D : va_G) (cy : Nat → ClassId) (ad : Nat → Nat)  {V : zI} {L : zL} {r' : Int32 × zI × zL} (hf : f_on V L = some r') : RMi (zR D cy ad) yX11_on cX11_on 2 .boolean 5 117 [.ref (ad 0)] V L r'.1 r'.2.1 r'.2.2 :=
  RMi.of (by decide) zR_nd (Nat.le_of_ble_eq_true rfl) (fun M X Z ls hl => w_on X Z V L ls hl hf)
