def f_fault (x1 : Int32) (V : zI) (L : zL) : Option (Int32 × zI × zL) :=
  (if x1 = 0 then some (V 0 10, V, L) else (if x1 = 1 then some (V 0 11, V, L) else some ((-1), V, L)))
set_option maxHeartbeats 4000000 in
set_option maxRecDepth 100000 in
theorem w_fault {M : zM} {D : va_G} {cy : Nat → ClassId} {ad : Nat → Nat} {r' : Int32 × zI × zL} (X : RX M (zR D cy ad) cX11_fault 2 RX11 0 0) (Z : RZi M (zR D cy ad) .int r'.1 r'.2.1 r'.2.2) (x1 : Int32) (V : zI) (L : zL) (ls : Array Slot) (hl : lv_has ls 2 [(0, .ref (ad 0)), (1, .int x1)]) (hf : f_fault x1 V L = some r') : RG M (zR D cy ad) V L 0 ls [] := by
  unfold f_fault at hf
  refine z_iload_n X dX11_fault_0 rfl (lv_at hl 1 rfl) ?_
  refine z_if_ne (tgt := 11) X dX11_fault_1 (by decide) (fun c_ => ?_) (fun c_ => ?_)
  · have hf := (if_neg c_).symm.trans hf
    refine z_iload_n X dX11_fault_11 rfl (lv_at hl 1 rfl) ?_
    refine z_iconst (v := 1) X dX11_fault_12 (by decide) ?_
    refine z_icmp_ne (tgt := 23) X dX11_fault_13 (by decide) (fun c_ => ?_) (fun c_ => ?_)
    · have hf := (if_neg c_).symm.trans hf
      refine z_iconst (v := -1) X dX11_fault_23 (by decide) ?_
      exact m_iret X Z hf rfl dX11_fault_24
    · have hf := (if_pos c_).symm.trans hf
      refine z_aload_n X dX11_fault_16 rfl (lv_at hl 0 rfl) ?_
      refine m_geti X ff_11 dX11_fault_17 ?_
      refine z_goto (tgt := 24) X dX11_fault_20 (by decide) ?_
      exact m_iret X Z hf rfl dX11_fault_24
  · have hf := (if_pos c_).symm.trans hf
    refine z_aload_n X dX11_fault_4 rfl (lv_at hl 0 rfl) ?_
    refine m_geti X ff_10 dX11_fault_5 ?_
    refine z_goto (tgt := 24) X dX11_fault_8 (by decide) ?_
    exact m_iret X Z hf rfl dX11_fault_24

theorem c_fault (D : va_G) (cy : Nat → ClassId) (ad : Nat → Nat) {x1 : Int32} {V : zI} {L : zL} {r' : Int32 × zI × zL} (hf : f_fault x1 V L = some r') : RMi (zR D cy ad) yX11_fault cX11_fault 2 .int 0 0 [.ref (ad 0), .int x1] V L r'.1 r'.2.1 r'.2.2 :=
  RMi.of (by decide) zR_nd (Nat.le_of_ble_eq_true rfl) (fun M X Z ls hl => w_fault X Z x1 V L ls hl hf)
def f_status (x1 : Int32) (V : zI) (L : zL) : Option (Int32 × zI × zL) :=
  (f_is x1 0 5).bind fun r1 => (if r1 = 0 then some ((-1), V, L) else if inB x1 6 then some (V 19 x1.toNatClampNeg, V, L) else none)
set_option maxHeartbeats 4000000 in
set_option maxRecDepth 100000 in
theorem w_status {M : zM} {D : va_G} {cy : Nat → ClassId} {ad : Nat → Nat} {r' : Int32 × zI × zL} (X : RX M (zR D cy ad) cX11_status 2 RX11 1 22) (Z : RZi M (zR D cy ad) .int r'.1 r'.2.1 r'.2.2) (x1 : Int32) (V : zI) (L : zL) (ls : Array Slot) (hl : lv_has ls 2 [(0, .ref (ad 0)), (1, .int x1)]) (hf : f_status x1 V L = some r') : RG M (zR D cy ad) V L 0 ls [] := by
  unfold f_status at hf
  refine z_iload_n X dX11_status_0 rfl (lv_at hl 1 rfl) ?_
  refine z_iconst (v := 0) X dX11_status_1 (by decide) ?_
  refine z_iconst (v := 5) X dX11_status_2 (by decide) ?_
  obtain ⟨r1, hc1, hf⟩ := z_bind hf
  refine m_callSi [.int x1, .int 0, .int 5] X hl.1 (c_is D cy ad hc1) gm_is pd_is rfl ⟨by decide, by decide⟩ (Nat.le_of_ble_eq_true rfl) rfl dX11_status_3 ?_
  refine z_if_eq (tgt := 18) X dX11_status_6 (by decide) (fun c_ => ?_) (fun c_ => ?_)
  · have hf := (if_pos c_).symm.trans hf
    refine z_iconst (v := -1) X dX11_status_18 (by decide) ?_
    exact m_iret X Z hf rfl dX11_status_19
  · have hf := (if_neg c_).symm.trans hf
    refine z_aload_n X dX11_status_9 rfl (lv_at hl 0 rfl) ?_
    refine m_geta X ff_38 dX11_status_10 ?_
    refine z_iload_n X dX11_status_13 rfl (lv_at hl 1 rfl) ?_
    obtain ⟨hb2, hf⟩ := z_ite hf
    refine m_iald X pa_19 hb2 dX11_status_14 ?_
    refine z_goto (tgt := 19) X dX11_status_15 (by decide) ?_
    exact m_iret X Z hf rfl dX11_status_19

theorem c_status (D : va_G) (cy : Nat → ClassId) (ad : Nat → Nat) {x1 : Int32} {V : zI} {L : zL} {r' : Int32 × zI × zL} (hf : f_status x1 V L = some r') : RMi (zR D cy ad) yX11_status cX11_status 2 .int 1 22 [.ref (ad 0), .int x1] V L r'.1 r'.2.1 r'.2.2 :=
  RMi.of (by decide) zR_nd (Nat.le_of_ble_eq_true rfl) (fun M X Z ls hl => w_status X Z x1 V L ls hl hf)
def b_copies_162 (k162 : Int32 × Int32 × Int32 × zI × zL → Option (zI × zL)) : Int32 × Int32 × Int32 × zI × zL → Option (zI × zL) := fun ⟨x1, x2, x3, V, L⟩ =>
  if inB x2 22 then (if ((4 : Int32) * (V 26 x2.toNatClampNeg)) ≤ x3 then some (V, L) else if inB (((200 : Int32) * x2) + x3) 4400 then if inB (((200 : Int32) * x1) + x3) 4400 then k162 (x1, x2, (x3 + 1), z_uI V 27 (((200 : Int32) * x1) + x3).toNatClampNeg (V 27 (((200 : Int32) * x2) + x3).toNatClampNeg), L) else none else none) else none
def b_copies_106 (k106 : Int32 × Int32 × Int32 × zI × zL → Option (zI × zL)) : Int32 × Int32 × Int32 × zI × zL → Option (zI × zL) := fun ⟨x1, x2, x3, V, L⟩ =>
  if inB x2 22 then (if ((3 : Int32) * (V 24 x2.toNatClampNeg)) ≤ x3 then if inB x2 22 then if inB x1 22 then zfix (b_copies_162) FU (x1, x2, 0, z_uI V 26 x1.toNatClampNeg (V 26 x2.toNatClampNeg), L) else none else none else if inB (((180 : Int32) * x2) + x3) 3960 then if inB (((180 : Int32) * x1) + x3) 3960 then k106 (x1, x2, (x3 + 1), z_uI V 25 (((180 : Int32) * x1) + x3).toNatClampNeg (V 25 (((180 : Int32) * x2) + x3).toNatClampNeg), L) else none else none) else none
def b_copies_14 (k14 : Int32 × Int32 × Int32 × zI × zL → Option (zI × zL)) : Int32 × Int32 × Int32 × zI × zL → Option (zI × zL) := fun ⟨x1, x2, x3, V, L⟩ =>
  (if 36 ≤ x3 then if inB x2 22 then if inB x1 22 then zfix (b_copies_106) FU (x1, x2, 0, z_uI V 24 x1.toNatClampNeg (V 24 x2.toNatClampNeg), L) else none else none else if inB (((36 : Int32) * x2) + x3) 792 then if inB (((36 : Int32) * x1) + x3) 792 then if inB (((36 : Int32) * x2) + x3) 792 then if inB (((36 : Int32) * x1) + x3) 792 then if inB (((36 : Int32) * x2) + x3) 792 then if inB (((36 : Int32) * x1) + x3) 792 then k14 (x1, x2, (x3 + 1), z_uI (z_uI (z_uI V 21 (((36 : Int32) * x1) + x3).toNatClampNeg (V 21 (((36 : Int32) * x2) + x3).toNatClampNeg)) 22 (((36 : Int32) * x1) + x3).toNatClampNeg ((z_uI V 21 (((36 : Int32) * x1) + x3).toNatClampNeg (V 21 (((36 : Int32) * x2) + x3).toNatClampNeg)) 22 (((36 : Int32) * x2) + x3).toNatClampNeg)) 23 (((36 : Int32) * x1) + x3).toNatClampNeg ((z_uI (z_uI V 21 (((36 : Int32) * x1) + x3).toNatClampNeg (V 21 (((36 : Int32) * x2) + x3).toNatClampNeg)) 22 (((36 : Int32) * x1) + x3).toNatClampNeg ((z_uI V 21 (((36 : Int32) * x1) + x3).toNatClampNeg (V 21 (((36 : Int32) * x2) + x3).toNatClampNeg)) 22 (((36 : Int32) * x2) + x3).toNatClampNeg)) 23 (((36 : Int32) * x2) + x3).toNatClampNeg), L) else none else none else none else none else none else none)
def f_copies (x1 : Int32) (x2 : Int32) (V : zI) (L : zL) : Option (zI × zL) :=
  if inB x2 22 then if inB x1 22 then zfix (b_copies_14) FU (x1, x2, 0, z_uI V 20 x1.toNatClampNeg (V 20 x2.toNatClampNeg), L) else none else none
set_option maxHeartbeats 4000000 in
set_option maxRecDepth 100000 in
theorem w_copies_162 {M : zM} {D : va_G} {cy : Nat → ClassId} {ad : Nat → Nat} {r' : zI × zL} (X : RX M (zR D cy ad) cX11_copies 4 RX11 0 0) (Z : RZv M (zR D cy ad) r'.1 r'.2) (n : Nat) : ∀ (x1 : Int32) (x2 : Int32) (x3 : Int32) (V : zI) (L : zL) (ls : Array Slot) (hl : lv_has ls 4 [(0, .ref (ad 0)), (1, .int x1), (2, .int x2), (3, .int x3)]) (hf : zfix (b_copies_162) n (x1, x2, x3, V, L) = some r'), RG M (zR D cy ad) V L 162 ls [] := by
  induction n with
  | zero => intro x1 x2 x3 V L ls hl hf; cases hf
  | succ n ih =>
  intro x1 x2 x3 V L ls hl hf
  have hk162 : ∀ (x1 : Int32) (x2 : Int32) (x3 : Int32) (V : zI) (L : zL) (ls : Array Slot), lv_has ls 4 [(0, .ref (ad 0)), (1, .int x1), (2, .int x2), (3, .int x3)] → zfix (b_copies_162) n (x1, x2, x3, V, L) = some r' → RG M (zR D cy ad) V L 162 ls [] := ih
  have hf : b_copies_162 (zfix (b_copies_162) n) (x1, x2, x3, V, L) = some r' := hf
  generalize zfix (b_copies_162) n = k162 at hk162 hf
  unfold b_copies_162 at hf
  clear ih
  refine z_iload_n X dX11_copies_162 rfl (lv_at hl 3 rfl) ?_
  refine z_iconst (v := 4) X dX11_copies_163 (by decide) ?_
  refine z_aload_n X dX11_copies_164 rfl (lv_at hl 0 rfl) ?_
  refine m_geta X ff_45 dX11_copies_165 ?_
  refine z_iload_n X dX11_copies_168 rfl (lv_at hl 2 rfl) ?_
  obtain ⟨hb1, hf⟩ := z_ite hf
  refine m_iald X pa_26 hb1 dX11_copies_169 ?_
  refine z_imul X dX11_copies_170 ?_
  refine z_icmp_ge (tgt := 204) X dX11_copies_171 (by decide) (fun c_ => ?_) (fun c_ => ?_)
  · have hf := (if_pos c_).symm.trans hf
    exact m_vret X Z hf dX11_copies_204
  · have hf := (if_neg c_).symm.trans hf
    refine z_aload_n X dX11_copies_174 rfl (lv_at hl 0 rfl) ?_
    refine m_geta X ff_46 dX11_copies_175 ?_
    refine z_sipush (v := 200) X dX11_copies_178 (by decide) ?_
    refine z_iload_n X dX11_copies_181 rfl (lv_at hl 1 rfl) ?_
    refine z_imul X dX11_copies_182 ?_
    refine z_iload_n X dX11_copies_183 rfl (lv_at hl 3 rfl) ?_
    refine z_iadd X dX11_copies_184 ?_
    refine z_aload_n X dX11_copies_185 rfl (lv_at hl 0 rfl) ?_
    refine m_geta X ff_46 dX11_copies_186 ?_
    refine z_sipush (v := 200) X dX11_copies_189 (by decide) ?_
    refine z_iload_n X dX11_copies_192 rfl (lv_at hl 2 rfl) ?_
    refine z_imul X dX11_copies_193 ?_
    refine z_iload_n X dX11_copies_194 rfl (lv_at hl 3 rfl) ?_
    refine z_iadd X dX11_copies_195 ?_
    obtain ⟨hb2, hf⟩ := z_ite hf
    refine m_iald X pa_27 hb2 dX11_copies_196 ?_
    obtain ⟨hb3, hf⟩ := z_ite hf
    refine m_iast X pa_27 hb3 dX11_copies_197 ?_
    refine z_iinc (v := x3 + 1) (k0 := 3) (lv' := [(3, .int (x3 + 1)), (0, .ref (ad 0)), (1, .int x1), (2, .int x2)]) X dX11_copies_198 hl rfl rfl (by decide) rfl (fun ls hl => ?_)
    refine z_goto (tgt := 162) X dX11_copies_201 (by decide) ?_
    exact hk162 x1 x2 (x3 + 1) (z_uI V 27 (((200 : Int32) * x1) + x3).toNatClampNeg (V 27 (((200 : Int32) * x2) + x3).toNatClampNeg)) L ls (lv_sub hl [1, 2, 3, 0] rfl) hf

set_option maxHeartbeats 4000000 in
set_option maxRecDepth 100000 in
theorem w_copies_106 {M : zM} {D : va_G} {cy : Nat → ClassId} {ad : Nat → Nat} {r' : zI × zL} (X : RX M (zR D cy ad) cX11_copies 4 RX11 0 0) (Z : RZv M (zR D cy ad) r'.1 r'.2) (n : Nat) : ∀ (x1 : Int32) (x2 : Int32) (x3 : Int32) (V : zI) (L : zL) (ls : Array Slot) (hl : lv_has ls 4 [(0, .ref (ad 0)), (1, .int x1), (2, .int x2), (3, .int x3)]) (hf : zfix (b_copies_106) n (x1, x2, x3, V, L) = some r'), RG M (zR D cy ad) V L 106 ls [] := by
  induction n with
  | zero => intro x1 x2 x3 V L ls hl hf; cases hf
  | succ n ih =>
  intro x1 x2 x3 V L ls hl hf
  have hk106 : ∀ (x1 : Int32) (x2 : Int32) (x3 : Int32) (V : zI) (L : zL) (ls : Array Slot), lv_has ls 4 [(0, .ref (ad 0)), (1, .int x1), (2, .int x2), (3, .int x3)] → zfix (b_copies_106) n (x1, x2, x3, V, L) = some r' → RG M (zR D cy ad) V L 106 ls [] := ih
  have hf : b_copies_106 (zfix (b_copies_106) n) (x1, x2, x3, V, L) = some r' := hf
  generalize zfix (b_copies_106) n = k106 at hk106 hf
  unfold b_copies_106 at hf
  clear ih
  refine z_iload_n X dX11_copies_106 rfl (lv_at hl 3 rfl) ?_
  refine z_iconst (v := 3) X dX11_copies_107 (by decide) ?_
  refine z_aload_n X dX11_copies_108 rfl (lv_at hl 0 rfl) ?_
  refine m_geta X ff_43 dX11_copies_109 ?_
  refine z_iload_n X dX11_copies_112 rfl (lv_at hl 2 rfl) ?_
  obtain ⟨hb1, hf⟩ := z_ite hf
  refine m_iald X pa_24 hb1 dX11_copies_113 ?_
  refine z_imul X dX11_copies_114 ?_
  refine z_icmp_ge (tgt := 148) X dX11_copies_115 (by decide) (fun c_ => ?_) (fun c_ => ?_)
  · have hf := (if_pos c_).symm.trans hf
    refine z_aload_n X dX11_copies_148 rfl (lv_at hl 0 rfl) ?_
    refine m_geta X ff_45 dX11_copies_149 ?_
    refine z_iload_n X dX11_copies_152 rfl (lv_at hl 1 rfl) ?_
    refine z_aload_n X dX11_copies_153 rfl (lv_at hl 0 rfl) ?_
    refine m_geta X ff_45 dX11_copies_154 ?_
    refine z_iload_n X dX11_copies_157 rfl (lv_at hl 2 rfl) ?_
    obtain ⟨hb2, hf⟩ := z_ite hf
    refine m_iald X pa_26 hb2 dX11_copies_158 ?_
    obtain ⟨hb3, hf⟩ := z_ite hf
    refine m_iast X pa_26 hb3 dX11_copies_159 ?_
    refine z_iconst (v := 0) X dX11_copies_160 (by decide) ?_
    refine z_istore_n (lv' := [(3, .int 0), (0, .ref (ad 0)), (1, .int x1), (2, .int x2)]) X dX11_copies_161 rfl hl (by decide) rfl (fun ls hl => ?_)
    exact w_copies_162 X Z FU x1 x2 0 (z_uI V 26 x1.toNatClampNeg (V 26 x2.toNatClampNeg)) L ls (lv_sub hl [1, 2, 3, 0] rfl) hf
  · have hf := (if_neg c_).symm.trans hf
    refine z_aload_n X dX11_copies_118 rfl (lv_at hl 0 rfl) ?_
    refine m_geta X ff_44 dX11_copies_119 ?_
    refine z_sipush (v := 180) X dX11_copies_122 (by decide) ?_
    refine z_iload_n X dX11_copies_125 rfl (lv_at hl 1 rfl) ?_
    refine z_imul X dX11_copies_126 ?_
    refine z_iload_n X dX11_copies_127 rfl (lv_at hl 3 rfl) ?_
    refine z_iadd X dX11_copies_128 ?_
    refine z_aload_n X dX11_copies_129 rfl (lv_at hl 0 rfl) ?_
    refine m_geta X ff_44 dX11_copies_130 ?_
    refine z_sipush (v := 180) X dX11_copies_133 (by decide) ?_
    refine z_iload_n X dX11_copies_136 rfl (lv_at hl 2 rfl) ?_
    refine z_imul X dX11_copies_137 ?_
    refine z_iload_n X dX11_copies_138 rfl (lv_at hl 3 rfl) ?_
    refine z_iadd X dX11_copies_139 ?_
    obtain ⟨hb4, hf⟩ := z_ite hf
    refine m_iald X pa_25 hb4 dX11_copies_140 ?_
    obtain ⟨hb5, hf⟩ := z_ite hf
    refine m_iast X pa_25 hb5 dX11_copies_141 ?_
    refine z_iinc (v := x3 + 1) (k0 := 3) (lv' := [(3, .int (x3 + 1)), (0, .ref (ad 0)), (1, .int x1), (2, .int x2)]) X dX11_copies_142 hl rfl rfl (by decide) rfl (fun ls hl => ?_)
    refine z_goto (tgt := 106) X dX11_copies_145 (by decide) ?_
    exact hk106 x1 x2 (x3 + 1) (z_uI V 25 (((180 : Int32) * x1) + x3).toNatClampNeg (V 25 (((180 : Int32) * x2) + x3).toNatClampNeg)) L ls (lv_sub hl [1, 2, 3, 0] rfl) hf

set_option maxHeartbeats 4000000 in
set_option maxRecDepth 100000 in
theorem w_copies_14 {M : zM} {D : va_G} {cy : Nat → ClassId} {ad : Nat → Nat} {r' : zI × zL} (X : RX M (zR D cy ad) cX11_copies 4 RX11 0 0) (Z : RZv M (zR D cy ad) r'.1 r'.2) (n : Nat) : ∀ (x1 : Int32) (x2 : Int32) (x3 : Int32) (V : zI) (L : zL) (ls : Array Slot) (hl : lv_has ls 4 [(0, .ref (ad 0)), (1, .int x1), (2, .int x2), (3, .int x3)]) (hf : zfix (b_copies_14) n (x1, x2, x3, V, L) = some r'), RG M (zR D cy ad) V L 14 ls [] := by
  induction n with
  | zero => intro x1 x2 x3 V L ls hl hf; cases hf
  | succ n ih =>
  intro x1 x2 x3 V L ls hl hf
  have hk14 : ∀ (x1 : Int32) (x2 : Int32) (x3 : Int32) (V : zI) (L : zL) (ls : Array Slot), lv_has ls 4 [(0, .ref (ad 0)), (1, .int x1), (2, .int x2), (3, .int x3)] → zfix (b_copies_14) n (x1, x2, x3, V, L) = some r' → RG M (zR D cy ad) V L 14 ls [] := ih
  have hf : b_copies_14 (zfix (b_copies_14) n) (x1, x2, x3, V, L) = some r' := hf
  generalize zfix (b_copies_14) n = k14 at hk14 hf
  unfold b_copies_14 at hf
  clear ih
  refine z_iload_n X dX11_copies_14 rfl (lv_at hl 3 rfl) ?_
  refine z_bipush (v := 36) X dX11_copies_15 (by decide) ?_
  refine z_icmp_ge (tgt := 92) X dX11_copies_17 (by decide) (fun c_ => ?_) (fun c_ => ?_)
  · have hf := (if_pos c_).symm.trans hf
    refine z_aload_n X dX11_copies_92 rfl (lv_at hl 0 rfl) ?_
    refine m_geta X ff_43 dX11_copies_93 ?_
    refine z_iload_n X dX11_copies_96 rfl (lv_at hl 1 rfl) ?_
    refine z_aload_n X dX11_copies_97 rfl (lv_at hl 0 rfl) ?_
    refine m_geta X ff_43 dX11_copies_98 ?_
    refine z_iload_n X dX11_copies_101 rfl (lv_at hl 2 rfl) ?_
    obtain ⟨hb1, hf⟩ := z_ite hf
    refine m_iald X pa_24 hb1 dX11_copies_102 ?_
    obtain ⟨hb2, hf⟩ := z_ite hf
    refine m_iast X pa_24 hb2 dX11_copies_103 ?_
    refine z_iconst (v := 0) X dX11_copies_104 (by decide) ?_
    refine z_istore_n (lv' := [(3, .int 0), (0, .ref (ad 0)), (1, .int x1), (2, .int x2)]) X dX11_copies_105 rfl hl (by decide) rfl (fun ls hl => ?_)
    exact w_copies_106 X Z FU x1 x2 0 (z_uI V 24 x1.toNatClampNeg (V 24 x2.toNatClampNeg)) L ls (lv_sub hl [1, 2, 3, 0] rfl) hf
  · have hf := (if_neg c_).symm.trans hf
    refine z_aload_n X dX11_copies_20 rfl (lv_at hl 0 rfl) ?_
    refine m_geta X ff_40 dX11_copies_21 ?_
    refine z_bipush (v := 36) X dX11_copies_24 (by decide) ?_
    refine z_iload_n X dX11_copies_26 rfl (lv_at hl 1 rfl) ?_
    refine z_imul X dX11_copies_27 ?_
    refine z_iload_n X dX11_copies_28 rfl (lv_at hl 3 rfl) ?_
    refine z_iadd X dX11_copies_29 ?_
    refine z_aload_n X dX11_copies_30 rfl (lv_at hl 0 rfl) ?_
    refine m_geta X ff_40 dX11_copies_31 ?_
    refine z_bipush (v := 36) X dX11_copies_34 (by decide) ?_
    refine z_iload_n X dX11_copies_36 rfl (lv_at hl 2 rfl) ?_
    refine z_imul X dX11_copies_37 ?_
    refine z_iload_n X dX11_copies_38 rfl (lv_at hl 3 rfl) ?_
    refine z_iadd X dX11_copies_39 ?_
    obtain ⟨hb3, hf⟩ := z_ite hf
    refine m_iald X pa_21 hb3 dX11_copies_40 ?_
    obtain ⟨hb4, hf⟩ := z_ite hf
    refine m_iast X pa_21 hb4 dX11_copies_41 ?_
    refine z_aload_n X dX11_copies_42 rfl (lv_at hl 0 rfl) ?_
    refine m_geta X ff_41 dX11_copies_43 ?_
    refine z_bipush (v := 36) X dX11_copies_46 (by decide) ?_
    refine z_iload_n X dX11_copies_48 rfl (lv_at hl 1 rfl) ?_
    refine z_imul X dX11_copies_49 ?_
    refine z_iload_n X dX11_copies_50 rfl (lv_at hl 3 rfl) ?_
    refine z_iadd X dX11_copies_51 ?_
    refine z_aload_n X dX11_copies_52 rfl (lv_at hl 0 rfl) ?_
    refine m_geta X ff_41 dX11_copies_53 ?_
    refine z_bipush (v := 36) X dX11_copies_56 (by decide) ?_
    refine z_iload_n X dX11_copies_58 rfl (lv_at hl 2 rfl) ?_
    refine z_imul X dX11_copies_59 ?_
    refine z_iload_n X dX11_copies_60 rfl (lv_at hl 3 rfl) ?_
    refine z_iadd X dX11_copies_61 ?_
    obtain ⟨hb5, hf⟩ := z_ite hf
    refine m_iald X pa_22 hb5 dX11_copies_62 ?_
    obtain ⟨hb6, hf⟩ := z_ite hf
    refine m_iast X pa_22 hb6 dX11_copies_63 ?_
    refine z_aload_n X dX11_copies_64 rfl (lv_at hl 0 rfl) ?_
    refine m_geta X ff_42 dX11_copies_65 ?_
    refine z_bipush (v := 36) X dX11_copies_68 (by decide) ?_
    refine z_iload_n X dX11_copies_70 rfl (lv_at hl 1 rfl) ?_
    refine z_imul X dX11_copies_71 ?_
    refine z_iload_n X dX11_copies_72 rfl (lv_at hl 3 rfl) ?_
    refine z_iadd X dX11_copies_73 ?_
    refine z_aload_n X dX11_copies_74 rfl (lv_at hl 0 rfl) ?_
    refine m_geta X ff_42 dX11_copies_75 ?_
    refine z_bipush (v := 36) X dX11_copies_78 (by decide) ?_
    refine z_iload_n X dX11_copies_80 rfl (lv_at hl 2 rfl) ?_
    refine z_imul X dX11_copies_81 ?_
    refine z_iload_n X dX11_copies_82 rfl (lv_at hl 3 rfl) ?_
    refine z_iadd X dX11_copies_83 ?_
    obtain ⟨hb7, hf⟩ := z_ite hf
    refine m_iald X pa_23 hb7 dX11_copies_84 ?_
    obtain ⟨hb8, hf⟩ := z_ite hf
    refine m_iast X pa_23 hb8 dX11_copies_85 ?_
    refine z_iinc (v := x3 + 1) (k0 := 3) (lv' := [(3, .int (x3 + 1)), (0, .ref (ad 0)), (1, .int x1), (2, .int x2)]) X dX11_copies_86 hl rfl rfl (by decide) rfl (fun ls hl => ?_)
    refine z_goto (tgt := 14) X dX11_copies_89 (by decide) ?_
    exact hk14 x1 x2 (x3 + 1) (z_uI (z_uI (z_uI V 21 (((36 : Int32) * x1) + x3).toNatClampNeg (V 21 (((36 : Int32) * x2) + x3).toNatClampNeg)) 22 (((36 : Int32) * x1) + x3).toNatClampNeg ((z_uI V 21 (((36 : Int32) * x1) + x3).toNatClampNeg (V 21 (((36 : Int32) * x2) + x3).toNatClampNeg)) 22 (((36 : Int32) * x2) + x3).toNatClampNeg)) 23 (((36 : Int32) * x1) + x3).toNatClampNeg ((z_uI (z_uI V 21 (((36 : Int32) * x1) + x3).toNatClampNeg (V 21 (((36 : Int32) * x2) + x3).toNatClampNeg)) 22 (((36 : Int32) * x1) + x3).toNatClampNeg ((z_uI V 21 (((36 : Int32) * x1) + x3).toNatClampNeg (V 21 (((36 : Int32) * x2) + x3).toNatClampNeg)) 22 (((36 : Int32) * x2) + x3).toNatClampNeg)) 23 (((36 : Int32) * x2) + x3).toNatClampNeg)) L ls (lv_sub hl [1, 2, 3, 0] rfl) hf

set_option maxHeartbeats 4000000 in
set_option maxRecDepth 100000 in
theorem w_copies {M : zM} {D : va_G} {cy : Nat → ClassId} {ad : Nat → Nat} {r' : zI × zL} (X : RX M (zR D cy ad) cX11_copies 4 RX11 0 0) (Z : RZv M (zR D cy ad) r'.1 r'.2) (x1 : Int32) (x2 : Int32) (V : zI) (L : zL) (ls : Array Slot) (hl : lv_has ls 4 [(0, .ref (ad 0)), (1, .int x1), (2, .int x2)]) (hf : f_copies x1 x2 V L = some r') : RG M (zR D cy ad) V L 0 ls [] := by
  unfold f_copies at hf
  refine z_aload_n X dX11_copies_0 rfl (lv_at hl 0 rfl) ?_
  refine m_geta X ff_39 dX11_copies_1 ?_
  refine z_iload_n X dX11_copies_4 rfl (lv_at hl 1 rfl) ?_
  refine z_aload_n X dX11_copies_5 rfl (lv_at hl 0 rfl) ?_
  refine m_geta X ff_39 dX11_copies_6 ?_
  refine z_iload_n X dX11_copies_9 rfl (lv_at hl 2 rfl) ?_
  obtain ⟨hb1, hf⟩ := z_ite hf
  refine m_iald X pa_20 hb1 dX11_copies_10 ?_
  obtain ⟨hb2, hf⟩ := z_ite hf
  refine m_iast X pa_20 hb2 dX11_copies_11 ?_
  refine z_iconst (v := 0) X dX11_copies_12 (by decide) ?_
  refine z_istore_n (lv' := [(3, .int 0), (0, .ref (ad 0)), (1, .int x1), (2, .int x2)]) X dX11_copies_13 rfl hl (by decide) rfl (fun ls hl => ?_)
  exact w_copies_14 X Z FU x1 x2 0 (z_uI V 20 x1.toNatClampNeg (V 20 x2.toNatClampNeg)) L ls (lv_sub hl [1, 2, 3, 0] rfl) hf

theorem c_copies (D : va_G) (cy : Nat → ClassId) (ad : Nat → Nat) {x1 : Int32} {x2 : Int32} {V : zI} {L : zL} {r' : zI × zL} (hf : f_copies x1 x2 V L = some r') : RMv (zR D cy ad) yX11_copies cX11_copies 4 0 0 [.ref (ad 0), .int x1, .int x2] V L r'.1 r'.2 :=
  RMv.of (by decide) zR_nd (Nat.le_of_ble_eq_true rfl) (fun M X Z ls hl => w_copies X Z x1 x2 V L ls hl hf)
def f_slot (x1 : Int32) (V : zI) (L : zL) : Option (Int32 × zI × zL) :=
  some ((2 : Int32) + (((V 0 47) + x1) - ((V 0 47) + x1) / 20 * 20), V, L)
set_option maxHeartbeats 4000000 in
set_option maxRecDepth 100000 in
theorem w_slot {M : zM} {D : va_G} {cy : Nat → ClassId} {ad : Nat → Nat} {r' : Int32 × zI × zL} (X : RX M (zR D cy ad) cX11_slot 2 RX11 0 0) (Z : RZi M (zR D cy ad) .int r'.1 r'.2.1 r'.2.2) (x1 : Int32) (V : zI) (L : zL) (ls : Array Slot) (hl : lv_has ls 2 [(0, .ref (ad 0)), (1, .int x1)]) (hf : f_slot x1 V L = some r') : RG M (zR D cy ad) V L 0 ls [] := by
  unfold f_slot at hf
  refine z_iconst (v := 2) X dX11_slot_0 (by decide) ?_
  refine z_aload_n X dX11_slot_1 rfl (lv_at hl 0 rfl) ?_
  refine m_geti X ff_47 dX11_slot_2 ?_
  refine z_iload_n X dX11_slot_5 rfl (lv_at hl 1 rfl) ?_
  refine z_iadd X dX11_slot_6 ?_
  refine z_bipush (v := 20) X dX11_slot_7 (by decide) ?_
  refine z_irem X dX11_slot_9 (by decide) ?_
  refine z_iadd X dX11_slot_10 ?_
  exact m_iret X Z hf rfl dX11_slot_11

theorem c_slot (D : va_G) (cy : Nat → ClassId) (ad : Nat → Nat) {x1 : Int32} {V : zI} {L : zL} {r' : Int32 × zI × zL} (hf : f_slot x1 V L = some r') : RMi (zR D cy ad) yX11_slot cX11_slot 2 .int 0 0 [.ref (ad 0), .int x1] V L r'.1 r'.2.1 r'.2.2 :=
  RMi.of (by decide) zR_nd (Nat.le_of_ble_eq_true rfl) (fun M X Z ls hl => w_slot X Z x1 V L ls hl hf)
def f_keeps_32 (V : zI) (L : zL) : Option (zI × zL) :=
  (f_slot (V 0 48) V L).bind fun r1 => (f_copies r1.1 0 r1.2.1 r1.2.2).bind fun r2 => some (z_uI r2.1 0 48 ((r2.1 0 48) + 1), r2.2)
def f_keeps (V : zI) (L : zL) : Option (zI × zL) :=
  (if (V 0 48) = 20 then f_keeps_32 (z_uI (z_uI V 0 47 (((V 0 47) + 1) - ((V 0 47) + 1) / 20 * 20)) 0 48 (((z_uI V 0 47 (((V 0 47) + 1) - ((V 0 47) + 1) / 20 * 20)) 0 48) - 1)) L else f_keeps_32 V L)
set_option maxHeartbeats 4000000 in
set_option maxRecDepth 100000 in
theorem w_keeps_32 {M : zM} {D : va_G} {cy : Nat → ClassId} {ad : Nat → Nat} {r' : zI × zL} (X : RX M (zR D cy ad) cX11_keeps 1 RX11 1 23) (Z : RZv M (zR D cy ad) r'.1 r'.2)  (V : zI) (L : zL) (ls : Array Slot) (hl : lv_has ls 1 [(0, .ref (ad 0))]) (hf : f_keeps_32 V L = some r') : RG M (zR D cy ad) V L 32 ls [] := by
  unfold f_keeps_32 at hf
  refine z_aload_n X dX11_keeps_32 rfl (lv_at hl 0 rfl) ?_
  refine z_aload_n X dX11_keeps_33 rfl (lv_at hl 0 rfl) ?_
  refine z_aload_n X dX11_keeps_34 rfl (lv_at hl 0 rfl) ?_
  refine m_geti X ff_48 dX11_keeps_35 ?_
  obtain ⟨r1, hc1, hf⟩ := z_bind hf
  refine m_callVi [.int (V 0 48)] X hl.1 (c_slot D cy ad hc1) gm_slot pd_slot rfl ⟨by decide, by decide⟩ (Nat.le_of_ble_eq_true rfl) rfl dX11_keeps_38 ?_
  refine z_iconst (v := 0) X dX11_keeps_41 (by decide) ?_
  obtain ⟨r2, hc2, hf⟩ := z_bind hf
  refine m_callVv [.int r1.1, .int 0] X hl.1 (c_copies D cy ad hc2) gm_copies pd_copies rfl ⟨by decide, by decide⟩ (Nat.le_of_ble_eq_true rfl) rfl dX11_keeps_42 ?_
  refine z_aload_n X dX11_keeps_45 rfl (lv_at hl 0 rfl) ?_
  refine z_dup X dX11_keeps_46 rfl ?_
  refine m_geti X ff_48 dX11_keeps_47 ?_
  refine z_iconst (v := 1) X dX11_keeps_50 (by decide) ?_
  refine z_iadd X dX11_keeps_51 ?_
  refine m_puti X fp_48 dX11_keeps_52 ?_
  exact m_vret X Z hf dX11_keeps_55

set_option maxHeartbeats 4000000 in
set_option maxRecDepth 100000 in
theorem w_keeps {M : zM} {D : va_G} {cy : Nat → ClassId} {ad : Nat → Nat} {r' : zI × zL} (X : RX M (zR D cy ad) cX11_keeps 1 RX11 1 23) (Z : RZv M (zR D cy ad) r'.1 r'.2)  (V : zI) (L : zL) (ls : Array Slot) (hl : lv_has ls 1 [(0, .ref (ad 0))]) (hf : f_keeps V L = some r') : RG M (zR D cy ad) V L 0 ls [] := by
  unfold f_keeps at hf
  refine z_aload_n X dX11_keeps_0 rfl (lv_at hl 0 rfl) ?_
  refine m_geti X ff_48 dX11_keeps_1 ?_
  refine z_bipush (v := 20) X dX11_keeps_4 (by decide) ?_
  refine z_icmp_ne (tgt := 32) X dX11_keeps_6 (by decide) (fun c_ => ?_) (fun c_ => ?_)
  · have hf := (if_neg c_).symm.trans hf
    exact w_keeps_32 X Z V L ls (lv_sub hl [0] rfl) hf
  · have hf := (if_pos c_).symm.trans hf
    refine z_aload_n X dX11_keeps_9 rfl (lv_at hl 0 rfl) ?_
    refine z_aload_n X dX11_keeps_10 rfl (lv_at hl 0 rfl) ?_
    refine m_geti X ff_47 dX11_keeps_11 ?_
    refine z_iconst (v := 1) X dX11_keeps_14 (by decide) ?_
    refine z_iadd X dX11_keeps_15 ?_
    refine z_bipush (v := 20) X dX11_keeps_16 (by decide) ?_
    refine z_irem X dX11_keeps_18 (by decide) ?_
    refine m_puti X fp_47 dX11_keeps_19 ?_
    refine z_aload_n X dX11_keeps_22 rfl (lv_at hl 0 rfl) ?_
    refine z_dup X dX11_keeps_23 rfl ?_
    refine m_geti X ff_48 dX11_keeps_24 ?_
    refine z_iconst (v := 1) X dX11_keeps_27 (by decide) ?_
    refine z_isub X dX11_keeps_28 ?_
    refine m_puti X fp_48 dX11_keeps_29 ?_
    exact w_keeps_32 X Z (z_uI (z_uI V 0 47 (((V 0 47) + 1) - ((V 0 47) + 1) / 20 * 20)) 0 48 (((z_uI V 0 47 (((V 0 47) + 1) - ((V 0 47) + 1) / 20 * 20)) 0 48) - 1)) L ls (lv_sub hl [0] rfl) hf

theorem c_keeps (D : va_G) (cy : Nat → ClassId) (ad : Nat → Nat)  {V : zI} {L : zL} {r' : zI × zL} (hf : f_keeps V L = some r') : RMv (zR D cy ad) yX11_keeps cX11_keeps 1 1 23 [.ref (ad 0)] V L r'.1 r'.2 :=
  RMv.of (by decide) zR_nd (Nat.le_of_ble_eq_true rfl) (fun M X Z ls hl => w_keeps X Z V L ls hl hf)
def f_undo (V : zI) (L : zL) : Option (Int32 × zI × zL) :=
  (if (V 0 48) = 0 then (f_refuses 4 V L).bind fun r3 => (if r3.1 < 0 then some (0, r3.2.1, r3.2.2) else some (1, r3.2.1, r3.2.2)) else (f_slot ((z_uI V 0 48 ((V 0 48) - 1)) 0 48) (z_uI V 0 48 ((V 0 48) - 1)) L).bind fun r1 => (f_copies 0 r1.1 r1.2.1 r1.2.2).bind fun r2 => some (1, r2.1, r2.2))
set_option maxHeartbeats 4000000 in
set_option maxRecDepth 100000 in
theorem w_undo {M : zM} {D : va_G} {cy : Nat → ClassId} {ad : Nat → Nat} {r' : Int32 × zI × zL} (X : RX M (zR D cy ad) cX11_undo 1 RX11 1 23) (Z : RZi M (zR D cy ad) .boolean r'.1 r'.2.1 r'.2.2)  (V : zI) (L : zL) (ls : Array Slot) (hl : lv_has ls 1 [(0, .ref (ad 0))]) (hf : f_undo V L = some r') : RG M (zR D cy ad) V L 0 ls [] := by
  unfold f_undo at hf
  refine z_aload_n X dX11_undo_0 rfl (lv_at hl 0 rfl) ?_
  refine m_geti X ff_48 dX11_undo_1 ?_
  refine z_if_ne (tgt := 21) X dX11_undo_4 (by decide) (fun c_ => ?_) (fun c_ => ?_)
  · have hf := (if_neg c_).symm.trans hf
    refine z_aload_n X dX11_undo_21 rfl (lv_at hl 0 rfl) ?_
    refine z_dup X dX11_undo_22 rfl ?_
    refine m_geti X ff_48 dX11_undo_23 ?_
    refine z_iconst (v := 1) X dX11_undo_26 (by decide) ?_
    refine z_isub X dX11_undo_27 ?_
    refine m_puti X fp_48 dX11_undo_28 ?_
    refine z_aload_n X dX11_undo_31 rfl (lv_at hl 0 rfl) ?_
    refine z_iconst (v := 0) X dX11_undo_32 (by decide) ?_
    refine z_aload_n X dX11_undo_33 rfl (lv_at hl 0 rfl) ?_
    refine z_aload_n X dX11_undo_34 rfl (lv_at hl 0 rfl) ?_
    refine m_geti X ff_48 dX11_undo_35 ?_
    obtain ⟨r1, hc1, hf⟩ := z_bind hf
    refine m_callVi [.int ((z_uI V 0 48 ((V 0 48) - 1)) 0 48)] X hl.1 (c_slot D cy ad hc1) gm_slot pd_slot rfl ⟨by decide, by decide⟩ (Nat.le_of_ble_eq_true rfl) rfl dX11_undo_38 ?_
    obtain ⟨r2, hc2, hf⟩ := z_bind hf
    refine m_callVv [.int 0, .int r1.1] X hl.1 (c_copies D cy ad hc2) gm_copies pd_copies rfl ⟨by decide, by decide⟩ (Nat.le_of_ble_eq_true rfl) rfl dX11_undo_41 ?_
    refine z_iconst (v := 1) X dX11_undo_44 (by decide) ?_
    exact m_iret X Z hf (by decide) dX11_undo_45
  · have hf := (if_pos c_).symm.trans hf
    refine z_aload_n X dX11_undo_7 rfl (lv_at hl 0 rfl) ?_
    refine z_iconst (v := 4) X dX11_undo_8 (by decide) ?_
    obtain ⟨r3, hc3, hf⟩ := z_bind hf
    refine m_callVi [.int 4] X hl.1 (c_refuses D cy ad hc3) gm_refuses pd_refuses rfl ⟨by decide, by decide⟩ (Nat.le_of_ble_eq_true rfl) rfl dX11_undo_9 ?_
    refine z_if_lt (tgt := 19) X dX11_undo_12 (by decide) (fun c_ => ?_) (fun c_ => ?_)
    · have hf := (if_pos c_).symm.trans hf
      refine z_iconst (v := 0) X dX11_undo_19 (by decide) ?_
      exact m_iret X Z hf (by decide) dX11_undo_20
    · have hf := (if_neg c_).symm.trans hf
      refine z_iconst (v := 1) X dX11_undo_15 (by decide) ?_
      refine z_goto (tgt := 20) X dX11_undo_16 (by decide) ?_
      exact m_iret X Z hf (by decide) dX11_undo_20

theorem c_undo (D : va_G) (cy : Nat → ClassId) (ad : Nat → Nat)  {V : zI} {L : zL} {r' : Int32 × zI × zL} (hf : f_undo V L = some r') : RMi (zR D cy ad) yX11_undo cX11_undo 1 .boolean 1 23 [.ref (ad 0)] V L r'.1 r'.2.1 r'.2.2 :=
  RMi.of (by decide) zR_nd (Nat.le_of_ble_eq_true rfl) (fun M X Z ls hl => w_undo X Z V L ls hl hf)
def f_held (x0 : Int64) : Option (Int64) :=
  (if (lg_cmp x0 1000000) ≤ 0 then (if 0 ≤ (lg_cmp x0 (-1000000)) then some x0 else some (-1000000)) else some 1000000)
set_option maxHeartbeats 4000000 in
set_option maxRecDepth 100000 in
theorem w_held {M : zM} {D : va_G} {cy : Nat → ClassId} {ad : Nat → Nat} {V : zI} {L : zL} {r' : Int64} (X : RX M (zR D cy ad) cX11_held 2 RX11 0 0) (Z : RZl M (zR D cy ad) r' V L) (x0 : Int64) (ls : Array Slot) (hl : lv_has ls 2 [(0, .long x0)]) (hf : f_held x0 = some r') : RG M (zR D cy ad) V L 0 ls [] := by
  unfold f_held at hf
  refine z_lload_n X dX11_held_0 rfl (lv_at hl 0 rfl) ?_
  refine z_ldc2 X dX11_held_1 kc_392 ?_
  refine z_lcmp X dX11_held_4 ?_
  refine z_if_le (tgt := 14) X dX11_held_5 (by decide) (fun c_ => ?_) (fun c_ => ?_)
  · have hf := (if_pos c_).symm.trans hf
    refine z_lload_n X dX11_held_14 rfl (lv_at hl 0 rfl) ?_
    refine z_ldc2 X dX11_held_15 kc_394 ?_
    refine z_lcmp X dX11_held_18 ?_
    refine z_if_ge (tgt := 28) X dX11_held_19 (by decide) (fun c_ => ?_) (fun c_ => ?_)
    · have hf := (if_pos c_).symm.trans hf
      refine z_lload_n X dX11_held_28 rfl (lv_at hl 0 rfl) ?_
      exact m_lretS X Z hf dX11_held_29
    · have hf := (if_neg c_).symm.trans hf
      refine z_ldc2 X dX11_held_22 kc_394 ?_
      refine z_goto (tgt := 29) X dX11_held_25 (by decide) ?_
      exact m_lretS X Z hf dX11_held_29
  · have hf := (if_neg c_).symm.trans hf
    refine z_ldc2 X dX11_held_8 kc_392 ?_
    refine z_goto (tgt := 29) X dX11_held_11 (by decide) ?_
    exact m_lretS X Z hf dX11_held_29

theorem c_held (D : va_G) (cy : Nat → ClassId) (ad : Nat → Nat) {x0 : Int64} {V : zI} {L : zL} {r' : Int64} (hf : f_held x0 = some r') : RMl (zR D cy ad) yX11_held cX11_held 2 0 0 [.long x0] V L r' V L :=
  RMl.of (by decide) zR_nd (Nat.le_of_ble_eq_true rfl) (fun M X Z ls hl => w_held X Z x0 ls hl hf)
def f_floor_43 (x4 : Int64) (s0 : Int32) (s1 : Int32) : Option (Int64) :=
  (if s0 = s1 then some x4 else some (x4 - 1))
def f_floor_32 (x2 : Int64) (x4 : Int64) (s0 : Int32) : Option (Int64) :=
  (if 0 ≤ (lg_cmp x2 0) then f_floor_43 x4 s0 0 else f_floor_43 x4 s0 1)
def f_floor (x0 : Int64) (x2 : Int64) : Option (Int64) :=
  (if (lg_cmp x2 0) = 0 then some 0 else if ¬ x2 = 0 then if ¬ x2 = 0 then (if (lg_cmp (x0 - x0 / x2 * x2) 0) = 0 then some (x0 / x2) else (if 0 ≤ (lg_cmp x0 0) then f_floor_32 x2 (x0 / x2) 0 else f_floor_32 x2 (x0 / x2) 1)) else none else none)
set_option maxHeartbeats 4000000 in
set_option maxRecDepth 100000 in
theorem w_floor_43 {M : zM} {D : va_G} {cy : Nat → ClassId} {ad : Nat → Nat} {V : zI} {L : zL} {r' : Int64} (X : RX M (zR D cy ad) cX11_floor 6 RX11 0 0) (Z : RZl M (zR D cy ad) r' V L) (x4 : Int64) (s0 : Int32) (s1 : Int32) (ls : Array Slot) (hl : lv_has ls 6 [(4, .long x4)]) (hf : f_floor_43 x4 s0 s1 = some r') : RG M (zR D cy ad) V L 43 ls [.int s1, .int s0] := by
  unfold f_floor_43 at hf
  refine z_icmp_eq (tgt := 53) X dX11_floor_43 (by decide) (fun c_ => ?_) (fun c_ => ?_)
  · have hf := (if_pos c_).symm.trans hf
    refine z_lload X dX11_floor_53 (lv_at hl 0 rfl) ?_
    exact m_lretS X Z hf dX11_floor_55
  · have hf := (if_neg c_).symm.trans hf
    refine z_lload X dX11_floor_46 (lv_at hl 0 rfl) ?_
    refine z_lconst (v := 1) X dX11_floor_48 (by decide) ?_
    refine z_lsub X dX11_floor_49 ?_
    refine z_goto (tgt := 55) X dX11_floor_50 (by decide) ?_
    exact m_lretS X Z hf dX11_floor_55

set_option maxHeartbeats 4000000 in
set_option maxRecDepth 100000 in
theorem w_floor_32 {M : zM} {D : va_G} {cy : Nat → ClassId} {ad : Nat → Nat} {V : zI} {L : zL} {r' : Int64} (X : RX M (zR D cy ad) cX11_floor 6 RX11 0 0) (Z : RZl M (zR D cy ad) r' V L) (x2 : Int64) (x4 : Int64) (s0 : Int32) (ls : Array Slot) (hl : lv_has ls 6 [(2, .long x2), (4, .long x4)]) (hf : f_floor_32 x2 x4 s0 = some r') : RG M (zR D cy ad) V L 32 ls [.int s0] := by
  unfold f_floor_32 at hf
  refine z_lload_n X dX11_floor_32 rfl (lv_at hl 0 rfl) ?_
  refine z_lconst (v := 0) X dX11_floor_33 (by decide) ?_
  refine z_lcmp X dX11_floor_34 ?_
  refine z_if_ge (tgt := 42) X dX11_floor_35 (by decide) (fun c_ => ?_) (fun c_ => ?_)
  · have hf := (if_pos c_).symm.trans hf
    refine z_iconst (v := 0) X dX11_floor_42 (by decide) ?_
    exact w_floor_43 X Z x4 s0 0 ls (lv_sub hl [1] rfl) hf
  · have hf := (if_neg c_).symm.trans hf
    refine z_iconst (v := 1) X dX11_floor_38 (by decide) ?_
    refine z_goto (tgt := 43) X dX11_floor_39 (by decide) ?_
    exact w_floor_43 X Z x4 s0 1 ls (lv_sub hl [1] rfl) hf

set_option maxHeartbeats 4000000 in
set_option maxRecDepth 100000 in
theorem w_floor {M : zM} {D : va_G} {cy : Nat → ClassId} {ad : Nat → Nat} {V : zI} {L : zL} {r' : Int64} (X : RX M (zR D cy ad) cX11_floor 6 RX11 0 0) (Z : RZl M (zR D cy ad) r' V L) (x0 : Int64) (x2 : Int64) (ls : Array Slot) (hl : lv_has ls 6 [(0, .long x0), (2, .long x2)]) (hf : f_floor x0 x2 = some r') : RG M (zR D cy ad) V L 0 ls [] := by
  unfold f_floor at hf
  refine z_lload_n X dX11_floor_0 rfl (lv_at hl 1 rfl) ?_
  refine z_lconst (v := 0) X dX11_floor_1 (by decide) ?_
  refine z_lcmp X dX11_floor_2 ?_
  refine z_if_ne (tgt := 8) X dX11_floor_3 (by decide) (fun c_ => ?_) (fun c_ => ?_)
  · have hf := (if_neg c_).symm.trans hf
    refine z_lload_n X dX11_floor_8 rfl (lv_at hl 0 rfl) ?_
    refine z_lload_n X dX11_floor_9 rfl (lv_at hl 1 rfl) ?_
    obtain ⟨hb1, hf⟩ := z_ite hf
    refine z_ldiv X dX11_floor_10 hb1 ?_
    refine z_lstore (lv' := [(4, .long (x0 / x2)), (0, .long x0), (2, .long x2)]) X dX11_floor_11 hl (by decide) rfl (fun ls hl => ?_)
    refine z_lload_n X dX11_floor_13 rfl (lv_at hl 1 rfl) ?_
    refine z_lload_n X dX11_floor_14 rfl (lv_at hl 2 rfl) ?_
    obtain ⟨hb2, hf⟩ := z_ite hf
    refine z_lrem X dX11_floor_15 hb2 ?_
    refine z_lconst (v := 0) X dX11_floor_16 (by decide) ?_
    refine z_lcmp X dX11_floor_17 ?_
    refine z_if_eq (tgt := 53) X dX11_floor_18 (by decide) (fun c_ => ?_) (fun c_ => ?_)
    · have hf := (if_pos c_).symm.trans hf
      refine z_lload X dX11_floor_53 (lv_at hl 0 rfl) ?_
      exact m_lretS X Z hf dX11_floor_55
    · have hf := (if_neg c_).symm.trans hf
      refine z_lload_n X dX11_floor_21 rfl (lv_at hl 1 rfl) ?_
      refine z_lconst (v := 0) X dX11_floor_22 (by decide) ?_
      refine z_lcmp X dX11_floor_23 ?_
      refine z_if_ge (tgt := 31) X dX11_floor_24 (by decide) (fun c_ => ?_) (fun c_ => ?_)
      · have hf := (if_pos c_).symm.trans hf
        refine z_iconst (v := 0) X dX11_floor_31 (by decide) ?_
        exact w_floor_32 X Z x2 (x0 / x2) 0 ls (lv_sub hl [2, 0] rfl) hf
      · have hf := (if_neg c_).symm.trans hf
        refine z_iconst (v := 1) X dX11_floor_27 (by decide) ?_
        refine z_goto (tgt := 32) X dX11_floor_28 (by decide) ?_
        exact w_floor_32 X Z x2 (x0 / x2) 1 ls (lv_sub hl [2, 0] rfl) hf
  · have hf := (if_pos c_).symm.trans hf
    refine z_lconst (v := 0) X dX11_floor_6 (by decide) ?_
    exact m_lretS X Z hf dX11_floor_7

theorem c_floor (D : va_G) (cy : Nat → ClassId) (ad : Nat → Nat) {x0 : Int64} {x2 : Int64} {V : zI} {L : zL} {r' : Int64} (hf : f_floor x0 x2 = some r') : RMl (zR D cy ad) yX11_floor cX11_floor 6 0 0 [.long x0, .long x2] V L r' V L :=
  RMl.of (by decide) zR_nd (Nat.le_of_ble_eq_true rfl) (fun M X Z ls hl => w_floor X Z x0 x2 ls hl hf)
def f_two (x0 : Int32) (x1 : Int64) (x3 : Int64) : Option (Int64) :=
  (if x0 = 31 then (f_held (x1 + x3)).bind fun r1 => some r1 else (if x0 = 32 then (f_held (x1 - x3)).bind fun r2 => some r2 else (if x0 = 33 then (f_held (x1 * x3)).bind fun r3 => some r3 else (if x0 = 34 then (f_floor x1 x3).bind fun r4 => (f_held r4).bind fun r5 => some r5 else (if x0 = 35 then (if (lg_cmp x3 0) = 0 then some 0 else (f_floor x1 x3).bind fun r6 => (f_held (x1 - (x3 * r6))).bind fun r7 => some r7) else (if x0 = 36 then (if 0 ≤ (lg_cmp x1 x3) then some x3 else some x1) else (if x0 = 37 then (if (lg_cmp x1 x3) ≤ 0 then some x3 else some x1) else (if x0 = 38 then (if 0 ≤ (lg_cmp x1 x3) then some 0 else some 1) else (if x0 = 39 then (if (lg_cmp x1 x3) ≤ 0 then some 0 else some 1) else (if x0 = 40 then (if (lg_cmp x1 x3) = 0 then some 1 else some 0) else (if x0 = 41 then some (x1 &&& x3) else some (x1 ||| x3))))))))))))
set_option maxHeartbeats 4000000 in
set_option maxRecDepth 100000 in
theorem w_two {M : zM} {D : va_G} {cy : Nat → ClassId} {ad : Nat → Nat} {V : zI} {L : zL} {r' : Int64} (X : RX M (zR D cy ad) cX11_two 5 RX11 1 25) (Z : RZl M (zR D cy ad) r' V L) (x0 : Int32) (x1 : Int64) (x3 : Int64) (ls : Array Slot) (hl : lv_has ls 5 [(0, .int x0), (1, .long x1), (3, .long x3)]) (hf : f_two x0 x1 x3 = some r') : RG M (zR D cy ad) V L 0 ls [] := by
  unfold f_two at hf
  refine z_iload_n X dX11_two_0 rfl (lv_at hl 0 rfl) ?_
  by_cases c0_ : x0 = 31
  · have hf := (if_pos c0_).symm.trans hf
    refine z_tabIn (tgt := 60) (off := 59) X dX11_two_1 (by rw [c0_]; decide) (by rw [c0_]; decide) (by rw [c0_]; rfl) (by decide) ?_
    refine z_lload_n X dX11_two_60 rfl (lv_at hl 1 rfl) ?_
    refine z_lload_n X dX11_two_61 rfl (lv_at hl 2 rfl) ?_
    refine z_ladd X dX11_two_62 ?_
    obtain ⟨r1, hc1, hf⟩ := z_bind hf
    refine m_callSl [.long (x1 + x3)] X hl.1 (c_held D cy ad hc1) gm_held pd_held rfl ⟨by decide, by decide⟩ (Nat.le_of_ble_eq_true rfl) rfl dX11_two_63 ?_
    exact m_lretS X Z hf dX11_two_66
  have hf := (if_neg c0_).symm.trans hf
  have d0_ := lv_neT (a := 31) c0_ (by decide)
  by_cases c1_ : x0 = 32
  · have hf := (if_pos c1_).symm.trans hf
    refine z_tabIn (tgt := 67) (off := 66) X dX11_two_1 (by rw [c1_]; decide) (by rw [c1_]; decide) (by rw [c1_]; rfl) (by decide) ?_
    refine z_lload_n X dX11_two_67 rfl (lv_at hl 1 rfl) ?_
    refine z_lload_n X dX11_two_68 rfl (lv_at hl 2 rfl) ?_
    refine z_lsub X dX11_two_69 ?_
    obtain ⟨r2, hc2, hf⟩ := z_bind hf
    refine m_callSl [.long (x1 - x3)] X hl.1 (c_held D cy ad hc2) gm_held pd_held rfl ⟨by decide, by decide⟩ (Nat.le_of_ble_eq_true rfl) rfl dX11_two_70 ?_
    exact m_lretS X Z hf dX11_two_73
  have hf := (if_neg c1_).symm.trans hf
  have d1_ := lv_neT (a := 32) c1_ (by decide)
  by_cases c2_ : x0 = 33
  · have hf := (if_pos c2_).symm.trans hf
    refine z_tabIn (tgt := 74) (off := 73) X dX11_two_1 (by rw [c2_]; decide) (by rw [c2_]; decide) (by rw [c2_]; rfl) (by decide) ?_
    refine z_lload_n X dX11_two_74 rfl (lv_at hl 1 rfl) ?_
    refine z_lload_n X dX11_two_75 rfl (lv_at hl 2 rfl) ?_
    refine z_lmul X dX11_two_76 ?_
    obtain ⟨r3, hc3, hf⟩ := z_bind hf
    refine m_callSl [.long (x1 * x3)] X hl.1 (c_held D cy ad hc3) gm_held pd_held rfl ⟨by decide, by decide⟩ (Nat.le_of_ble_eq_true rfl) rfl dX11_two_77 ?_
    exact m_lretS X Z hf dX11_two_80
  have hf := (if_neg c2_).symm.trans hf
  have d2_ := lv_neT (a := 33) c2_ (by decide)
  by_cases c3_ : x0 = 34
  · have hf := (if_pos c3_).symm.trans hf
    refine z_tabIn (tgt := 81) (off := 80) X dX11_two_1 (by rw [c3_]; decide) (by rw [c3_]; decide) (by rw [c3_]; rfl) (by decide) ?_
    refine z_lload_n X dX11_two_81 rfl (lv_at hl 1 rfl) ?_
    refine z_lload_n X dX11_two_82 rfl (lv_at hl 2 rfl) ?_
    obtain ⟨r4, hc4, hf⟩ := z_bind hf
    refine m_callSl [.long x1, .long x3] X hl.1 (c_floor D cy ad hc4) gm_floor pd_floor rfl ⟨by decide, by decide⟩ (Nat.le_of_ble_eq_true rfl) rfl dX11_two_83 ?_
    obtain ⟨r5, hc5, hf⟩ := z_bind hf
    refine m_callSl [.long r4] X hl.1 (c_held D cy ad hc5) gm_held pd_held rfl ⟨by decide, by decide⟩ (Nat.le_of_ble_eq_true rfl) rfl dX11_two_86 ?_
    exact m_lretS X Z hf dX11_two_89
  have hf := (if_neg c3_).symm.trans hf
  have d3_ := lv_neT (a := 34) c3_ (by decide)
  by_cases c4_ : x0 = 35
  · have hf := (if_pos c4_).symm.trans hf
    refine z_tabIn (tgt := 90) (off := 89) X dX11_two_1 (by rw [c4_]; decide) (by rw [c4_]; decide) (by rw [c4_]; rfl) (by decide) ?_
    refine z_lload_n X dX11_two_90 rfl (lv_at hl 2 rfl) ?_
    refine z_lconst (v := 0) X dX11_two_91 (by decide) ?_
    refine z_lcmp X dX11_two_92 ?_
    refine z_if_ne (tgt := 100) X dX11_two_93 (by decide) (fun c_ => ?_) (fun c_ => ?_)
    · have hf := (if_neg c_).symm.trans hf
      refine z_lload_n X dX11_two_100 rfl (lv_at hl 1 rfl) ?_
      refine z_lload_n X dX11_two_101 rfl (lv_at hl 2 rfl) ?_
      refine z_lload_n X dX11_two_102 rfl (lv_at hl 1 rfl) ?_
      refine z_lload_n X dX11_two_103 rfl (lv_at hl 2 rfl) ?_
      obtain ⟨r6, hc6, hf⟩ := z_bind hf
      refine m_callSl [.long x1, .long x3] X hl.1 (c_floor D cy ad hc6) gm_floor pd_floor rfl ⟨by decide, by decide⟩ (Nat.le_of_ble_eq_true rfl) rfl dX11_two_104 ?_
      refine z_lmul X dX11_two_107 ?_
      refine z_lsub X dX11_two_108 ?_
      obtain ⟨r7, hc7, hf⟩ := z_bind hf
      refine m_callSl [.long (x1 - (x3 * r6))] X hl.1 (c_held D cy ad hc7) gm_held pd_held rfl ⟨by decide, by decide⟩ (Nat.le_of_ble_eq_true rfl) rfl dX11_two_109 ?_
      exact m_lretS X Z hf dX11_two_112
    · have hf := (if_pos c_).symm.trans hf
      refine z_lconst (v := 0) X dX11_two_96 (by decide) ?_
      refine z_goto (tgt := 112) X dX11_two_97 (by decide) ?_
      exact m_lretS X Z hf dX11_two_112
  have hf := (if_neg c4_).symm.trans hf
  have d4_ := lv_neT (a := 35) c4_ (by decide)
  by_cases c5_ : x0 = 36
  · have hf := (if_pos c5_).symm.trans hf
    refine z_tabIn (tgt := 113) (off := 112) X dX11_two_1 (by rw [c5_]; decide) (by rw [c5_]; decide) (by rw [c5_]; rfl) (by decide) ?_
    refine z_lload_n X dX11_two_113 rfl (lv_at hl 1 rfl) ?_
    refine z_lload_n X dX11_two_114 rfl (lv_at hl 2 rfl) ?_
    refine z_lcmp X dX11_two_115 ?_
    refine z_if_ge (tgt := 123) X dX11_two_116 (by decide) (fun c_ => ?_) (fun c_ => ?_)
    · have hf := (if_pos c_).symm.trans hf
      refine z_lload_n X dX11_two_123 rfl (lv_at hl 2 rfl) ?_
      exact m_lretS X Z hf dX11_two_124
    · have hf := (if_neg c_).symm.trans hf
      refine z_lload_n X dX11_two_119 rfl (lv_at hl 1 rfl) ?_
      refine z_goto (tgt := 124) X dX11_two_120 (by decide) ?_
      exact m_lretS X Z hf dX11_two_124
  have hf := (if_neg c5_).symm.trans hf
  have d5_ := lv_neT (a := 36) c5_ (by decide)
  by_cases c6_ : x0 = 37
  · have hf := (if_pos c6_).symm.trans hf
    refine z_tabIn (tgt := 125) (off := 124) X dX11_two_1 (by rw [c6_]; decide) (by rw [c6_]; decide) (by rw [c6_]; rfl) (by decide) ?_
    refine z_lload_n X dX11_two_125 rfl (lv_at hl 1 rfl) ?_
    refine z_lload_n X dX11_two_126 rfl (lv_at hl 2 rfl) ?_
    refine z_lcmp X dX11_two_127 ?_
    refine z_if_le (tgt := 135) X dX11_two_128 (by decide) (fun c_ => ?_) (fun c_ => ?_)
    · have hf := (if_pos c_).symm.trans hf
      refine z_lload_n X dX11_two_135 rfl (lv_at hl 2 rfl) ?_
      exact m_lretS X Z hf dX11_two_136
    · have hf := (if_neg c_).symm.trans hf
      refine z_lload_n X dX11_two_131 rfl (lv_at hl 1 rfl) ?_
      refine z_goto (tgt := 136) X dX11_two_132 (by decide) ?_
      exact m_lretS X Z hf dX11_two_136
  have hf := (if_neg c6_).symm.trans hf
  have d6_ := lv_neT (a := 37) c6_ (by decide)
  by_cases c7_ : x0 = 38
  · have hf := (if_pos c7_).symm.trans hf
    refine z_tabIn (tgt := 137) (off := 136) X dX11_two_1 (by rw [c7_]; decide) (by rw [c7_]; decide) (by rw [c7_]; rfl) (by decide) ?_
    refine z_lload_n X dX11_two_137 rfl (lv_at hl 1 rfl) ?_
    refine z_lload_n X dX11_two_138 rfl (lv_at hl 2 rfl) ?_
    refine z_lcmp X dX11_two_139 ?_
    refine z_if_ge (tgt := 147) X dX11_two_140 (by decide) (fun c_ => ?_) (fun c_ => ?_)
    · have hf := (if_pos c_).symm.trans hf
      refine z_lconst (v := 0) X dX11_two_147 (by decide) ?_
      exact m_lretS X Z hf dX11_two_148
    · have hf := (if_neg c_).symm.trans hf
      refine z_lconst (v := 1) X dX11_two_143 (by decide) ?_
      refine z_goto (tgt := 148) X dX11_two_144 (by decide) ?_
      exact m_lretS X Z hf dX11_two_148
  have hf := (if_neg c7_).symm.trans hf
  have d7_ := lv_neT (a := 38) c7_ (by decide)
  by_cases c8_ : x0 = 39
  · have hf := (if_pos c8_).symm.trans hf
    refine z_tabIn (tgt := 149) (off := 148) X dX11_two_1 (by rw [c8_]; decide) (by rw [c8_]; decide) (by rw [c8_]; rfl) (by decide) ?_
    refine z_lload_n X dX11_two_149 rfl (lv_at hl 1 rfl) ?_
    refine z_lload_n X dX11_two_150 rfl (lv_at hl 2 rfl) ?_
    refine z_lcmp X dX11_two_151 ?_
    refine z_if_le (tgt := 159) X dX11_two_152 (by decide) (fun c_ => ?_) (fun c_ => ?_)
    · have hf := (if_pos c_).symm.trans hf
      refine z_lconst (v := 0) X dX11_two_159 (by decide) ?_
      exact m_lretS X Z hf dX11_two_160
    · have hf := (if_neg c_).symm.trans hf
      refine z_lconst (v := 1) X dX11_two_155 (by decide) ?_
      refine z_goto (tgt := 160) X dX11_two_156 (by decide) ?_
      exact m_lretS X Z hf dX11_two_160
  have hf := (if_neg c8_).symm.trans hf
  have d8_ := lv_neT (a := 39) c8_ (by decide)
  by_cases c9_ : x0 = 40
  · have hf := (if_pos c9_).symm.trans hf
    refine z_tabIn (tgt := 161) (off := 160) X dX11_two_1 (by rw [c9_]; decide) (by rw [c9_]; decide) (by rw [c9_]; rfl) (by decide) ?_
    refine z_lload_n X dX11_two_161 rfl (lv_at hl 1 rfl) ?_
    refine z_lload_n X dX11_two_162 rfl (lv_at hl 2 rfl) ?_
    refine z_lcmp X dX11_two_163 ?_
    refine z_if_ne (tgt := 171) X dX11_two_164 (by decide) (fun c_ => ?_) (fun c_ => ?_)
    · have hf := (if_neg c_).symm.trans hf
      refine z_lconst (v := 0) X dX11_two_171 (by decide) ?_
      exact m_lretS X Z hf dX11_two_172
    · have hf := (if_pos c_).symm.trans hf
      refine z_lconst (v := 1) X dX11_two_167 (by decide) ?_
      refine z_goto (tgt := 172) X dX11_two_168 (by decide) ?_
      exact m_lretS X Z hf dX11_two_172
  have hf := (if_neg c9_).symm.trans hf
  have d9_ := lv_neT (a := 40) c9_ (by decide)
  by_cases c10_ : x0 = 41
  · have hf := (if_pos c10_).symm.trans hf
    refine z_tabIn (tgt := 173) (off := 172) X dX11_two_1 (by rw [c10_]; decide) (by rw [c10_]; decide) (by rw [c10_]; rfl) (by decide) ?_
    refine z_lload_n X dX11_two_173 rfl (lv_at hl 1 rfl) ?_
    refine z_lload_n X dX11_two_174 rfl (lv_at hl 2 rfl) ?_
    refine z_land X dX11_two_175 ?_
    exact m_lretS X Z hf dX11_two_176
  have hf := (if_neg c10_).symm.trans hf
  have d10_ := lv_neT (a := 41) c10_ (by decide)
  refine z_tabOut (tgt := 177) X dX11_two_1 (by omega) (by decide) ?_
  refine z_lload_n X dX11_two_177 rfl (lv_at hl 1 rfl) ?_
  refine z_lload_n X dX11_two_178 rfl (lv_at hl 2 rfl) ?_
  refine z_lor X dX11_two_179 ?_
  exact m_lretS X Z hf dX11_two_180

theorem c_two (D : va_G) (cy : Nat → ClassId) (ad : Nat → Nat) {x0 : Int32} {x1 : Int64} {x3 : Int64} {V : zI} {L : zL} {r' : Int64} (hf : f_two x0 x1 x3 = some r') : RMl (zR D cy ad) yX11_two cX11_two 5 1 25 [.int x0, .long x1, .long x3] V L r' V L :=
  RMl.of (by decide) zR_nd (Nat.le_of_ble_eq_true rfl) (fun M X Z ls hl => w_two X Z x0 x1 x3 ls hl hf)
def b_reckons_25 (k25 : Int32 × Int32 × Int32 × zI × zL → Option (Int64 × zI × zL)) : Int32 × Int32 × Int32 × zI × zL → Option (Int64 × zI × zL) := fun ⟨x1, x2, x3, V, L⟩ =>
  if inB (((3 : Int32) * (V 0 13)) + x1) 6 then (if (((1600 : Int32) * (V 0 13)) + (V 9 (((3 : Int32) * (V 0 13)) + x1).toNatClampNeg)) ≤ x3 then some (L 28 ((0) : Int32).toNatClampNeg, V, L) else if inB x3 3200 then (if 30 < (V 10 x3.toNatClampNeg) then (if (V 10 x3.toNatClampNeg) = 43 then if inB (x2 - 1) 500 then if inB (x2 - 1) 500 then k25 (x1, x2, (x3 + 1), V, z_uL L 28 (x2 - 1).toNatClampNeg ((1 : Int64) - (L 28 (x2 - 1).toNatClampNeg))) else none else none else (if (V 10 x3.toNatClampNeg) = 44 then if inB ((x2 + Int32.ofInt (-2)) - 1) 500 then (if (lg_cmp (L 28 ((x2 + Int32.ofInt (-2)) - 1).toNatClampNeg) 1) = 0 then if inB (x2 + Int32.ofInt (-2)) 500 then if inB ((x2 + Int32.ofInt (-2)) - 1) 500 then k25 (x1, (x2 + Int32.ofInt (-2)), (x3 + 1), V, z_uL L 28 ((x2 + Int32.ofInt (-2)) - 1).toNatClampNeg (L 28 (x2 + Int32.ofInt (-2)).toNatClampNeg)) else none else none else if inB ((x2 + Int32.ofInt (-2)) + 1) 500 then if inB ((x2 + Int32.ofInt (-2)) - 1) 500 then k25 (x1, (x2 + Int32.ofInt (-2)), (x3 + 1), V, z_uL L 28 ((x2 + Int32.ofInt (-2)) - 1).toNatClampNeg (L 28 ((x2 + Int32.ofInt (-2)) + 1).toNatClampNeg)) else none else none) else none else if inB ((x2 + Int32.ofInt (-1)) - 1) 500 then if inB (x2 + Int32.ofInt (-1)) 500 then (f_two (V 10 x3.toNatClampNeg) (L 28 ((x2 + Int32.ofInt (-1)) - 1).toNatClampNeg) (L 28 (x2 + Int32.ofInt (-1)).toNatClampNeg)).bind fun r6 => if inB ((x2 + Int32.ofInt (-1)) - 1) 500 then k25 (x1, (x2 + Int32.ofInt (-1)), (x3 + 1), V, z_uL L 28 ((x2 + Int32.ofInt (-1)) - 1).toNatClampNeg r6) else none else none else none)) else (if (V 10 x3.toNatClampNeg) = 0 then if inB x3 3200 then if inB x2 500 then k25 (x1, (x2 + 1), (x3 + 1), V, z_uL L 28 x2.toNatClampNeg ((V 11 x3.toNatClampNeg).toInt64)) else none else none else (if (V 10 x3.toNatClampNeg) = 30 then if inB x2 500 then k25 (x1, (x2 + 1), (x3 + 1), V, z_uL L 28 x2.toNatClampNeg 1) else none else if inB (V 10 x3.toNatClampNeg) 12 then if inB x2 500 then k25 (x1, (x2 + 1), (x3 + 1), V, z_uL L 28 x2.toNatClampNeg ((V 29 (V 10 x3.toNatClampNeg).toNatClampNeg).toInt64)) else none else none))) else none) else none
def f_reckons (x1 : Int32) (V : zI) (L : zL) : Option (Int64 × zI × zL) :=
  if inB (((3 : Int32) * (V 0 13)) + x1) 6 then zfix (b_reckons_25) FU (x1, 0, (((1600 : Int32) * (V 0 13)) + (V 8 (((3 : Int32) * (V 0 13)) + x1).toNatClampNeg)), V, L) else none
set_option maxHeartbeats 4000000 in
set_option maxRecDepth 100000 in
theorem w_reckons_25 {M : zM} {D : va_G} {cy : Nat → ClassId} {ad : Nat → Nat} {r' : Int64 × zI × zL} (X : RX M (zR D cy ad) cX11_reckons 5 RX11 2 49) (Z : RZl M (zR D cy ad) r'.1 r'.2.1 r'.2.2) (n : Nat) : ∀ (x1 : Int32) (x2 : Int32) (x3 : Int32) (V : zI) (L : zL) (ls : Array Slot) (hl : lv_has ls 5 [(0, .ref (ad 0)), (1, .int x1), (2, .int x2), (3, .int x3)]) (hf : zfix (b_reckons_25) n (x1, x2, x3, V, L) = some r'), RG M (zR D cy ad) V L 25 ls [] := by
  induction n with
  | zero => intro x1 x2 x3 V L ls hl hf; cases hf
  | succ n ih =>
  intro x1 x2 x3 V L ls hl hf
  have hk25 : ∀ (x1 : Int32) (x2 : Int32) (x3 : Int32) (V : zI) (L : zL) (ls : Array Slot), lv_has ls 5 [(0, .ref (ad 0)), (1, .int x1), (2, .int x2), (3, .int x3)] → zfix (b_reckons_25) n (x1, x2, x3, V, L) = some r' → RG M (zR D cy ad) V L 25 ls [] := ih
  have hf : b_reckons_25 (zfix (b_reckons_25) n) (x1, x2, x3, V, L) = some r' := hf
  generalize zfix (b_reckons_25) n = k25 at hk25 hf
  unfold b_reckons_25 at hf
  clear ih
  refine z_iload_n X dX11_reckons_25 rfl (lv_at hl 3 rfl) ?_
  refine z_sipush (v := 1600) X dX11_reckons_26 (by decide) ?_
  refine z_aload_n X dX11_reckons_29 rfl (lv_at hl 0 rfl) ?_
  refine m_geti X ff_13 dX11_reckons_30 ?_
  refine z_imul X dX11_reckons_33 ?_
  refine z_aload_n X dX11_reckons_34 rfl (lv_at hl 0 rfl) ?_
  refine m_geta X ff_21 dX11_reckons_35 ?_
  refine z_iconst (v := 3) X dX11_reckons_38 (by decide) ?_
  refine z_aload_n X dX11_reckons_39 rfl (lv_at hl 0 rfl) ?_
  refine m_geti X ff_13 dX11_reckons_40 ?_
  refine z_imul X dX11_reckons_43 ?_
  refine z_iload_n X dX11_reckons_44 rfl (lv_at hl 1 rfl) ?_
  refine z_iadd X dX11_reckons_45 ?_
  obtain ⟨hb1, hf⟩ := z_ite hf
  refine m_iald X pa_9 hb1 dX11_reckons_46 ?_
  refine z_iadd X dX11_reckons_47 ?_
  refine z_icmp_ge (tgt := 227) X dX11_reckons_48 (by decide) (fun c_ => ?_) (fun c_ => ?_)
  · have hf := (if_pos c_).symm.trans hf
    refine z_aload_n X dX11_reckons_227 rfl (lv_at hl 0 rfl) ?_
    refine m_geta X ff_50 dX11_reckons_228 ?_
    refine z_iconst (v := 0) X dX11_reckons_231 (by decide) ?_
    refine m_lald X pa_28 (show inB 0 500 by decide) dX11_reckons_232 ?_
    exact m_lret X Z hf dX11_reckons_233
  · have hf := (if_neg c_).symm.trans hf
    refine z_aload_n X dX11_reckons_51 rfl (lv_at hl 0 rfl) ?_
    refine m_geta X ff_22 dX11_reckons_52 ?_
    refine z_iload_n X dX11_reckons_55 rfl (lv_at hl 3 rfl) ?_
    obtain ⟨hb3, hf⟩ := z_ite hf
    refine m_iald X pa_10 hb3 dX11_reckons_56 ?_
    refine z_istore (lv' := [(4, .int (V 10 x3.toNatClampNeg)), (0, .ref (ad 0)), (1, .int x1), (2, .int x2), (3, .int x3)]) X dX11_reckons_57 hl (by decide) rfl (fun ls hl => ?_)
    refine z_iload X dX11_reckons_59 (lv_at hl 0 rfl) ?_
    refine z_bipush (v := 30) X dX11_reckons_61 (by decide) ?_
    refine z_icmp_gt (tgt := 112) X dX11_reckons_63 (by decide) (fun c_ => ?_) (fun c_ => ?_)
    · have hf := (if_pos c_).symm.trans hf
      refine z_iload X dX11_reckons_112 (lv_at hl 0 rfl) ?_
      refine z_bipush (v := 43) X dX11_reckons_114 (by decide) ?_
      refine z_icmp_ne (tgt := 140) X dX11_reckons_116 (by decide) (fun c_ => ?_) (fun c_ => ?_)
      · have hf := (if_neg c_).symm.trans hf
        refine z_iload X dX11_reckons_140 (lv_at hl 0 rfl) ?_
        refine z_bipush (v := 44) X dX11_reckons_142 (by decide) ?_
        refine z_icmp_ne (tgt := 191) X dX11_reckons_144 (by decide) (fun c_ => ?_) (fun c_ => ?_)
        · have hf := (if_neg c_).symm.trans hf
          refine z_iinc (v := x2 + Int32.ofInt (-1)) (k0 := 3) (lv' := [(2, .int (x2 + Int32.ofInt (-1))), (4, .int (V 10 x3.toNatClampNeg)), (0, .ref (ad 0)), (1, .int x1), (3, .int x3)]) X dX11_reckons_191 hl rfl rfl (by decide) rfl (fun ls hl => ?_)
          refine z_aload_n X dX11_reckons_194 rfl (lv_at hl 2 rfl) ?_
          refine m_geta X ff_50 dX11_reckons_195 ?_
          refine z_iload_n X dX11_reckons_198 rfl (lv_at hl 0 rfl) ?_
          refine z_iconst (v := 1) X dX11_reckons_199 (by decide) ?_
          refine z_isub X dX11_reckons_200 ?_
          refine z_iload X dX11_reckons_201 (lv_at hl 1 rfl) ?_
          refine z_aload_n X dX11_reckons_203 rfl (lv_at hl 2 rfl) ?_
          refine m_geta X ff_50 dX11_reckons_204 ?_
          refine z_iload_n X dX11_reckons_207 rfl (lv_at hl 0 rfl) ?_
          refine z_iconst (v := 1) X dX11_reckons_208 (by decide) ?_
          refine z_isub X dX11_reckons_209 ?_
          obtain ⟨hb4, hf⟩ := z_ite hf
          refine m_lald X pa_28 hb4 dX11_reckons_210 ?_
          refine z_aload_n X dX11_reckons_211 rfl (lv_at hl 2 rfl) ?_
          refine m_geta X ff_50 dX11_reckons_212 ?_
          refine z_iload_n X dX11_reckons_215 rfl (lv_at hl 0 rfl) ?_
          obtain ⟨hb5, hf⟩ := z_ite hf
          refine m_lald X pa_28 hb5 dX11_reckons_216 ?_
          obtain ⟨r6, hc6, hf⟩ := z_bind hf
          refine m_callSl [.int (V 10 x3.toNatClampNeg), .long (L 28 ((x2 + Int32.ofInt (-1)) - 1).toNatClampNeg), .long (L 28 (x2 + Int32.ofInt (-1)).toNatClampNeg)] X hl.1 (c_two D cy ad hc6) gm_two pd_two rfl ⟨by decide, by decide⟩ (Nat.le_of_ble_eq_true rfl) rfl dX11_reckons_217 ?_
          obtain ⟨hb7, hf⟩ := z_ite hf
          refine m_last X pa_28 hb7 dX11_reckons_220 ?_
          refine z_iinc (v := x3 + 1) (k0 := 4) (lv' := [(3, .int (x3 + 1)), (2, .int (x2 + Int32.ofInt (-1))), (4, .int (V 10 x3.toNatClampNeg)), (0, .ref (ad 0)), (1, .int x1)]) X dX11_reckons_221 hl rfl rfl (by decide) rfl (fun ls hl => ?_)
          refine z_goto (tgt := 25) X dX11_reckons_224 (by decide) ?_
          exact hk25 x1 (x2 + Int32.ofInt (-1)) (x3 + 1) V (z_uL L 28 ((x2 + Int32.ofInt (-1)) - 1).toNatClampNeg r6) ls (lv_sub hl [3, 4, 1, 0] rfl) hf
        · have hf := (if_pos c_).symm.trans hf
          refine z_iinc (v := x2 + Int32.ofInt (-2)) (k0 := 3) (lv' := [(2, .int (x2 + Int32.ofInt (-2))), (4, .int (V 10 x3.toNatClampNeg)), (0, .ref (ad 0)), (1, .int x1), (3, .int x3)]) X dX11_reckons_147 hl rfl rfl (by decide) rfl (fun ls hl => ?_)
          refine z_aload_n X dX11_reckons_150 rfl (lv_at hl 2 rfl) ?_
          refine m_geta X ff_50 dX11_reckons_151 ?_
          refine z_iload_n X dX11_reckons_154 rfl (lv_at hl 0 rfl) ?_
          refine z_iconst (v := 1) X dX11_reckons_155 (by decide) ?_
          refine z_isub X dX11_reckons_156 ?_
          refine z_aload_n X dX11_reckons_157 rfl (lv_at hl 2 rfl) ?_
          refine m_geta X ff_50 dX11_reckons_158 ?_
          refine z_iload_n X dX11_reckons_161 rfl (lv_at hl 0 rfl) ?_
          refine z_iconst (v := 1) X dX11_reckons_162 (by decide) ?_
          refine z_isub X dX11_reckons_163 ?_
          obtain ⟨hb8, hf⟩ := z_ite hf
          refine m_lald X pa_28 hb8 dX11_reckons_164 ?_
          refine z_lconst (v := 1) X dX11_reckons_165 (by decide) ?_
          refine z_lcmp X dX11_reckons_166 ?_
          refine z_if_ne (tgt := 179) X dX11_reckons_167 (by decide) (fun c_ => ?_) (fun c_ => ?_)
          · have hf := (if_neg c_).symm.trans hf
            refine z_aload_n X dX11_reckons_179 rfl (lv_at hl 2 rfl) ?_
            refine m_geta X ff_50 dX11_reckons_180 ?_
            refine z_iload_n X dX11_reckons_183 rfl (lv_at hl 0 rfl) ?_
            refine z_iconst (v := 1) X dX11_reckons_184 (by decide) ?_
            refine z_iadd X dX11_reckons_185 ?_
            obtain ⟨hb9, hf⟩ := z_ite hf
            refine m_lald X pa_28 hb9 dX11_reckons_186 ?_
            obtain ⟨hb10, hf⟩ := z_ite hf
            refine m_last X pa_28 hb10 dX11_reckons_187 ?_
            refine z_goto (tgt := 221) X dX11_reckons_188 (by decide) ?_
            refine z_iinc (v := x3 + 1) (k0 := 4) (lv' := [(3, .int (x3 + 1)), (2, .int (x2 + Int32.ofInt (-2))), (4, .int (V 10 x3.toNatClampNeg)), (0, .ref (ad 0)), (1, .int x1)]) X dX11_reckons_221 hl rfl rfl (by decide) rfl (fun ls hl => ?_)
            refine z_goto (tgt := 25) X dX11_reckons_224 (by decide) ?_
            exact hk25 x1 (x2 + Int32.ofInt (-2)) (x3 + 1) V (z_uL L 28 ((x2 + Int32.ofInt (-2)) - 1).toNatClampNeg (L 28 ((x2 + Int32.ofInt (-2)) + 1).toNatClampNeg)) ls (lv_sub hl [3, 4, 1, 0] rfl) hf
          · have hf := (if_pos c_).symm.trans hf
            refine z_aload_n X dX11_reckons_170 rfl (lv_at hl 2 rfl) ?_
            refine m_geta X ff_50 dX11_reckons_171 ?_
            refine z_iload_n X dX11_reckons_174 rfl (lv_at hl 0 rfl) ?_
            obtain ⟨hb11, hf⟩ := z_ite hf
            refine m_lald X pa_28 hb11 dX11_reckons_175 ?_
            refine z_goto (tgt := 187) X dX11_reckons_176 (by decide) ?_
            obtain ⟨hb12, hf⟩ := z_ite hf
            refine m_last X pa_28 hb12 dX11_reckons_187 ?_
            refine z_goto (tgt := 221) X dX11_reckons_188 (by decide) ?_
            refine z_iinc (v := x3 + 1) (k0 := 4) (lv' := [(3, .int (x3 + 1)), (2, .int (x2 + Int32.ofInt (-2))), (4, .int (V 10 x3.toNatClampNeg)), (0, .ref (ad 0)), (1, .int x1)]) X dX11_reckons_221 hl rfl rfl (by decide) rfl (fun ls hl => ?_)
            refine z_goto (tgt := 25) X dX11_reckons_224 (by decide) ?_
            exact hk25 x1 (x2 + Int32.ofInt (-2)) (x3 + 1) V (z_uL L 28 ((x2 + Int32.ofInt (-2)) - 1).toNatClampNeg (L 28 (x2 + Int32.ofInt (-2)).toNatClampNeg)) ls (lv_sub hl [3, 4, 1, 0] rfl) hf
      · have hf := (if_pos c_).symm.trans hf
        refine z_aload_n X dX11_reckons_119 rfl (lv_at hl 1 rfl) ?_
        refine m_geta X ff_50 dX11_reckons_120 ?_
        refine z_iload_n X dX11_reckons_123 rfl (lv_at hl 3 rfl) ?_
        refine z_iconst (v := 1) X dX11_reckons_124 (by decide) ?_
        refine z_isub X dX11_reckons_125 ?_
        refine z_lconst (v := 1) X dX11_reckons_126 (by decide) ?_
        refine z_aload_n X dX11_reckons_127 rfl (lv_at hl 1 rfl) ?_
        refine m_geta X ff_50 dX11_reckons_128 ?_
        refine z_iload_n X dX11_reckons_131 rfl (lv_at hl 3 rfl) ?_
        refine z_iconst (v := 1) X dX11_reckons_132 (by decide) ?_
        refine z_isub X dX11_reckons_133 ?_
        obtain ⟨hb13, hf⟩ := z_ite hf
        refine m_lald X pa_28 hb13 dX11_reckons_134 ?_
        refine z_lsub X dX11_reckons_135 ?_
        obtain ⟨hb14, hf⟩ := z_ite hf
        refine m_last X pa_28 hb14 dX11_reckons_136 ?_
        refine z_goto (tgt := 221) X dX11_reckons_137 (by decide) ?_
        refine z_iinc (v := x3 + 1) (k0 := 4) (lv' := [(3, .int (x3 + 1)), (4, .int (V 10 x3.toNatClampNeg)), (0, .ref (ad 0)), (1, .int x1), (2, .int x2)]) X dX11_reckons_221 hl rfl rfl (by decide) rfl (fun ls hl => ?_)
        refine z_goto (tgt := 25) X dX11_reckons_224 (by decide) ?_
        exact hk25 x1 x2 (x3 + 1) V (z_uL L 28 (x2 - 1).toNatClampNeg ((1 : Int64) - (L 28 (x2 - 1).toNatClampNeg))) ls (lv_sub hl [2, 3, 4, 0] rfl) hf
    · have hf := (if_neg c_).symm.trans hf
      refine z_aload_n X dX11_reckons_66 rfl (lv_at hl 1 rfl) ?_
      refine m_geta X ff_50 dX11_reckons_67 ?_
      refine z_iload_n X dX11_reckons_70 rfl (lv_at hl 3 rfl) ?_
      refine z_iload X dX11_reckons_71 (lv_at hl 0 rfl) ?_
      refine z_if_ne (tgt := 86) X dX11_reckons_73 (by decide) (fun c_ => ?_) (fun c_ => ?_)
      · have hf := (if_neg c_).symm.trans hf
        refine z_iload X dX11_reckons_86 (lv_at hl 0 rfl) ?_
        refine z_bipush (v := 30) X dX11_reckons_88 (by decide) ?_
        refine z_icmp_ne (tgt := 97) X dX11_reckons_90 (by decide) (fun c_ => ?_) (fun c_ => ?_)
        · have hf := (if_neg c_).symm.trans hf
          refine z_aload_n X dX11_reckons_97 rfl (lv_at hl 1 rfl) ?_
          refine m_geta X ff_51 dX11_reckons_98 ?_
          refine z_iload X dX11_reckons_101 (lv_at hl 0 rfl) ?_
          obtain ⟨hb15, hf⟩ := z_ite hf
          refine m_iald X pa_29 hb15 dX11_reckons_103 ?_
          refine z_i2l X dX11_reckons_104 ?_
          obtain ⟨hb16, hf⟩ := z_ite hf
          refine m_last X pa_28 hb16 dX11_reckons_105 ?_
          refine z_iinc (v := x2 + 1) (k0 := 3) (lv' := [(2, .int (x2 + 1)), (4, .int (V 10 x3.toNatClampNeg)), (0, .ref (ad 0)), (1, .int x1), (3, .int x3)]) X dX11_reckons_106 hl rfl rfl (by decide) rfl (fun ls hl => ?_)
          refine z_goto (tgt := 221) X dX11_reckons_109 (by decide) ?_
          refine z_iinc (v := x3 + 1) (k0 := 4) (lv' := [(3, .int (x3 + 1)), (2, .int (x2 + 1)), (4, .int (V 10 x3.toNatClampNeg)), (0, .ref (ad 0)), (1, .int x1)]) X dX11_reckons_221 hl rfl rfl (by decide) rfl (fun ls hl => ?_)
          refine z_goto (tgt := 25) X dX11_reckons_224 (by decide) ?_
          exact hk25 x1 (x2 + 1) (x3 + 1) V (z_uL L 28 x2.toNatClampNeg ((V 29 (V 10 x3.toNatClampNeg).toNatClampNeg).toInt64)) ls (lv_sub hl [3, 4, 1, 0] rfl) hf
        · have hf := (if_pos c_).symm.trans hf
          refine z_lconst (v := 1) X dX11_reckons_93 (by decide) ?_
          refine z_goto (tgt := 105) X dX11_reckons_94 (by decide) ?_
          obtain ⟨hb17, hf⟩ := z_ite hf
          refine m_last X pa_28 hb17 dX11_reckons_105 ?_
          refine z_iinc (v := x2 + 1) (k0 := 3) (lv' := [(2, .int (x2 + 1)), (4, .int (V 10 x3.toNatClampNeg)), (0, .ref (ad 0)), (1, .int x1), (3, .int x3)]) X dX11_reckons_106 hl rfl rfl (by decide) rfl (fun ls hl => ?_)
          refine z_goto (tgt := 221) X dX11_reckons_109 (by decide) ?_
          refine z_iinc (v := x3 + 1) (k0 := 4) (lv' := [(3, .int (x3 + 1)), (2, .int (x2 + 1)), (4, .int (V 10 x3.toNatClampNeg)), (0, .ref (ad 0)), (1, .int x1)]) X dX11_reckons_221 hl rfl rfl (by decide) rfl (fun ls hl => ?_)
          refine z_goto (tgt := 25) X dX11_reckons_224 (by decide) ?_
          exact hk25 x1 (x2 + 1) (x3 + 1) V (z_uL L 28 x2.toNatClampNeg 1) ls (lv_sub hl [3, 4, 1, 0] rfl) hf
      · have hf := (if_pos c_).symm.trans hf
        refine z_aload_n X dX11_reckons_76 rfl (lv_at hl 1 rfl) ?_
        refine m_geta X ff_23 dX11_reckons_77 ?_
        refine z_iload_n X dX11_reckons_80 rfl (lv_at hl 4 rfl) ?_
        obtain ⟨hb18, hf⟩ := z_ite hf
        refine m_iald X pa_11 hb18 dX11_reckons_81 ?_
        refine z_i2l X dX11_reckons_82 ?_
        refine z_goto (tgt := 105) X dX11_reckons_83 (by decide) ?_
        obtain ⟨hb19, hf⟩ := z_ite hf
        refine m_last X pa_28 hb19 dX11_reckons_105 ?_
        refine z_iinc (v := x2 + 1) (k0 := 3) (lv' := [(2, .int (x2 + 1)), (4, .int (V 10 x3.toNatClampNeg)), (0, .ref (ad 0)), (1, .int x1), (3, .int x3)]) X dX11_reckons_106 hl rfl rfl (by decide) rfl (fun ls hl => ?_)
        refine z_goto (tgt := 221) X dX11_reckons_109 (by decide) ?_
        refine z_iinc (v := x3 + 1) (k0 := 4) (lv' := [(3, .int (x3 + 1)), (2, .int (x2 + 1)), (4, .int (V 10 x3.toNatClampNeg)), (0, .ref (ad 0)), (1, .int x1)]) X dX11_reckons_221 hl rfl rfl (by decide) rfl (fun ls hl => ?_)
        refine z_goto (tgt := 25) X dX11_reckons_224 (by decide) ?_
        exact hk25 x1 (x2 + 1) (x3 + 1) V (z_uL L 28 x2.toNatClampNeg ((V 11 x3.toNatClampNeg).toInt64)) ls (lv_sub hl [3, 4, 1, 0] rfl) hf

set_option maxHeartbeats 4000000 in
set_option maxRecDepth 100000 in
theorem w_reckons {M : zM} {D : va_G} {cy : Nat → ClassId} {ad : Nat → Nat} {r' : Int64 × zI × zL} (X : RX M (zR D cy ad) cX11_reckons 5 RX11 2 49) (Z : RZl M (zR D cy ad) r'.1 r'.2.1 r'.2.2) (x1 : Int32) (V : zI) (L : zL) (ls : Array Slot) (hl : lv_has ls 5 [(0, .ref (ad 0)), (1, .int x1)]) (hf : f_reckons x1 V L = some r') : RG M (zR D cy ad) V L 0 ls [] := by
  unfold f_reckons at hf
  refine z_iconst (v := 0) X dX11_reckons_0 (by decide) ?_
  refine z_istore_n (lv' := [(2, .int 0), (0, .ref (ad 0)), (1, .int x1)]) X dX11_reckons_1 rfl hl (by decide) rfl (fun ls hl => ?_)
  refine z_sipush (v := 1600) X dX11_reckons_2 (by decide) ?_
  refine z_aload_n X dX11_reckons_5 rfl (lv_at hl 1 rfl) ?_
  refine m_geti X ff_13 dX11_reckons_6 ?_
  refine z_imul X dX11_reckons_9 ?_
  refine z_aload_n X dX11_reckons_10 rfl (lv_at hl 1 rfl) ?_
  refine m_geta X ff_20 dX11_reckons_11 ?_
  refine z_iconst (v := 3) X dX11_reckons_14 (by decide) ?_
  refine z_aload_n X dX11_reckons_15 rfl (lv_at hl 1 rfl) ?_
  refine m_geti X ff_13 dX11_reckons_16 ?_
  refine z_imul X dX11_reckons_19 ?_
  refine z_iload_n X dX11_reckons_20 rfl (lv_at hl 2 rfl) ?_
  refine z_iadd X dX11_reckons_21 ?_
  obtain ⟨hb1, hf⟩ := z_ite hf
  refine m_iald X pa_8 hb1 dX11_reckons_22 ?_
  refine z_iadd X dX11_reckons_23 ?_
  refine z_istore_n (lv' := [(3, .int (((1600 : Int32) * (V 0 13)) + (V 8 (((3 : Int32) * (V 0 13)) + x1).toNatClampNeg))), (2, .int 0), (0, .ref (ad 0)), (1, .int x1)]) X dX11_reckons_24 rfl hl (by decide) rfl (fun ls hl => ?_)
  exact w_reckons_25 X Z FU x1 0 (((1600 : Int32) * (V 0 13)) + (V 8 (((3 : Int32) * (V 0 13)) + x1).toNatClampNeg)) V L ls (lv_sub hl [2, 3, 1, 0] rfl) hf

theorem c_reckons (D : va_G) (cy : Nat → ClassId) (ad : Nat → Nat) {x1 : Int32} {V : zI} {L : zL} {r' : Int64 × zI × zL} (hf : f_reckons x1 V L = some r') : RMl (zR D cy ad) yX11_reckons cX11_reckons 5 2 49 [.ref (ad 0), .int x1] V L r'.1 r'.2.1 r'.2.2 :=
  RMl.of (by decide) zR_nd (Nat.le_of_ble_eq_true rfl) (fun M X Z ls hl => w_reckons X Z x1 V L ls hl hf)
def f_isTold (x1 : Int32) (V : zI) (L : zL) : Option (Int32 × zI × zL) :=
  if inB (((3 : Int32) * (V 0 13)) + x1) 6 then (if (V 8 (((3 : Int32) * (V 0 13)) + x1).toNatClampNeg) = (-1) then some (0, V, L) else some (1, V, L)) else none
set_option maxHeartbeats 4000000 in
set_option maxRecDepth 100000 in
theorem w_isTold {M : zM} {D : va_G} {cy : Nat → ClassId} {ad : Nat → Nat} {r' : Int32 × zI × zL} (X : RX M (zR D cy ad) cX11_isTold 2 RX11 0 0) (Z : RZi M (zR D cy ad) .boolean r'.1 r'.2.1 r'.2.2) (x1 : Int32) (V : zI) (L : zL) (ls : Array Slot) (hl : lv_has ls 2 [(0, .ref (ad 0)), (1, .int x1)]) (hf : f_isTold x1 V L = some r') : RG M (zR D cy ad) V L 0 ls [] := by
  unfold f_isTold at hf
  refine z_aload_n X dX11_isTold_0 rfl (lv_at hl 0 rfl) ?_
  refine m_geta X ff_20 dX11_isTold_1 ?_
  refine z_iconst (v := 3) X dX11_isTold_4 (by decide) ?_
  refine z_aload_n X dX11_isTold_5 rfl (lv_at hl 0 rfl) ?_
  refine m_geti X ff_13 dX11_isTold_6 ?_
  refine z_imul X dX11_isTold_9 ?_
  refine z_iload_n X dX11_isTold_10 rfl (lv_at hl 1 rfl) ?_
  refine z_iadd X dX11_isTold_11 ?_
  obtain ⟨hb1, hf⟩ := z_ite hf
  refine m_iald X pa_8 hb1 dX11_isTold_12 ?_
  refine z_iconst (v := -1) X dX11_isTold_13 (by decide) ?_
  refine z_icmp_eq (tgt := 21) X dX11_isTold_14 (by decide) (fun c_ => ?_) (fun c_ => ?_)
  · have hf := (if_pos c_).symm.trans hf
    refine z_iconst (v := 0) X dX11_isTold_21 (by decide) ?_
    exact m_iret X Z hf (by decide) dX11_isTold_22
  · have hf := (if_neg c_).symm.trans hf
    refine z_iconst (v := 1) X dX11_isTold_17 (by decide) ?_
    refine z_goto (tgt := 22) X dX11_isTold_18 (by decide) ?_
    exact m_iret X Z hf (by decide) dX11_isTold_22

theorem c_isTold (D : va_G) (cy : Nat → ClassId) (ad : Nat → Nat) {x1 : Int32} {V : zI} {L : zL} {r' : Int32 × zI × zL} (hf : f_isTold x1 V L = some r') : RMi (zR D cy ad) yX11_isTold cX11_isTold 2 .boolean 0 0 [.ref (ad 0), .int x1] V L r'.1 r'.2.1 r'.2.2 :=
  RMi.of (by decide) zR_nd (Nat.le_of_ble_eq_true rfl) (fun M X Z ls hl => w_isTold X Z x1 V L ls hl hf)
def f_wayBy (x1 : Int32) (x2 : Int32) (V : zI) (L : zL) : Option (Int32 × zI × zL) :=
  (f_at (V 0 13) x1 x2 V L).bind fun r1 => if inB r1.1 72 then some (r1.2.1 5 r1.1.toNatClampNeg, r1.2.1, r1.2.2) else none
set_option maxHeartbeats 4000000 in
set_option maxRecDepth 100000 in
theorem w_wayBy {M : zM} {D : va_G} {cy : Nat → ClassId} {ad : Nat → Nat} {r' : Int32 × zI × zL} (X : RX M (zR D cy ad) cX11_wayBy 3 RX11 1 23) (Z : RZi M (zR D cy ad) .int r'.1 r'.2.1 r'.2.2) (x1 : Int32) (x2 : Int32) (V : zI) (L : zL) (ls : Array Slot) (hl : lv_has ls 3 [(0, .ref (ad 0)), (1, .int x1), (2, .int x2)]) (hf : f_wayBy x1 x2 V L = some r') : RG M (zR D cy ad) V L 0 ls [] := by
  unfold f_wayBy at hf
  refine z_aload_n X dX11_wayBy_0 rfl (lv_at hl 0 rfl) ?_
  refine m_geta X ff_17 dX11_wayBy_1 ?_
  refine z_aload_n X dX11_wayBy_4 rfl (lv_at hl 0 rfl) ?_
  refine z_aload_n X dX11_wayBy_5 rfl (lv_at hl 0 rfl) ?_
  refine m_geti X ff_13 dX11_wayBy_6 ?_
  refine z_iload_n X dX11_wayBy_9 rfl (lv_at hl 1 rfl) ?_
  refine z_iload_n X dX11_wayBy_10 rfl (lv_at hl 2 rfl) ?_
  obtain ⟨r1, hc1, hf⟩ := z_bind hf
  refine m_callVi [.int (V 0 13), .int x1, .int x2] X hl.1 (c_at D cy ad hc1) gm_at pd_at rfl ⟨by decide, by decide⟩ (Nat.le_of_ble_eq_true rfl) rfl dX11_wayBy_11 ?_
  obtain ⟨hb2, hf⟩ := z_ite hf
  refine m_iald X pa_5 hb2 dX11_wayBy_14 ?_
  exact m_iret X Z hf rfl dX11_wayBy_15

theorem c_wayBy (D : va_G) (cy : Nat → ClassId) (ad : Nat → Nat) {x1 : Int32} {x2 : Int32} {V : zI} {L : zL} {r' : Int32 × zI × zL} (hf : f_wayBy x1 x2 V L = some r') : RMi (zR D cy ad) yX11_wayBy cX11_wayBy 3 .int 1 23 [.ref (ad 0), .int x1, .int x2] V L r'.1 r'.2.1 r'.2.2 :=
  RMi.of (by decide) zR_nd (Nat.le_of_ble_eq_true rfl) (fun M X Z ls hl => w_wayBy X Z x1 x2 V L ls hl hf)
def f_isWay (x1 : Int32) (x2 : Int32) (V : zI) (L : zL) : Option (Int32 × zI × zL) :=
  (if x1 = x2 then some (0, V, L) else (f_wayBy x1 x2 V L).bind fun r1 => (if 100000000 ≤ r1.1 then some (0, r1.2.1, r1.2.2) else some (1, r1.2.1, r1.2.2)))
set_option maxHeartbeats 4000000 in
set_option maxRecDepth 100000 in
theorem w_isWay {M : zM} {D : va_G} {cy : Nat → ClassId} {ad : Nat → Nat} {r' : Int32 × zI × zL} (X : RX M (zR D cy ad) cX11_isWay 3 RX11 2 45) (Z : RZi M (zR D cy ad) .boolean r'.1 r'.2.1 r'.2.2) (x1 : Int32) (x2 : Int32) (V : zI) (L : zL) (ls : Array Slot) (hl : lv_has ls 3 [(0, .ref (ad 0)), (1, .int x1), (2, .int x2)]) (hf : f_isWay x1 x2 V L = some r') : RG M (zR D cy ad) V L 0 ls [] := by
  unfold f_isWay at hf
  refine z_iload_n X dX11_isWay_0 rfl (lv_at hl 1 rfl) ?_
  refine z_iload_n X dX11_isWay_1 rfl (lv_at hl 2 rfl) ?_
  refine z_icmp_eq (tgt := 21) X dX11_isWay_2 (by decide) (fun c_ => ?_) (fun c_ => ?_)
  · have hf := (if_pos c_).symm.trans hf
    refine z_iconst (v := 0) X dX11_isWay_21 (by decide) ?_
    exact m_iret X Z hf (by decide) dX11_isWay_22
  · have hf := (if_neg c_).symm.trans hf
    refine z_aload_n X dX11_isWay_5 rfl (lv_at hl 0 rfl) ?_
    refine z_iload_n X dX11_isWay_6 rfl (lv_at hl 1 rfl) ?_
    refine z_iload_n X dX11_isWay_7 rfl (lv_at hl 2 rfl) ?_
    obtain ⟨r1, hc1, hf⟩ := z_bind hf
    refine m_callVi [.int x1, .int x2] X hl.1 (c_wayBy D cy ad hc1) gm_wayBy pd_wayBy rfl ⟨by decide, by decide⟩ (Nat.le_of_ble_eq_true rfl) rfl dX11_isWay_8 ?_
    refine z_ldcw X dX11_isWay_11 kc_373 ?_
    refine z_icmp_ge (tgt := 21) X dX11_isWay_14 (by decide) (fun c_ => ?_) (fun c_ => ?_)
    · have hf := (if_pos c_).symm.trans hf
      refine z_iconst (v := 0) X dX11_isWay_21 (by decide) ?_
      exact m_iret X Z hf (by decide) dX11_isWay_22
    · have hf := (if_neg c_).symm.trans hf
      refine z_iconst (v := 1) X dX11_isWay_17 (by decide) ?_
      refine z_goto (tgt := 22) X dX11_isWay_18 (by decide) ?_
      exact m_iret X Z hf (by decide) dX11_isWay_22

theorem c_isWay (D : va_G) (cy : Nat → ClassId) (ad : Nat → Nat) {x1 : Int32} {x2 : Int32} {V : zI} {L : zL} {r' : Int32 × zI × zL} (hf : f_isWay x1 x2 V L = some r') : RMi (zR D cy ad) yX11_isWay cX11_isWay 3 .boolean 2 45 [.ref (ad 0), .int x1, .int x2] V L r'.1 r'.2.1 r'.2.2 :=
  RMi.of (by decide) zR_nd (Nat.le_of_ble_eq_true rfl) (fun M X Z ls hl => w_isWay X Z x1 x2 V L ls hl hf)
def f_tells_47 (x1 : Int32) (x4 : Int32) (s1 : Int32) (s2 : Int32) (V : zI) (L : zL) : Option (zI × zL) :=
  if inB s1 12 then if inB x1 22 then if inB x4 792 then if inB x4 792 then some (z_uI (z_uI (z_uI (z_uI V 29 s1.toNatClampNeg s2) 29 ((3) : Int32).toNatClampNeg ((z_uI V 29 s1.toNatClampNeg s2) 20 x1.toNatClampNeg)) 29 ((4) : Int32).toNatClampNeg ((z_uI (z_uI V 29 s1.toNatClampNeg s2) 29 ((3) : Int32).toNatClampNeg ((z_uI V 29 s1.toNatClampNeg s2) 20 x1.toNatClampNeg)) 22 x4.toNatClampNeg)) 29 ((5) : Int32).toNatClampNeg ((z_uI (z_uI (z_uI V 29 s1.toNatClampNeg s2) 29 ((3) : Int32).toNatClampNeg ((z_uI V 29 s1.toNatClampNeg s2) 20 x1.toNatClampNeg)) 29 ((4) : Int32).toNatClampNeg ((z_uI (z_uI V 29 s1.toNatClampNeg s2) 29 ((3) : Int32).toNatClampNeg ((z_uI V 29 s1.toNatClampNeg s2) 20 x1.toNatClampNeg)) 22 x4.toNatClampNeg)) 23 x4.toNatClampNeg), L) else none else none else none else none
def f_tells (x1 : Int32) (x2 : Int32) (x3 : Int32) (V : zI) (L : zL) : Option (zI × zL) :=
  (f_at x1 x2 x3 V L).bind fun r1 => if inB r1.1 792 then (f_isWay x2 x3 (z_uI r1.2.1 29 ((1) : Int32).toNatClampNeg (r1.2.1 21 r1.1.toNatClampNeg)) r1.2.2).bind fun r4 => (if r4.1 = 0 then f_tells_47 x1 r1.1 2 99 r4.2.1 r4.2.2 else (f_wayBy x2 x3 r4.2.1 r4.2.2).bind fun r5 => f_tells_47 x1 r1.1 2 r5.1 r5.2.1 r5.2.2) else none
set_option maxHeartbeats 4000000 in
set_option maxRecDepth 100000 in
theorem w_tells_47 {M : zM} {D : va_G} {cy : Nat → ClassId} {ad : Nat → Nat} {r' : zI × zL} (X : RX M (zR D cy ad) cX11_tells 5 RX11 3 67) (Z : RZv M (zR D cy ad) r'.1 r'.2) (x1 : Int32) (x4 : Int32) (s1 : Int32) (s2 : Int32) (V : zI) (L : zL) (ls : Array Slot) (hl : lv_has ls 5 [(0, .ref (ad 0)), (1, .int x1), (4, .int x4)]) (hf : f_tells_47 x1 x4 s1 s2 V L = some r') : RG M (zR D cy ad) V L 47 ls [.int s2, .int s1, .ref (ad 29)] := by
  unfold f_tells_47 at hf
  obtain ⟨hb1, hf⟩ := z_ite hf
  refine m_iast X pa_29 hb1 dX11_tells_47 ?_
  refine z_aload_n X dX11_tells_48 rfl (lv_at hl 0 rfl) ?_
  refine m_geta X ff_51 dX11_tells_49 ?_
  refine z_iconst (v := 3) X dX11_tells_52 (by decide) ?_
  refine z_aload_n X dX11_tells_53 rfl (lv_at hl 0 rfl) ?_
  refine m_geta X ff_39 dX11_tells_54 ?_
  refine z_iload_n X dX11_tells_57 rfl (lv_at hl 1 rfl) ?_
  obtain ⟨hb2, hf⟩ := z_ite hf
  refine m_iald X pa_20 hb2 dX11_tells_58 ?_
  refine m_iast X pa_29 (show inB 3 12 by decide) dX11_tells_59 ?_
  refine z_aload_n X dX11_tells_60 rfl (lv_at hl 0 rfl) ?_
  refine m_geta X ff_51 dX11_tells_61 ?_
  refine z_iconst (v := 4) X dX11_tells_64 (by decide) ?_
  refine z_aload_n X dX11_tells_65 rfl (lv_at hl 0 rfl) ?_
  refine m_geta X ff_41 dX11_tells_66 ?_
  refine z_iload X dX11_tells_69 (lv_at hl 2 rfl) ?_
  obtain ⟨hb4, hf⟩ := z_ite hf
  refine m_iald X pa_22 hb4 dX11_tells_71 ?_
  refine m_iast X pa_29 (show inB 4 12 by decide) dX11_tells_72 ?_
  refine z_aload_n X dX11_tells_73 rfl (lv_at hl 0 rfl) ?_
  refine m_geta X ff_51 dX11_tells_74 ?_
  refine z_iconst (v := 5) X dX11_tells_77 (by decide) ?_
  refine z_aload_n X dX11_tells_78 rfl (lv_at hl 0 rfl) ?_
  refine m_geta X ff_42 dX11_tells_79 ?_
  refine z_iload X dX11_tells_82 (lv_at hl 2 rfl) ?_
  obtain ⟨hb6, hf⟩ := z_ite hf
  refine m_iald X pa_23 hb6 dX11_tells_84 ?_
  refine m_iast X pa_29 (show inB 5 12 by decide) dX11_tells_85 ?_
  exact m_vret X Z hf dX11_tells_86

set_option maxHeartbeats 4000000 in
set_option maxRecDepth 100000 in
theorem w_tells {M : zM} {D : va_G} {cy : Nat → ClassId} {ad : Nat → Nat} {r' : zI × zL} (X : RX M (zR D cy ad) cX11_tells 5 RX11 3 67) (Z : RZv M (zR D cy ad) r'.1 r'.2) (x1 : Int32) (x2 : Int32) (x3 : Int32) (V : zI) (L : zL) (ls : Array Slot) (hl : lv_has ls 5 [(0, .ref (ad 0)), (1, .int x1), (2, .int x2), (3, .int x3)]) (hf : f_tells x1 x2 x3 V L = some r') : RG M (zR D cy ad) V L 0 ls [] := by
  unfold f_tells at hf
  refine z_aload_n X dX11_tells_0 rfl (lv_at hl 0 rfl) ?_
  refine z_iload_n X dX11_tells_1 rfl (lv_at hl 1 rfl) ?_
  refine z_iload_n X dX11_tells_2 rfl (lv_at hl 2 rfl) ?_
  refine z_iload_n X dX11_tells_3 rfl (lv_at hl 3 rfl) ?_
  obtain ⟨r1, hc1, hf⟩ := z_bind hf
  refine m_callVi [.int x1, .int x2, .int x3] X hl.1 (c_at D cy ad hc1) gm_at pd_at rfl ⟨by decide, by decide⟩ (Nat.le_of_ble_eq_true rfl) rfl dX11_tells_4 ?_
  refine z_istore (lv' := [(4, .int r1.1), (0, .ref (ad 0)), (1, .int x1), (2, .int x2), (3, .int x3)]) X dX11_tells_7 hl (by decide) rfl (fun ls hl => ?_)
  refine z_aload_n X dX11_tells_9 rfl (lv_at hl 1 rfl) ?_
  refine m_geta X ff_51 dX11_tells_10 ?_
  refine z_iconst (v := 1) X dX11_tells_13 (by decide) ?_
  refine z_aload_n X dX11_tells_14 rfl (lv_at hl 1 rfl) ?_
  refine m_geta X ff_40 dX11_tells_15 ?_
  refine z_iload X dX11_tells_18 (lv_at hl 0 rfl) ?_
  obtain ⟨hb2, hf⟩ := z_ite hf
  refine m_iald X pa_21 hb2 dX11_tells_20 ?_
  refine m_iast X pa_29 (show inB 1 12 by decide) dX11_tells_21 ?_
  refine z_aload_n X dX11_tells_22 rfl (lv_at hl 1 rfl) ?_
  refine m_geta X ff_51 dX11_tells_23 ?_
  refine z_iconst (v := 2) X dX11_tells_26 (by decide) ?_
  refine z_aload_n X dX11_tells_27 rfl (lv_at hl 1 rfl) ?_
  refine z_iload_n X dX11_tells_28 rfl (lv_at hl 3 rfl) ?_
  refine z_iload_n X dX11_tells_29 rfl (lv_at hl 4 rfl) ?_
  obtain ⟨r4, hc4, hf⟩ := z_bind hf
  refine m_callVi [.int x2, .int x3] X hl.1 (c_isWay D cy ad hc4) gm_isWay pd_isWay rfl ⟨by decide, by decide⟩ (Nat.le_of_ble_eq_true rfl) rfl dX11_tells_30 ?_
  refine z_if_eq (tgt := 45) X dX11_tells_33 (by decide) (fun c_ => ?_) (fun c_ => ?_)
  · have hf := (if_pos c_).symm.trans hf
    refine z_bipush (v := 99) X dX11_tells_45 (by decide) ?_
    exact w_tells_47 X Z x1 r1.1 2 99 r4.2.1 r4.2.2 ls (lv_sub hl [1, 2, 0] rfl) hf
  · have hf := (if_neg c_).symm.trans hf
    refine z_aload_n X dX11_tells_36 rfl (lv_at hl 1 rfl) ?_
    refine z_iload_n X dX11_tells_37 rfl (lv_at hl 3 rfl) ?_
    refine z_iload_n X dX11_tells_38 rfl (lv_at hl 4 rfl) ?_
    obtain ⟨r5, hc5, hf⟩ := z_bind hf
    refine m_callVi [.int x2, .int x3] X hl.1 (c_wayBy D cy ad hc5) gm_wayBy pd_wayBy rfl ⟨by decide, by decide⟩ (Nat.le_of_ble_eq_true rfl) rfl dX11_tells_39 ?_
    refine z_goto (tgt := 47) X dX11_tells_42 (by decide) ?_
    exact w_tells_47 X Z x1 r1.1 2 r5.1 r5.2.1 r5.2.2 ls (lv_sub hl [1, 2, 0] rfl) hf

theorem c_tells (D : va_G) (cy : Nat → ClassId) (ad : Nat → Nat) {x1 : Int32} {x2 : Int32} {x3 : Int32} {V : zI} {L : zL} {r' : zI × zL} (hf : f_tells x1 x2 x3 V L = some r') : RMv (zR D cy ad) yX11_tells cX11_tells 5 3 67 [.ref (ad 0), .int x1, .int x2, .int x3] V L r'.1 r'.2 :=
  RMv.of (by decide) zR_nd (Nat.le_of_ble_eq_true rfl) (fun M X Z ls hl => w_tells X Z x1 x2 x3 V L ls hl hf)
def f_nextOf_128 (k21 : Int32 × Int32 × Int32 × Int64 × Int32 × zI × zL → Option (Int32 × zI × zL)) (x1 : Int32) (x2 : Int32) (x6 : Int32) (x7 : Int64) (V : zI) (L : zL) : Option (Int32 × zI × zL) :=
  k21 (x1, x2, x6, x7, (x6 + 1), V, L)
def f_nextOf_110 (k21 : Int32 × Int32 × Int32 × Int64 × Int32 × zI × zL → Option (Int32 × zI × zL)) (x1 : Int32) (x2 : Int32) (x3 : Int32) (x4 : Int64) (x6 : Int32) (s0 : Int64) (V : zI) (L : zL) : Option (Int32 × zI × zL) :=
  (if x3 = (-1) then f_nextOf_128 k21 x1 x2 x6 s0 V L else (if 0 < (lg_cmp s0 x4) then f_nextOf_128 k21 x1 x2 x6 s0 V L else k21 (x1, x2, x3, x4, (x6 + 1), V, L)))
def f_nextOf_93 (k21 : Int32 × Int32 × Int32 × Int64 × Int32 × zI × zL → Option (Int32 × zI × zL)) (x1 : Int32) (x2 : Int32) (x3 : Int32) (x4 : Int64) (x6 : Int32) (V : zI) (L : zL) : Option (Int32 × zI × zL) :=
  (f_isTold 1 V L).bind fun r1 => (if r1.1 = 0 then f_nextOf_110 k21 x1 x2 x3 x4 x6 0 r1.2.1 r1.2.2 else (f_reckons 1 r1.2.1 r1.2.2).bind fun r2 => f_nextOf_110 k21 x1 x2 x3 x4 x6 r2.1 r2.2.1 r2.2.2)
def b_nextOf_21 (k21 : Int32 × Int32 × Int32 × Int64 × Int32 × zI × zL → Option (Int32 × zI × zL)) : Int32 × Int32 × Int32 × Int64 × Int32 × zI × zL → Option (Int32 × zI × zL) := fun ⟨x1, x2, x3, x4, x6, V, L⟩ =>
  if inB (V 0 13) 2 then (if (V 2 (V 0 13).toNatClampNeg) ≤ x6 then some (x3, V, L) else (f_isWay x2 x6 V L).bind fun r2 => (if r2.1 = 0 then k21 (x1, x2, x3, x4, (x6 + 1), r2.2.1, r2.2.2) else (f_at x1 x2 x6 r2.2.1 r2.2.2).bind fun r3 => if inB r3.1 792 then (if (r3.2.1 21 r3.1.toNatClampNeg) = 0 then k21 (x1, x2, x3, x4, (x6 + 1), r3.2.1, r3.2.2) else (f_tells x1 x2 x6 r3.2.1 r3.2.2).bind fun r5 => (f_isTold 0 r5.1 r5.2).bind fun r6 => (if r6.1 = 0 then f_nextOf_93 k21 x1 x2 x3 x4 x6 r6.2.1 r6.2.2 else (f_reckons 0 r6.2.1 r6.2.2).bind fun r7 => (if (lg_cmp r7.1 0) = 0 then k21 (x1, x2, x3, x4, (x6 + 1), r7.2.1, r7.2.2) else f_nextOf_93 k21 x1 x2 x3 x4 x6 r7.2.1 r7.2.2))) else none)) else none
def f_nextOf (x1 : Int32) (x2 : Int32) (V : zI) (L : zL) : Option (Int32 × zI × zL) :=
  if inB x1 22 then (if (V 24 x1.toNatClampNeg) = 60 then some ((-1), V, L) else zfix (b_nextOf_21) FU (x1, x2, (-1), 0, 0, V, L)) else none
set_option maxHeartbeats 4000000 in
set_option maxRecDepth 100000 in
theorem w_nextOf_128 {M : zM} {D : va_G} {cy : Nat → ClassId} {ad : Nat → Nat} {r' : Int32 × zI × zL} (X : RX M (zR D cy ad) cX11_nextOf 9 RX11 4 91) (Z : RZi M (zR D cy ad) .int r'.1 r'.2.1 r'.2.2) {k21 : Int32 × Int32 × Int32 × Int64 × Int32 × zI × zL → Option (Int32 × zI × zL)} (hk21 : ∀ (x1 : Int32) (x2 : Int32) (x3 : Int32) (x4 : Int64) (x6 : Int32) (V : zI) (L : zL) (ls : Array Slot), lv_has ls 9 [(0, .ref (ad 0)), (1, .int x1), (2, .int x2), (3, .int x3), (4, .long x4), (6, .int x6)] → k21 (x1, x2, x3, x4, x6, V, L) = some r' → RG M (zR D cy ad) V L 21 ls []) (x1 : Int32) (x2 : Int32) (x6 : Int32) (x7 : Int64) (V : zI) (L : zL) (ls : Array Slot) (hl : lv_has ls 9 [(0, .ref (ad 0)), (1, .int x1), (2, .int x2), (6, .int x6), (7, .long x7)]) (hf : f_nextOf_128 k21 x1 x2 x6 x7 V L = some r') : RG M (zR D cy ad) V L 128 ls [] := by
  unfold f_nextOf_128 at hf
  refine z_lload X dX11_nextOf_128 (lv_at hl 4 rfl) ?_
  refine z_lstore (lv' := [(4, .long x7), (0, .ref (ad 0)), (1, .int x1), (2, .int x2), (6, .int x6), (7, .long x7)]) X dX11_nextOf_130 hl (by decide) rfl (fun ls hl => ?_)
  refine z_iload X dX11_nextOf_132 (lv_at hl 4 rfl) ?_
  refine z_istore_n (lv' := [(3, .int x6), (4, .long x7), (0, .ref (ad 0)), (1, .int x1), (2, .int x2), (6, .int x6), (7, .long x7)]) X dX11_nextOf_134 rfl hl (by decide) rfl (fun ls hl => ?_)
  refine z_iinc (v := x6 + 1) (k0 := 5) (lv' := [(6, .int (x6 + 1)), (3, .int x6), (4, .long x7), (0, .ref (ad 0)), (1, .int x1), (2, .int x2), (7, .long x7)]) X dX11_nextOf_135 hl rfl rfl (by decide) rfl (fun ls hl => ?_)
  refine z_goto (tgt := 21) X dX11_nextOf_138 (by decide) ?_
  exact hk21 x1 x2 x6 x7 (x6 + 1) V L ls (lv_sub hl [3, 4, 5, 1, 2, 0] rfl) hf

set_option maxHeartbeats 4000000 in
set_option maxRecDepth 100000 in
theorem w_nextOf_110 {M : zM} {D : va_G} {cy : Nat → ClassId} {ad : Nat → Nat} {r' : Int32 × zI × zL} (X : RX M (zR D cy ad) cX11_nextOf 9 RX11 4 91) (Z : RZi M (zR D cy ad) .int r'.1 r'.2.1 r'.2.2) {k21 : Int32 × Int32 × Int32 × Int64 × Int32 × zI × zL → Option (Int32 × zI × zL)} (hk21 : ∀ (x1 : Int32) (x2 : Int32) (x3 : Int32) (x4 : Int64) (x6 : Int32) (V : zI) (L : zL) (ls : Array Slot), lv_has ls 9 [(0, .ref (ad 0)), (1, .int x1), (2, .int x2), (3, .int x3), (4, .long x4), (6, .int x6)] → k21 (x1, x2, x3, x4, x6, V, L) = some r' → RG M (zR D cy ad) V L 21 ls []) (x1 : Int32) (x2 : Int32) (x3 : Int32) (x4 : Int64) (x6 : Int32) (s0 : Int64) (V : zI) (L : zL) (ls : Array Slot) (hl : lv_has ls 9 [(0, .ref (ad 0)), (1, .int x1), (2, .int x2), (3, .int x3), (4, .long x4), (6, .int x6)]) (hf : f_nextOf_110 k21 x1 x2 x3 x4 x6 s0 V L = some r') : RG M (zR D cy ad) V L 110 ls [.long s0] := by
  unfold f_nextOf_110 at hf
  refine z_lstore (lv' := [(7, .long s0), (0, .ref (ad 0)), (1, .int x1), (2, .int x2), (3, .int x3), (4, .long x4), (6, .int x6)]) X dX11_nextOf_110 hl (by decide) rfl (fun ls hl => ?_)
  refine z_iload_n X dX11_nextOf_112 rfl (lv_at hl 4 rfl) ?_
  refine z_iconst (v := -1) X dX11_nextOf_113 (by decide) ?_
  refine z_icmp_eq (tgt := 128) X dX11_nextOf_114 (by decide) (fun c_ => ?_) (fun c_ => ?_)
  · have hf := (if_pos c_).symm.trans hf
    exact w_nextOf_128 X Z hk21 x1 x2 x6 s0 V L ls (lv_sub hl [1, 2, 3, 6, 0] rfl) hf
  · have hf := (if_neg c_).symm.trans hf
    refine z_lload X dX11_nextOf_117 (lv_at hl 0 rfl) ?_
    refine z_lload X dX11_nextOf_119 (lv_at hl 5 rfl) ?_
    refine z_lcmp X dX11_nextOf_121 ?_
    refine z_if_gt (tgt := 128) X dX11_nextOf_122 (by decide) (fun c_ => ?_) (fun c_ => ?_)
    · have hf := (if_pos c_).symm.trans hf
      exact w_nextOf_128 X Z hk21 x1 x2 x6 s0 V L ls (lv_sub hl [1, 2, 3, 6, 0] rfl) hf
    · have hf := (if_neg c_).symm.trans hf
      refine z_goto (tgt := 135) X dX11_nextOf_125 (by decide) ?_
      refine z_iinc (v := x6 + 1) (k0 := 6) (lv' := [(6, .int (x6 + 1)), (7, .long s0), (0, .ref (ad 0)), (1, .int x1), (2, .int x2), (3, .int x3), (4, .long x4)]) X dX11_nextOf_135 hl rfl rfl (by decide) rfl (fun ls hl => ?_)
      refine z_goto (tgt := 21) X dX11_nextOf_138 (by decide) ?_
      exact hk21 x1 x2 x3 x4 (x6 + 1) V L ls (lv_sub hl [2, 3, 4, 5, 6, 0] rfl) hf

set_option maxHeartbeats 4000000 in
set_option maxRecDepth 100000 in
theorem w_nextOf_93 {M : zM} {D : va_G} {cy : Nat → ClassId} {ad : Nat → Nat} {r' : Int32 × zI × zL} (X : RX M (zR D cy ad) cX11_nextOf 9 RX11 4 91) (Z : RZi M (zR D cy ad) .int r'.1 r'.2.1 r'.2.2) {k21 : Int32 × Int32 × Int32 × Int64 × Int32 × zI × zL → Option (Int32 × zI × zL)} (hk21 : ∀ (x1 : Int32) (x2 : Int32) (x3 : Int32) (x4 : Int64) (x6 : Int32) (V : zI) (L : zL) (ls : Array Slot), lv_has ls 9 [(0, .ref (ad 0)), (1, .int x1), (2, .int x2), (3, .int x3), (4, .long x4), (6, .int x6)] → k21 (x1, x2, x3, x4, x6, V, L) = some r' → RG M (zR D cy ad) V L 21 ls []) (x1 : Int32) (x2 : Int32) (x3 : Int32) (x4 : Int64) (x6 : Int32) (V : zI) (L : zL) (ls : Array Slot) (hl : lv_has ls 9 [(0, .ref (ad 0)), (1, .int x1), (2, .int x2), (3, .int x3), (4, .long x4), (6, .int x6)]) (hf : f_nextOf_93 k21 x1 x2 x3 x4 x6 V L = some r') : RG M (zR D cy ad) V L 93 ls [] := by
  unfold f_nextOf_93 at hf
  refine z_aload_n X dX11_nextOf_93 rfl (lv_at hl 0 rfl) ?_
  refine z_iconst (v := 1) X dX11_nextOf_94 (by decide) ?_
  obtain ⟨r1, hc1, hf⟩ := z_bind hf
  refine m_callVi [.int 1] X hl.1 (c_isTold D cy ad hc1) gm_isTold pd_isTold rfl ⟨by decide, by decide⟩ (Nat.le_of_ble_eq_true rfl) rfl dX11_nextOf_95 ?_
  refine z_if_eq (tgt := 109) X dX11_nextOf_98 (by decide) (fun c_ => ?_) (fun c_ => ?_)
  · have hf := (if_pos c_).symm.trans hf
    refine z_lconst (v := 0) X dX11_nextOf_109 (by decide) ?_
    exact w_nextOf_110 X Z hk21 x1 x2 x3 x4 x6 0 r1.2.1 r1.2.2 ls (lv_sub hl [0, 1, 2, 3, 4, 5] rfl) hf
  · have hf := (if_neg c_).symm.trans hf
    refine z_aload_n X dX11_nextOf_101 rfl (lv_at hl 0 rfl) ?_
    refine z_iconst (v := 1) X dX11_nextOf_102 (by decide) ?_
    obtain ⟨r2, hc2, hf⟩ := z_bind hf
    refine m_callVl [.int 1] X hl.1 (c_reckons D cy ad hc2) gm_reckons pd_reckons rfl ⟨by decide, by decide⟩ (Nat.le_of_ble_eq_true rfl) rfl dX11_nextOf_103 ?_
    refine z_goto (tgt := 110) X dX11_nextOf_106 (by decide) ?_
    exact w_nextOf_110 X Z hk21 x1 x2 x3 x4 x6 r2.1 r2.2.1 r2.2.2 ls (lv_sub hl [0, 1, 2, 3, 4, 5] rfl) hf

set_option maxHeartbeats 4000000 in
set_option maxRecDepth 100000 in
theorem w_nextOf_21 {M : zM} {D : va_G} {cy : Nat → ClassId} {ad : Nat → Nat} {r' : Int32 × zI × zL} (X : RX M (zR D cy ad) cX11_nextOf 9 RX11 4 91) (Z : RZi M (zR D cy ad) .int r'.1 r'.2.1 r'.2.2) (n : Nat) : ∀ (x1 : Int32) (x2 : Int32) (x3 : Int32) (x4 : Int64) (x6 : Int32) (V : zI) (L : zL) (ls : Array Slot) (hl : lv_has ls 9 [(0, .ref (ad 0)), (1, .int x1), (2, .int x2), (3, .int x3), (4, .long x4), (6, .int x6)]) (hf : zfix (b_nextOf_21) n (x1, x2, x3, x4, x6, V, L) = some r'), RG M (zR D cy ad) V L 21 ls [] := by
  induction n with
  | zero => intro x1 x2 x3 x4 x6 V L ls hl hf; cases hf
  | succ n ih =>
  intro x1 x2 x3 x4 x6 V L ls hl hf
  have hk21 : ∀ (x1 : Int32) (x2 : Int32) (x3 : Int32) (x4 : Int64) (x6 : Int32) (V : zI) (L : zL) (ls : Array Slot), lv_has ls 9 [(0, .ref (ad 0)), (1, .int x1), (2, .int x2), (3, .int x3), (4, .long x4), (6, .int x6)] → zfix (b_nextOf_21) n (x1, x2, x3, x4, x6, V, L) = some r' → RG M (zR D cy ad) V L 21 ls [] := ih
  have hf : b_nextOf_21 (zfix (b_nextOf_21) n) (x1, x2, x3, x4, x6, V, L) = some r' := hf
  generalize zfix (b_nextOf_21) n = k21 at hk21 hf
  unfold b_nextOf_21 at hf
  clear ih
  refine z_iload X dX11_nextOf_21 (lv_at hl 5 rfl) ?_
  refine z_aload_n X dX11_nextOf_23 rfl (lv_at hl 0 rfl) ?_
  refine m_geta X ff_14 dX11_nextOf_24 ?_
  refine z_aload_n X dX11_nextOf_27 rfl (lv_at hl 0 rfl) ?_
  refine m_geti X ff_13 dX11_nextOf_28 ?_
  obtain ⟨hb1, hf⟩ := z_ite hf
  refine m_iald X pa_2 hb1 dX11_nextOf_31 ?_
  refine z_icmp_ge (tgt := 141) X dX11_nextOf_32 (by decide) (fun c_ => ?_) (fun c_ => ?_)
  · have hf := (if_pos c_).symm.trans hf
    refine z_iload_n X dX11_nextOf_141 rfl (lv_at hl 3 rfl) ?_
    exact m_iret X Z hf rfl dX11_nextOf_142
  · have hf := (if_neg c_).symm.trans hf
    refine z_aload_n X dX11_nextOf_35 rfl (lv_at hl 0 rfl) ?_
    refine z_iload_n X dX11_nextOf_36 rfl (lv_at hl 2 rfl) ?_
    refine z_iload X dX11_nextOf_37 (lv_at hl 5 rfl) ?_
    obtain ⟨r2, hc2, hf⟩ := z_bind hf
    refine m_callVi [.int x2, .int x6] X hl.1 (c_isWay D cy ad hc2) gm_isWay pd_isWay rfl ⟨by decide, by decide⟩ (Nat.le_of_ble_eq_true rfl) rfl dX11_nextOf_39 ?_
    refine z_if_eq (tgt := 135) X dX11_nextOf_42 (by decide) (fun c_ => ?_) (fun c_ => ?_)
    · have hf := (if_pos c_).symm.trans hf
      refine z_iinc (v := x6 + 1) (k0 := 5) (lv' := [(6, .int (x6 + 1)), (0, .ref (ad 0)), (1, .int x1), (2, .int x2), (3, .int x3), (4, .long x4)]) X dX11_nextOf_135 hl rfl rfl (by decide) rfl (fun ls hl => ?_)
      refine z_goto (tgt := 21) X dX11_nextOf_138 (by decide) ?_
      exact hk21 x1 x2 x3 x4 (x6 + 1) r2.2.1 r2.2.2 ls (lv_sub hl [1, 2, 3, 4, 5, 0] rfl) hf
    · have hf := (if_neg c_).symm.trans hf
      refine z_aload_n X dX11_nextOf_45 rfl (lv_at hl 0 rfl) ?_
      refine m_geta X ff_40 dX11_nextOf_46 ?_
      refine z_aload_n X dX11_nextOf_49 rfl (lv_at hl 0 rfl) ?_
      refine z_iload_n X dX11_nextOf_50 rfl (lv_at hl 1 rfl) ?_
      refine z_iload_n X dX11_nextOf_51 rfl (lv_at hl 2 rfl) ?_
      refine z_iload X dX11_nextOf_52 (lv_at hl 5 rfl) ?_
      obtain ⟨r3, hc3, hf⟩ := z_bind hf
      refine m_callVi [.int x1, .int x2, .int x6] X hl.1 (c_at D cy ad hc3) gm_at pd_at rfl ⟨by decide, by decide⟩ (Nat.le_of_ble_eq_true rfl) rfl dX11_nextOf_54 ?_
      obtain ⟨hb4, hf⟩ := z_ite hf
      refine m_iald X pa_21 hb4 dX11_nextOf_57 ?_
      refine z_if_ne (tgt := 64) X dX11_nextOf_58 (by decide) (fun c_ => ?_) (fun c_ => ?_)
      · have hf := (if_neg c_).symm.trans hf
        refine z_aload_n X dX11_nextOf_64 rfl (lv_at hl 0 rfl) ?_
        refine z_iload_n X dX11_nextOf_65 rfl (lv_at hl 1 rfl) ?_
        refine z_iload_n X dX11_nextOf_66 rfl (lv_at hl 2 rfl) ?_
        refine z_iload X dX11_nextOf_67 (lv_at hl 5 rfl) ?_
        obtain ⟨r5, hc5, hf⟩ := z_bind hf
        refine m_callVv [.int x1, .int x2, .int x6] X hl.1 (c_tells D cy ad hc5) gm_tells pd_tells rfl ⟨by decide, by decide⟩ (Nat.le_of_ble_eq_true rfl) rfl dX11_nextOf_69 ?_
        refine z_aload_n X dX11_nextOf_72 rfl (lv_at hl 0 rfl) ?_
        refine z_iconst (v := 0) X dX11_nextOf_73 (by decide) ?_
        obtain ⟨r6, hc6, hf⟩ := z_bind hf
        refine m_callVi [.int 0] X hl.1 (c_isTold D cy ad hc6) gm_isTold pd_isTold rfl ⟨by decide, by decide⟩ (Nat.le_of_ble_eq_true rfl) rfl dX11_nextOf_74 ?_
        refine z_if_eq (tgt := 93) X dX11_nextOf_77 (by decide) (fun c_ => ?_) (fun c_ => ?_)
        · have hf := (if_pos c_).symm.trans hf
          exact w_nextOf_93 X Z hk21 x1 x2 x3 x4 x6 r6.2.1 r6.2.2 ls (lv_sub hl [0, 1, 2, 3, 4, 5] rfl) hf
        · have hf := (if_neg c_).symm.trans hf
          refine z_aload_n X dX11_nextOf_80 rfl (lv_at hl 0 rfl) ?_
          refine z_iconst (v := 0) X dX11_nextOf_81 (by decide) ?_
          obtain ⟨r7, hc7, hf⟩ := z_bind hf
          refine m_callVl [.int 0] X hl.1 (c_reckons D cy ad hc7) gm_reckons pd_reckons rfl ⟨by decide, by decide⟩ (Nat.le_of_ble_eq_true rfl) rfl dX11_nextOf_82 ?_
          refine z_lconst (v := 0) X dX11_nextOf_85 (by decide) ?_
          refine z_lcmp X dX11_nextOf_86 ?_
          refine z_if_ne (tgt := 93) X dX11_nextOf_87 (by decide) (fun c_ => ?_) (fun c_ => ?_)
          · have hf := (if_neg c_).symm.trans hf
            exact w_nextOf_93 X Z hk21 x1 x2 x3 x4 x6 r7.2.1 r7.2.2 ls (lv_sub hl [0, 1, 2, 3, 4, 5] rfl) hf
          · have hf := (if_pos c_).symm.trans hf
            refine z_goto (tgt := 135) X dX11_nextOf_90 (by decide) ?_
            refine z_iinc (v := x6 + 1) (k0 := 5) (lv' := [(6, .int (x6 + 1)), (0, .ref (ad 0)), (1, .int x1), (2, .int x2), (3, .int x3), (4, .long x4)]) X dX11_nextOf_135 hl rfl rfl (by decide) rfl (fun ls hl => ?_)
            refine z_goto (tgt := 21) X dX11_nextOf_138 (by decide) ?_
            exact hk21 x1 x2 x3 x4 (x6 + 1) r7.2.1 r7.2.2 ls (lv_sub hl [1, 2, 3, 4, 5, 0] rfl) hf
      · have hf := (if_pos c_).symm.trans hf
        refine z_goto (tgt := 135) X dX11_nextOf_61 (by decide) ?_
        refine z_iinc (v := x6 + 1) (k0 := 5) (lv' := [(6, .int (x6 + 1)), (0, .ref (ad 0)), (1, .int x1), (2, .int x2), (3, .int x3), (4, .long x4)]) X dX11_nextOf_135 hl rfl rfl (by decide) rfl (fun ls hl => ?_)
        refine z_goto (tgt := 21) X dX11_nextOf_138 (by decide) ?_
        exact hk21 x1 x2 x3 x4 (x6 + 1) r3.2.1 r3.2.2 ls (lv_sub hl [1, 2, 3, 4, 5, 0] rfl) hf

set_option maxHeartbeats 4000000 in
set_option maxRecDepth 100000 in
theorem w_nextOf {M : zM} {D : va_G} {cy : Nat → ClassId} {ad : Nat → Nat} {r' : Int32 × zI × zL} (X : RX M (zR D cy ad) cX11_nextOf 9 RX11 4 91) (Z : RZi M (zR D cy ad) .int r'.1 r'.2.1 r'.2.2) (x1 : Int32) (x2 : Int32) (V : zI) (L : zL) (ls : Array Slot) (hl : lv_has ls 9 [(0, .ref (ad 0)), (1, .int x1), (2, .int x2)]) (hf : f_nextOf x1 x2 V L = some r') : RG M (zR D cy ad) V L 0 ls [] := by
  unfold f_nextOf at hf
  refine z_aload_n X dX11_nextOf_0 rfl (lv_at hl 0 rfl) ?_
  refine m_geta X ff_43 dX11_nextOf_1 ?_
  refine z_iload_n X dX11_nextOf_4 rfl (lv_at hl 1 rfl) ?_
  obtain ⟨hb1, hf⟩ := z_ite hf
  refine m_iald X pa_24 hb1 dX11_nextOf_5 ?_
  refine z_bipush (v := 60) X dX11_nextOf_6 (by decide) ?_
  refine z_icmp_ne (tgt := 13) X dX11_nextOf_8 (by decide) (fun c_ => ?_) (fun c_ => ?_)
  · have hf := (if_neg c_).symm.trans hf
    refine z_iconst (v := -1) X dX11_nextOf_13 (by decide) ?_
    refine z_istore_n (lv' := [(3, .int (-1)), (0, .ref (ad 0)), (1, .int x1), (2, .int x2)]) X dX11_nextOf_14 rfl hl (by decide) rfl (fun ls hl => ?_)
    refine z_lconst (v := 0) X dX11_nextOf_15 (by decide) ?_
    refine z_lstore (lv' := [(4, .long 0), (3, .int (-1)), (0, .ref (ad 0)), (1, .int x1), (2, .int x2)]) X dX11_nextOf_16 hl (by decide) rfl (fun ls hl => ?_)
    refine z_iconst (v := 0) X dX11_nextOf_18 (by decide) ?_
    refine z_istore (lv' := [(6, .int 0), (4, .long 0), (3, .int (-1)), (0, .ref (ad 0)), (1, .int x1), (2, .int x2)]) X dX11_nextOf_19 hl (by decide) rfl (fun ls hl => ?_)
    exact w_nextOf_21 X Z FU x1 x2 (-1) 0 0 V L ls (lv_sub hl [3, 4, 5, 2, 1, 0] rfl) hf
  · have hf := (if_pos c_).symm.trans hf
    refine z_iconst (v := -1) X dX11_nextOf_11 (by decide) ?_
    exact m_iret X Z hf rfl dX11_nextOf_12

theorem c_nextOf (D : va_G) (cy : Nat → ClassId) (ad : Nat → Nat) {x1 : Int32} {x2 : Int32} {V : zI} {L : zL} {r' : Int32 × zI × zL} (hf : f_nextOf x1 x2 V L = some r') : RMi (zR D cy ad) yX11_nextOf cX11_nextOf 9 .int 4 91 [.ref (ad 0), .int x1, .int x2] V L r'.1 r'.2.1 r'.2.2 :=
  RMi.of (by decide) zR_nd (Nat.le_of_ble_eq_true rfl) (fun M X Z ls hl => w_nextOf X Z x1 x2 V L ls hl hf)
def f_writesDown_66 (x1 : Int32) (x2 : Int32) (x3 : Int32) (x4 : Int32) (V : zI) (L : zL) : Option (zI × zL) :=
  if inB x1 22 then if inB x1 22 then if inB ((4 : Int32) * (((50 : Int32) * x1) + (V 26 x1.toNatClampNeg))) 4400 then if inB (((4 : Int32) * (((50 : Int32) * x1) + (V 26 x1.toNatClampNeg))) + 1) 4400 then if inB (((4 : Int32) * (((50 : Int32) * x1) + (V 26 x1.toNatClampNeg))) + 2) 4400 then if inB (((4 : Int32) * (((50 : Int32) * x1) + (V 26 x1.toNatClampNeg))) + 3) 4400 then if inB x1 22 then if inB x1 22 then some (z_uI (z_uI (z_uI (z_uI (z_uI V 27 ((4 : Int32) * (((50 : Int32) * x1) + (V 26 x1.toNatClampNeg))).toNatClampNeg (V 20 x1.toNatClampNeg)) 27 (((4 : Int32) * (((50 : Int32) * x1) + (V 26 x1.toNatClampNeg))) + 1).toNatClampNeg x2) 27 (((4 : Int32) * (((50 : Int32) * x1) + (V 26 x1.toNatClampNeg))) + 2).toNatClampNeg x3) 27 (((4 : Int32) * (((50 : Int32) * x1) + (V 26 x1.toNatClampNeg))) + 3).toNatClampNeg x4) 26 x1.toNatClampNeg (((z_uI (z_uI (z_uI (z_uI V 27 ((4 : Int32) * (((50 : Int32) * x1) + (V 26 x1.toNatClampNeg))).toNatClampNeg (V 20 x1.toNatClampNeg)) 27 (((4 : Int32) * (((50 : Int32) * x1) + (V 26 x1.toNatClampNeg))) + 1).toNatClampNeg x2) 27 (((4 : Int32) * (((50 : Int32) * x1) + (V 26 x1.toNatClampNeg))) + 2).toNatClampNeg x3) 27 (((4 : Int32) * (((50 : Int32) * x1) + (V 26 x1.toNatClampNeg))) + 3).toNatClampNeg x4) 26 x1.toNatClampNeg) + 1), L) else none else none else none else none else none else none else none else none
def b_writesDown_18 (k18 : Int32 × Int32 × Int32 × Int32 × Int32 × zI × zL → Option (zI × zL)) : Int32 × Int32 × Int32 × Int32 × Int32 × zI × zL → Option (zI × zL) := fun ⟨x1, x2, x3, x4, x5, V, L⟩ =>
  (if ((((200 : Int32) * x1) + 200) - 4) ≤ x5 then if inB x1 22 then if inB x1 22 then f_writesDown_66 x1 x2 x3 x4 (z_uI V 26 x1.toNatClampNeg ((V 26 x1.toNatClampNeg) - 1)) L else none else none else if inB (x5 + 4) 4400 then if inB x5 4400 then k18 (x1, x2, x3, x4, (x5 + 1), z_uI V 27 x5.toNatClampNeg (V 27 (x5 + 4).toNatClampNeg), L) else none else none)
def f_writesDown (x1 : Int32) (x2 : Int32) (x3 : Int32) (x4 : Int32) (V : zI) (L : zL) : Option (zI × zL) :=
  if inB x1 22 then (if (V 26 x1.toNatClampNeg) = 50 then zfix (b_writesDown_18) FU (x1, x2, x3, x4, ((200 : Int32) * x1), V, L) else f_writesDown_66 x1 x2 x3 x4 V L) else none
set_option maxHeartbeats 4000000 in
set_option maxRecDepth 100000 in
theorem w_writesDown_66 {M : zM} {D : va_G} {cy : Nat → ClassId} {ad : Nat → Nat} {r' : zI × zL} (X : RX M (zR D cy ad) cX11_writesDown 6 RX11 0 0) (Z : RZv M (zR D cy ad) r'.1 r'.2) (x1 : Int32) (x2 : Int32) (x3 : Int32) (x4 : Int32) (V : zI) (L : zL) (ls : Array Slot) (hl : lv_has ls 6 [(0, .ref (ad 0)), (1, .int x1), (2, .int x2), (3, .int x3), (4, .int x4)]) (hf : f_writesDown_66 x1 x2 x3 x4 V L = some r') : RG M (zR D cy ad) V L 66 ls [] := by
  unfold f_writesDown_66 at hf
  refine z_iconst (v := 4) X dX11_writesDown_66 (by decide) ?_
  refine z_bipush (v := 50) X dX11_writesDown_67 (by decide) ?_
  refine z_iload_n X dX11_writesDown_69 rfl (lv_at hl 1 rfl) ?_
  refine z_imul X dX11_writesDown_70 ?_
  refine z_aload_n X dX11_writesDown_71 rfl (lv_at hl 0 rfl) ?_
  refine m_geta X ff_45 dX11_writesDown_72 ?_
  refine z_iload_n X dX11_writesDown_75 rfl (lv_at hl 1 rfl) ?_
  obtain ⟨hb1, hf⟩ := z_ite hf
  refine m_iald X pa_26 hb1 dX11_writesDown_76 ?_
  refine z_iadd X dX11_writesDown_77 ?_
  refine z_imul X dX11_writesDown_78 ?_
  refine z_istore (lv' := [(5, .int ((4 : Int32) * (((50 : Int32) * x1) + (V 26 x1.toNatClampNeg)))), (0, .ref (ad 0)), (1, .int x1), (2, .int x2), (3, .int x3), (4, .int x4)]) X dX11_writesDown_79 hl (by decide) rfl (fun ls hl => ?_)
  refine z_aload_n X dX11_writesDown_81 rfl (lv_at hl 1 rfl) ?_
  refine m_geta X ff_46 dX11_writesDown_82 ?_
  refine z_iload X dX11_writesDown_85 (lv_at hl 0 rfl) ?_
  refine z_aload_n X dX11_writesDown_87 rfl (lv_at hl 1 rfl) ?_
  refine m_geta X ff_39 dX11_writesDown_88 ?_
  refine z_iload_n X dX11_writesDown_91 rfl (lv_at hl 2 rfl) ?_
  obtain ⟨hb2, hf⟩ := z_ite hf
  refine m_iald X pa_20 hb2 dX11_writesDown_92 ?_
  obtain ⟨hb3, hf⟩ := z_ite hf
  refine m_iast X pa_27 hb3 dX11_writesDown_93 ?_
  refine z_aload_n X dX11_writesDown_94 rfl (lv_at hl 1 rfl) ?_
  refine m_geta X ff_46 dX11_writesDown_95 ?_
  refine z_iload X dX11_writesDown_98 (lv_at hl 0 rfl) ?_
  refine z_iconst (v := 1) X dX11_writesDown_100 (by decide) ?_
  refine z_iadd X dX11_writesDown_101 ?_
  refine z_iload_n X dX11_writesDown_102 rfl (lv_at hl 3 rfl) ?_
  obtain ⟨hb4, hf⟩ := z_ite hf
  refine m_iast X pa_27 hb4 dX11_writesDown_103 ?_
  refine z_aload_n X dX11_writesDown_104 rfl (lv_at hl 1 rfl) ?_
  refine m_geta X ff_46 dX11_writesDown_105 ?_
  refine z_iload X dX11_writesDown_108 (lv_at hl 0 rfl) ?_
  refine z_iconst (v := 2) X dX11_writesDown_110 (by decide) ?_
  refine z_iadd X dX11_writesDown_111 ?_
  refine z_iload_n X dX11_writesDown_112 rfl (lv_at hl 4 rfl) ?_
  obtain ⟨hb5, hf⟩ := z_ite hf
  refine m_iast X pa_27 hb5 dX11_writesDown_113 ?_
  refine z_aload_n X dX11_writesDown_114 rfl (lv_at hl 1 rfl) ?_
  refine m_geta X ff_46 dX11_writesDown_115 ?_
  refine z_iload X dX11_writesDown_118 (lv_at hl 0 rfl) ?_
  refine z_iconst (v := 3) X dX11_writesDown_120 (by decide) ?_
  refine z_iadd X dX11_writesDown_121 ?_
  refine z_iload X dX11_writesDown_122 (lv_at hl 5 rfl) ?_
  obtain ⟨hb6, hf⟩ := z_ite hf
  refine m_iast X pa_27 hb6 dX11_writesDown_124 ?_
  refine z_aload_n X dX11_writesDown_125 rfl (lv_at hl 1 rfl) ?_
  refine m_geta X ff_45 dX11_writesDown_126 ?_
  refine z_iload_n X dX11_writesDown_129 rfl (lv_at hl 2 rfl) ?_
  refine z_dup2 X dX11_writesDown_130 rfl rfl ?_
  obtain ⟨hb7, hf⟩ := z_ite hf
  refine m_iald X pa_26 hb7 dX11_writesDown_131 ?_
  refine z_iconst (v := 1) X dX11_writesDown_132 (by decide) ?_
  refine z_iadd X dX11_writesDown_133 ?_
  obtain ⟨hb8, hf⟩ := z_ite hf
  refine m_iast X pa_26 hb8 dX11_writesDown_134 ?_
  exact m_vret X Z hf dX11_writesDown_135

set_option maxHeartbeats 4000000 in
set_option maxRecDepth 100000 in
theorem w_writesDown_18 {M : zM} {D : va_G} {cy : Nat → ClassId} {ad : Nat → Nat} {r' : zI × zL} (X : RX M (zR D cy ad) cX11_writesDown 6 RX11 0 0) (Z : RZv M (zR D cy ad) r'.1 r'.2) (n : Nat) : ∀ (x1 : Int32) (x2 : Int32) (x3 : Int32) (x4 : Int32) (x5 : Int32) (V : zI) (L : zL) (ls : Array Slot) (hl : lv_has ls 6 [(0, .ref (ad 0)), (1, .int x1), (2, .int x2), (3, .int x3), (4, .int x4), (5, .int x5)]) (hf : zfix (b_writesDown_18) n (x1, x2, x3, x4, x5, V, L) = some r'), RG M (zR D cy ad) V L 18 ls [] := by
  induction n with
  | zero => intro x1 x2 x3 x4 x5 V L ls hl hf; cases hf
  | succ n ih =>
  intro x1 x2 x3 x4 x5 V L ls hl hf
  have hk18 : ∀ (x1 : Int32) (x2 : Int32) (x3 : Int32) (x4 : Int32) (x5 : Int32) (V : zI) (L : zL) (ls : Array Slot), lv_has ls 6 [(0, .ref (ad 0)), (1, .int x1), (2, .int x2), (3, .int x3), (4, .int x4), (5, .int x5)] → zfix (b_writesDown_18) n (x1, x2, x3, x4, x5, V, L) = some r' → RG M (zR D cy ad) V L 18 ls [] := ih
  have hf : b_writesDown_18 (zfix (b_writesDown_18) n) (x1, x2, x3, x4, x5, V, L) = some r' := hf
  generalize zfix (b_writesDown_18) n = k18 at hk18 hf
  unfold b_writesDown_18 at hf
  clear ih
  refine z_iload X dX11_writesDown_18 (lv_at hl 5 rfl) ?_
  refine z_sipush (v := 200) X dX11_writesDown_20 (by decide) ?_
  refine z_iload_n X dX11_writesDown_23 rfl (lv_at hl 1 rfl) ?_
  refine z_imul X dX11_writesDown_24 ?_
  refine z_sipush (v := 200) X dX11_writesDown_25 (by decide) ?_
  refine z_iadd X dX11_writesDown_28 ?_
  refine z_iconst (v := 4) X dX11_writesDown_29 (by decide) ?_
  refine z_isub X dX11_writesDown_30 ?_
  refine z_icmp_ge (tgt := 56) X dX11_writesDown_31 (by decide) (fun c_ => ?_) (fun c_ => ?_)
  · have hf := (if_pos c_).symm.trans hf
    refine z_aload_n X dX11_writesDown_56 rfl (lv_at hl 0 rfl) ?_
    refine m_geta X ff_45 dX11_writesDown_57 ?_
    refine z_iload_n X dX11_writesDown_60 rfl (lv_at hl 1 rfl) ?_
    refine z_dup2 X dX11_writesDown_61 rfl rfl ?_
    obtain ⟨hb1, hf⟩ := z_ite hf
    refine m_iald X pa_26 hb1 dX11_writesDown_62 ?_
    refine z_iconst (v := 1) X dX11_writesDown_63 (by decide) ?_
    refine z_isub X dX11_writesDown_64 ?_
    obtain ⟨hb2, hf⟩ := z_ite hf
    refine m_iast X pa_26 hb2 dX11_writesDown_65 ?_
    exact w_writesDown_66 X Z x1 x2 x3 x4 (z_uI V 26 x1.toNatClampNeg ((V 26 x1.toNatClampNeg) - 1)) L ls (lv_sub hl [0, 1, 2, 3, 4] rfl) hf
  · have hf := (if_neg c_).symm.trans hf
    refine z_aload_n X dX11_writesDown_34 rfl (lv_at hl 0 rfl) ?_
    refine m_geta X ff_46 dX11_writesDown_35 ?_
    refine z_iload X dX11_writesDown_38 (lv_at hl 5 rfl) ?_
    refine z_aload_n X dX11_writesDown_40 rfl (lv_at hl 0 rfl) ?_
    refine m_geta X ff_46 dX11_writesDown_41 ?_
    refine z_iload X dX11_writesDown_44 (lv_at hl 5 rfl) ?_
    refine z_iconst (v := 4) X dX11_writesDown_46 (by decide) ?_
    refine z_iadd X dX11_writesDown_47 ?_
    obtain ⟨hb3, hf⟩ := z_ite hf
    refine m_iald X pa_27 hb3 dX11_writesDown_48 ?_
    obtain ⟨hb4, hf⟩ := z_ite hf
    refine m_iast X pa_27 hb4 dX11_writesDown_49 ?_
    refine z_iinc (v := x5 + 1) (k0 := 5) (lv' := [(5, .int (x5 + 1)), (0, .ref (ad 0)), (1, .int x1), (2, .int x2), (3, .int x3), (4, .int x4)]) X dX11_writesDown_50 hl rfl rfl (by decide) rfl (fun ls hl => ?_)
    refine z_goto (tgt := 18) X dX11_writesDown_53 (by decide) ?_
    exact hk18 x1 x2 x3 x4 (x5 + 1) (z_uI V 27 x5.toNatClampNeg (V 27 (x5 + 4).toNatClampNeg)) L ls (lv_sub hl [1, 2, 3, 4, 5, 0] rfl) hf

set_option maxHeartbeats 4000000 in
set_option maxRecDepth 100000 in
theorem w_writesDown {M : zM} {D : va_G} {cy : Nat → ClassId} {ad : Nat → Nat} {r' : zI × zL} (X : RX M (zR D cy ad) cX11_writesDown 6 RX11 0 0) (Z : RZv M (zR D cy ad) r'.1 r'.2) (x1 : Int32) (x2 : Int32) (x3 : Int32) (x4 : Int32) (V : zI) (L : zL) (ls : Array Slot) (hl : lv_has ls 6 [(0, .ref (ad 0)), (1, .int x1), (2, .int x2), (3, .int x3), (4, .int x4)]) (hf : f_writesDown x1 x2 x3 x4 V L = some r') : RG M (zR D cy ad) V L 0 ls [] := by
  unfold f_writesDown at hf
  refine z_aload_n X dX11_writesDown_0 rfl (lv_at hl 0 rfl) ?_
  refine m_geta X ff_45 dX11_writesDown_1 ?_
  refine z_iload_n X dX11_writesDown_4 rfl (lv_at hl 1 rfl) ?_
  obtain ⟨hb1, hf⟩ := z_ite hf
  refine m_iald X pa_26 hb1 dX11_writesDown_5 ?_
  refine z_bipush (v := 50) X dX11_writesDown_6 (by decide) ?_
  refine z_icmp_ne (tgt := 66) X dX11_writesDown_8 (by decide) (fun c_ => ?_) (fun c_ => ?_)
  · have hf := (if_neg c_).symm.trans hf
    exact w_writesDown_66 X Z x1 x2 x3 x4 V L ls (lv_sub hl [0, 1, 2, 3, 4] rfl) hf
  · have hf := (if_pos c_).symm.trans hf
    refine z_sipush (v := 200) X dX11_writesDown_11 (by decide) ?_
    refine z_iload_n X dX11_writesDown_14 rfl (lv_at hl 1 rfl) ?_
    refine z_imul X dX11_writesDown_15 ?_
    refine z_istore (lv' := [(5, .int ((200 : Int32) * x1)), (0, .ref (ad 0)), (1, .int x1), (2, .int x2), (3, .int x3), (4, .int x4)]) X dX11_writesDown_16 hl (by decide) rfl (fun ls hl => ?_)
    exact w_writesDown_18 X Z FU x1 x2 x3 x4 ((200 : Int32) * x1) V L ls (lv_sub hl [1, 2, 3, 4, 5, 0] rfl) hf

theorem c_writesDown (D : va_G) (cy : Nat → ClassId) (ad : Nat → Nat) {x1 : Int32} {x2 : Int32} {x3 : Int32} {x4 : Int32} {V : zI} {L : zL} {r' : zI × zL} (hf : f_writesDown x1 x2 x3 x4 V L = some r') : RMv (zR D cy ad) yX11_writesDown cX11_writesDown 6 0 0 [.ref (ad 0), .int x1, .int x2, .int x3, .int x4] V L r'.1 r'.2 :=
  RMv.of (by decide) zR_nd (Nat.le_of_ble_eq_true rfl) (fun M X Z ls hl => w_writesDown X Z x1 x2 x3 x4 V L ls hl hf)
