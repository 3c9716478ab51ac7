def f_X4_bring_s_108 (N : Nat → Nat) (G : zG) (p0 : Nat) (p1 : Nat) (p2 : Nat) (p3 : Nat) (p2_5 : Nat) (p2_6 : Nat) (k21 : Int32 × Int32 × zI × zL → Option (zI × zL)) (x4 : Int32) (x5 : Int32) (x6 : Int32) (s0 : Int32) (V : zI) (L : zL) : Option (zI × zL) :=
  (f_X7_deliver N G p2 x6 (V p1 3) s0 V L).bind fun r1 => k21 (x4, (x5 + 1), r1.1, r1.2)
def f_X4_bring_s_107 (N : Nat → Nat) (G : zG) (p0 : Nat) (p1 : Nat) (p2 : Nat) (p3 : Nat) (p2_5 : Nat) (p2_6 : Nat) (k21 : Int32 × Int32 × zI × zL → Option (zI × zL)) (x4 : Int32) (x5 : Int32) (x6 : Int32) (V : zI) (L : zL) : Option (zI × zL) :=
  f_X4_bring_s_108 N G p0 p1 p2 p3 p2_5 p2_6 k21 x4 x5 x6 0 V L
def b_X4_bring_s_21 (N : Nat → Nat) (G : zG) (p0 : Nat) (p1 : Nat) (p2 : Nat) (p3 : Nat) (p2_5 : Nat) (p2_6 : Nat) (k21 : Int32 × Int32 × zI × zL → Option (zI × zL)) : Int32 × Int32 × zI × zL → Option (zI × zL) := fun ⟨x4, x5, V, L⟩ =>
  (if (V p2 4) ≤ x5 then some (z_uI V p2 4 x4, L) else (if 60 ≤ x5 then some (z_uI V p2 4 x4, L) else if inB x5 (N p2_5) then if inB x5 (N p2_6) then (if ((V p2_6 x5.toNatClampNeg) - 1) ≤ 0 then (f_X1_drawOf N G p3 100 V L).bind fun r3 => (if (r3.2.1 p1 4) ≤ r3.1 then f_X4_bring_s_107 N G p0 p1 p2 p3 p2_5 p2_6 k21 x4 x5 (V p2_5 x5.toNatClampNeg) r3.2.1 r3.2.2 else f_X4_bring_s_108 N G p0 p1 p2 p3 p2_5 p2_6 k21 x4 x5 (V p2_5 x5.toNatClampNeg) 1 r3.2.1 r3.2.2) else if inB x4 (N p2_5) then if inB x4 (N p2_6) then k21 ((x4 + 1), (x5 + 1), z_uI (z_uI V p2_5 x4.toNatClampNeg (V p2_5 x5.toNatClampNeg)) p2_6 x4.toNatClampNeg ((V p2_6 x5.toNatClampNeg) - 1), L) else none else none) else none else none))
def g_X4_bring_s (N : Nat → Nat) (G : zG) (p0 : Nat) (p1 : Nat) (p2 : Nat) (p3 : Nat) (p2_5 : Nat) (p2_6 : Nat) (V : zI) (L : zL) : Option (zI × zL) :=
  zfix (b_X4_bring_s_21 N G p0 p1 p2 p3 p2_5 p2_6) FU (0, 0, z_uI (z_uI V p2 10 0) p2 11 0, z_uL L p2 9 0)
def f_X4_bring_s (N : Nat → Nat) (G : zG) (p0 : Nat) (p1 : Nat) (p2 : Nat) (p3 : Nat) (V : zI) (L : zL) : Option (zI × zL) :=
  (G p2 5).bind fun p2_5 => (G p2 6).bind fun p2_6 => g_X4_bring_s N G p0 p1 p2 p3 p2_5 p2_6 V L
set_option maxHeartbeats 4000000 in
set_option maxRecDepth 100000 in
theorem w_X4_bring_s_108 {M : zM} {D : va_G} {cy : Nat → ClassId} {ad : Nat → Nat} {n : Nat} {K N : Nat → Nat} {G : zG} {r' : zI × zL} (X : RXc M D cy ad n K N G cX4_bring 9 RX4 3 106) (Z : RZv M (zC D cy ad n K N G) r'.1 r'.2) {p0 : Nat} (hp0 : p0 < n ∧ K p0 = 3) {p1 : Nat} (hp1 : p1 < n ∧ K p1 = 7) {p2 : Nat} (hp2 : p2 < n ∧ K p2 = 5) {p3 : Nat} (hp3 : p3 < n ∧ K p3 = 1) {p2_5 : Nat} (hp2_5 : p2_5 < n ∧ K p2_5 = 100) (ep2_5 : G p2 5 = some p2_5) {p2_6 : Nat} (hp2_6 : p2_6 < n ∧ K p2_6 = 100) (ep2_6 : G p2 6 = some p2_6) {k21 : Int32 × Int32 × zI × zL → Option (zI × zL)} (hk21 : ∀ (x4 : Int32) (x5 : Int32) (V : zI) (L : zL) (ls : Array Slot), lv_has ls 9 [(1, .ref (ad p1)), (2, .ref (ad p2)), (3, .ref (ad p3)), (4, .int x4), (5, .int x5)] → k21 (x4, x5, V, L) = some r' → RG M (zC D cy ad n K N G) V L 21 ls []) (x4 : Int32) (x5 : Int32) (x6 : Int32) (s0 : Int32) (V : zI) (L : zL) (ls : Array Slot) (hl : lv_has ls 9 [(1, .ref (ad p1)), (2, .ref (ad p2)), (3, .ref (ad p3)), (4, .int x4), (5, .int x5), (6, .int x6)]) (hf : f_X4_bring_s_108 N G p0 p1 p2 p3 p2_5 p2_6 k21 x4 x5 x6 s0 V L = some r') : RG M (zC D cy ad n K N G) V L 108 ls [.int s0] := by
  unfold f_X4_bring_s_108 at hf
  refine z_istore (lv' := [(8, .int s0), (1, .ref (ad p1)), (2, .ref (ad p2)), (3, .ref (ad p3)), (4, .int x4), (5, .int x5), (6, .int x6)]) X.1 dX4_bring_108 hl (by decide) rfl (fun ls hl => ?_)
  refine z_aload_n X.1 dX4_bring_110 rfl (lv_at hl 2 rfl) ?_
  refine z_iload X.1 dX4_bring_111 (lv_at hl 6 rfl) ?_
  refine z_aload_n X.1 dX4_bring_113 rfl (lv_at hl 1 rfl) ?_
  refine c_geti X hp1 cf_X4_75 dX4_bring_114 ?_
  refine z_iload X.1 dX4_bring_117 (lv_at hl 0 rfl) ?_
  obtain ⟨r1, hc1, hf⟩ := z_bind hf
  refine c_callVv [.int x6, .int (V p1 3), .int s0] X hl.1 (c_X7_deliver D cy ad X.2.2 hp2 hc1) hp2 ⟨by decide, rfl⟩ cm_X4_78 cw_X7_deliver rfl cq_X7_deliver ⟨by decide, by decide⟩ (Nat.le_of_ble_eq_true rfl) rfl dX4_bring_119 ?_
  refine z_iinc (v := x5 + 1) (k0 := 5) (lv' := [(5, .int (x5 + 1)), (8, .int s0), (1, .ref (ad p1)), (2, .ref (ad p2)), (3, .ref (ad p3)), (4, .int x4), (6, .int x6)]) X.1 dX4_bring_122 hl rfl rfl (by decide) rfl (fun ls hl => ?_)
  refine z_goto (tgt := 21) X.1 dX4_bring_125 (by decide) ?_
  exact hk21 x4 (x5 + 1) r1.1 r1.2 ls (lv_sub hl [2, 3, 4, 5, 0] rfl) hf

set_option maxHeartbeats 4000000 in
set_option maxRecDepth 100000 in
theorem w_X4_bring_s_107 {M : zM} {D : va_G} {cy : Nat → ClassId} {ad : Nat → Nat} {n : Nat} {K N : Nat → Nat} {G : zG} {r' : zI × zL} (X : RXc M D cy ad n K N G cX4_bring 9 RX4 3 106) (Z : RZv M (zC D cy ad n K N G) r'.1 r'.2) {p0 : Nat} (hp0 : p0 < n ∧ K p0 = 3) {p1 : Nat} (hp1 : p1 < n ∧ K p1 = 7) {p2 : Nat} (hp2 : p2 < n ∧ K p2 = 5) {p3 : Nat} (hp3 : p3 < n ∧ K p3 = 1) {p2_5 : Nat} (hp2_5 : p2_5 < n ∧ K p2_5 = 100) (ep2_5 : G p2 5 = some p2_5) {p2_6 : Nat} (hp2_6 : p2_6 < n ∧ K p2_6 = 100) (ep2_6 : G p2 6 = some p2_6) {k21 : Int32 × Int32 × zI × zL → Option (zI × zL)} (hk21 : ∀ (x4 : Int32) (x5 : Int32) (V : zI) (L : zL) (ls : Array Slot), lv_has ls 9 [(1, .ref (ad p1)), (2, .ref (ad p2)), (3, .ref (ad p3)), (4, .int x4), (5, .int x5)] → k21 (x4, x5, V, L) = some r' → RG M (zC D cy ad n K N G) V L 21 ls []) (x4 : Int32) (x5 : Int32) (x6 : Int32) (V : zI) (L : zL) (ls : Array Slot) (hl : lv_has ls 9 [(1, .ref (ad p1)), (2, .ref (ad p2)), (3, .ref (ad p3)), (4, .int x4), (5, .int x5), (6, .int x6)]) (hf : f_X4_bring_s_107 N G p0 p1 p2 p3 p2_5 p2_6 k21 x4 x5 x6 V L = some r') : RG M (zC D cy ad n K N G) V L 107 ls [] := by
  unfold f_X4_bring_s_107 at hf
  refine z_iconst (v := 0) X.1 dX4_bring_107 (by decide) ?_
  exact w_X4_bring_s_108 X Z hp0 hp1 hp2 hp3 hp2_5 ep2_5 hp2_6 ep2_6 hk21 x4 x5 x6 0 V L ls (lv_sub hl [0, 1, 2, 3, 4, 5] rfl) hf

set_option maxHeartbeats 4000000 in
set_option maxRecDepth 100000 in
theorem w_X4_bring_s_21 {M : zM} {D : va_G} {cy : Nat → ClassId} {ad : Nat → Nat} {n : Nat} {K N : Nat → Nat} {G : zG} {r' : zI × zL} (X : RXc M D cy ad n K N G cX4_bring 9 RX4 3 106) (Z : RZv M (zC D cy ad n K N G) r'.1 r'.2) {p0 : Nat} (hp0 : p0 < n ∧ K p0 = 3) {p1 : Nat} (hp1 : p1 < n ∧ K p1 = 7) {p2 : Nat} (hp2 : p2 < n ∧ K p2 = 5) {p3 : Nat} (hp3 : p3 < n ∧ K p3 = 1) {p2_5 : Nat} (hp2_5 : p2_5 < n ∧ K p2_5 = 100) (ep2_5 : G p2 5 = some p2_5) {p2_6 : Nat} (hp2_6 : p2_6 < n ∧ K p2_6 = 100) (ep2_6 : G p2 6 = some p2_6) (nn : Nat) : ∀ (x4 : Int32) (x5 : Int32) (V : zI) (L : zL) (ls : Array Slot) (hl : lv_has ls 9 [(1, .ref (ad p1)), (2, .ref (ad p2)), (3, .ref (ad p3)), (4, .int x4), (5, .int x5)]) (hf : zfix (b_X4_bring_s_21 N G p0 p1 p2 p3 p2_5 p2_6) nn (x4, x5, V, L) = some r'), RG M (zC D cy ad n K N G) V L 21 ls [] := by
  induction nn with
  | zero => intro x4 x5 V L ls hl hf; cases hf
  | succ nn ih =>
  intro x4 x5 V L ls hl hf
  have hk21 : ∀ (x4 : Int32) (x5 : Int32) (V : zI) (L : zL) (ls : Array Slot), lv_has ls 9 [(1, .ref (ad p1)), (2, .ref (ad p2)), (3, .ref (ad p3)), (4, .int x4), (5, .int x5)] → zfix (b_X4_bring_s_21 N G p0 p1 p2 p3 p2_5 p2_6) nn (x4, x5, V, L) = some r' → RG M (zC D cy ad n K N G) V L 21 ls [] := ih
  have hf : b_X4_bring_s_21 N G p0 p1 p2 p3 p2_5 p2_6 (zfix (b_X4_bring_s_21 N G p0 p1 p2 p3 p2_5 p2_6) nn) (x4, x5, V, L) = some r' := hf
  generalize zfix (b_X4_bring_s_21 N G p0 p1 p2 p3 p2_5 p2_6) nn = k21 at hk21 hf
  clear ih
  unfold b_X4_bring_s_21 at hf
  refine z_iload X.1 dX4_bring_21 (lv_at hl 4 rfl) ?_
  refine z_aload_n X.1 dX4_bring_23 rfl (lv_at hl 1 rfl) ?_
  refine c_geti X hp2 cf_X4_57 dX4_bring_24 ?_
  refine z_icmp_ge (tgt := 128) X.1 dX4_bring_27 (by decide) (fun c_ => ?_) (fun c_ => ?_)
  · have hf := (if_pos c_).symm.trans hf
    refine z_aload_n X.1 dX4_bring_128 rfl (lv_at hl 1 rfl) ?_
    refine z_iload X.1 dX4_bring_129 (lv_at hl 3 rfl) ?_
    refine c_puti X hp2 cf_X4_57 cg_X7 cp_X7_4 rfl rfl dX4_bring_131 ?_
    exact c_vret X Z hf dX4_bring_134
  · have hf := (if_neg c_).symm.trans hf
    refine z_iload X.1 dX4_bring_30 (lv_at hl 4 rfl) ?_
    refine z_bipush (v := 60) X.1 dX4_bring_32 (by decide) ?_
    refine z_icmp_ge (tgt := 128) X.1 dX4_bring_34 (by decide) (fun c_ => ?_) (fun c_ => ?_)
    · have hf := (if_pos c_).symm.trans hf
      refine z_aload_n X.1 dX4_bring_128 rfl (lv_at hl 1 rfl) ?_
      refine z_iload X.1 dX4_bring_129 (lv_at hl 3 rfl) ?_
      refine c_puti X hp2 cf_X4_57 cg_X7 cp_X7_4 rfl rfl dX4_bring_131 ?_
      exact c_vret X Z hf dX4_bring_134
    · have hf := (if_neg c_).symm.trans hf
      refine z_aload_n X.1 dX4_bring_37 rfl (lv_at hl 1 rfl) ?_
      refine c_geta X hp2 cf_X4_60 ep2_5 dX4_bring_38 ?_
      refine z_iload X.1 dX4_bring_41 (lv_at hl 4 rfl) ?_
      obtain ⟨hb1, hf⟩ := z_ite hf
      refine c_iald X hp2_5 hb1 dX4_bring_43 ?_
      refine z_istore (lv' := [(6, .int (V p2_5 x5.toNatClampNeg)), (1, .ref (ad p1)), (2, .ref (ad p2)), (3, .ref (ad p3)), (4, .int x4), (5, .int x5)]) X.1 dX4_bring_44 hl (by decide) rfl (fun ls hl => ?_)
      refine z_aload_n X.1 dX4_bring_46 rfl (lv_at hl 2 rfl) ?_
      refine c_geta X hp2 cf_X4_63 ep2_6 dX4_bring_47 ?_
      refine z_iload X.1 dX4_bring_50 (lv_at hl 5 rfl) ?_
      obtain ⟨hb2, hf⟩ := z_ite hf
      refine c_iald X hp2_6 hb2 dX4_bring_52 ?_
      refine z_iconst (v := 1) X.1 dX4_bring_53 (by decide) ?_
      refine z_isub X.1 dX4_bring_54 ?_
      refine z_istore (lv' := [(7, .int ((V p2_6 x5.toNatClampNeg) - 1)), (6, .int (V p2_5 x5.toNatClampNeg)), (1, .ref (ad p1)), (2, .ref (ad p2)), (3, .ref (ad p3)), (4, .int x4), (5, .int x5)]) X.1 dX4_bring_55 hl (by decide) rfl (fun ls hl => ?_)
      refine z_iload X.1 dX4_bring_57 (lv_at hl 0 rfl) ?_
      refine z_if_le (tgt := 86) X.1 dX4_bring_59 (by decide) (fun c_ => ?_) (fun c_ => ?_)
      · have hf := (if_pos c_).symm.trans hf
        refine z_aload_n X.1 dX4_bring_86 rfl (lv_at hl 4 rfl) ?_
        refine c_ifnull X dX4_bring_87 ?_
        refine z_aload_n X.1 dX4_bring_90 rfl (lv_at hl 4 rfl) ?_
        refine z_bipush (v := 100) X.1 dX4_bring_91 (by decide) ?_
        obtain ⟨r3, hc3, hf⟩ := z_bind hf
        refine c_callVi [.int 100] X hl.1 (c_X1_drawOf D cy ad X.2.2 hp3 hc3) hp3 ⟨by decide, rfl⟩ cm_X4_66 cw_X1_drawOf rfl cq_X1_drawOf ⟨by decide, by decide⟩ (Nat.le_of_ble_eq_true rfl) rfl dX4_bring_93 ?_
        refine z_aload_n X.1 dX4_bring_96 rfl (lv_at hl 2 rfl) ?_
        refine c_geti X hp1 cf_X4_72 dX4_bring_97 ?_
        refine z_icmp_ge (tgt := 107) X.1 dX4_bring_100 (by decide) (fun c_ => ?_) (fun c_ => ?_)
        · have hf := (if_pos c_).symm.trans hf
          exact w_X4_bring_s_107 X Z hp0 hp1 hp2 hp3 hp2_5 ep2_5 hp2_6 ep2_6 hk21 x4 x5 (V p2_5 x5.toNatClampNeg) r3.2.1 r3.2.2 ls (lv_sub hl [2, 3, 4, 5, 6, 1] rfl) hf
        · have hf := (if_neg c_).symm.trans hf
          refine z_iconst (v := 1) X.1 dX4_bring_103 (by decide) ?_
          refine z_goto (tgt := 108) X.1 dX4_bring_104 (by decide) ?_
          exact w_X4_bring_s_108 X Z hp0 hp1 hp2 hp3 hp2_5 ep2_5 hp2_6 ep2_6 hk21 x4 x5 (V p2_5 x5.toNatClampNeg) 1 r3.2.1 r3.2.2 ls (lv_sub hl [2, 3, 4, 5, 6, 1] rfl) hf
      · have hf := (if_neg c_).symm.trans hf
        refine z_aload_n X.1 dX4_bring_62 rfl (lv_at hl 3 rfl) ?_
        refine c_geta X hp2 cf_X4_60 ep2_5 dX4_bring_63 ?_
        refine z_iload X.1 dX4_bring_66 (lv_at hl 5 rfl) ?_
        refine z_iload X.1 dX4_bring_68 (lv_at hl 1 rfl) ?_
        obtain ⟨hb4, hf⟩ := z_ite hf
        refine c_iast X hp2_5 hb4 dX4_bring_70 ?_
        refine z_aload_n X.1 dX4_bring_71 rfl (lv_at hl 3 rfl) ?_
        refine c_geta X hp2 cf_X4_63 ep2_6 dX4_bring_72 ?_
        refine z_iload X.1 dX4_bring_75 (lv_at hl 5 rfl) ?_
        refine z_iload X.1 dX4_bring_77 (lv_at hl 0 rfl) ?_
        obtain ⟨hb5, hf⟩ := z_ite hf
        refine c_iast X hp2_6 hb5 dX4_bring_79 ?_
        refine z_iinc (v := x4 + 1) (k0 := 5) (lv' := [(4, .int (x4 + 1)), (7, .int ((V p2_6 x5.toNatClampNeg) - 1)), (6, .int (V p2_5 x5.toNatClampNeg)), (1, .ref (ad p1)), (2, .ref (ad p2)), (3, .ref (ad p3)), (5, .int x5)]) X.1 dX4_bring_80 hl rfl rfl (by decide) rfl (fun ls hl => ?_)
        refine z_goto (tgt := 122) X.1 dX4_bring_83 (by decide) ?_
        refine z_iinc (v := x5 + 1) (k0 := 6) (lv' := [(5, .int (x5 + 1)), (4, .int (x4 + 1)), (7, .int ((V p2_6 x5.toNatClampNeg) - 1)), (6, .int (V p2_5 x5.toNatClampNeg)), (1, .ref (ad p1)), (2, .ref (ad p2)), (3, .ref (ad p3))]) X.1 dX4_bring_122 hl rfl rfl (by decide) rfl (fun ls hl => ?_)
        refine z_goto (tgt := 21) X.1 dX4_bring_125 (by decide) ?_
        exact hk21 (x4 + 1) (x5 + 1) (z_uI (z_uI V p2_5 x4.toNatClampNeg (V p2_5 x5.toNatClampNeg)) p2_6 x4.toNatClampNeg ((V p2_6 x5.toNatClampNeg) - 1)) L ls (lv_sub hl [4, 5, 6, 1, 0] rfl) hf

set_option maxHeartbeats 4000000 in
set_option maxRecDepth 100000 in
theorem w_X4_bring_s {M : zM} {D : va_G} {cy : Nat → ClassId} {ad : Nat → Nat} {n : Nat} {K N : Nat → Nat} {G : zG} {r' : zI × zL} (X : RXc M D cy ad n K N G cX4_bring 9 RX4 3 106) (Z : RZv M (zC D cy ad n K N G) r'.1 r'.2) {p0 : Nat} (hp0 : p0 < n ∧ K p0 = 3) {p1 : Nat} (hp1 : p1 < n ∧ K p1 = 7) {p2 : Nat} (hp2 : p2 < n ∧ K p2 = 5) {p3 : Nat} (hp3 : p3 < n ∧ K p3 = 1) {p2_5 : Nat} (hp2_5 : p2_5 < n ∧ K p2_5 = 100) (ep2_5 : G p2 5 = some p2_5) {p2_6 : Nat} (hp2_6 : p2_6 < n ∧ K p2_6 = 100) (ep2_6 : G p2 6 = some p2_6)  (V : zI) (L : zL) (ls : Array Slot) (hl : lv_has ls 9 [(0, .ref (ad p0)), (1, .ref (ad p1)), (2, .ref (ad p2)), (3, .ref (ad p3))]) (hf : g_X4_bring_s N G p0 p1 p2 p3 p2_5 p2_6 V L = some r') : RG M (zC D cy ad n K N G) V L 0 ls [] := by
  unfold g_X4_bring_s at hf
  refine z_aload_n X.1 dX4_bring_0 rfl (lv_at hl 2 rfl) ?_
  refine z_lconst (v := 0) X.1 dX4_bring_1 (by decide) ?_
  refine c_putl X hp2 cf_X4_47 cg_X7 cp_X7_9 rfl rfl dX4_bring_2 ?_
  refine z_aload_n X.1 dX4_bring_5 rfl (lv_at hl 2 rfl) ?_
  refine z_iconst (v := 0) X.1 dX4_bring_6 (by decide) ?_
  refine c_puti X hp2 cf_X4_51 cg_X7 cp_X7_10 rfl rfl dX4_bring_7 ?_
  refine z_aload_n X.1 dX4_bring_10 rfl (lv_at hl 2 rfl) ?_
  refine z_iconst (v := 0) X.1 dX4_bring_11 (by decide) ?_
  refine c_puti X hp2 cf_X4_54 cg_X7 cp_X7_11 rfl rfl dX4_bring_12 ?_
  refine z_iconst (v := 0) X.1 dX4_bring_15 (by decide) ?_
  refine z_istore (lv' := [(4, .int 0), (0, .ref (ad p0)), (1, .ref (ad p1)), (2, .ref (ad p2)), (3, .ref (ad p3))]) X.1 dX4_bring_16 hl (by decide) rfl (fun ls hl => ?_)
  refine z_iconst (v := 0) X.1 dX4_bring_18 (by decide) ?_
  refine z_istore (lv' := [(5, .int 0), (4, .int 0), (0, .ref (ad p0)), (1, .ref (ad p1)), (2, .ref (ad p2)), (3, .ref (ad p3))]) X.1 dX4_bring_19 hl (by decide) rfl (fun ls hl => ?_)
  exact w_X4_bring_s_21 X Z hp0 hp1 hp2 hp3 hp2_5 ep2_5 hp2_6 ep2_6 FU 0 0 (z_uI (z_uI V p2 10 0) p2 11 0) (z_uL L p2 9 0) ls (lv_sub hl [3, 4, 5, 1, 0] rfl) hf

theorem c_X4_bring_s (D : va_G) (cy : Nat → ClassId) (ad : Nat → Nat) {n : Nat} {K N : Nat → Nat} {G : zG} (hWF : zWF n K G) {p0 : Nat} {p1 : Nat} {p2 : Nat} {p3 : Nat} {V : zI} {L : zL} (hp0 : p0 < n ∧ K p0 = 3) (hp1 : p1 < n ∧ K p1 = 7) (hp2 : p2 < n ∧ K p2 = 5) (hp3 : p3 < n ∧ K p3 = 1) {r' : zI × zL} (hf : f_X4_bring_s N G p0 p1 p2 p3 V L = some r') : RCv (zC D cy ad n K N G) yX4_bring cX4_bring 9 3 106 [.ref (ad p0), .ref (ad p1), .ref (ad p2), .ref (ad p3)] V L r'.1 r'.2 := by
  unfold f_X4_bring_s at hf
  obtain ⟨p2_5, ep2_5, hf⟩ := z_bind hf
  have hp2_5 := hWF.get hp2 (k := 5) (c := 100) rfl ep2_5
  obtain ⟨p2_6, ep2_6, hf⟩ := z_bind hf
  have hp2_6 := hWF.get hp2 (k := 6) (c := 100) rfl ep2_6
  exact RCv.of (by decide) hWF (Nat.le_of_ble_eq_true rfl) (fun M X Z ls hl => w_X4_bring_s X Z hp0 hp1 hp2 hp3 hp2_5 ep2_5 hp2_6 ep2_6 V L ls hl hf)
def g_X7_post (N : Nat → Nat) (G : zG) (p0 : Nat) (p0_1 : Nat) (p0_2 : Nat) (p0_5 : Nat) (p0_6 : Nat) (x1 : Int32) (x2 : Int32) (V : zI) (L : zL) : Option (zI × zL) :=
  (if 60 ≤ (V p0 4) then some (V, L) else (if x1 < 0 then some (V, L) else (if 36 ≤ x1 then some (V, L) else if inB x1 (N p0_1) then if inB x1 (N p0_1) then if inB x1 (N p0_2) then if inB x1 (N p0_2) then if inB ((z_uI (z_uI V p0_1 x1.toNatClampNeg ((V p0_1 x1.toNatClampNeg) - 1)) p0_2 x1.toNatClampNeg (if (((z_uI V p0_1 x1.toNatClampNeg ((V p0_1 x1.toNatClampNeg) - 1)) p0_2 x1.toNatClampNeg) + 1) < (99 : Int32) then (((z_uI V p0_1 x1.toNatClampNeg ((V p0_1 x1.toNatClampNeg) - 1)) p0_2 x1.toNatClampNeg) + 1) else (99 : Int32))) p0 4) (N p0_5) then if inB ((z_uI (z_uI (z_uI V p0_1 x1.toNatClampNeg ((V p0_1 x1.toNatClampNeg) - 1)) p0_2 x1.toNatClampNeg (if (((z_uI V p0_1 x1.toNatClampNeg ((V p0_1 x1.toNatClampNeg) - 1)) p0_2 x1.toNatClampNeg) + 1) < (99 : Int32) then (((z_uI V p0_1 x1.toNatClampNeg ((V p0_1 x1.toNatClampNeg) - 1)) p0_2 x1.toNatClampNeg) + 1) else (99 : Int32))) p0_5 ((z_uI (z_uI V p0_1 x1.toNatClampNeg ((V p0_1 x1.toNatClampNeg) - 1)) p0_2 x1.toNatClampNeg (if (((z_uI V p0_1 x1.toNatClampNeg ((V p0_1 x1.toNatClampNeg) - 1)) p0_2 x1.toNatClampNeg) + 1) < (99 : Int32) then (((z_uI V p0_1 x1.toNatClampNeg ((V p0_1 x1.toNatClampNeg) - 1)) p0_2 x1.toNatClampNeg) + 1) else (99 : Int32))) p0 4).toNatClampNeg x1) p0 4) (N p0_6) then some (z_uI (z_uI (z_uI (z_uI (z_uI V p0_1 x1.toNatClampNeg ((V p0_1 x1.toNatClampNeg) - 1)) p0_2 x1.toNatClampNeg (if (((z_uI V p0_1 x1.toNatClampNeg ((V p0_1 x1.toNatClampNeg) - 1)) p0_2 x1.toNatClampNeg) + 1) < (99 : Int32) then (((z_uI V p0_1 x1.toNatClampNeg ((V p0_1 x1.toNatClampNeg) - 1)) p0_2 x1.toNatClampNeg) + 1) else (99 : Int32))) p0_5 ((z_uI (z_uI V p0_1 x1.toNatClampNeg ((V p0_1 x1.toNatClampNeg) - 1)) p0_2 x1.toNatClampNeg (if (((z_uI V p0_1 x1.toNatClampNeg ((V p0_1 x1.toNatClampNeg) - 1)) p0_2 x1.toNatClampNeg) + 1) < (99 : Int32) then (((z_uI V p0_1 x1.toNatClampNeg ((V p0_1 x1.toNatClampNeg) - 1)) p0_2 x1.toNatClampNeg) + 1) else (99 : Int32))) p0 4).toNatClampNeg x1) p0_6 ((z_uI (z_uI (z_uI V p0_1 x1.toNatClampNeg ((V p0_1 x1.toNatClampNeg) - 1)) p0_2 x1.toNatClampNeg (if (((z_uI V p0_1 x1.toNatClampNeg ((V p0_1 x1.toNatClampNeg) - 1)) p0_2 x1.toNatClampNeg) + 1) < (99 : Int32) then (((z_uI V p0_1 x1.toNatClampNeg ((V p0_1 x1.toNatClampNeg) - 1)) p0_2 x1.toNatClampNeg) + 1) else (99 : Int32))) p0_5 ((z_uI (z_uI V p0_1 x1.toNatClampNeg ((V p0_1 x1.toNatClampNeg) - 1)) p0_2 x1.toNatClampNeg (if (((z_uI V p0_1 x1.toNatClampNeg ((V p0_1 x1.toNatClampNeg) - 1)) p0_2 x1.toNatClampNeg) + 1) < (99 : Int32) then (((z_uI V p0_1 x1.toNatClampNeg ((V p0_1 x1.toNatClampNeg) - 1)) p0_2 x1.toNatClampNeg) + 1) else (99 : Int32))) p0 4).toNatClampNeg x1) p0 4).toNatClampNeg x2) p0 4 (((z_uI (z_uI (z_uI (z_uI V p0_1 x1.toNatClampNeg ((V p0_1 x1.toNatClampNeg) - 1)) p0_2 x1.toNatClampNeg (if (((z_uI V p0_1 x1.toNatClampNeg ((V p0_1 x1.toNatClampNeg) - 1)) p0_2 x1.toNatClampNeg) + 1) < (99 : Int32) then (((z_uI V p0_1 x1.toNatClampNeg ((V p0_1 x1.toNatClampNeg) - 1)) p0_2 x1.toNatClampNeg) + 1) else (99 : Int32))) p0_5 ((z_uI (z_uI V p0_1 x1.toNatClampNeg ((V p0_1 x1.toNatClampNeg) - 1)) p0_2 x1.toNatClampNeg (if (((z_uI V p0_1 x1.toNatClampNeg ((V p0_1 x1.toNatClampNeg) - 1)) p0_2 x1.toNatClampNeg) + 1) < (99 : Int32) then (((z_uI V p0_1 x1.toNatClampNeg ((V p0_1 x1.toNatClampNeg) - 1)) p0_2 x1.toNatClampNeg) + 1) else (99 : Int32))) p0 4).toNatClampNeg x1) p0_6 ((z_uI (z_uI (z_uI V p0_1 x1.toNatClampNeg ((V p0_1 x1.toNatClampNeg) - 1)) p0_2 x1.toNatClampNeg (if (((z_uI V p0_1 x1.toNatClampNeg ((V p0_1 x1.toNatClampNeg) - 1)) p0_2 x1.toNatClampNeg) + 1) < (99 : Int32) then (((z_uI V p0_1 x1.toNatClampNeg ((V p0_1 x1.toNatClampNeg) - 1)) p0_2 x1.toNatClampNeg) + 1) else (99 : Int32))) p0_5 ((z_uI (z_uI V p0_1 x1.toNatClampNeg ((V p0_1 x1.toNatClampNeg) - 1)) p0_2 x1.toNatClampNeg (if (((z_uI V p0_1 x1.toNatClampNeg ((V p0_1 x1.toNatClampNeg) - 1)) p0_2 x1.toNatClampNeg) + 1) < (99 : Int32) then (((z_uI V p0_1 x1.toNatClampNeg ((V p0_1 x1.toNatClampNeg) - 1)) p0_2 x1.toNatClampNeg) + 1) else (99 : Int32))) p0 4).toNatClampNeg x1) p0 4).toNatClampNeg x2) p0 4) + 1), L) else none else none else none else none else none else none)))
def f_X7_post (N : Nat → Nat) (G : zG) (p0 : Nat) (x1 : Int32) (x2 : Int32) (V : zI) (L : zL) : Option (zI × zL) :=
  (G p0 1).bind fun p0_1 => (G p0 2).bind fun p0_2 => (G p0 5).bind fun p0_5 => (G p0 6).bind fun p0_6 => g_X7_post N G p0 p0_1 p0_2 p0_5 p0_6 x1 x2 V L
set_option maxHeartbeats 4000000 in
set_option maxRecDepth 100000 in
theorem w_X7_post {M : zM} {D : va_G} {cy : Nat → ClassId} {ad : Nat → Nat} {n : Nat} {K N : Nat → Nat} {G : zG} {r' : zI × zL} (X : RXc M D cy ad n K N G cX7_post 3 RX7 1 25) (Z : RZv M (zC D cy ad n K N G) r'.1 r'.2) {p0 : Nat} (hp0 : p0 < n ∧ K p0 = 5) {p0_1 : Nat} (hp0_1 : p0_1 < n ∧ K p0_1 = 100) (ep0_1 : G p0 1 = some p0_1) {p0_2 : Nat} (hp0_2 : p0_2 < n ∧ K p0_2 = 100) (ep0_2 : G p0 2 = some p0_2) {p0_5 : Nat} (hp0_5 : p0_5 < n ∧ K p0_5 = 100) (ep0_5 : G p0 5 = some p0_5) {p0_6 : Nat} (hp0_6 : p0_6 < n ∧ K p0_6 = 100) (ep0_6 : G p0 6 = some p0_6) (x1 : Int32) (x2 : Int32) (V : zI) (L : zL) (ls : Array Slot) (hl : lv_has ls 3 [(0, .ref (ad p0)), (1, .int x1), (2, .int x2)]) (hf : g_X7_post N G p0 p0_1 p0_2 p0_5 p0_6 x1 x2 V L = some r') : RG M (zC D cy ad n K N G) V L 0 ls [] := by
  unfold g_X7_post at hf
  refine z_aload_n X.1 dX7_post_0 rfl (lv_at hl 0 rfl) ?_
  refine c_geti X hp0 cf_X7_25 dX7_post_1 ?_
  refine z_bipush (v := 60) X.1 dX7_post_4 (by decide) ?_
  refine z_icmp_ge (tgt := 78) X.1 dX7_post_6 (by decide) (fun c_ => ?_) (fun c_ => ?_)
  · have hf := (if_pos c_).symm.trans hf
    exact c_vret X Z hf dX7_post_78
  · have hf := (if_neg c_).symm.trans hf
    refine z_iload_n X.1 dX7_post_9 rfl (lv_at hl 1 rfl) ?_
    refine z_if_lt (tgt := 78) X.1 dX7_post_10 (by decide) (fun c_ => ?_) (fun c_ => ?_)
    · have hf := (if_pos c_).symm.trans hf
      exact c_vret X Z hf dX7_post_78
    · have hf := (if_neg c_).symm.trans hf
      refine z_iload_n X.1 dX7_post_13 rfl (lv_at hl 1 rfl) ?_
      refine z_bipush (v := 36) X.1 dX7_post_14 (by decide) ?_
      refine z_icmp_ge (tgt := 78) X.1 dX7_post_16 (by decide) (fun c_ => ?_) (fun c_ => ?_)
      · have hf := (if_pos c_).symm.trans hf
        exact c_vret X Z hf dX7_post_78
      · have hf := (if_neg c_).symm.trans hf
        refine z_aload_n X.1 dX7_post_19 rfl (lv_at hl 0 rfl) ?_
        refine c_geta X hp0 cf_X7_15 ep0_1 dX7_post_20 ?_
        refine z_iload_n X.1 dX7_post_23 rfl (lv_at hl 1 rfl) ?_
        refine z_dup2 X.1 dX7_post_24 rfl rfl ?_
        obtain ⟨hb1, hf⟩ := z_ite hf
        refine c_iald X hp0_1 hb1 dX7_post_25 ?_
        refine z_iconst (v := 1) X.1 dX7_post_26 (by decide) ?_
        refine z_isub X.1 dX7_post_27 ?_
        obtain ⟨hb2, hf⟩ := z_ite hf
        refine c_iast X hp0_1 hb2 dX7_post_28 ?_
        refine z_aload_n X.1 dX7_post_29 rfl (lv_at hl 0 rfl) ?_
        refine c_geta X hp0 cf_X7_19 ep0_2 dX7_post_30 ?_
        refine z_iload_n X.1 dX7_post_33 rfl (lv_at hl 1 rfl) ?_
        refine z_bipush (v := 99) X.1 dX7_post_34 (by decide) ?_
        refine z_aload_n X.1 dX7_post_36 rfl (lv_at hl 0 rfl) ?_
        refine c_geta X hp0 cf_X7_19 ep0_2 dX7_post_37 ?_
        refine z_iload_n X.1 dX7_post_40 rfl (lv_at hl 1 rfl) ?_
        obtain ⟨hb3, hf⟩ := z_ite hf
        refine c_iald X hp0_2 hb3 dX7_post_41 ?_
        refine z_iconst (v := 1) X.1 dX7_post_42 (by decide) ?_
        refine z_iadd X.1 dX7_post_43 ?_
        refine c_min X hl.1 cj_X7_56 ⟨by decide, Nat.le_of_ble_eq_true rfl⟩ dX7_post_44 ?_
        obtain ⟨hb4, hf⟩ := z_ite hf
        refine c_iast X hp0_2 hb4 dX7_post_47 ?_
        refine z_aload_n X.1 dX7_post_48 rfl (lv_at hl 0 rfl) ?_
        refine c_geta X hp0 cf_X7_28 ep0_5 dX7_post_49 ?_
        refine z_aload_n X.1 dX7_post_52 rfl (lv_at hl 0 rfl) ?_
        refine c_geti X hp0 cf_X7_25 dX7_post_53 ?_
        refine z_iload_n X.1 dX7_post_56 rfl (lv_at hl 1 rfl) ?_
        obtain ⟨hb5, hf⟩ := z_ite hf
        refine c_iast X hp0_5 hb5 dX7_post_57 ?_
        refine z_aload_n X.1 dX7_post_58 rfl (lv_at hl 0 rfl) ?_
        refine c_geta X hp0 cf_X7_31 ep0_6 dX7_post_59 ?_
        refine z_aload_n X.1 dX7_post_62 rfl (lv_at hl 0 rfl) ?_
        refine c_geti X hp0 cf_X7_25 dX7_post_63 ?_
        refine z_iload_n X.1 dX7_post_66 rfl (lv_at hl 2 rfl) ?_
        obtain ⟨hb6, hf⟩ := z_ite hf
        refine c_iast X hp0_6 hb6 dX7_post_67 ?_
        refine z_aload_n X.1 dX7_post_68 rfl (lv_at hl 0 rfl) ?_
        refine z_dup X.1 dX7_post_69 rfl ?_
        refine c_geti X hp0 cf_X7_25 dX7_post_70 ?_
        refine z_iconst (v := 1) X.1 dX7_post_73 (by decide) ?_
        refine z_iadd X.1 dX7_post_74 ?_
        refine c_puti X hp0 cf_X7_25 cg_X7 cp_X7_4 rfl rfl dX7_post_75 ?_
        exact c_vret X Z hf dX7_post_78

theorem c_X7_post (D : va_G) (cy : Nat → ClassId) (ad : Nat → Nat) {n : Nat} {K N : Nat → Nat} {G : zG} (hWF : zWF n K G) {p0 : Nat} {x1 : Int32} {x2 : Int32} {V : zI} {L : zL} (hp0 : p0 < n ∧ K p0 = 5) {r' : zI × zL} (hf : f_X7_post N G p0 x1 x2 V L = some r') : RCv (zC D cy ad n K N G) yX7_post cX7_post 3 1 25 [.ref (ad p0), .int x1, .int x2] V L r'.1 r'.2 := by
  unfold f_X7_post at hf
  obtain ⟨p0_1, ep0_1, hf⟩ := z_bind hf
  have hp0_1 := hWF.get hp0 (k := 1) (c := 100) rfl ep0_1
  obtain ⟨p0_2, ep0_2, hf⟩ := z_bind hf
  have hp0_2 := hWF.get hp0 (k := 2) (c := 100) rfl ep0_2
  obtain ⟨p0_5, ep0_5, hf⟩ := z_bind hf
  have hp0_5 := hWF.get hp0 (k := 5) (c := 100) rfl ep0_5
  obtain ⟨p0_6, ep0_6, hf⟩ := z_bind hf
  have hp0_6 := hWF.get hp0 (k := 6) (c := 100) rfl ep0_6
  exact RCv.of (by decide) hWF (Nat.le_of_ble_eq_true rfl) (fun M X Z ls hl => w_X7_post X Z hp0 hp0_1 ep0_1 hp0_2 ep0_2 hp0_5 ep0_5 hp0_6 ep0_6 x1 x2 V L ls hl hf)
def b_X4_passDay_n_10 (N : Nat → Nat) (G : zG) (p0 : Nat) (p1 : Nat) (p2 : Nat) (p1_7 : Nat) (k10 : Int32 × zI × zL → Option (zI × zL)) : Int32 × zI × zL → Option (zI × zL) := fun ⟨x4, V, L⟩ =>
  (if (V p1 0) ≤ x4 then some (z_uI V p2 0 (if ((V p2 0) + 1) < (999 : Int32) then ((V p2 0) + 1) else (999 : Int32)), L) else (f_X4_targetOf N G p0 p1 p2 x4 V L).bind fun r1 => (if r1.1 = (-1) then k10 ((x4 + 1), r1.2.1, r1.2.2) else if inB ((x4 * 6) + r1.1) (N p1_7) then (f_X7_post N G p2 ((x4 * 6) + r1.1) (r1.2.1 p1_7 ((x4 * 6) + r1.1).toNatClampNeg) r1.2.1 r1.2.2).bind fun r3 => k10 ((x4 + 1), r3.1, r3.2) else none))
def g_X4_passDay_n (N : Nat → Nat) (G : zG) (p0 : Nat) (p1 : Nat) (p2 : Nat) (p1_7 : Nat) (V : zI) (L : zL) : Option (zI × zL) :=
  (f_X4_bring_n N G p0 p1 p2 V L).bind fun r1 => zfix (b_X4_passDay_n_10 N G p0 p1 p2 p1_7) FU (0, r1.1, r1.2)
def f_X4_passDay_n (N : Nat → Nat) (G : zG) (p0 : Nat) (p1 : Nat) (p2 : Nat) (V : zI) (L : zL) : Option (zI × zL) :=
  (G p1 7).bind fun p1_7 => g_X4_passDay_n N G p0 p1 p2 p1_7 V L
set_option maxHeartbeats 4000000 in
set_option maxRecDepth 100000 in
theorem w_X4_passDay_n_10 {M : zM} {D : va_G} {cy : Nat → ClassId} {ad : Nat → Nat} {n : Nat} {K N : Nat → Nat} {G : zG} {r' : zI × zL} (X : RXc M D cy ad n K N G cX4_passDay 7 RX4 6 148) (Z : RZv M (zC D cy ad n K N G) r'.1 r'.2) {p0 : Nat} (hp0 : p0 < n ∧ K p0 = 3) {p1 : Nat} (hp1 : p1 < n ∧ K p1 = 7) {p2 : Nat} (hp2 : p2 < n ∧ K p2 = 5) {p1_7 : Nat} (hp1_7 : p1_7 < n ∧ K p1_7 = 100) (ep1_7 : G p1 7 = some p1_7) (nn : Nat) : ∀ (x4 : Int32) (V : zI) (L : zL) (ls : Array Slot) (hl : lv_has ls 7 [(0, .ref (ad p0)), (1, .ref (ad p1)), (2, .ref (ad p2)), (4, .int x4)]) (hf : zfix (b_X4_passDay_n_10 N G p0 p1 p2 p1_7) nn (x4, V, L) = some r'), RG M (zC D cy ad n K N G) V L 10 ls [] := by
  induction nn with
  | zero => intro x4 V L ls hl hf; cases hf
  | succ nn ih =>
  intro x4 V L ls hl hf
  have hk10 : ∀ (x4 : Int32) (V : zI) (L : zL) (ls : Array Slot), lv_has ls 7 [(0, .ref (ad p0)), (1, .ref (ad p1)), (2, .ref (ad p2)), (4, .int x4)] → zfix (b_X4_passDay_n_10 N G p0 p1 p2 p1_7) nn (x4, V, L) = some r' → RG M (zC D cy ad n K N G) V L 10 ls [] := ih
  have hf : b_X4_passDay_n_10 N G p0 p1 p2 p1_7 (zfix (b_X4_passDay_n_10 N G p0 p1 p2 p1_7) nn) (x4, V, L) = some r' := hf
  generalize zfix (b_X4_passDay_n_10 N G p0 p1 p2 p1_7) nn = k10 at hk10 hf
  clear ih
  unfold b_X4_passDay_n_10 at hf
  refine z_iload X.1 dX4_passDay_10 (lv_at hl 3 rfl) ?_
  refine z_aload_n X.1 dX4_passDay_12 rfl (lv_at hl 1 rfl) ?_
  refine c_geti X hp1 cf_X4_19 dX4_passDay_13 ?_
  refine z_icmp_ge (tgt := 64) X.1 dX4_passDay_16 (by decide) (fun c_ => ?_) (fun c_ => ?_)
  · have hf := (if_pos c_).symm.trans hf
    refine z_aload_n X.1 dX4_passDay_64 rfl (lv_at hl 2 rfl) ?_
    refine z_sipush (v := 999) X.1 dX4_passDay_65 (by decide) ?_
    refine z_aload_n X.1 dX4_passDay_68 rfl (lv_at hl 2 rfl) ?_
    refine c_geti X hp2 cf_X4_38 dX4_passDay_69 ?_
    refine z_iconst (v := 1) X.1 dX4_passDay_72 (by decide) ?_
    refine z_iadd X.1 dX4_passDay_73 ?_
    refine c_min X hl.1 cj_X4_41 ⟨by decide, Nat.le_of_ble_eq_true rfl⟩ dX4_passDay_74 ?_
    refine c_puti X hp2 cf_X4_38 cg_X7 cp_X7_0 rfl rfl dX4_passDay_77 ?_
    exact c_vret X Z hf dX4_passDay_80
  · have hf := (if_neg c_).symm.trans hf
    refine z_aload_n X.1 dX4_passDay_19 rfl (lv_at hl 0 rfl) ?_
    refine z_aload_n X.1 dX4_passDay_20 rfl (lv_at hl 1 rfl) ?_
    refine z_aload_n X.1 dX4_passDay_21 rfl (lv_at hl 2 rfl) ?_
    refine z_iload X.1 dX4_passDay_22 (lv_at hl 3 rfl) ?_
    obtain ⟨r1, hc1, hf⟩ := z_bind hf
    refine c_callVi [.ref (ad p1), .ref (ad p2), .int x4] X hl.1 (c_X4_targetOf D cy ad X.2.2 hp0 hp1 hp2 hc1) hp0 ⟨by decide, rfl⟩ cm_X4_25 cw_X4_targetOf rfl cq_X4_targetOf ⟨by decide, by decide⟩ (Nat.le_of_ble_eq_true rfl) rfl dX4_passDay_24 ?_
    refine z_istore (lv' := [(5, .int r1.1), (0, .ref (ad p0)), (1, .ref (ad p1)), (2, .ref (ad p2)), (4, .int x4)]) X.1 dX4_passDay_27 hl (by decide) rfl (fun ls hl => ?_)
    refine z_iload X.1 dX4_passDay_29 (lv_at hl 0 rfl) ?_
    refine z_iconst (v := -1) X.1 dX4_passDay_31 (by decide) ?_
    refine z_icmp_eq (tgt := 58) X.1 dX4_passDay_32 (by decide) (fun c_ => ?_) (fun c_ => ?_)
    · have hf := (if_pos c_).symm.trans hf
      refine z_iinc (v := x4 + 1) (k0 := 4) (lv' := [(4, .int (x4 + 1)), (5, .int r1.1), (0, .ref (ad p0)), (1, .ref (ad p1)), (2, .ref (ad p2))]) X.1 dX4_passDay_58 hl rfl rfl (by decide) rfl (fun ls hl => ?_)
      refine z_goto (tgt := 10) X.1 dX4_passDay_61 (by decide) ?_
      exact hk10 (x4 + 1) r1.2.1 r1.2.2 ls (lv_sub hl [2, 3, 4, 0] rfl) hf
    · have hf := (if_neg c_).symm.trans hf
      refine z_iload X.1 dX4_passDay_35 (lv_at hl 4 rfl) ?_
      refine z_bipush (v := 6) X.1 dX4_passDay_37 (by decide) ?_
      refine z_imul X.1 dX4_passDay_39 ?_
      refine z_iload X.1 dX4_passDay_40 (lv_at hl 0 rfl) ?_
      refine z_iadd X.1 dX4_passDay_42 ?_
      refine z_istore (lv' := [(6, .int ((x4 * 6) + r1.1)), (5, .int r1.1), (0, .ref (ad p0)), (1, .ref (ad p1)), (2, .ref (ad p2)), (4, .int x4)]) X.1 dX4_passDay_43 hl (by decide) rfl (fun ls hl => ?_)
      refine z_aload_n X.1 dX4_passDay_45 rfl (lv_at hl 4 rfl) ?_
      refine z_iload X.1 dX4_passDay_46 (lv_at hl 0 rfl) ?_
      refine z_aload_n X.1 dX4_passDay_48 rfl (lv_at hl 3 rfl) ?_
      refine c_geta X hp1 cf_X4_29 ep1_7 dX4_passDay_49 ?_
      refine z_iload X.1 dX4_passDay_52 (lv_at hl 0 rfl) ?_
      obtain ⟨hb2, hf⟩ := z_ite hf
      refine c_iald X hp1_7 hb2 dX4_passDay_54 ?_
      obtain ⟨r3, hc3, hf⟩ := z_bind hf
      refine c_callVv [.int ((x4 * 6) + r1.1), .int (r1.2.1 p1_7 ((x4 * 6) + r1.1).toNatClampNeg)] X hl.1 (c_X7_post D cy ad X.2.2 hp2 hc3) hp2 ⟨by decide, rfl⟩ cm_X4_32 cw_X7_post rfl cq_X7_post ⟨by decide, by decide⟩ (Nat.le_of_ble_eq_true rfl) rfl dX4_passDay_55 ?_
      refine z_iinc (v := x4 + 1) (k0 := 5) (lv' := [(4, .int (x4 + 1)), (6, .int ((x4 * 6) + r1.1)), (5, .int r1.1), (0, .ref (ad p0)), (1, .ref (ad p1)), (2, .ref (ad p2))]) X.1 dX4_passDay_58 hl rfl rfl (by decide) rfl (fun ls hl => ?_)
      refine z_goto (tgt := 10) X.1 dX4_passDay_61 (by decide) ?_
      exact hk10 (x4 + 1) r3.1 r3.2 ls (lv_sub hl [3, 4, 5, 0] rfl) hf

set_option maxHeartbeats 4000000 in
set_option maxRecDepth 100000 in
theorem w_X4_passDay_n {M : zM} {D : va_G} {cy : Nat → ClassId} {ad : Nat → Nat} {n : Nat} {K N : Nat → Nat} {G : zG} {r' : zI × zL} (X : RXc M D cy ad n K N G cX4_passDay 7 RX4 6 148) (Z : RZv M (zC D cy ad n K N G) r'.1 r'.2) {p0 : Nat} (hp0 : p0 < n ∧ K p0 = 3) {p1 : Nat} (hp1 : p1 < n ∧ K p1 = 7) {p2 : Nat} (hp2 : p2 < n ∧ K p2 = 5) {p1_7 : Nat} (hp1_7 : p1_7 < n ∧ K p1_7 = 100) (ep1_7 : G p1 7 = some p1_7)  (V : zI) (L : zL) (ls : Array Slot) (hl : lv_has ls 7 [(0, .ref (ad p0)), (1, .ref (ad p1)), (2, .ref (ad p2)), (3, .null)]) (hf : g_X4_passDay_n N G p0 p1 p2 p1_7 V L = some r') : RG M (zC D cy ad n K N G) V L 0 ls [] := by
  unfold g_X4_passDay_n at hf
  refine z_aload_n X.1 dX4_passDay_0 rfl (lv_at hl 0 rfl) ?_
  refine z_aload_n X.1 dX4_passDay_1 rfl (lv_at hl 1 rfl) ?_
  refine z_aload_n X.1 dX4_passDay_2 rfl (lv_at hl 2 rfl) ?_
  refine c_aload_nN X dX4_passDay_3 rfl (lv_at hl 3 rfl) ?_
  obtain ⟨r1, hc1, hf⟩ := z_bind hf
  refine c_callVv [.ref (ad p1), .ref (ad p2), .null] X hl.1 (c_X4_bring_n D cy ad X.2.2 hp0 hp1 hp2 hc1) hp0 ⟨by decide, rfl⟩ cm_X4_15 cw_X4_bring rfl cq_X4_bring ⟨by decide, by decide⟩ (Nat.le_of_ble_eq_true rfl) rfl dX4_passDay_4 ?_
  refine z_iconst (v := 0) X.1 dX4_passDay_7 (by decide) ?_
  refine z_istore (lv' := [(4, .int 0), (0, .ref (ad p0)), (1, .ref (ad p1)), (2, .ref (ad p2)), (3, .null)]) X.1 dX4_passDay_8 hl (by decide) rfl (fun ls hl => ?_)
  exact w_X4_passDay_n_10 X Z hp0 hp1 hp2 hp1_7 ep1_7 FU 0 r1.1 r1.2 ls (lv_sub hl [1, 2, 3, 0] rfl) hf

theorem c_X4_passDay_n (D : va_G) (cy : Nat → ClassId) (ad : Nat → Nat) {n : Nat} {K N : Nat → Nat} {G : zG} (hWF : zWF n K G) {p0 : Nat} {p1 : Nat} {p2 : Nat} {V : zI} {L : zL} (hp0 : p0 < n ∧ K p0 = 3) (hp1 : p1 < n ∧ K p1 = 7) (hp2 : p2 < n ∧ K p2 = 5) {r' : zI × zL} (hf : f_X4_passDay_n N G p0 p1 p2 V L = some r') : RCv (zC D cy ad n K N G) yX4_passDay cX4_passDay 7 6 148 [.ref (ad p0), .ref (ad p1), .ref (ad p2), .null] V L r'.1 r'.2 := by
  unfold f_X4_passDay_n at hf
  obtain ⟨p1_7, ep1_7, hf⟩ := z_bind hf
  have hp1_7 := hWF.get hp1 (k := 7) (c := 100) rfl ep1_7
  exact RCv.of (by decide) hWF (Nat.le_of_ble_eq_true rfl) (fun M X Z ls hl => w_X4_passDay_n X Z hp0 hp1 hp2 hp1_7 ep1_7 V L ls hl hf)
def b_X4_passDay_s_10 (N : Nat → Nat) (G : zG) (p0 : Nat) (p1 : Nat) (p2 : Nat) (p3 : Nat) (p1_7 : Nat) (k10 : Int32 × zI × zL → Option (zI × zL)) : Int32 × zI × zL → Option (zI × zL) := fun ⟨x4, V, L⟩ =>
  (if (V p1 0) ≤ x4 then some (z_uI V p2 0 (if ((V p2 0) + 1) < (999 : Int32) then ((V p2 0) + 1) else (999 : Int32)), L) else (f_X4_targetOf N G p0 p1 p2 x4 V L).bind fun r1 => (if r1.1 = (-1) then k10 ((x4 + 1), r1.2.1, r1.2.2) else if inB ((x4 * 6) + r1.1) (N p1_7) then (f_X7_post N G p2 ((x4 * 6) + r1.1) (r1.2.1 p1_7 ((x4 * 6) + r1.1).toNatClampNeg) r1.2.1 r1.2.2).bind fun r3 => k10 ((x4 + 1), r3.1, r3.2) else none))
def g_X4_passDay_s (N : Nat → Nat) (G : zG) (p0 : Nat) (p1 : Nat) (p2 : Nat) (p3 : Nat) (p1_7 : Nat) (V : zI) (L : zL) : Option (zI × zL) :=
  (f_X4_bring_s N G p0 p1 p2 p3 V L).bind fun r1 => zfix (b_X4_passDay_s_10 N G p0 p1 p2 p3 p1_7) FU (0, r1.1, r1.2)
def f_X4_passDay_s (N : Nat → Nat) (G : zG) (p0 : Nat) (p1 : Nat) (p2 : Nat) (p3 : Nat) (V : zI) (L : zL) : Option (zI × zL) :=
  (G p1 7).bind fun p1_7 => g_X4_passDay_s N G p0 p1 p2 p3 p1_7 V L
set_option maxHeartbeats 4000000 in
set_option maxRecDepth 100000 in
theorem w_X4_passDay_s_10 {M : zM} {D : va_G} {cy : Nat → ClassId} {ad : Nat → Nat} {n : Nat} {K N : Nat → Nat} {G : zG} {r' : zI × zL} (X : RXc M D cy ad n K N G cX4_passDay 7 RX4 6 148) (Z : RZv M (zC D cy ad n K N G) r'.1 r'.2) {p0 : Nat} (hp0 : p0 < n ∧ K p0 = 3) {p1 : Nat} (hp1 : p1 < n ∧ K p1 = 7) {p2 : Nat} (hp2 : p2 < n ∧ K p2 = 5) {p3 : Nat} (hp3 : p3 < n ∧ K p3 = 1) {p1_7 : Nat} (hp1_7 : p1_7 < n ∧ K p1_7 = 100) (ep1_7 : G p1 7 = some p1_7) (nn : Nat) : ∀ (x4 : Int32) (V : zI) (L : zL) (ls : Array Slot) (hl : lv_has ls 7 [(0, .ref (ad p0)), (1, .ref (ad p1)), (2, .ref (ad p2)), (4, .int x4)]) (hf : zfix (b_X4_passDay_s_10 N G p0 p1 p2 p3 p1_7) nn (x4, V, L) = some r'), RG M (zC D cy ad n K N G) V L 10 ls [] := by
  induction nn with
  | zero => intro x4 V L ls hl hf; cases hf
  | succ nn ih =>
  intro x4 V L ls hl hf
  have hk10 : ∀ (x4 : Int32) (V : zI) (L : zL) (ls : Array Slot), lv_has ls 7 [(0, .ref (ad p0)), (1, .ref (ad p1)), (2, .ref (ad p2)), (4, .int x4)] → zfix (b_X4_passDay_s_10 N G p0 p1 p2 p3 p1_7) nn (x4, V, L) = some r' → RG M (zC D cy ad n K N G) V L 10 ls [] := ih
  have hf : b_X4_passDay_s_10 N G p0 p1 p2 p3 p1_7 (zfix (b_X4_passDay_s_10 N G p0 p1 p2 p3 p1_7) nn) (x4, V, L) = some r' := hf
  generalize zfix (b_X4_passDay_s_10 N G p0 p1 p2 p3 p1_7) nn = k10 at hk10 hf
  clear ih
  unfold b_X4_passDay_s_10 at hf
  refine z_iload X.1 dX4_passDay_10 (lv_at hl 3 rfl) ?_
  refine z_aload_n X.1 dX4_passDay_12 rfl (lv_at hl 1 rfl) ?_
  refine c_geti X hp1 cf_X4_19 dX4_passDay_13 ?_
  refine z_icmp_ge (tgt := 64) X.1 dX4_passDay_16 (by decide) (fun c_ => ?_) (fun c_ => ?_)
  · have hf := (if_pos c_).symm.trans hf
    refine z_aload_n X.1 dX4_passDay_64 rfl (lv_at hl 2 rfl) ?_
    refine z_sipush (v := 999) X.1 dX4_passDay_65 (by decide) ?_
    refine z_aload_n X.1 dX4_passDay_68 rfl (lv_at hl 2 rfl) ?_
    refine c_geti X hp2 cf_X4_38 dX4_passDay_69 ?_
    refine z_iconst (v := 1) X.1 dX4_passDay_72 (by decide) ?_
    refine z_iadd X.1 dX4_passDay_73 ?_
    refine c_min X hl.1 cj_X4_41 ⟨by decide, Nat.le_of_ble_eq_true rfl⟩ dX4_passDay_74 ?_
    refine c_puti X hp2 cf_X4_38 cg_X7 cp_X7_0 rfl rfl dX4_passDay_77 ?_
    exact c_vret X Z hf dX4_passDay_80
  · have hf := (if_neg c_).symm.trans hf
    refine z_aload_n X.1 dX4_passDay_19 rfl (lv_at hl 0 rfl) ?_
    refine z_aload_n X.1 dX4_passDay_20 rfl (lv_at hl 1 rfl) ?_
    refine z_aload_n X.1 dX4_passDay_21 rfl (lv_at hl 2 rfl) ?_
    refine z_iload X.1 dX4_passDay_22 (lv_at hl 3 rfl) ?_
    obtain ⟨r1, hc1, hf⟩ := z_bind hf
    refine c_callVi [.ref (ad p1), .ref (ad p2), .int x4] X hl.1 (c_X4_targetOf D cy ad X.2.2 hp0 hp1 hp2 hc1) hp0 ⟨by decide, rfl⟩ cm_X4_25 cw_X4_targetOf rfl cq_X4_targetOf ⟨by decide, by decide⟩ (Nat.le_of_ble_eq_true rfl) rfl dX4_passDay_24 ?_
    refine z_istore (lv' := [(5, .int r1.1), (0, .ref (ad p0)), (1, .ref (ad p1)), (2, .ref (ad p2)), (4, .int x4)]) X.1 dX4_passDay_27 hl (by decide) rfl (fun ls hl => ?_)
    refine z_iload X.1 dX4_passDay_29 (lv_at hl 0 rfl) ?_
    refine z_iconst (v := -1) X.1 dX4_passDay_31 (by decide) ?_
    refine z_icmp_eq (tgt := 58) X.1 dX4_passDay_32 (by decide) (fun c_ => ?_) (fun c_ => ?_)
    · have hf := (if_pos c_).symm.trans hf
      refine z_iinc (v := x4 + 1) (k0 := 4) (lv' := [(4, .int (x4 + 1)), (5, .int r1.1), (0, .ref (ad p0)), (1, .ref (ad p1)), (2, .ref (ad p2))]) X.1 dX4_passDay_58 hl rfl rfl (by decide) rfl (fun ls hl => ?_)
      refine z_goto (tgt := 10) X.1 dX4_passDay_61 (by decide) ?_
      exact hk10 (x4 + 1) r1.2.1 r1.2.2 ls (lv_sub hl [2, 3, 4, 0] rfl) hf
    · have hf := (if_neg c_).symm.trans hf
      refine z_iload X.1 dX4_passDay_35 (lv_at hl 4 rfl) ?_
      refine z_bipush (v := 6) X.1 dX4_passDay_37 (by decide) ?_
      refine z_imul X.1 dX4_passDay_39 ?_
      refine z_iload X.1 dX4_passDay_40 (lv_at hl 0 rfl) ?_
      refine z_iadd X.1 dX4_passDay_42 ?_
      refine z_istore (lv' := [(6, .int ((x4 * 6) + r1.1)), (5, .int r1.1), (0, .ref (ad p0)), (1, .ref (ad p1)), (2, .ref (ad p2)), (4, .int x4)]) X.1 dX4_passDay_43 hl (by decide) rfl (fun ls hl => ?_)
      refine z_aload_n X.1 dX4_passDay_45 rfl (lv_at hl 4 rfl) ?_
      refine z_iload X.1 dX4_passDay_46 (lv_at hl 0 rfl) ?_
      refine z_aload_n X.1 dX4_passDay_48 rfl (lv_at hl 3 rfl) ?_
      refine c_geta X hp1 cf_X4_29 ep1_7 dX4_passDay_49 ?_
      refine z_iload X.1 dX4_passDay_52 (lv_at hl 0 rfl) ?_
      obtain ⟨hb2, hf⟩ := z_ite hf
      refine c_iald X hp1_7 hb2 dX4_passDay_54 ?_
      obtain ⟨r3, hc3, hf⟩ := z_bind hf
      refine c_callVv [.int ((x4 * 6) + r1.1), .int (r1.2.1 p1_7 ((x4 * 6) + r1.1).toNatClampNeg)] X hl.1 (c_X7_post D cy ad X.2.2 hp2 hc3) hp2 ⟨by decide, rfl⟩ cm_X4_32 cw_X7_post rfl cq_X7_post ⟨by decide, by decide⟩ (Nat.le_of_ble_eq_true rfl) rfl dX4_passDay_55 ?_
      refine z_iinc (v := x4 + 1) (k0 := 5) (lv' := [(4, .int (x4 + 1)), (6, .int ((x4 * 6) + r1.1)), (5, .int r1.1), (0, .ref (ad p0)), (1, .ref (ad p1)), (2, .ref (ad p2))]) X.1 dX4_passDay_58 hl rfl rfl (by decide) rfl (fun ls hl => ?_)
      refine z_goto (tgt := 10) X.1 dX4_passDay_61 (by decide) ?_
      exact hk10 (x4 + 1) r3.1 r3.2 ls (lv_sub hl [3, 4, 5, 0] rfl) hf

set_option maxHeartbeats 4000000 in
set_option maxRecDepth 100000 in
theorem w_X4_passDay_s {M : zM} {D : va_G} {cy : Nat → ClassId} {ad : Nat → Nat} {n : Nat} {K N : Nat → Nat} {G : zG} {r' : zI × zL} (X : RXc M D cy ad n K N G cX4_passDay 7 RX4 6 148) (Z : RZv M (zC D cy ad n K N G) r'.1 r'.2) {p0 : Nat} (hp0 : p0 < n ∧ K p0 = 3) {p1 : Nat} (hp1 : p1 < n ∧ K p1 = 7) {p2 : Nat} (hp2 : p2 < n ∧ K p2 = 5) {p3 : Nat} (hp3 : p3 < n ∧ K p3 = 1) {p1_7 : Nat} (hp1_7 : p1_7 < n ∧ K p1_7 = 100) (ep1_7 : G p1 7 = some p1_7)  (V : zI) (L : zL) (ls : Array Slot) (hl : lv_has ls 7 [(0, .ref (ad p0)), (1, .ref (ad p1)), (2, .ref (ad p2)), (3, .ref (ad p3))]) (hf : g_X4_passDay_s N G p0 p1 p2 p3 p1_7 V L = some r') : RG M (zC D cy ad n K N G) V L 0 ls [] := by
  unfold g_X4_passDay_s at hf
  refine z_aload_n X.1 dX4_passDay_0 rfl (lv_at hl 0 rfl) ?_
  refine z_aload_n X.1 dX4_passDay_1 rfl (lv_at hl 1 rfl) ?_
  refine z_aload_n X.1 dX4_passDay_2 rfl (lv_at hl 2 rfl) ?_
  refine z_aload_n X.1 dX4_passDay_3 rfl (lv_at hl 3 rfl) ?_
  obtain ⟨r1, hc1, hf⟩ := z_bind hf
  refine c_callVv [.ref (ad p1), .ref (ad p2), .ref (ad p3)] X hl.1 (c_X4_bring_s D cy ad X.2.2 hp0 hp1 hp2 hp3 hc1) hp0 ⟨by decide, rfl⟩ cm_X4_15 cw_X4_bring rfl cq_X4_bring ⟨by decide, by decide⟩ (Nat.le_of_ble_eq_true rfl) rfl dX4_passDay_4 ?_
  refine z_iconst (v := 0) X.1 dX4_passDay_7 (by decide) ?_
  refine z_istore (lv' := [(4, .int 0), (0, .ref (ad p0)), (1, .ref (ad p1)), (2, .ref (ad p2)), (3, .ref (ad p3))]) X.1 dX4_passDay_8 hl (by decide) rfl (fun ls hl => ?_)
  exact w_X4_passDay_s_10 X Z hp0 hp1 hp2 hp3 hp1_7 ep1_7 FU 0 r1.1 r1.2 ls (lv_sub hl [1, 2, 3, 0] rfl) hf

theorem c_X4_passDay_s (D : va_G) (cy : Nat → ClassId) (ad : Nat → Nat) {n : Nat} {K N : Nat → Nat} {G : zG} (hWF : zWF n K G) {p0 : Nat} {p1 : Nat} {p2 : Nat} {p3 : Nat} {V : zI} {L : zL} (hp0 : p0 < n ∧ K p0 = 3) (hp1 : p1 < n ∧ K p1 = 7) (hp2 : p2 < n ∧ K p2 = 5) (hp3 : p3 < n ∧ K p3 = 1) {r' : zI × zL} (hf : f_X4_passDay_s N G p0 p1 p2 p3 V L = some r') : RCv (zC D cy ad n K N G) yX4_passDay cX4_passDay 7 6 148 [.ref (ad p0), .ref (ad p1), .ref (ad p2), .ref (ad p3)] V L r'.1 r'.2 := by
  unfold f_X4_passDay_s at hf
  obtain ⟨p1_7, ep1_7, hf⟩ := z_bind hf
  have hp1_7 := hWF.get hp1 (k := 7) (c := 100) rfl ep1_7
  exact RCv.of (by decide) hWF (Nat.le_of_ble_eq_true rfl) (fun M X Z ls hl => w_X4_passDay_s X Z hp0 hp1 hp2 hp3 hp1_7 ep1_7 V L ls hl hf)
def b_X10_later_40 (N : Nat → Nat) (G : zG) (p0 : Nat) (p0_2 : Nat) (p0_5 : Nat) (p0_6 : Nat) (p0_7 : Nat) (k40 : Int32 × Int32 × Int32 × Int32 × Int32 × zI × zL → Option (Int32 × zI × zL)) : Int32 × Int32 × Int32 × Int32 × Int32 × zI × zL → Option (Int32 × zI × zL) := fun ⟨x1, x2, x3, x4, x5, V, L⟩ =>
  (if x3 ≤ x5 then (f_X7_countOf N G p0_6 ((x1 * 6) + x2) x4 V L).bind fun r1 => some (r1, V, L) else (f_X4_passDay_n N G p0_7 p0_2 p0_6 V L).bind fun r2 => k40 (x1, x2, x3, x4, (x5 + 1), r2.1, r2.2))
def g_X10_later (N : Nat → Nat) (G : zG) (p0 : Nat) (p0_2 : Nat) (p0_5 : Nat) (p0_6 : Nat) (p0_7 : Nat) (x1 : Int32) (x2 : Int32) (x3 : Int32) (x4 : Int32) (V : zI) (L : zL) : Option (Int32 × zI × zL) :=
  (f_X9_isPair N G p0_2 x1 x2 V L).bind fun r1 => (if r1 = 0 then some ((-1), V, L) else (if x3 < 0 then some ((-1), V, L) else (f_X10_daysAhead N G p0 V L).bind fun r2 => (if x3 ≤ r2 then (f_X7_copyFrom N G p0_6 p0_5 V L).bind fun r3 => zfix (b_X10_later_40 N G p0 p0_2 p0_5 p0_6 p0_7) FU (x1, x2, x3, x4, 0, r3.1, r3.2) else some ((-1), V, L))))
def f_X10_later (N : Nat → Nat) (G : zG) (p0 : Nat) (x1 : Int32) (x2 : Int32) (x3 : Int32) (x4 : Int32) (V : zI) (L : zL) : Option (Int32 × zI × zL) :=
  (G p0 2).bind fun p0_2 => (G p0 5).bind fun p0_5 => (G p0 6).bind fun p0_6 => (G p0 7).bind fun p0_7 => g_X10_later N G p0 p0_2 p0_5 p0_6 p0_7 x1 x2 x3 x4 V L
set_option maxHeartbeats 4000000 in
set_option maxRecDepth 100000 in
theorem w_X10_later_40 {M : zM} {D : va_G} {cy : Nat → ClassId} {ad : Nat → Nat} {n : Nat} {K N : Nat → Nat} {G : zG} {r' : Int32 × zI × zL} (X : RXc M D cy ad n K N G cX10_later 6 RX10 7 174) (Z : RZi M (zC D cy ad n K N G) .int r'.1 r'.2.1 r'.2.2) {p0 : Nat} (hp0 : p0 < n ∧ K p0 = 8) {p0_2 : Nat} (hp0_2 : p0_2 < n ∧ K p0_2 = 7) (ep0_2 : G p0 2 = some p0_2) {p0_5 : Nat} (hp0_5 : p0_5 < n ∧ K p0_5 = 5) (ep0_5 : G p0 5 = some p0_5) {p0_6 : Nat} (hp0_6 : p0_6 < n ∧ K p0_6 = 5) (ep0_6 : G p0 6 = some p0_6) {p0_7 : Nat} (hp0_7 : p0_7 < n ∧ K p0_7 = 3) (ep0_7 : G p0 7 = some p0_7) (nn : Nat) : ∀ (x1 : Int32) (x2 : Int32) (x3 : Int32) (x4 : Int32) (x5 : Int32) (V : zI) (L : zL) (ls : Array Slot) (hl : lv_has ls 6 [(0, .ref (ad p0)), (1, .int x1), (2, .int x2), (3, .int x3), (4, .int x4), (5, .int x5)]) (hf : zfix (b_X10_later_40 N G p0 p0_2 p0_5 p0_6 p0_7) nn (x1, x2, x3, x4, x5, V, L) = some r'), RG M (zC D cy ad n K N G) V L 40 ls [] := by
  induction nn with
  | zero => intro x1 x2 x3 x4 x5 V L ls hl hf; cases hf
  | succ nn ih =>
  intro x1 x2 x3 x4 x5 V L ls hl hf
  have hk40 : ∀ (x1 : Int32) (x2 : Int32) (x3 : Int32) (x4 : Int32) (x5 : Int32) (V : zI) (L : zL) (ls : Array Slot), lv_has ls 6 [(0, .ref (ad p0)), (1, .int x1), (2, .int x2), (3, .int x3), (4, .int x4), (5, .int x5)] → zfix (b_X10_later_40 N G p0 p0_2 p0_5 p0_6 p0_7) nn (x1, x2, x3, x4, x5, V, L) = some r' → RG M (zC D cy ad n K N G) V L 40 ls [] := ih
  have hf : b_X10_later_40 N G p0 p0_2 p0_5 p0_6 p0_7 (zfix (b_X10_later_40 N G p0 p0_2 p0_5 p0_6 p0_7) nn) (x1, x2, x3, x4, x5, V, L) = some r' := hf
  generalize zfix (b_X10_later_40 N G p0 p0_2 p0_5 p0_6 p0_7) nn = k40 at hk40 hf
  clear ih
  unfold b_X10_later_40 at hf
  refine z_iload X.1 dX10_later_40 (lv_at hl 5 rfl) ?_
  refine z_iload_n X.1 dX10_later_42 rfl (lv_at hl 3 rfl) ?_
  refine z_icmp_ge (tgt := 68) X.1 dX10_later_43 (by decide) (fun c_ => ?_) (fun c_ => ?_)
  · have hf := (if_pos c_).symm.trans hf
    refine z_aload_n X.1 dX10_later_68 rfl (lv_at hl 0 rfl) ?_
    refine c_geta X hp0 cf_X10_37 ep0_6 dX10_later_69 ?_
    refine z_iload_n X.1 dX10_later_72 rfl (lv_at hl 1 rfl) ?_
    refine z_bipush (v := 6) X.1 dX10_later_73 (by decide) ?_
    refine z_imul X.1 dX10_later_75 ?_
    refine z_iload_n X.1 dX10_later_76 rfl (lv_at hl 2 rfl) ?_
    refine z_iadd X.1 dX10_later_77 ?_
    refine z_iload X.1 dX10_later_78 (lv_at hl 4 rfl) ?_
    obtain ⟨r1, hc1, hf⟩ := z_bind hf
    refine c_callVi [.int ((x1 * 6) + x2), .int x4] X hl.1 (c_X7_countOf D cy ad X.2.2 hp0_6 hc1) hp0_6 ⟨by decide, rfl⟩ cm_X10_169 cw_X7_countOf rfl cq_X7_countOf ⟨by decide, by decide⟩ (Nat.le_of_ble_eq_true rfl) rfl dX10_later_80 ?_
    exact c_iret X Z hf rfl dX10_later_83
  · have hf := (if_neg c_).symm.trans hf
    refine z_aload_n X.1 dX10_later_46 rfl (lv_at hl 0 rfl) ?_
    refine c_geta X hp0 cf_X10_43 ep0_7 dX10_later_47 ?_
    refine z_aload_n X.1 dX10_later_50 rfl (lv_at hl 0 rfl) ?_
    refine c_geta X hp0 cf_X10_20 ep0_2 dX10_later_51 ?_
    refine z_aload_n X.1 dX10_later_54 rfl (lv_at hl 0 rfl) ?_
    refine c_geta X hp0 cf_X10_37 ep0_6 dX10_later_55 ?_
    refine c_null X dX10_later_58 ?_
    obtain ⟨r2, hc2, hf⟩ := z_bind hf
    refine c_callVv [.ref (ad p0_2), .ref (ad p0_6), .null] X hl.1 (c_X4_passDay_n D cy ad X.2.2 hp0_7 hp0_2 hp0_6 hc2) hp0_7 ⟨by decide, rfl⟩ cm_X10_190 cw_X4_passDay rfl cq_X4_passDay ⟨by decide, by decide⟩ (Nat.le_of_ble_eq_true rfl) rfl dX10_later_59 ?_
    refine z_iinc (v := x5 + 1) (k0 := 5) (lv' := [(5, .int (x5 + 1)), (0, .ref (ad p0)), (1, .int x1), (2, .int x2), (3, .int x3), (4, .int x4)]) X.1 dX10_later_62 hl rfl rfl (by decide) rfl (fun ls hl => ?_)
    refine z_goto (tgt := 40) X.1 dX10_later_65 (by decide) ?_
    exact hk40 x1 x2 x3 x4 (x5 + 1) r2.1 r2.2 ls (lv_sub hl [1, 2, 3, 4, 5, 0] rfl) hf

set_option maxHeartbeats 4000000 in
set_option maxRecDepth 100000 in
theorem w_X10_later {M : zM} {D : va_G} {cy : Nat → ClassId} {ad : Nat → Nat} {n : Nat} {K N : Nat → Nat} {G : zG} {r' : Int32 × zI × zL} (X : RXc M D cy ad n K N G cX10_later 6 RX10 7 174) (Z : RZi M (zC D cy ad n K N G) .int r'.1 r'.2.1 r'.2.2) {p0 : Nat} (hp0 : p0 < n ∧ K p0 = 8) {p0_2 : Nat} (hp0_2 : p0_2 < n ∧ K p0_2 = 7) (ep0_2 : G p0 2 = some p0_2) {p0_5 : Nat} (hp0_5 : p0_5 < n ∧ K p0_5 = 5) (ep0_5 : G p0 5 = some p0_5) {p0_6 : Nat} (hp0_6 : p0_6 < n ∧ K p0_6 = 5) (ep0_6 : G p0 6 = some p0_6) {p0_7 : Nat} (hp0_7 : p0_7 < n ∧ K p0_7 = 3) (ep0_7 : G p0 7 = some p0_7) (x1 : Int32) (x2 : Int32) (x3 : Int32) (x4 : Int32) (V : zI) (L : zL) (ls : Array Slot) (hl : lv_has ls 6 [(0, .ref (ad p0)), (1, .int x1), (2, .int x2), (3, .int x3), (4, .int x4)]) (hf : g_X10_later N G p0 p0_2 p0_5 p0_6 p0_7 x1 x2 x3 x4 V L = some r') : RG M (zC D cy ad n K N G) V L 0 ls [] := by
  unfold g_X10_later at hf
  refine z_aload_n X.1 dX10_later_0 rfl (lv_at hl 0 rfl) ?_
  refine c_geta X hp0 cf_X10_20 ep0_2 dX10_later_1 ?_
  refine z_iload_n X.1 dX10_later_4 rfl (lv_at hl 1 rfl) ?_
  refine z_iload_n X.1 dX10_later_5 rfl (lv_at hl 2 rfl) ?_
  obtain ⟨r1, hc1, hf⟩ := z_bind hf
  refine c_callVi [.int x1, .int x2] X hl.1 (c_X9_isPair D cy ad X.2.2 hp0_2 hc1) hp0_2 ⟨by decide, rfl⟩ cm_X10_162 cw_X9_isPair rfl cq_X9_isPair ⟨by decide, by decide⟩ (Nat.le_of_ble_eq_true rfl) rfl dX10_later_6 ?_
  refine z_if_eq (tgt := 24) X.1 dX10_later_9 (by decide) (fun c_ => ?_) (fun c_ => ?_)
  · have hf := (if_pos c_).symm.trans hf
    refine z_iconst (v := -1) X.1 dX10_later_24 (by decide) ?_
    exact c_iret X Z hf rfl dX10_later_25
  · have hf := (if_neg c_).symm.trans hf
    refine z_iload_n X.1 dX10_later_12 rfl (lv_at hl 3 rfl) ?_
    refine z_if_lt (tgt := 24) X.1 dX10_later_13 (by decide) (fun c_ => ?_) (fun c_ => ?_)
    · have hf := (if_pos c_).symm.trans hf
      refine z_iconst (v := -1) X.1 dX10_later_24 (by decide) ?_
      exact c_iret X Z hf rfl dX10_later_25
    · have hf := (if_neg c_).symm.trans hf
      refine z_iload_n X.1 dX10_later_16 rfl (lv_at hl 3 rfl) ?_
      refine z_aload_n X.1 dX10_later_17 rfl (lv_at hl 0 rfl) ?_
      obtain ⟨r2, hc2, hf⟩ := z_bind hf
      refine c_callVi [] X hl.1 (c_X10_daysAhead D cy ad X.2.2 hp0 hc2) hp0 ⟨by decide, rfl⟩ cm_X10_182 cw_X10_daysAhead rfl cq_X10_daysAhead ⟨by decide, by decide⟩ (Nat.le_of_ble_eq_true rfl) rfl dX10_later_18 ?_
      refine z_icmp_le (tgt := 26) X.1 dX10_later_21 (by decide) (fun c_ => ?_) (fun c_ => ?_)
      · have hf := (if_pos c_).symm.trans hf
        refine z_aload_n X.1 dX10_later_26 rfl (lv_at hl 0 rfl) ?_
        refine c_geta X hp0 cf_X10_37 ep0_6 dX10_later_27 ?_
        refine z_aload_n X.1 dX10_later_30 rfl (lv_at hl 0 rfl) ?_
        refine c_geta X hp0 cf_X10_33 ep0_5 dX10_later_31 ?_
        obtain ⟨r3, hc3, hf⟩ := z_bind hf
        refine c_callVv [.ref (ad p0_5)] X hl.1 (c_X7_copyFrom D cy ad X.2.2 hp0_6 hp0_5 hc3) hp0_6 ⟨by decide, rfl⟩ cm_X10_186 cw_X7_copyFrom rfl cq_X7_copyFrom ⟨by decide, by decide⟩ (Nat.le_of_ble_eq_true rfl) rfl dX10_later_34 ?_
        refine z_iconst (v := 0) X.1 dX10_later_37 (by decide) ?_
        refine z_istore (lv' := [(5, .int 0), (0, .ref (ad p0)), (1, .int x1), (2, .int x2), (3, .int x3), (4, .int x4)]) X.1 dX10_later_38 hl (by decide) rfl (fun ls hl => ?_)
        exact w_X10_later_40 X Z hp0 hp0_2 ep0_2 hp0_5 ep0_5 hp0_6 ep0_6 hp0_7 ep0_7 FU x1 x2 x3 x4 0 r3.1 r3.2 ls (lv_sub hl [1, 2, 3, 4, 5, 0] rfl) hf
      · have hf := (if_neg c_).symm.trans hf
        refine z_iconst (v := -1) X.1 dX10_later_24 (by decide) ?_
        exact c_iret X Z hf rfl dX10_later_25

theorem c_X10_later (D : va_G) (cy : Nat → ClassId) (ad : Nat → Nat) {n : Nat} {K N : Nat → Nat} {G : zG} (hWF : zWF n K G) {p0 : Nat} {x1 : Int32} {x2 : Int32} {x3 : Int32} {x4 : Int32} {V : zI} {L : zL} (hp0 : p0 < n ∧ K p0 = 8) {r' : Int32 × zI × zL} (hf : f_X10_later N G p0 x1 x2 x3 x4 V L = some r') : RCi (zC D cy ad n K N G) yX10_later cX10_later 6 .int 7 174 [.ref (ad p0), .int x1, .int x2, .int x3, .int x4] V L r'.1 r'.2.1 r'.2.2 := by
  unfold f_X10_later at hf
  obtain ⟨p0_2, ep0_2, hf⟩ := z_bind hf
  have hp0_2 := hWF.get hp0 (k := 2) (c := 7) rfl ep0_2
  obtain ⟨p0_5, ep0_5, hf⟩ := z_bind hf
  have hp0_5 := hWF.get hp0 (k := 5) (c := 5) rfl ep0_5
  obtain ⟨p0_6, ep0_6, hf⟩ := z_bind hf
  have hp0_6 := hWF.get hp0 (k := 6) (c := 5) rfl ep0_6
  obtain ⟨p0_7, ep0_7, hf⟩ := z_bind hf
  have hp0_7 := hWF.get hp0 (k := 7) (c := 3) rfl ep0_7
  exact RCi.of (by decide) hWF (Nat.le_of_ble_eq_true rfl) (fun M X Z ls hl => w_X10_later X Z hp0 hp0_2 ep0_2 hp0_5 ep0_5 hp0_6 ep0_6 hp0_7 ep0_7 x1 x2 x3 x4 V L ls hl hf)
def b_X10_comes_43 (N : Nat → Nat) (G : zG) (p0 : Nat) (p0_2 : Nat) (p0_5 : Nat) (p0_6 : Nat) (p0_7 : Nat) (k43 : Int32 × Int64 × Int32 × zI × zL → Option (Int32 × zI × zL)) : Int32 × Int64 × Int32 × zI × zL → Option (Int32 × zI × zL) := fun ⟨x3, x4, x6, V, L⟩ =>
  (if x3 < x6 then some ((-1), V, L) else (f_X4_passDay_n N G p0_7 p0_2 p0_6 V L).bind fun r1 => (if (lg_cmp ((r1.2 p0_6 9) &&& x4) 0) = 0 then k43 (x3, x4, (x6 + 1), r1.1, r1.2) else some (x6, r1.1, r1.2)))
def g_X10_comes (N : Nat → Nat) (G : zG) (p0 : Nat) (p0_2 : Nat) (p0_5 : Nat) (p0_6 : Nat) (p0_7 : Nat) (x1 : Int32) (x2 : Int32) (V : zI) (L : zL) : Option (Int32 × zI × zL) :=
  (f_X9_isPair N G p0_2 x1 x2 V L).bind fun r1 => (if r1 = 0 then some ((-1), V, L) else (f_X10_daysAhead N G p0 V L).bind fun r2 => (f_X7_copyFrom N G p0_6 p0_5 V L).bind fun r3 => zfix (b_X10_comes_43 N G p0 p0_2 p0_5 p0_6 p0_7) FU (r2, ((1 : Int64) <<< (((x1 * 6) + x2).toInt64 &&& 63)), 1, r3.1, r3.2))
def f_X10_comes (N : Nat → Nat) (G : zG) (p0 : Nat) (x1 : Int32) (x2 : Int32) (V : zI) (L : zL) : Option (Int32 × zI × zL) :=
  (G p0 2).bind fun p0_2 => (G p0 5).bind fun p0_5 => (G p0 6).bind fun p0_6 => (G p0 7).bind fun p0_7 => g_X10_comes N G p0 p0_2 p0_5 p0_6 p0_7 x1 x2 V L
set_option maxHeartbeats 4000000 in
set_option maxRecDepth 100000 in
theorem w_X10_comes_43 {M : zM} {D : va_G} {cy : Nat → ClassId} {ad : Nat → Nat} {n : Nat} {K N : Nat → Nat} {G : zG} {r' : Int32 × zI × zL} (X : RXc M D cy ad n K N G cX10_comes 7 RX10 7 174) (Z : RZi M (zC D cy ad n K N G) .int r'.1 r'.2.1 r'.2.2) {p0 : Nat} (hp0 : p0 < n ∧ K p0 = 8) {p0_2 : Nat} (hp0_2 : p0_2 < n ∧ K p0_2 = 7) (ep0_2 : G p0 2 = some p0_2) {p0_5 : Nat} (hp0_5 : p0_5 < n ∧ K p0_5 = 5) (ep0_5 : G p0 5 = some p0_5) {p0_6 : Nat} (hp0_6 : p0_6 < n ∧ K p0_6 = 5) (ep0_6 : G p0 6 = some p0_6) {p0_7 : Nat} (hp0_7 : p0_7 < n ∧ K p0_7 = 3) (ep0_7 : G p0 7 = some p0_7) (nn : Nat) : ∀ (x3 : Int32) (x4 : Int64) (x6 : Int32) (V : zI) (L : zL) (ls : Array Slot) (hl : lv_has ls 7 [(0, .ref (ad p0)), (3, .int x3), (4, .long x4), (6, .int x6)]) (hf : zfix (b_X10_comes_43 N G p0 p0_2 p0_5 p0_6 p0_7) nn (x3, x4, x6, V, L) = some r'), RG M (zC D cy ad n K N G) V L 43 ls [] := by
  induction nn with
  | zero => intro x3 x4 x6 V L ls hl hf; cases hf
  | succ nn ih =>
  intro x3 x4 x6 V L ls hl hf
  have hk43 : ∀ (x3 : Int32) (x4 : Int64) (x6 : Int32) (V : zI) (L : zL) (ls : Array Slot), lv_has ls 7 [(0, .ref (ad p0)), (3, .int x3), (4, .long x4), (6, .int x6)] → zfix (b_X10_comes_43 N G p0 p0_2 p0_5 p0_6 p0_7) nn (x3, x4, x6, V, L) = some r' → RG M (zC D cy ad n K N G) V L 43 ls [] := ih
  have hf : b_X10_comes_43 N G p0 p0_2 p0_5 p0_6 p0_7 (zfix (b_X10_comes_43 N G p0 p0_2 p0_5 p0_6 p0_7) nn) (x3, x4, x6, V, L) = some r' := hf
  generalize zfix (b_X10_comes_43 N G p0 p0_2 p0_5 p0_6 p0_7) nn = k43 at hk43 hf
  clear ih
  unfold b_X10_comes_43 at hf
  refine z_iload X.1 dX10_comes_43 (lv_at hl 3 rfl) ?_
  refine z_iload_n X.1 dX10_comes_45 rfl (lv_at hl 1 rfl) ?_
  refine z_icmp_gt (tgt := 89) X.1 dX10_comes_46 (by decide) (fun c_ => ?_) (fun c_ => ?_)
  · have hf := (if_pos c_).symm.trans hf
    refine z_iconst (v := -1) X.1 dX10_comes_89 (by decide) ?_
    exact c_iret X Z hf rfl dX10_comes_90
  · have hf := (if_neg c_).symm.trans hf
    refine z_aload_n X.1 dX10_comes_49 rfl (lv_at hl 0 rfl) ?_
    refine c_geta X hp0 cf_X10_43 ep0_7 dX10_comes_50 ?_
    refine z_aload_n X.1 dX10_comes_53 rfl (lv_at hl 0 rfl) ?_
    refine c_geta X hp0 cf_X10_20 ep0_2 dX10_comes_54 ?_
    refine z_aload_n X.1 dX10_comes_57 rfl (lv_at hl 0 rfl) ?_
    refine c_geta X hp0 cf_X10_37 ep0_6 dX10_comes_58 ?_
    refine c_null X dX10_comes_61 ?_
    obtain ⟨r1, hc1, hf⟩ := z_bind hf
    refine c_callVv [.ref (ad p0_2), .ref (ad p0_6), .null] X hl.1 (c_X4_passDay_n D cy ad X.2.2 hp0_7 hp0_2 hp0_6 hc1) hp0_7 ⟨by decide, rfl⟩ cm_X10_190 cw_X4_passDay rfl cq_X4_passDay ⟨by decide, by decide⟩ (Nat.le_of_ble_eq_true rfl) rfl dX10_comes_62 ?_
    refine z_aload_n X.1 dX10_comes_65 rfl (lv_at hl 0 rfl) ?_
    refine c_geta X hp0 cf_X10_37 ep0_6 dX10_comes_66 ?_
    refine c_getl X hp0_6 cf_X10_194 dX10_comes_69 ?_
    refine z_lload X.1 dX10_comes_72 (lv_at hl 2 rfl) ?_
    refine z_land X.1 dX10_comes_74 ?_
    refine z_lconst (v := 0) X.1 dX10_comes_75 (by decide) ?_
    refine z_lcmp X.1 dX10_comes_76 ?_
    refine z_if_eq (tgt := 83) X.1 dX10_comes_77 (by decide) (fun c_ => ?_) (fun c_ => ?_)
    · have hf := (if_pos c_).symm.trans hf
      refine z_iinc (v := x6 + 1) (k0 := 3) (lv' := [(6, .int (x6 + 1)), (0, .ref (ad p0)), (3, .int x3), (4, .long x4)]) X.1 dX10_comes_83 hl rfl rfl (by decide) rfl (fun ls hl => ?_)
      refine z_goto (tgt := 43) X.1 dX10_comes_86 (by decide) ?_
      exact hk43 x3 x4 (x6 + 1) r1.1 r1.2 ls (lv_sub hl [1, 2, 3, 0] rfl) hf
    · have hf := (if_neg c_).symm.trans hf
      refine z_iload X.1 dX10_comes_80 (lv_at hl 3 rfl) ?_
      exact c_iret X Z hf rfl dX10_comes_82

set_option maxHeartbeats 4000000 in
set_option maxRecDepth 100000 in
theorem w_X10_comes {M : zM} {D : va_G} {cy : Nat → ClassId} {ad : Nat → Nat} {n : Nat} {K N : Nat → Nat} {G : zG} {r' : Int32 × zI × zL} (X : RXc M D cy ad n K N G cX10_comes 7 RX10 7 174) (Z : RZi M (zC D cy ad n K N G) .int r'.1 r'.2.1 r'.2.2) {p0 : Nat} (hp0 : p0 < n ∧ K p0 = 8) {p0_2 : Nat} (hp0_2 : p0_2 < n ∧ K p0_2 = 7) (ep0_2 : G p0 2 = some p0_2) {p0_5 : Nat} (hp0_5 : p0_5 < n ∧ K p0_5 = 5) (ep0_5 : G p0 5 = some p0_5) {p0_6 : Nat} (hp0_6 : p0_6 < n ∧ K p0_6 = 5) (ep0_6 : G p0 6 = some p0_6) {p0_7 : Nat} (hp0_7 : p0_7 < n ∧ K p0_7 = 3) (ep0_7 : G p0 7 = some p0_7) (x1 : Int32) (x2 : Int32) (V : zI) (L : zL) (ls : Array Slot) (hl : lv_has ls 7 [(0, .ref (ad p0)), (1, .int x1), (2, .int x2)]) (hf : g_X10_comes N G p0 p0_2 p0_5 p0_6 p0_7 x1 x2 V L = some r') : RG M (zC D cy ad n K N G) V L 0 ls [] := by
  unfold g_X10_comes at hf
  refine z_aload_n X.1 dX10_comes_0 rfl (lv_at hl 0 rfl) ?_
  refine c_geta X hp0 cf_X10_20 ep0_2 dX10_comes_1 ?_
  refine z_iload_n X.1 dX10_comes_4 rfl (lv_at hl 1 rfl) ?_
  refine z_iload_n X.1 dX10_comes_5 rfl (lv_at hl 2 rfl) ?_
  obtain ⟨r1, hc1, hf⟩ := z_bind hf
  refine c_callVi [.int x1, .int x2] X hl.1 (c_X9_isPair D cy ad X.2.2 hp0_2 hc1) hp0_2 ⟨by decide, rfl⟩ cm_X10_162 cw_X9_isPair rfl cq_X9_isPair ⟨by decide, by decide⟩ (Nat.le_of_ble_eq_true rfl) rfl dX10_comes_6 ?_
  refine z_if_ne (tgt := 14) X.1 dX10_comes_9 (by decide) (fun c_ => ?_) (fun c_ => ?_)
  · have hf := (if_neg c_).symm.trans hf
    refine z_aload_n X.1 dX10_comes_14 rfl (lv_at hl 0 rfl) ?_
    obtain ⟨r2, hc2, hf⟩ := z_bind hf
    refine c_callVi [] X hl.1 (c_X10_daysAhead D cy ad X.2.2 hp0 hc2) hp0 ⟨by decide, rfl⟩ cm_X10_182 cw_X10_daysAhead rfl cq_X10_daysAhead ⟨by decide, by decide⟩ (Nat.le_of_ble_eq_true rfl) rfl dX10_comes_15 ?_
    refine z_istore_n (lv' := [(3, .int r2), (0, .ref (ad p0)), (1, .int x1), (2, .int x2)]) X.1 dX10_comes_18 rfl hl (by decide) rfl (fun ls hl => ?_)
    refine z_lconst (v := 1) X.1 dX10_comes_19 (by decide) ?_
    refine z_iload_n X.1 dX10_comes_20 rfl (lv_at hl 2 rfl) ?_
    refine z_bipush (v := 6) X.1 dX10_comes_21 (by decide) ?_
    refine z_imul X.1 dX10_comes_23 ?_
    refine z_iload_n X.1 dX10_comes_24 rfl (lv_at hl 3 rfl) ?_
    refine z_iadd X.1 dX10_comes_25 ?_
    refine z_lshl X.1 dX10_comes_26 ?_
    refine z_lstore (lv' := [(4, .long ((1 : Int64) <<< (((x1 * 6) + x2).toInt64 &&& 63))), (3, .int r2), (0, .ref (ad p0)), (1, .int x1), (2, .int x2)]) X.1 dX10_comes_27 hl (by decide) rfl (fun ls hl => ?_)
    refine z_aload_n X.1 dX10_comes_29 rfl (lv_at hl 2 rfl) ?_
    refine c_geta X hp0 cf_X10_37 ep0_6 dX10_comes_30 ?_
    refine z_aload_n X.1 dX10_comes_33 rfl (lv_at hl 2 rfl) ?_
    refine c_geta X hp0 cf_X10_33 ep0_5 dX10_comes_34 ?_
    obtain ⟨r3, hc3, hf⟩ := z_bind hf
    refine c_callVv [.ref (ad p0_5)] X hl.1 (c_X7_copyFrom D cy ad X.2.2 hp0_6 hp0_5 hc3) hp0_6 ⟨by decide, rfl⟩ cm_X10_186 cw_X7_copyFrom rfl cq_X7_copyFrom ⟨by decide, by decide⟩ (Nat.le_of_ble_eq_true rfl) rfl dX10_comes_37 ?_
    refine z_iconst (v := 1) X.1 dX10_comes_40 (by decide) ?_
    refine z_istore (lv' := [(6, .int 1), (4, .long ((1 : Int64) <<< (((x1 * 6) + x2).toInt64 &&& 63))), (3, .int r2), (0, .ref (ad p0)), (1, .int x1), (2, .int x2)]) X.1 dX10_comes_41 hl (by decide) rfl (fun ls hl => ?_)
    exact w_X10_comes_43 X Z hp0 hp0_2 ep0_2 hp0_5 ep0_5 hp0_6 ep0_6 hp0_7 ep0_7 FU r2 ((1 : Int64) <<< (((x1 * 6) + x2).toInt64 &&& 63)) 1 r3.1 r3.2 ls (lv_sub hl [3, 2, 1, 0] rfl) hf
  · have hf := (if_pos c_).symm.trans hf
    refine z_iconst (v := -1) X.1 dX10_comes_12 (by decide) ?_
    exact c_iret X Z hf rfl dX10_comes_13

theorem c_X10_comes (D : va_G) (cy : Nat → ClassId) (ad : Nat → Nat) {n : Nat} {K N : Nat → Nat} {G : zG} (hWF : zWF n K G) {p0 : Nat} {x1 : Int32} {x2 : Int32} {V : zI} {L : zL} (hp0 : p0 < n ∧ K p0 = 8) {r' : Int32 × zI × zL} (hf : f_X10_comes N G p0 x1 x2 V L = some r') : RCi (zC D cy ad n K N G) yX10_comes cX10_comes 7 .int 7 174 [.ref (ad p0), .int x1, .int x2] V L r'.1 r'.2.1 r'.2.2 := by
  unfold f_X10_comes at hf
  obtain ⟨p0_2, ep0_2, hf⟩ := z_bind hf
  have hp0_2 := hWF.get hp0 (k := 2) (c := 7) rfl ep0_2
  obtain ⟨p0_5, ep0_5, hf⟩ := z_bind hf
  have hp0_5 := hWF.get hp0 (k := 5) (c := 5) rfl ep0_5
  obtain ⟨p0_6, ep0_6, hf⟩ := z_bind hf
  have hp0_6 := hWF.get hp0 (k := 6) (c := 5) rfl ep0_6
  obtain ⟨p0_7, ep0_7, hf⟩ := z_bind hf
  have hp0_7 := hWF.get hp0 (k := 7) (c := 3) rfl ep0_7
  exact RCi.of (by decide) hWF (Nat.le_of_ble_eq_true rfl) (fun M X Z ls hl => w_X10_comes X Z hp0 hp0_2 ep0_2 hp0_5 ep0_5 hp0_6 ep0_6 hp0_7 ep0_7 x1 x2 V L ls hl hf)
def b_X4_isSilent_11 (N : Nat → Nat) (G : zG) (p0 : Nat) (p1 : Nat) (p2 : Nat) (k11 : Int32 × zI × zL → Option (Int32 × zI × zL)) : Int32 × zI × zL → Option (Int32 × zI × zL) := fun ⟨x3, V, L⟩ =>
  (if (V p1 0) ≤ x3 then some (1, V, L) else (f_X4_targetOf N G p0 p1 p2 x3 V L).bind fun r1 => (if r1.1 = (-1) then k11 ((x3 + 1), r1.2.1, r1.2.2) else some (0, r1.2.1, r1.2.2)))
def g_X4_isSilent (N : Nat → Nat) (G : zG) (p0 : Nat) (p1 : Nat) (p2 : Nat) (V : zI) (L : zL) : Option (Int32 × zI × zL) :=
  (if (V p2 4) ≤ 0 then zfix (b_X4_isSilent_11 N G p0 p1 p2) FU (0, V, L) else some (0, V, L))
def f_X4_isSilent (N : Nat → Nat) (G : zG) (p0 : Nat) (p1 : Nat) (p2 : Nat) (V : zI) (L : zL) : Option (Int32 × zI × zL) :=
  g_X4_isSilent N G p0 p1 p2 V L
set_option maxHeartbeats 4000000 in
set_option maxRecDepth 100000 in
theorem w_X4_isSilent_11 {M : zM} {D : va_G} {cy : Nat → ClassId} {ad : Nat → Nat} {n : Nat} {K N : Nat → Nat} {G : zG} {r' : Int32 × zI × zL} (X : RXc M D cy ad n K N G cX4_isSilent 4 RX4 6 148) (Z : RZi M (zC D cy ad n K N G) .boolean r'.1 r'.2.1 r'.2.2) {p0 : Nat} (hp0 : p0 < n ∧ K p0 = 3) {p1 : Nat} (hp1 : p1 < n ∧ K p1 = 7) {p2 : Nat} (hp2 : p2 < n ∧ K p2 = 5) (nn : Nat) : ∀ (x3 : Int32) (V : zI) (L : zL) (ls : Array Slot) (hl : lv_has ls 4 [(0, .ref (ad p0)), (1, .ref (ad p1)), (2, .ref (ad p2)), (3, .int x3)]) (hf : zfix (b_X4_isSilent_11 N G p0 p1 p2) nn (x3, V, L) = some r'), RG M (zC D cy ad n K N G) V L 11 ls [] := by
  induction nn with
  | zero => intro x3 V L ls hl hf; cases hf
  | succ nn ih =>
  intro x3 V L ls hl hf
  have hk11 : ∀ (x3 : Int32) (V : zI) (L : zL) (ls : Array Slot), lv_has ls 4 [(0, .ref (ad p0)), (1, .ref (ad p1)), (2, .ref (ad p2)), (3, .int x3)] → zfix (b_X4_isSilent_11 N G p0 p1 p2) nn (x3, V, L) = some r' → RG M (zC D cy ad n K N G) V L 11 ls [] := ih
  have hf : b_X4_isSilent_11 N G p0 p1 p2 (zfix (b_X4_isSilent_11 N G p0 p1 p2) nn) (x3, V, L) = some r' := hf
  generalize zfix (b_X4_isSilent_11 N G p0 p1 p2) nn = k11 at hk11 hf
  clear ih
  unfold b_X4_isSilent_11 at hf
  refine z_iload_n X.1 dX4_isSilent_11 rfl (lv_at hl 3 rfl) ?_
  refine z_aload_n X.1 dX4_isSilent_12 rfl (lv_at hl 1 rfl) ?_
  refine c_geti X hp1 cf_X4_19 dX4_isSilent_13 ?_
  refine z_icmp_ge (tgt := 38) X.1 dX4_isSilent_16 (by decide) (fun c_ => ?_) (fun c_ => ?_)
  · have hf := (if_pos c_).symm.trans hf
    refine z_iconst (v := 1) X.1 dX4_isSilent_38 (by decide) ?_
    exact c_iret X Z hf (by decide) dX4_isSilent_39
  · have hf := (if_neg c_).symm.trans hf
    refine z_aload_n X.1 dX4_isSilent_19 rfl (lv_at hl 0 rfl) ?_
    refine z_aload_n X.1 dX4_isSilent_20 rfl (lv_at hl 1 rfl) ?_
    refine z_aload_n X.1 dX4_isSilent_21 rfl (lv_at hl 2 rfl) ?_
    refine z_iload_n X.1 dX4_isSilent_22 rfl (lv_at hl 3 rfl) ?_
    obtain ⟨r1, hc1, hf⟩ := z_bind hf
    refine c_callVi [.ref (ad p1), .ref (ad p2), .int x3] X hl.1 (c_X4_targetOf D cy ad X.2.2 hp0 hp1 hp2 hc1) hp0 ⟨by decide, rfl⟩ cm_X4_25 cw_X4_targetOf rfl cq_X4_targetOf ⟨by decide, by decide⟩ (Nat.le_of_ble_eq_true rfl) rfl dX4_isSilent_23 ?_
    refine z_iconst (v := -1) X.1 dX4_isSilent_26 (by decide) ?_
    refine z_icmp_eq (tgt := 32) X.1 dX4_isSilent_27 (by decide) (fun c_ => ?_) (fun c_ => ?_)
    · have hf := (if_pos c_).symm.trans hf
      refine z_iinc (v := x3 + 1) (k0 := 3) (lv' := [(3, .int (x3 + 1)), (0, .ref (ad p0)), (1, .ref (ad p1)), (2, .ref (ad p2))]) X.1 dX4_isSilent_32 hl rfl rfl (by decide) rfl (fun ls hl => ?_)
      refine z_goto (tgt := 11) X.1 dX4_isSilent_35 (by decide) ?_
      exact hk11 (x3 + 1) r1.2.1 r1.2.2 ls (lv_sub hl [1, 2, 3, 0] rfl) hf
    · have hf := (if_neg c_).symm.trans hf
      refine z_iconst (v := 0) X.1 dX4_isSilent_30 (by decide) ?_
      exact c_iret X Z hf (by decide) dX4_isSilent_31

set_option maxHeartbeats 4000000 in
set_option maxRecDepth 100000 in
theorem w_X4_isSilent {M : zM} {D : va_G} {cy : Nat → ClassId} {ad : Nat → Nat} {n : Nat} {K N : Nat → Nat} {G : zG} {r' : Int32 × zI × zL} (X : RXc M D cy ad n K N G cX4_isSilent 4 RX4 6 148) (Z : RZi M (zC D cy ad n K N G) .boolean r'.1 r'.2.1 r'.2.2) {p0 : Nat} (hp0 : p0 < n ∧ K p0 = 3) {p1 : Nat} (hp1 : p1 < n ∧ K p1 = 7) {p2 : Nat} (hp2 : p2 < n ∧ K p2 = 5)  (V : zI) (L : zL) (ls : Array Slot) (hl : lv_has ls 4 [(0, .ref (ad p0)), (1, .ref (ad p1)), (2, .ref (ad p2))]) (hf : g_X4_isSilent N G p0 p1 p2 V L = some r') : RG M (zC D cy ad n K N G) V L 0 ls [] := by
  unfold g_X4_isSilent at hf
  refine z_aload_n X.1 dX4_isSilent_0 rfl (lv_at hl 2 rfl) ?_
  refine c_geti X hp2 cf_X4_57 dX4_isSilent_1 ?_
  refine z_if_le (tgt := 9) X.1 dX4_isSilent_4 (by decide) (fun c_ => ?_) (fun c_ => ?_)
  · have hf := (if_pos c_).symm.trans hf
    refine z_iconst (v := 0) X.1 dX4_isSilent_9 (by decide) ?_
    refine z_istore_n (lv' := [(3, .int 0), (0, .ref (ad p0)), (1, .ref (ad p1)), (2, .ref (ad p2))]) X.1 dX4_isSilent_10 rfl hl (by decide) rfl (fun ls hl => ?_)
    exact w_X4_isSilent_11 X Z hp0 hp1 hp2 FU 0 V L ls (lv_sub hl [1, 2, 3, 0] rfl) hf
  · have hf := (if_neg c_).symm.trans hf
    refine z_iconst (v := 0) X.1 dX4_isSilent_7 (by decide) ?_
    exact c_iret X Z hf (by decide) dX4_isSilent_8

theorem c_X4_isSilent (D : va_G) (cy : Nat → ClassId) (ad : Nat → Nat) {n : Nat} {K N : Nat → Nat} {G : zG} (hWF : zWF n K G) {p0 : Nat} {p1 : Nat} {p2 : Nat} {V : zI} {L : zL} (hp0 : p0 < n ∧ K p0 = 3) (hp1 : p1 < n ∧ K p1 = 7) (hp2 : p2 < n ∧ K p2 = 5) {r' : Int32 × zI × zL} (hf : f_X4_isSilent N G p0 p1 p2 V L = some r') : RCi (zC D cy ad n K N G) yX4_isSilent cX4_isSilent 4 .boolean 6 148 [.ref (ad p0), .ref (ad p1), .ref (ad p2)] V L r'.1 r'.2.1 r'.2.2 := by
  unfold f_X4_isSilent at hf
  exact RCi.of (by decide) hWF (Nat.le_of_ble_eq_true rfl) (fun M X Z ls hl => w_X4_isSilent X Z hp0 hp1 hp2 V L ls hl hf)
def b_X10_silent_18 (N : Nat → Nat) (G : zG) (p0 : Nat) (p0_2 : Nat) (p0_5 : Nat) (p0_6 : Nat) (p0_7 : Nat) (k18 : Int32 × Int32 × zI × zL → Option (Int32 × zI × zL)) : Int32 × Int32 × zI × zL → Option (Int32 × zI × zL) := fun ⟨x1, x2, V, L⟩ =>
  (if x1 < x2 then some ((-1), V, L) else (f_X4_isSilent N G p0_7 p0_2 p0_6 V L).bind fun r1 => (if r1.1 = 0 then (f_X4_passDay_n N G p0_7 p0_2 p0_6 r1.2.1 r1.2.2).bind fun r2 => k18 (x1, (x2 + 1), r2.1, r2.2) else some (x2, r1.2.1, r1.2.2)))
def g_X10_silent (N : Nat → Nat) (G : zG) (p0 : Nat) (p0_2 : Nat) (p0_5 : Nat) (p0_6 : Nat) (p0_7 : Nat) (V : zI) (L : zL) : Option (Int32 × zI × zL) :=
  (f_X10_daysAhead N G p0 V L).bind fun r1 => (f_X7_copyFrom N G p0_6 p0_5 V L).bind fun r2 => zfix (b_X10_silent_18 N G p0 p0_2 p0_5 p0_6 p0_7) FU (r1, 0, r2.1, r2.2)
def f_X10_silent (N : Nat → Nat) (G : zG) (p0 : Nat) (V : zI) (L : zL) : Option (Int32 × zI × zL) :=
  (G p0 2).bind fun p0_2 => (G p0 5).bind fun p0_5 => (G p0 6).bind fun p0_6 => (G p0 7).bind fun p0_7 => g_X10_silent N G p0 p0_2 p0_5 p0_6 p0_7 V L
set_option maxHeartbeats 4000000 in
set_option maxRecDepth 100000 in
theorem w_X10_silent_18 {M : zM} {D : va_G} {cy : Nat → ClassId} {ad : Nat → Nat} {n : Nat} {K N : Nat → Nat} {G : zG} {r' : Int32 × zI × zL} (X : RXc M D cy ad n K N G cX10_silent 3 RX10 7 174) (Z : RZi M (zC D cy ad n K N G) .int r'.1 r'.2.1 r'.2.2) {p0 : Nat} (hp0 : p0 < n ∧ K p0 = 8) {p0_2 : Nat} (hp0_2 : p0_2 < n ∧ K p0_2 = 7) (ep0_2 : G p0 2 = some p0_2) {p0_5 : Nat} (hp0_5 : p0_5 < n ∧ K p0_5 = 5) (ep0_5 : G p0 5 = some p0_5) {p0_6 : Nat} (hp0_6 : p0_6 < n ∧ K p0_6 = 5) (ep0_6 : G p0 6 = some p0_6) {p0_7 : Nat} (hp0_7 : p0_7 < n ∧ K p0_7 = 3) (ep0_7 : G p0 7 = some p0_7) (nn : Nat) : ∀ (x1 : Int32) (x2 : Int32) (V : zI) (L : zL) (ls : Array Slot) (hl : lv_has ls 3 [(0, .ref (ad p0)), (1, .int x1), (2, .int x2)]) (hf : zfix (b_X10_silent_18 N G p0 p0_2 p0_5 p0_6 p0_7) nn (x1, x2, V, L) = some r'), RG M (zC D cy ad n K N G) V L 18 ls [] := by
  induction nn with
  | zero => intro x1 x2 V L ls hl hf; cases hf
  | succ nn ih =>
  intro x1 x2 V L ls hl hf
  have hk18 : ∀ (x1 : Int32) (x2 : Int32) (V : zI) (L : zL) (ls : Array Slot), lv_has ls 3 [(0, .ref (ad p0)), (1, .int x1), (2, .int x2)] → zfix (b_X10_silent_18 N G p0 p0_2 p0_5 p0_6 p0_7) nn (x1, x2, V, L) = some r' → RG M (zC D cy ad n K N G) V L 18 ls [] := ih
  have hf : b_X10_silent_18 N G p0 p0_2 p0_5 p0_6 p0_7 (zfix (b_X10_silent_18 N G p0 p0_2 p0_5 p0_6 p0_7) nn) (x1, x2, V, L) = some r' := hf
  generalize zfix (b_X10_silent_18 N G p0 p0_2 p0_5 p0_6 p0_7) nn = k18 at hk18 hf
  clear ih
  unfold b_X10_silent_18 at hf
  refine z_iload_n X.1 dX10_silent_18 rfl (lv_at hl 2 rfl) ?_
  refine z_iload_n X.1 dX10_silent_19 rfl (lv_at hl 1 rfl) ?_
  refine z_icmp_gt (tgt := 65) X.1 dX10_silent_20 (by decide) (fun c_ => ?_) (fun c_ => ?_)
  · have hf := (if_pos c_).symm.trans hf
    refine z_iconst (v := -1) X.1 dX10_silent_65 (by decide) ?_
    exact c_iret X Z hf rfl dX10_silent_66
  · have hf := (if_neg c_).symm.trans hf
    refine z_aload_n X.1 dX10_silent_23 rfl (lv_at hl 0 rfl) ?_
    refine c_geta X hp0 cf_X10_43 ep0_7 dX10_silent_24 ?_
    refine z_aload_n X.1 dX10_silent_27 rfl (lv_at hl 0 rfl) ?_
    refine c_geta X hp0 cf_X10_20 ep0_2 dX10_silent_28 ?_
    refine z_aload_n X.1 dX10_silent_31 rfl (lv_at hl 0 rfl) ?_
    refine c_geta X hp0 cf_X10_37 ep0_6 dX10_silent_32 ?_
    obtain ⟨r1, hc1, hf⟩ := z_bind hf
    refine c_callVi [.ref (ad p0_2), .ref (ad p0_6)] X hl.1 (c_X4_isSilent D cy ad X.2.2 hp0_7 hp0_2 hp0_6 hc1) hp0_7 ⟨by decide, rfl⟩ cm_X10_198 cw_X4_isSilent rfl cq_X4_isSilent ⟨by decide, by decide⟩ (Nat.le_of_ble_eq_true rfl) rfl dX10_silent_35 ?_
    refine z_if_eq (tgt := 43) X.1 dX10_silent_38 (by decide) (fun c_ => ?_) (fun c_ => ?_)
    · have hf := (if_pos c_).symm.trans hf
      refine z_aload_n X.1 dX10_silent_43 rfl (lv_at hl 0 rfl) ?_
      refine c_geta X hp0 cf_X10_43 ep0_7 dX10_silent_44 ?_
      refine z_aload_n X.1 dX10_silent_47 rfl (lv_at hl 0 rfl) ?_
      refine c_geta X hp0 cf_X10_20 ep0_2 dX10_silent_48 ?_
      refine z_aload_n X.1 dX10_silent_51 rfl (lv_at hl 0 rfl) ?_
      refine c_geta X hp0 cf_X10_37 ep0_6 dX10_silent_52 ?_
      refine c_null X dX10_silent_55 ?_
      obtain ⟨r2, hc2, hf⟩ := z_bind hf
      refine c_callVv [.ref (ad p0_2), .ref (ad p0_6), .null] X hl.1 (c_X4_passDay_n D cy ad X.2.2 hp0_7 hp0_2 hp0_6 hc2) hp0_7 ⟨by decide, rfl⟩ cm_X10_190 cw_X4_passDay rfl cq_X4_passDay ⟨by decide, by decide⟩ (Nat.le_of_ble_eq_true rfl) rfl dX10_silent_56 ?_
      refine z_iinc (v := x2 + 1) (k0 := 2) (lv' := [(2, .int (x2 + 1)), (0, .ref (ad p0)), (1, .int x1)]) X.1 dX10_silent_59 hl rfl rfl (by decide) rfl (fun ls hl => ?_)
      refine z_goto (tgt := 18) X.1 dX10_silent_62 (by decide) ?_
      exact hk18 x1 (x2 + 1) r2.1 r2.2 ls (lv_sub hl [1, 2, 0] rfl) hf
    · have hf := (if_neg c_).symm.trans hf
      refine z_iload_n X.1 dX10_silent_41 rfl (lv_at hl 2 rfl) ?_
      exact c_iret X Z hf rfl dX10_silent_42

set_option maxHeartbeats 4000000 in
set_option maxRecDepth 100000 in
theorem w_X10_silent {M : zM} {D : va_G} {cy : Nat → ClassId} {ad : Nat → Nat} {n : Nat} {K N : Nat → Nat} {G : zG} {r' : Int32 × zI × zL} (X : RXc M D cy ad n K N G cX10_silent 3 RX10 7 174) (Z : RZi M (zC D cy ad n K N G) .int r'.1 r'.2.1 r'.2.2) {p0 : Nat} (hp0 : p0 < n ∧ K p0 = 8) {p0_2 : Nat} (hp0_2 : p0_2 < n ∧ K p0_2 = 7) (ep0_2 : G p0 2 = some p0_2) {p0_5 : Nat} (hp0_5 : p0_5 < n ∧ K p0_5 = 5) (ep0_5 : G p0 5 = some p0_5) {p0_6 : Nat} (hp0_6 : p0_6 < n ∧ K p0_6 = 5) (ep0_6 : G p0 6 = some p0_6) {p0_7 : Nat} (hp0_7 : p0_7 < n ∧ K p0_7 = 3) (ep0_7 : G p0 7 = some p0_7)  (V : zI) (L : zL) (ls : Array Slot) (hl : lv_has ls 3 [(0, .ref (ad p0))]) (hf : g_X10_silent N G p0 p0_2 p0_5 p0_6 p0_7 V L = some r') : RG M (zC D cy ad n K N G) V L 0 ls [] := by
  unfold g_X10_silent at hf
  refine z_aload_n X.1 dX10_silent_0 rfl (lv_at hl 0 rfl) ?_
  obtain ⟨r1, hc1, hf⟩ := z_bind hf
  refine c_callVi [] X hl.1 (c_X10_daysAhead D cy ad X.2.2 hp0 hc1) hp0 ⟨by decide, rfl⟩ cm_X10_182 cw_X10_daysAhead rfl cq_X10_daysAhead ⟨by decide, by decide⟩ (Nat.le_of_ble_eq_true rfl) rfl dX10_silent_1 ?_
  refine z_istore_n (lv' := [(1, .int r1), (0, .ref (ad p0))]) X.1 dX10_silent_4 rfl hl (by decide) rfl (fun ls hl => ?_)
  refine z_aload_n X.1 dX10_silent_5 rfl (lv_at hl 1 rfl) ?_
  refine c_geta X hp0 cf_X10_37 ep0_6 dX10_silent_6 ?_
  refine z_aload_n X.1 dX10_silent_9 rfl (lv_at hl 1 rfl) ?_
  refine c_geta X hp0 cf_X10_33 ep0_5 dX10_silent_10 ?_
  obtain ⟨r2, hc2, hf⟩ := z_bind hf
  refine c_callVv [.ref (ad p0_5)] X hl.1 (c_X7_copyFrom D cy ad X.2.2 hp0_6 hp0_5 hc2) hp0_6 ⟨by decide, rfl⟩ cm_X10_186 cw_X7_copyFrom rfl cq_X7_copyFrom ⟨by decide, by decide⟩ (Nat.le_of_ble_eq_true rfl) rfl dX10_silent_13 ?_
  refine z_iconst (v := 0) X.1 dX10_silent_16 (by decide) ?_
  refine z_istore_n (lv' := [(2, .int 0), (1, .int r1), (0, .ref (ad p0))]) X.1 dX10_silent_17 rfl hl (by decide) rfl (fun ls hl => ?_)
  exact w_X10_silent_18 X Z hp0 hp0_2 ep0_2 hp0_5 ep0_5 hp0_6 ep0_6 hp0_7 ep0_7 FU r1 0 r2.1 r2.2 ls (lv_sub hl [2, 1, 0] rfl) hf

theorem c_X10_silent (D : va_G) (cy : Nat → ClassId) (ad : Nat → Nat) {n : Nat} {K N : Nat → Nat} {G : zG} (hWF : zWF n K G) {p0 : Nat} {V : zI} {L : zL} (hp0 : p0 < n ∧ K p0 = 8) {r' : Int32 × zI × zL} (hf : f_X10_silent N G p0 V L = some r') : RCi (zC D cy ad n K N G) yX10_silent cX10_silent 3 .int 7 174 [.ref (ad p0)] V L r'.1 r'.2.1 r'.2.2 := by
  unfold f_X10_silent at hf
  obtain ⟨p0_2, ep0_2, hf⟩ := z_bind hf
  have hp0_2 := hWF.get hp0 (k := 2) (c := 7) rfl ep0_2
  obtain ⟨p0_5, ep0_5, hf⟩ := z_bind hf
  have hp0_5 := hWF.get hp0 (k := 5) (c := 5) rfl ep0_5
  obtain ⟨p0_6, ep0_6, hf⟩ := z_bind hf
  have hp0_6 := hWF.get hp0 (k := 6) (c := 5) rfl ep0_6
  obtain ⟨p0_7, ep0_7, hf⟩ := z_bind hf
  have hp0_7 := hWF.get hp0 (k := 7) (c := 3) rfl ep0_7
  exact RCi.of (by decide) hWF (Nat.le_of_ble_eq_true rfl) (fun M X Z ls hl => w_X10_silent X Z hp0 hp0_2 ep0_2 hp0_5 ep0_5 hp0_6 ep0_6 hp0_7 ep0_7 V L ls hl hf)
def b_X6_open_5 (N : Nat → Nat) (G : zG) (p0 : Nat) (p1 : Nat) (p0_7 : Nat) (p1_1 : Nat) (V : zI) (L : zL) (k5 : Int64 × Int32 → Option (Int64)) : Int64 × Int32 → Option (Int64) := fun ⟨x2, x4⟩ =>
  (if 36 ≤ x4 then some x2 else if inB x4 (N p0_7) then (if (V p0_7 x4.toNatClampNeg) ≤ 0 then k5 (x2, (x4 + 1)) else if inB x4 (N p1_1) then (if (V p1_1 x4.toNatClampNeg) ≤ 0 then k5 (x2, (x4 + 1)) else k5 ((x2 ||| ((1 : Int64) <<< (x4.toInt64 &&& 63))), (x4 + 1))) else none) else none)
def g_X6_open (N : Nat → Nat) (G : zG) (p0 : Nat) (p1 : Nat) (p0_7 : Nat) (p1_1 : Nat) (V : zI) (L : zL) : Option (Int64) :=
  zfix (b_X6_open_5 N G p0 p1 p0_7 p1_1 V L) FU (0, 0)
def f_X6_open (N : Nat → Nat) (G : zG) (p0 : Nat) (p1 : Nat) (V : zI) (L : zL) : Option (Int64) :=
  (G p0 7).bind fun p0_7 => (G p1 1).bind fun p1_1 => g_X6_open N G p0 p1 p0_7 p1_1 V L
set_option maxHeartbeats 4000000 in
set_option maxRecDepth 100000 in
theorem w_X6_open_5 {M : zM} {D : va_G} {cy : Nat → ClassId} {ad : Nat → Nat} {n : Nat} {K N : Nat → Nat} {G : zG} {V : zI} {L : zL} {r' : Int64} (X : RXc M D cy ad n K N G cX6_open 5 RX6 0 0) (Z : RZl M (zC D cy ad n K N G) r' V L) {p0 : Nat} (hp0 : p0 < n ∧ K p0 = 7) {p1 : Nat} (hp1 : p1 < n ∧ K p1 = 5) {p0_7 : Nat} (hp0_7 : p0_7 < n ∧ K p0_7 = 100) (ep0_7 : G p0 7 = some p0_7) {p1_1 : Nat} (hp1_1 : p1_1 < n ∧ K p1_1 = 100) (ep1_1 : G p1 1 = some p1_1) (nn : Nat) : ∀ (x2 : Int64) (x4 : Int32) (ls : Array Slot) (hl : lv_has ls 5 [(0, .ref (ad p0)), (1, .ref (ad p1)), (2, .long x2), (4, .int x4)]) (hf : zfix (b_X6_open_5 N G p0 p1 p0_7 p1_1 V L) nn (x2, x4) = some r'), RG M (zC D cy ad n K N G) V L 5 ls [] := by
  induction nn with
  | zero => intro x2 x4 ls hl hf; cases hf
  | succ nn ih =>
  intro x2 x4 ls hl hf
  have hk5 : ∀ (x2 : Int64) (x4 : Int32) (ls : Array Slot), lv_has ls 5 [(0, .ref (ad p0)), (1, .ref (ad p1)), (2, .long x2), (4, .int x4)] → zfix (b_X6_open_5 N G p0 p1 p0_7 p1_1 V L) nn (x2, x4) = some r' → RG M (zC D cy ad n K N G) V L 5 ls [] := ih
  have hf : b_X6_open_5 N G p0 p1 p0_7 p1_1 V L (zfix (b_X6_open_5 N G p0 p1 p0_7 p1_1 V L) nn) (x2, x4) = some r' := hf
  generalize zfix (b_X6_open_5 N G p0 p1 p0_7 p1_1 V L) nn = k5 at hk5 hf
  clear ih
  unfold b_X6_open_5 at hf
  refine z_iload X.1 dX6_open_5 (lv_at hl 3 rfl) ?_
  refine z_bipush (v := 36) X.1 dX6_open_7 (by decide) ?_
  refine z_icmp_ge (tgt := 45) X.1 dX6_open_9 (by decide) (fun c_ => ?_) (fun c_ => ?_)
  · have hf := (if_pos c_).symm.trans hf
    refine z_lload_n X.1 dX6_open_45 rfl (lv_at hl 2 rfl) ?_
    exact c_lretS X Z hf dX6_open_46
  · have hf := (if_neg c_).symm.trans hf
    refine z_aload_n X.1 dX6_open_12 rfl (lv_at hl 0 rfl) ?_
    refine c_geta X hp0 cf_X6_9 ep0_7 dX6_open_13 ?_
    refine z_iload X.1 dX6_open_16 (lv_at hl 3 rfl) ?_
    obtain ⟨hb1, hf⟩ := z_ite hf
    refine c_iald X hp0_7 hb1 dX6_open_18 ?_
    refine z_if_le (tgt := 39) X.1 dX6_open_19 (by decide) (fun c_ => ?_) (fun c_ => ?_)
    · have hf := (if_pos c_).symm.trans hf
      refine z_iinc (v := x4 + 1) (k0 := 3) (lv' := [(4, .int (x4 + 1)), (0, .ref (ad p0)), (1, .ref (ad p1)), (2, .long x2)]) X.1 dX6_open_39 hl rfl rfl (by decide) rfl (fun ls hl => ?_)
      refine z_goto (tgt := 5) X.1 dX6_open_42 (by decide) ?_
      exact hk5 x2 (x4 + 1) ls (lv_sub hl [1, 2, 3, 0] rfl) hf
    · have hf := (if_neg c_).symm.trans hf
      refine z_aload_n X.1 dX6_open_22 rfl (lv_at hl 1 rfl) ?_
      refine c_geta X hp1 cf_X6_15 ep1_1 dX6_open_23 ?_
      refine z_iload X.1 dX6_open_26 (lv_at hl 3 rfl) ?_
      obtain ⟨hb2, hf⟩ := z_ite hf
      refine c_iald X hp1_1 hb2 dX6_open_28 ?_
      refine z_if_le (tgt := 39) X.1 dX6_open_29 (by decide) (fun c_ => ?_) (fun c_ => ?_)
      · have hf := (if_pos c_).symm.trans hf
        refine z_iinc (v := x4 + 1) (k0 := 3) (lv' := [(4, .int (x4 + 1)), (0, .ref (ad p0)), (1, .ref (ad p1)), (2, .long x2)]) X.1 dX6_open_39 hl rfl rfl (by decide) rfl (fun ls hl => ?_)
        refine z_goto (tgt := 5) X.1 dX6_open_42 (by decide) ?_
        exact hk5 x2 (x4 + 1) ls (lv_sub hl [1, 2, 3, 0] rfl) hf
      · have hf := (if_neg c_).symm.trans hf
        refine z_lload_n X.1 dX6_open_32 rfl (lv_at hl 2 rfl) ?_
        refine z_lconst (v := 1) X.1 dX6_open_33 (by decide) ?_
        refine z_iload X.1 dX6_open_34 (lv_at hl 3 rfl) ?_
        refine z_lshl X.1 dX6_open_36 ?_
        refine z_lor X.1 dX6_open_37 ?_
        refine z_lstore_n (lv' := [(2, .long (x2 ||| ((1 : Int64) <<< (x4.toInt64 &&& 63)))), (0, .ref (ad p0)), (1, .ref (ad p1)), (4, .int x4)]) X.1 dX6_open_38 rfl hl (by decide) rfl (fun ls hl => ?_)
        refine z_iinc (v := x4 + 1) (k0 := 3) (lv' := [(4, .int (x4 + 1)), (2, .long (x2 ||| ((1 : Int64) <<< (x4.toInt64 &&& 63)))), (0, .ref (ad p0)), (1, .ref (ad p1))]) X.1 dX6_open_39 hl rfl rfl (by decide) rfl (fun ls hl => ?_)
        refine z_goto (tgt := 5) X.1 dX6_open_42 (by decide) ?_
        exact hk5 (x2 ||| ((1 : Int64) <<< (x4.toInt64 &&& 63))) (x4 + 1) ls (lv_sub hl [2, 3, 1, 0] rfl) hf

set_option maxHeartbeats 4000000 in
set_option maxRecDepth 100000 in
theorem w_X6_open {M : zM} {D : va_G} {cy : Nat → ClassId} {ad : Nat → Nat} {n : Nat} {K N : Nat → Nat} {G : zG} {V : zI} {L : zL} {r' : Int64} (X : RXc M D cy ad n K N G cX6_open 5 RX6 0 0) (Z : RZl M (zC D cy ad n K N G) r' V L) {p0 : Nat} (hp0 : p0 < n ∧ K p0 = 7) {p1 : Nat} (hp1 : p1 < n ∧ K p1 = 5) {p0_7 : Nat} (hp0_7 : p0_7 < n ∧ K p0_7 = 100) (ep0_7 : G p0 7 = some p0_7) {p1_1 : Nat} (hp1_1 : p1_1 < n ∧ K p1_1 = 100) (ep1_1 : G p1 1 = some p1_1)  (ls : Array Slot) (hl : lv_has ls 5 [(0, .ref (ad p0)), (1, .ref (ad p1))]) (hf : g_X6_open N G p0 p1 p0_7 p1_1 V L = some r') : RG M (zC D cy ad n K N G) V L 0 ls [] := by
  unfold g_X6_open at hf
  refine z_lconst (v := 0) X.1 dX6_open_0 (by decide) ?_
  refine z_lstore_n (lv' := [(2, .long 0), (0, .ref (ad p0)), (1, .ref (ad p1))]) X.1 dX6_open_1 rfl hl (by decide) rfl (fun ls hl => ?_)
  refine z_iconst (v := 0) X.1 dX6_open_2 (by decide) ?_
  refine z_istore (lv' := [(4, .int 0), (2, .long 0), (0, .ref (ad p0)), (1, .ref (ad p1))]) X.1 dX6_open_3 hl (by decide) rfl (fun ls hl => ?_)
  exact w_X6_open_5 X Z hp0 hp1 hp0_7 ep0_7 hp1_1 ep1_1 FU 0 0 ls (lv_sub hl [2, 3, 1, 0] rfl) hf

theorem c_X6_open (D : va_G) (cy : Nat → ClassId) (ad : Nat → Nat) {n : Nat} {K N : Nat → Nat} {G : zG} (hWF : zWF n K G) {p0 : Nat} {p1 : Nat} {V : zI} {L : zL} (hp0 : p0 < n ∧ K p0 = 7) (hp1 : p1 < n ∧ K p1 = 5) {r' : Int64} (hf : f_X6_open N G p0 p1 V L = some r') : RCl (zC D cy ad n K N G) yX6_open cX6_open 5 0 0 [.ref (ad p0), .ref (ad p1)] V L r' V L := by
  unfold f_X6_open at hf
  obtain ⟨p0_7, ep0_7, hf⟩ := z_bind hf
  have hp0_7 := hWF.get hp0 (k := 7) (c := 100) rfl ep0_7
  obtain ⟨p1_1, ep1_1, hf⟩ := z_bind hf
  have hp1_1 := hWF.get hp1 (k := 1) (c := 100) rfl ep1_1
  exact RCl.of (by decide) hWF (Nat.le_of_ble_eq_true rfl) (fun M X Z ls hl => w_X6_open X Z hp0 hp1 hp0_7 ep0_7 hp1_1 ep1_1 ls hl hf)
def g_X6_from (x0 : Int64) (x2 : Int32) : Option (Int32) :=
  some ((((x0.toUInt64 >>> ((x2 * 6).toInt64.toUInt64 &&& Int64.toUInt64 63)).toInt64).toInt32) &&& 63)
def f_X6_from (x0 : Int64) (x2 : Int32) : Option (Int32) :=
  g_X6_from x0 x2
set_option maxHeartbeats 4000000 in
set_option maxRecDepth 100000 in
theorem w_X6_from {M : zM} {D : va_G} {cy : Nat → ClassId} {ad : Nat → Nat} {n : Nat} {K N : Nat → Nat} {G : zG} {V : zI} {L : zL} {r' : Int32} (X : RXc M D cy ad n K N G cX6_from 3 RX6 0 0) (Z : RZi M (zC D cy ad n K N G) .int r' V L) (x0 : Int64) (x2 : Int32) (ls : Array Slot) (hl : lv_has ls 3 [(0, .long x0), (2, .int x2)]) (hf : g_X6_from x0 x2 = some r') : RG M (zC D cy ad n K N G) V L 0 ls [] := by
  unfold g_X6_from at hf
  refine z_lload_n X.1 dX6_from_0 rfl (lv_at hl 0 rfl) ?_
  refine z_iload_n X.1 dX6_from_1 rfl (lv_at hl 1 rfl) ?_
  refine z_bipush (v := 6) X.1 dX6_from_2 (by decide) ?_
  refine z_imul X.1 dX6_from_4 ?_
  refine z_lushr X.1 dX6_from_5 ?_
  refine z_l2i X.1 dX6_from_6 ?_
  refine z_bipush (v := 63) X.1 dX6_from_7 (by decide) ?_
  refine z_iand X.1 dX6_from_9 ?_
  exact c_iretS X Z hf rfl dX6_from_10

theorem c_X6_from (D : va_G) (cy : Nat → ClassId) (ad : Nat → Nat) {n : Nat} {K N : Nat → Nat} {G : zG} (hWF : zWF n K G) {x0 : Int64} {x2 : Int32} {V : zI} {L : zL} {r' : Int32} (hf : f_X6_from x0 x2 = some r') : RCi (zC D cy ad n K N G) yX6_from cX6_from 3 .int 0 0 [.long x0, .int x2] V L r' V L := by
  unfold f_X6_from at hf
  exact RCi.of (by decide) hWF (Nat.le_of_ble_eq_true rfl) (fun M X Z ls hl => w_X6_from X Z x0 x2 ls hl hf)
def b_X6_reach_20 (k7 : Int64 × Int32 × Int32 → Option (Int32)) (k20 : Int64 × Int32 × Int32 × Int32 × Int32 → Option (Int32)) : Int64 × Int32 × Int32 × Int32 × Int32 → Option (Int32) := fun ⟨x0, x3, x4, x5, x6⟩ =>
  (if 6 ≤ x6 then (if x3 = x5 then some x3 else k7 (x0, x3, (x4 + 1))) else (if ((x3 >>> (x6 &&& 31)) &&& 1) = 0 then k20 (x0, x3, x4, x5, (x6 + 1)) else (f_X6_from x0 x6).bind fun r1 => k20 (x0, (x3 ||| r1), x4, x5, (x6 + 1))))
def b_X6_reach_7 (k7 : Int64 × Int32 × Int32 → Option (Int32)) : Int64 × Int32 × Int32 → Option (Int32) := fun ⟨x0, x3, x4⟩ =>
  (if 6 ≤ x4 then some x3 else zfix (b_X6_reach_20 k7) FU (x0, x3, x4, x3, 0))
def g_X6_reach (x0 : Int64) (x2 : Int32) : Option (Int32) :=
  zfix (b_X6_reach_7) FU (x0, ((1 : Int32) <<< (x2 &&& 31)), 1)
def f_X6_reach (x0 : Int64) (x2 : Int32) : Option (Int32) :=
  g_X6_reach x0 x2
set_option maxHeartbeats 4000000 in
set_option maxRecDepth 100000 in
theorem w_X6_reach_20 {M : zM} {D : va_G} {cy : Nat → ClassId} {ad : Nat → Nat} {n : Nat} {K N : Nat → Nat} {G : zG} {V : zI} {L : zL} {r' : Int32} (X : RXc M D cy ad n K N G cX6_reach 7 RX6 1 22) (Z : RZi M (zC D cy ad n K N G) .int r' V L) {k7 : Int64 × Int32 × Int32 → Option (Int32)} (hk7 : ∀ (x0 : Int64) (x3 : Int32) (x4 : Int32) (ls : Array Slot), lv_has ls 7 [(0, .long x0), (3, .int x3), (4, .int x4)] → k7 (x0, x3, x4) = some r' → RG M (zC D cy ad n K N G) V L 7 ls []) (nn : Nat) : ∀ (x0 : Int64) (x3 : Int32) (x4 : Int32) (x5 : Int32) (x6 : Int32) (ls : Array Slot) (hl : lv_has ls 7 [(0, .long x0), (3, .int x3), (4, .int x4), (5, .int x5), (6, .int x6)]) (hf : zfix (b_X6_reach_20 k7) nn (x0, x3, x4, x5, x6) = some r'), RG M (zC D cy ad n K N G) V L 20 ls [] := by
  induction nn with
  | zero => intro x0 x3 x4 x5 x6 ls hl hf; cases hf
  | succ nn ih =>
  intro x0 x3 x4 x5 x6 ls hl hf
  have hk20 : ∀ (x0 : Int64) (x3 : Int32) (x4 : Int32) (x5 : Int32) (x6 : Int32) (ls : Array Slot), lv_has ls 7 [(0, .long x0), (3, .int x3), (4, .int x4), (5, .int x5), (6, .int x6)] → zfix (b_X6_reach_20 k7) nn (x0, x3, x4, x5, x6) = some r' → RG M (zC D cy ad n K N G) V L 20 ls [] := ih
  have hf : b_X6_reach_20 k7 (zfix (b_X6_reach_20 k7) nn) (x0, x3, x4, x5, x6) = some r' := hf
  generalize zfix (b_X6_reach_20 k7) nn = k20 at hk20 hf
  clear ih
  unfold b_X6_reach_20 at hf
  refine z_iload X.1 dX6_reach_20 (lv_at hl 4 rfl) ?_
  refine z_bipush (v := 6) X.1 dX6_reach_22 (by decide) ?_
  refine z_icmp_ge (tgt := 51) X.1 dX6_reach_24 (by decide) (fun c_ => ?_) (fun c_ => ?_)
  · have hf := (if_pos c_).symm.trans hf
    refine z_iload_n X.1 dX6_reach_51 rfl (lv_at hl 1 rfl) ?_
    refine z_iload X.1 dX6_reach_52 (lv_at hl 3 rfl) ?_
    refine z_icmp_ne (tgt := 60) X.1 dX6_reach_54 (by decide) (fun c_ => ?_) (fun c_ => ?_)
    · have hf := (if_neg c_).symm.trans hf
      refine z_iinc (v := x4 + 1) (k0 := 2) (lv' := [(4, .int (x4 + 1)), (0, .long x0), (3, .int x3), (5, .int x5), (6, .int x6)]) X.1 dX6_reach_60 hl rfl rfl (by decide) rfl (fun ls hl => ?_)
      refine z_goto (tgt := 7) X.1 dX6_reach_63 (by decide) ?_
      exact hk7 x0 x3 (x4 + 1) ls (lv_sub hl [1, 2, 0] rfl) hf
    · have hf := (if_pos c_).symm.trans hf
      refine z_goto (tgt := 66) X.1 dX6_reach_57 (by decide) ?_
      refine z_iload_n X.1 dX6_reach_66 rfl (lv_at hl 1 rfl) ?_
      exact c_iretS X Z hf rfl dX6_reach_67
  · have hf := (if_neg c_).symm.trans hf
    refine z_iload_n X.1 dX6_reach_27 rfl (lv_at hl 1 rfl) ?_
    refine z_iload X.1 dX6_reach_28 (lv_at hl 4 rfl) ?_
    refine z_ishr X.1 dX6_reach_30 ?_
    refine z_iconst (v := 1) X.1 dX6_reach_31 (by decide) ?_
    refine z_iand X.1 dX6_reach_32 ?_
    refine z_if_eq (tgt := 45) X.1 dX6_reach_33 (by decide) (fun c_ => ?_) (fun c_ => ?_)
    · have hf := (if_pos c_).symm.trans hf
      refine z_iinc (v := x6 + 1) (k0 := 4) (lv' := [(6, .int (x6 + 1)), (0, .long x0), (3, .int x3), (4, .int x4), (5, .int x5)]) X.1 dX6_reach_45 hl rfl rfl (by decide) rfl (fun ls hl => ?_)
      refine z_goto (tgt := 20) X.1 dX6_reach_48 (by decide) ?_
      exact hk20 x0 x3 x4 x5 (x6 + 1) ls (lv_sub hl [1, 2, 3, 4, 0] rfl) hf
    · have hf := (if_neg c_).symm.trans hf
      refine z_iload_n X.1 dX6_reach_36 rfl (lv_at hl 1 rfl) ?_
      refine z_lload_n X.1 dX6_reach_37 rfl (lv_at hl 0 rfl) ?_
      refine z_iload X.1 dX6_reach_38 (lv_at hl 4 rfl) ?_
      obtain ⟨r1, hc1, hf⟩ := z_bind hf
      refine c_callSi [.long x0, .int x6] X hl.1 (c_X6_from D cy ad X.2.2 hc1) cm_X6_22 cw_X6_from rfl cq_X6_from ⟨by decide, by decide⟩ (Nat.le_of_ble_eq_true rfl) rfl dX6_reach_40 ?_
      refine z_ior X.1 dX6_reach_43 ?_
      refine z_istore_n (lv' := [(3, .int (x3 ||| r1)), (0, .long x0), (4, .int x4), (5, .int x5), (6, .int x6)]) X.1 dX6_reach_44 rfl hl (by decide) rfl (fun ls hl => ?_)
      refine z_iinc (v := x6 + 1) (k0 := 4) (lv' := [(6, .int (x6 + 1)), (3, .int (x3 ||| r1)), (0, .long x0), (4, .int x4), (5, .int x5)]) X.1 dX6_reach_45 hl rfl rfl (by decide) rfl (fun ls hl => ?_)
      refine z_goto (tgt := 20) X.1 dX6_reach_48 (by decide) ?_
      exact hk20 x0 (x3 ||| r1) x4 x5 (x6 + 1) ls (lv_sub hl [2, 1, 3, 4, 0] rfl) hf

set_option maxHeartbeats 4000000 in
set_option maxRecDepth 100000 in
theorem w_X6_reach_7 {M : zM} {D : va_G} {cy : Nat → ClassId} {ad : Nat → Nat} {n : Nat} {K N : Nat → Nat} {G : zG} {V : zI} {L : zL} {r' : Int32} (X : RXc M D cy ad n K N G cX6_reach 7 RX6 1 22) (Z : RZi M (zC D cy ad n K N G) .int r' V L) (nn : Nat) : ∀ (x0 : Int64) (x3 : Int32) (x4 : Int32) (ls : Array Slot) (hl : lv_has ls 7 [(0, .long x0), (3, .int x3), (4, .int x4)]) (hf : zfix (b_X6_reach_7) nn (x0, x3, x4) = some r'), RG M (zC D cy ad n K N G) V L 7 ls [] := by
  induction nn with
  | zero => intro x0 x3 x4 ls hl hf; cases hf
  | succ nn ih =>
  intro x0 x3 x4 ls hl hf
  have hk7 : ∀ (x0 : Int64) (x3 : Int32) (x4 : Int32) (ls : Array Slot), lv_has ls 7 [(0, .long x0), (3, .int x3), (4, .int x4)] → zfix (b_X6_reach_7) nn (x0, x3, x4) = some r' → RG M (zC D cy ad n K N G) V L 7 ls [] := ih
  have hf : b_X6_reach_7 (zfix (b_X6_reach_7) nn) (x0, x3, x4) = some r' := hf
  generalize zfix (b_X6_reach_7) nn = k7 at hk7 hf
  clear ih
  unfold b_X6_reach_7 at hf
  refine z_iload X.1 dX6_reach_7 (lv_at hl 2 rfl) ?_
  refine z_bipush (v := 6) X.1 dX6_reach_9 (by decide) ?_
  refine z_icmp_ge (tgt := 66) X.1 dX6_reach_11 (by decide) (fun c_ => ?_) (fun c_ => ?_)
  · have hf := (if_pos c_).symm.trans hf
    refine z_iload_n X.1 dX6_reach_66 rfl (lv_at hl 1 rfl) ?_
    exact c_iretS X Z hf rfl dX6_reach_67
  · have hf := (if_neg c_).symm.trans hf
    refine z_iload_n X.1 dX6_reach_14 rfl (lv_at hl 1 rfl) ?_
    refine z_istore (lv' := [(5, .int x3), (0, .long x0), (3, .int x3), (4, .int x4)]) X.1 dX6_reach_15 hl (by decide) rfl (fun ls hl => ?_)
    refine z_iconst (v := 0) X.1 dX6_reach_17 (by decide) ?_
    refine z_istore (lv' := [(6, .int 0), (5, .int x3), (0, .long x0), (3, .int x3), (4, .int x4)]) X.1 dX6_reach_18 hl (by decide) rfl (fun ls hl => ?_)
    exact w_X6_reach_20 X Z hk7 FU x0 x3 x4 x3 0 ls (lv_sub hl [2, 3, 4, 1, 0] rfl) hf

set_option maxHeartbeats 4000000 in
set_option maxRecDepth 100000 in
theorem w_X6_reach {M : zM} {D : va_G} {cy : Nat → ClassId} {ad : Nat → Nat} {n : Nat} {K N : Nat → Nat} {G : zG} {V : zI} {L : zL} {r' : Int32} (X : RXc M D cy ad n K N G cX6_reach 7 RX6 1 22) (Z : RZi M (zC D cy ad n K N G) .int r' V L) (x0 : Int64) (x2 : Int32) (ls : Array Slot) (hl : lv_has ls 7 [(0, .long x0), (2, .int x2)]) (hf : g_X6_reach x0 x2 = some r') : RG M (zC D cy ad n K N G) V L 0 ls [] := by
  unfold g_X6_reach at hf
  refine z_iconst (v := 1) X.1 dX6_reach_0 (by decide) ?_
  refine z_iload_n X.1 dX6_reach_1 rfl (lv_at hl 1 rfl) ?_
  refine z_ishl X.1 dX6_reach_2 ?_
  refine z_istore_n (lv' := [(3, .int ((1 : Int32) <<< (x2 &&& 31))), (0, .long x0), (2, .int x2)]) X.1 dX6_reach_3 rfl hl (by decide) rfl (fun ls hl => ?_)
  refine z_iconst (v := 1) X.1 dX6_reach_4 (by decide) ?_
  refine z_istore (lv' := [(4, .int 1), (3, .int ((1 : Int32) <<< (x2 &&& 31))), (0, .long x0), (2, .int x2)]) X.1 dX6_reach_5 hl (by decide) rfl (fun ls hl => ?_)
  exact w_X6_reach_7 X Z FU x0 ((1 : Int32) <<< (x2 &&& 31)) 1 ls (lv_sub hl [2, 1, 0] rfl) hf

theorem c_X6_reach (D : va_G) (cy : Nat → ClassId) (ad : Nat → Nat) {n : Nat} {K N : Nat → Nat} {G : zG} (hWF : zWF n K G) {x0 : Int64} {x2 : Int32} {V : zI} {L : zL} {r' : Int32} (hf : f_X6_reach x0 x2 = some r') : RCi (zC D cy ad n K N G) yX6_reach cX6_reach 7 .int 1 22 [.long x0, .int x2] V L r' V L := by
  unfold f_X6_reach at hf
  exact RCi.of (by decide) hWF (Nat.le_of_ble_eq_true rfl) (fun M X Z ls hl => w_X6_reach X Z x0 x2 ls hl hf)
def g_X10_word (N : Nat → Nat) (G : zG) (p0 : Nat) (p0_2 : Nat) (p0_5 : Nat) (V : zI) (L : zL) (x1 : Int32) : Option (Int32) :=
  (f_X9_isTown N G p0_2 x1 V L).bind fun r1 => (if r1 = 0 then some (-1) else (f_X6_open N G p0_2 p0_5 V L).bind fun r2 => (f_X6_reach r2 x1).bind fun r3 => some r3)
def f_X10_word (N : Nat → Nat) (G : zG) (p0 : Nat) (x1 : Int32) (V : zI) (L : zL) : Option (Int32) :=
  (G p0 2).bind fun p0_2 => (G p0 5).bind fun p0_5 => g_X10_word N G p0 p0_2 p0_5 V L x1
set_option maxHeartbeats 4000000 in
set_option maxRecDepth 100000 in
theorem w_X10_word {M : zM} {D : va_G} {cy : Nat → ClassId} {ad : Nat → Nat} {n : Nat} {K N : Nat → Nat} {G : zG} {V : zI} {L : zL} {r' : Int32} (X : RXc M D cy ad n K N G cX10_word 2 RX10 2 48) (Z : RZi M (zC D cy ad n K N G) .int r' V L) {p0 : Nat} (hp0 : p0 < n ∧ K p0 = 8) {p0_2 : Nat} (hp0_2 : p0_2 < n ∧ K p0_2 = 7) (ep0_2 : G p0 2 = some p0_2) {p0_5 : Nat} (hp0_5 : p0_5 < n ∧ K p0_5 = 5) (ep0_5 : G p0 5 = some p0_5) (x1 : Int32) (ls : Array Slot) (hl : lv_has ls 2 [(0, .ref (ad p0)), (1, .int x1)]) (hf : g_X10_word N G p0 p0_2 p0_5 V L x1 = some r') : RG M (zC D cy ad n K N G) V L 0 ls [] := by
  unfold g_X10_word at hf
  refine z_aload_n X.1 dX10_word_0 rfl (lv_at hl 0 rfl) ?_
  refine c_geta X hp0 cf_X10_20 ep0_2 dX10_word_1 ?_
  refine z_iload_n X.1 dX10_word_4 rfl (lv_at hl 1 rfl) ?_
  obtain ⟨r1, hc1, hf⟩ := z_bind hf
  refine c_callVi [.int x1] X hl.1 (c_X9_isTown D cy ad X.2.2 hp0_2 hc1) hp0_2 ⟨by decide, rfl⟩ cm_X10_149 cw_X9_isTown rfl cq_X9_isTown ⟨by decide, by decide⟩ (Nat.le_of_ble_eq_true rfl) rfl dX10_word_5 ?_
  refine z_if_eq (tgt := 29) X.1 dX10_word_8 (by decide) (fun c_ => ?_) (fun c_ => ?_)
  · have hf := (if_pos c_).symm.trans hf
    refine z_iconst (v := -1) X.1 dX10_word_29 (by decide) ?_
    exact c_iretS X Z hf rfl dX10_word_30
  · have hf := (if_neg c_).symm.trans hf
    refine z_aload_n X.1 dX10_word_11 rfl (lv_at hl 0 rfl) ?_
    refine c_geta X hp0 cf_X10_20 ep0_2 dX10_word_12 ?_
    refine z_aload_n X.1 dX10_word_15 rfl (lv_at hl 0 rfl) ?_
    refine c_geta X hp0 cf_X10_33 ep0_5 dX10_word_16 ?_
    obtain ⟨r2, hc2, hf⟩ := z_bind hf
    refine c_callSl [.ref (ad p0_2), .ref (ad p0_5)] X hl.1 (c_X6_open D cy ad X.2.2 hp0_2 hp0_5 hc2) cm_X10_207 cw_X6_open rfl cq_X6_open ⟨by decide, by decide⟩ (Nat.le_of_ble_eq_true rfl) rfl dX10_word_19 ?_
    refine z_iload_n X.1 dX10_word_22 rfl (lv_at hl 1 rfl) ?_
    obtain ⟨r3, hc3, hf⟩ := z_bind hf
    refine c_callSi [.long r2, .int x1] X hl.1 (c_X6_reach D cy ad X.2.2 hc3) cm_X10_213 cw_X6_reach rfl cq_X6_reach ⟨by decide, by decide⟩ (Nat.le_of_ble_eq_true rfl) rfl dX10_word_23 ?_
    refine z_goto (tgt := 30) X.1 dX10_word_26 (by decide) ?_
    exact c_iretS X Z hf rfl dX10_word_30

theorem c_X10_word (D : va_G) (cy : Nat → ClassId) (ad : Nat → Nat) {n : Nat} {K N : Nat → Nat} {G : zG} (hWF : zWF n K G) {p0 : Nat} {x1 : Int32} {V : zI} {L : zL} (hp0 : p0 < n ∧ K p0 = 8) {r' : Int32} (hf : f_X10_word N G p0 x1 V L = some r') : RCi (zC D cy ad n K N G) yX10_word cX10_word 2 .int 2 48 [.ref (ad p0), .int x1] V L r' V L := by
  unfold f_X10_word at hf
  obtain ⟨p0_2, ep0_2, hf⟩ := z_bind hf
  have hp0_2 := hWF.get hp0 (k := 2) (c := 7) rfl ep0_2
  obtain ⟨p0_5, ep0_5, hf⟩ := z_bind hf
  have hp0_5 := hWF.get hp0 (k := 5) (c := 5) rfl ep0_5
  exact RCi.of (by decide) hWF (Nat.le_of_ble_eq_true rfl) (fun M X Z ls hl => w_X10_word X Z hp0 hp0_2 ep0_2 hp0_5 ep0_5 x1 ls hl hf)
def g_X2_offer (N : Nat → Nat) (G : zG) (p0 : Nat) (p0_0 : Nat) (x1 : Int32) (V : zI) (L : zL) : Option (zI × zL) :=
  (if 36 ≤ (V p0 1) then some (V, L) else if inB (V p0 1) (N p0_0) then some (z_uI (z_uI V p0_0 (V p0 1).toNatClampNeg x1) p0 1 (((z_uI V p0_0 (V p0 1).toNatClampNeg x1) p0 1) + 1), L) else none)
def f_X2_offer (N : Nat → Nat) (G : zG) (p0 : Nat) (x1 : Int32) (V : zI) (L : zL) : Option (zI × zL) :=
  (G p0 0).bind fun p0_0 => g_X2_offer N G p0 p0_0 x1 V L
set_option maxHeartbeats 4000000 in
set_option maxRecDepth 100000 in
theorem w_X2_offer {M : zM} {D : va_G} {cy : Nat → ClassId} {ad : Nat → Nat} {n : Nat} {K N : Nat → Nat} {G : zG} {r' : zI × zL} (X : RXc M D cy ad n K N G cX2_offer 2 RX2 0 0) (Z : RZv M (zC D cy ad n K N G) r'.1 r'.2) {p0 : Nat} (hp0 : p0 < n ∧ K p0 = 2) {p0_0 : Nat} (hp0_0 : p0_0 < n ∧ K p0_0 = 100) (ep0_0 : G p0 0 = some p0_0) (x1 : Int32) (V : zI) (L : zL) (ls : Array Slot) (hl : lv_has ls 2 [(0, .ref (ad p0)), (1, .int x1)]) (hf : g_X2_offer N G p0 p0_0 x1 V L = some r') : RG M (zC D cy ad n K N G) V L 0 ls [] := by
  unfold g_X2_offer at hf
  refine z_aload_n X.1 dX2_offer_0 rfl (lv_at hl 0 rfl) ?_
  refine c_geti X hp0 cf_X2_15 dX2_offer_1 ?_
  refine z_bipush (v := 36) X.1 dX2_offer_4 (by decide) ?_
  refine z_icmp_ge (tgt := 29) X.1 dX2_offer_6 (by decide) (fun c_ => ?_) (fun c_ => ?_)
  · have hf := (if_pos c_).symm.trans hf
    exact c_vret X Z hf dX2_offer_29
  · have hf := (if_neg c_).symm.trans hf
    refine z_aload_n X.1 dX2_offer_9 rfl (lv_at hl 0 rfl) ?_
    refine c_geta X hp0 cf_X2_9 ep0_0 dX2_offer_10 ?_
    refine z_aload_n X.1 dX2_offer_13 rfl (lv_at hl 0 rfl) ?_
    refine c_geti X hp0 cf_X2_15 dX2_offer_14 ?_
    refine z_iload_n X.1 dX2_offer_17 rfl (lv_at hl 1 rfl) ?_
    obtain ⟨hb1, hf⟩ := z_ite hf
    refine c_iast X hp0_0 hb1 dX2_offer_18 ?_
    refine z_aload_n X.1 dX2_offer_19 rfl (lv_at hl 0 rfl) ?_
    refine z_dup X.1 dX2_offer_20 rfl ?_
    refine c_geti X hp0 cf_X2_15 dX2_offer_21 ?_
    refine z_iconst (v := 1) X.1 dX2_offer_24 (by decide) ?_
    refine z_iadd X.1 dX2_offer_25 ?_
    refine c_puti X hp0 cf_X2_15 cg_X2 cp_X2_1 rfl rfl dX2_offer_26 ?_
    exact c_vret X Z hf dX2_offer_29

theorem c_X2_offer (D : va_G) (cy : Nat → ClassId) (ad : Nat → Nat) {n : Nat} {K N : Nat → Nat} {G : zG} (hWF : zWF n K G) {p0 : Nat} {x1 : Int32} {V : zI} {L : zL} (hp0 : p0 < n ∧ K p0 = 2) {r' : zI × zL} (hf : f_X2_offer N G p0 x1 V L = some r') : RCv (zC D cy ad n K N G) yX2_offer cX2_offer 2 0 0 [.ref (ad p0), .int x1] V L r'.1 r'.2 := by
  unfold f_X2_offer at hf
  obtain ⟨p0_0, ep0_0, hf⟩ := z_bind hf
  have hp0_0 := hWF.get hp0 (k := 0) (c := 100) rfl ep0_0
  exact RCv.of (by decide) hWF (Nat.le_of_ble_eq_true rfl) (fun M X Z ls hl => w_X2_offer X Z hp0 hp0_0 ep0_0 x1 V L ls hl hf)
def b_X6_joinAll_9 (k9 : Int64 × Int32 × Int32 × Int32 → Option (Int32)) : Int64 × Int32 × Int32 × Int32 → Option (Int32) := fun ⟨x0, x2, x3, x4⟩ =>
  (if x2 ≤ x4 then some 1 else (f_X6_reach x0 x4).bind fun r1 => (if r1 = x3 then k9 (x0, x2, x3, (x4 + 1)) else some 0))
def g_X6_joinAll (x0 : Int64) (x2 : Int32) : Option (Int32) :=
  zfix (b_X6_joinAll_9) FU (x0, x2, (((1 : Int32) <<< (x2 &&& 31)) - 1), 0)
def f_X6_joinAll (x0 : Int64) (x2 : Int32) : Option (Int32) :=
  g_X6_joinAll x0 x2
set_option maxHeartbeats 4000000 in
set_option maxRecDepth 100000 in
theorem w_X6_joinAll_9 {M : zM} {D : va_G} {cy : Nat → ClassId} {ad : Nat → Nat} {n : Nat} {K N : Nat → Nat} {G : zG} {V : zI} {L : zL} {r' : Int32} (X : RXc M D cy ad n K N G cX6_joinAll 5 RX6 2 48) (Z : RZi M (zC D cy ad n K N G) .boolean r' V L) (nn : Nat) : ∀ (x0 : Int64) (x2 : Int32) (x3 : Int32) (x4 : Int32) (ls : Array Slot) (hl : lv_has ls 5 [(0, .long x0), (2, .int x2), (3, .int x3), (4, .int x4)]) (hf : zfix (b_X6_joinAll_9) nn (x0, x2, x3, x4) = some r'), RG M (zC D cy ad n K N G) V L 9 ls [] := by
  induction nn with
  | zero => intro x0 x2 x3 x4 ls hl hf; cases hf
  | succ nn ih =>
  intro x0 x2 x3 x4 ls hl hf
  have hk9 : ∀ (x0 : Int64) (x2 : Int32) (x3 : Int32) (x4 : Int32) (ls : Array Slot), lv_has ls 5 [(0, .long x0), (2, .int x2), (3, .int x3), (4, .int x4)] → zfix (b_X6_joinAll_9) nn (x0, x2, x3, x4) = some r' → RG M (zC D cy ad n K N G) V L 9 ls [] := ih
  have hf : b_X6_joinAll_9 (zfix (b_X6_joinAll_9) nn) (x0, x2, x3, x4) = some r' := hf
  generalize zfix (b_X6_joinAll_9) nn = k9 at hk9 hf
  clear ih
  unfold b_X6_joinAll_9 at hf
  refine z_iload X.1 dX6_joinAll_9 (lv_at hl 3 rfl) ?_
  refine z_iload_n X.1 dX6_joinAll_11 rfl (lv_at hl 1 rfl) ?_
  refine z_icmp_ge (tgt := 33) X.1 dX6_joinAll_12 (by decide) (fun c_ => ?_) (fun c_ => ?_)
  · have hf := (if_pos c_).symm.trans hf
    refine z_iconst (v := 1) X.1 dX6_joinAll_33 (by decide) ?_
    exact c_iretS X Z hf (by decide) dX6_joinAll_34
  · have hf := (if_neg c_).symm.trans hf
    refine z_lload_n X.1 dX6_joinAll_15 rfl (lv_at hl 0 rfl) ?_
    refine z_iload X.1 dX6_joinAll_16 (lv_at hl 3 rfl) ?_
    obtain ⟨r1, hc1, hf⟩ := z_bind hf
    refine c_callSi [.long x0, .int x4] X hl.1 (c_X6_reach D cy ad X.2.2 hc1) cm_X6_26 cw_X6_reach rfl cq_X6_reach ⟨by decide, by decide⟩ (Nat.le_of_ble_eq_true rfl) rfl dX6_joinAll_18 ?_
    refine z_iload_n X.1 dX6_joinAll_21 rfl (lv_at hl 2 rfl) ?_
    refine z_icmp_eq (tgt := 27) X.1 dX6_joinAll_22 (by decide) (fun c_ => ?_) (fun c_ => ?_)
    · have hf := (if_pos c_).symm.trans hf
      refine z_iinc (v := x4 + 1) (k0 := 3) (lv' := [(4, .int (x4 + 1)), (0, .long x0), (2, .int x2), (3, .int x3)]) X.1 dX6_joinAll_27 hl rfl rfl (by decide) rfl (fun ls hl => ?_)
      refine z_goto (tgt := 9) X.1 dX6_joinAll_30 (by decide) ?_
      exact hk9 x0 x2 x3 (x4 + 1) ls (lv_sub hl [1, 2, 3, 0] rfl) hf
    · have hf := (if_neg c_).symm.trans hf
      refine z_iconst (v := 0) X.1 dX6_joinAll_25 (by decide) ?_
      exact c_iretS X Z hf (by decide) dX6_joinAll_26

set_option maxHeartbeats 4000000 in
set_option maxRecDepth 100000 in
theorem w_X6_joinAll {M : zM} {D : va_G} {cy : Nat → ClassId} {ad : Nat → Nat} {n : Nat} {K N : Nat → Nat} {G : zG} {V : zI} {L : zL} {r' : Int32} (X : RXc M D cy ad n K N G cX6_joinAll 5 RX6 2 48) (Z : RZi M (zC D cy ad n K N G) .boolean r' V L) (x0 : Int64) (x2 : Int32) (ls : Array Slot) (hl : lv_has ls 5 [(0, .long x0), (2, .int x2)]) (hf : g_X6_joinAll x0 x2 = some r') : RG M (zC D cy ad n K N G) V L 0 ls [] := by
  unfold g_X6_joinAll at hf
  refine z_iconst (v := 1) X.1 dX6_joinAll_0 (by decide) ?_
  refine z_iload_n X.1 dX6_joinAll_1 rfl (lv_at hl 1 rfl) ?_
  refine z_ishl X.1 dX6_joinAll_2 ?_
  refine z_iconst (v := 1) X.1 dX6_joinAll_3 (by decide) ?_
  refine z_isub X.1 dX6_joinAll_4 ?_
  refine z_istore_n (lv' := [(3, .int (((1 : Int32) <<< (x2 &&& 31)) - 1)), (0, .long x0), (2, .int x2)]) X.1 dX6_joinAll_5 rfl hl (by decide) rfl (fun ls hl => ?_)
  refine z_iconst (v := 0) X.1 dX6_joinAll_6 (by decide) ?_
  refine z_istore (lv' := [(4, .int 0), (3, .int (((1 : Int32) <<< (x2 &&& 31)) - 1)), (0, .long x0), (2, .int x2)]) X.1 dX6_joinAll_7 hl (by decide) rfl (fun ls hl => ?_)
  exact w_X6_joinAll_9 X Z FU x0 x2 (((1 : Int32) <<< (x2 &&& 31)) - 1) 0 ls (lv_sub hl [2, 3, 1, 0] rfl) hf

theorem c_X6_joinAll (D : va_G) (cy : Nat → ClassId) (ad : Nat → Nat) {n : Nat} {K N : Nat → Nat} {G : zG} (hWF : zWF n K G) {x0 : Int64} {x2 : Int32} {V : zI} {L : zL} {r' : Int32} (hf : f_X6_joinAll x0 x2 = some r') : RCi (zC D cy ad n K N G) yX6_joinAll cX6_joinAll 5 .boolean 2 48 [.long x0, .int x2] V L r' V L := by
  unfold f_X6_joinAll at hf
  exact RCi.of (by decide) hWF (Nat.le_of_ble_eq_true rfl) (fun M X Z ls hl => w_X6_joinAll X Z x0 x2 ls hl hf)
def g_X2_isMet (N : Nat → Nat) (G : zG) (p0 : Nat) (V : zI) (L : zL) (x1 : Int64) : Option (Int32) :=
  (if (V p0 4) = 0 then (f_X6_reach x1 (V p0 6)).bind fun r1 => (if ((r1 >>> ((V p0 7) &&& 31)) &&& 1) = 0 then some 1 else some 0) else (f_X6_joinAll x1 (V p0 5)).bind fun r2 => if zB r2 then some r2 else none)
def f_X2_isMet (N : Nat → Nat) (G : zG) (p0 : Nat) (x1 : Int64) (V : zI) (L : zL) : Option (Int32) :=
  g_X2_isMet N G p0 V L x1
set_option maxHeartbeats 4000000 in
set_option maxRecDepth 100000 in
theorem w_X2_isMet {M : zM} {D : va_G} {cy : Nat → ClassId} {ad : Nat → Nat} {n : Nat} {K N : Nat → Nat} {G : zG} {V : zI} {L : zL} {r' : Int32} (X : RXc M D cy ad n K N G cX2_isMet 3 RX2 3 72) (Z : RZi M (zC D cy ad n K N G) .boolean r' V L) {p0 : Nat} (hp0 : p0 < n ∧ K p0 = 2) (x1 : Int64) (ls : Array Slot) (hl : lv_has ls 3 [(0, .ref (ad p0)), (1, .long x1)]) (hf : g_X2_isMet N G p0 V L x1 = some r') : RG M (zC D cy ad n K N G) V L 0 ls [] := by
  unfold g_X2_isMet at hf
  refine z_aload_n X.1 dX2_isMet_0 rfl (lv_at hl 0 rfl) ?_
  refine c_geti X hp0 cf_X2_25 dX2_isMet_1 ?_
  refine z_if_eq (tgt := 18) X.1 dX2_isMet_4 (by decide) (fun c_ => ?_) (fun c_ => ?_)
  · have hf := (if_pos c_).symm.trans hf
    refine z_lload_n X.1 dX2_isMet_18 rfl (lv_at hl 1 rfl) ?_
    refine z_aload_n X.1 dX2_isMet_19 rfl (lv_at hl 0 rfl) ?_
    refine c_geti X hp0 cf_X2_32 dX2_isMet_20 ?_
    obtain ⟨r1, hc1, hf⟩ := z_bind hf
    refine c_callSi [.long x1, .int (V p0 6)] X hl.1 (c_X6_reach D cy ad X.2.2 hc1) cm_X2_66 cw_X6_reach rfl cq_X6_reach ⟨by decide, by decide⟩ (Nat.le_of_ble_eq_true rfl) rfl dX2_isMet_23 ?_
    refine z_aload_n X.1 dX2_isMet_26 rfl (lv_at hl 0 rfl) ?_
    refine c_geti X hp0 cf_X2_35 dX2_isMet_27 ?_
    refine z_ishr X.1 dX2_isMet_30 ?_
    refine z_iconst (v := 1) X.1 dX2_isMet_31 (by decide) ?_
    refine z_iand X.1 dX2_isMet_32 ?_
    refine z_if_ne (tgt := 40) X.1 dX2_isMet_33 (by decide) (fun c_ => ?_) (fun c_ => ?_)
    · have hf := (if_neg c_).symm.trans hf
      refine z_iconst (v := 0) X.1 dX2_isMet_40 (by decide) ?_
      exact c_iretS X Z hf (by decide) dX2_isMet_41
    · have hf := (if_pos c_).symm.trans hf
      refine z_iconst (v := 1) X.1 dX2_isMet_36 (by decide) ?_
      refine z_goto (tgt := 41) X.1 dX2_isMet_37 (by decide) ?_
      exact c_iretS X Z hf (by decide) dX2_isMet_41
  · have hf := (if_neg c_).symm.trans hf
    refine z_lload_n X.1 dX2_isMet_7 rfl (lv_at hl 1 rfl) ?_
    refine z_aload_n X.1 dX2_isMet_8 rfl (lv_at hl 0 rfl) ?_
    refine c_geti X hp0 cf_X2_29 dX2_isMet_9 ?_
    obtain ⟨r2, hc2, hf⟩ := z_bind hf
    refine c_callSi [.long x1, .int (V p0 5)] X hl.1 (c_X6_joinAll D cy ad X.2.2 hc2) cm_X2_60 cw_X6_joinAll rfl cq_X6_joinAll ⟨by decide, by decide⟩ (Nat.le_of_ble_eq_true rfl) rfl dX2_isMet_12 ?_
    refine z_goto (tgt := 41) X.1 dX2_isMet_15 (by decide) ?_
    obtain ⟨hb3, hf⟩ := z_ite hf
    exact c_iretS X Z hf (zB_nar hb3) dX2_isMet_41

theorem c_X2_isMet (D : va_G) (cy : Nat → ClassId) (ad : Nat → Nat) {n : Nat} {K N : Nat → Nat} {G : zG} (hWF : zWF n K G) {p0 : Nat} {x1 : Int64} {V : zI} {L : zL} (hp0 : p0 < n ∧ K p0 = 2) {r' : Int32} (hf : f_X2_isMet N G p0 x1 V L = some r') : RCi (zC D cy ad n K N G) yX2_isMet cX2_isMet 3 .boolean 3 72 [.ref (ad p0), .long x1] V L r' V L := by
  unfold f_X2_isMet at hf
  exact RCi.of (by decide) hWF (Nat.le_of_ble_eq_true rfl) (fun M X Z ls hl => w_X2_isMet X Z hp0 x1 ls hl hf)
def g_X2_tell (N : Nat → Nat) (G : zG) (p0 : Nat) (p0_2 : Nat) (V : zI) (L : zL) (x1 : Int32) : Option (Int32) :=
  (if x1 = (-1) then some (V p0 3) else (if x1 < 0 then some (-1) else (if (V p0 3) ≤ x1 then some (-1) else (if 3 ≤ x1 then some (-1) else if inB x1 (N p0_2) then some (V p0_2 x1.toNatClampNeg) else none))))
def f_X2_tell (N : Nat → Nat) (G : zG) (p0 : Nat) (x1 : Int32) (V : zI) (L : zL) : Option (Int32) :=
  (G p0 2).bind fun p0_2 => g_X2_tell N G p0 p0_2 V L x1
set_option maxHeartbeats 4000000 in
set_option maxRecDepth 100000 in
theorem w_X2_tell {M : zM} {D : va_G} {cy : Nat → ClassId} {ad : Nat → Nat} {n : Nat} {K N : Nat → Nat} {G : zG} {V : zI} {L : zL} {r' : Int32} (X : RXc M D cy ad n K N G cX2_tell 2 RX2 0 0) (Z : RZi M (zC D cy ad n K N G) .int r' V L) {p0 : Nat} (hp0 : p0 < n ∧ K p0 = 2) {p0_2 : Nat} (hp0_2 : p0_2 < n ∧ K p0_2 = 100) (ep0_2 : G p0 2 = some p0_2) (x1 : Int32) (ls : Array Slot) (hl : lv_has ls 2 [(0, .ref (ad p0)), (1, .int x1)]) (hf : g_X2_tell N G p0 p0_2 V L x1 = some r') : RG M (zC D cy ad n K N G) V L 0 ls [] := by
  unfold g_X2_tell at hf
  refine z_iload_n X.1 dX2_tell_0 rfl (lv_at hl 1 rfl) ?_
  refine z_iconst (v := -1) X.1 dX2_tell_1 (by decide) ?_
  refine z_icmp_ne (tgt := 10) X.1 dX2_tell_2 (by decide) (fun c_ => ?_) (fun c_ => ?_)
  · have hf := (if_neg c_).symm.trans hf
    refine z_iload_n X.1 dX2_tell_10 rfl (lv_at hl 1 rfl) ?_
    refine z_if_lt (tgt := 36) X.1 dX2_tell_11 (by decide) (fun c_ => ?_) (fun c_ => ?_)
    · have hf := (if_pos c_).symm.trans hf
      refine z_iconst (v := -1) X.1 dX2_tell_36 (by decide) ?_
      exact c_iretS X Z hf rfl dX2_tell_37
    · have hf := (if_neg c_).symm.trans hf
      refine z_iload_n X.1 dX2_tell_14 rfl (lv_at hl 1 rfl) ?_
      refine z_aload_n X.1 dX2_tell_15 rfl (lv_at hl 0 rfl) ?_
      refine c_geti X hp0 cf_X2_22 dX2_tell_16 ?_
      refine z_icmp_ge (tgt := 36) X.1 dX2_tell_19 (by decide) (fun c_ => ?_) (fun c_ => ?_)
      · have hf := (if_pos c_).symm.trans hf
        refine z_iconst (v := -1) X.1 dX2_tell_36 (by decide) ?_
        exact c_iretS X Z hf rfl dX2_tell_37
      · have hf := (if_neg c_).symm.trans hf
        refine z_iload_n X.1 dX2_tell_22 rfl (lv_at hl 1 rfl) ?_
        refine z_iconst (v := 3) X.1 dX2_tell_23 (by decide) ?_
        refine z_icmp_ge (tgt := 36) X.1 dX2_tell_24 (by decide) (fun c_ => ?_) (fun c_ => ?_)
        · have hf := (if_pos c_).symm.trans hf
          refine z_iconst (v := -1) X.1 dX2_tell_36 (by decide) ?_
          exact c_iretS X Z hf rfl dX2_tell_37
        · have hf := (if_neg c_).symm.trans hf
          refine z_aload_n X.1 dX2_tell_27 rfl (lv_at hl 0 rfl) ?_
          refine c_geta X hp0 cf_X2_19 ep0_2 dX2_tell_28 ?_
          refine z_iload_n X.1 dX2_tell_31 rfl (lv_at hl 1 rfl) ?_
          obtain ⟨hb1, hf⟩ := z_ite hf
          refine c_iald X hp0_2 hb1 dX2_tell_32 ?_
          refine z_goto (tgt := 37) X.1 dX2_tell_33 (by decide) ?_
          exact c_iretS X Z hf rfl dX2_tell_37
  · have hf := (if_pos c_).symm.trans hf
    refine z_aload_n X.1 dX2_tell_5 rfl (lv_at hl 0 rfl) ?_
    refine c_geti X hp0 cf_X2_22 dX2_tell_6 ?_
    exact c_iretS X Z hf rfl dX2_tell_9

theorem c_X2_tell (D : va_G) (cy : Nat → ClassId) (ad : Nat → Nat) {n : Nat} {K N : Nat → Nat} {G : zG} (hWF : zWF n K G) {p0 : Nat} {x1 : Int32} {V : zI} {L : zL} (hp0 : p0 < n ∧ K p0 = 2) {r' : Int32} (hf : f_X2_tell N G p0 x1 V L = some r') : RCi (zC D cy ad n K N G) yX2_tell cX2_tell 2 .int 0 0 [.ref (ad p0), .int x1] V L r' V L := by
  unfold f_X2_tell at hf
  obtain ⟨p0_2, ep0_2, hf⟩ := z_bind hf
  have hp0_2 := hWF.get hp0 (k := 2) (c := 100) rfl ep0_2
  exact RCi.of (by decide) hWF (Nat.le_of_ble_eq_true rfl) (fun M X Z ls hl => w_X2_tell X Z hp0 hp0_2 ep0_2 x1 ls hl hf)
def b_X6_nearest_7 (N : Nat → Nat) (G : zG) (p3 : Nat) (V : zI) (L : zL) (k7 : Int64 × Int32 × Int32 × Int32 → Option (Int32)) : Int64 × Int32 × Int32 × Int32 → Option (Int32) := fun ⟨x0, x2, x4, x5⟩ =>
  (if (Int32.ofNat (N p3)) ≤ x5 then some x4 else (f_X6_from x0 x2).bind fun r1 => (if ((r1 >>> (x5 &&& 31)) &&& 1) = 0 then k7 (x0, x2, x4, (x5 + 1)) else if inB x5 (N p3) then k7 (x0, x2, (if (V p3 x5.toNatClampNeg) < x4 then (V p3 x5.toNatClampNeg) else x4), (x5 + 1)) else none))
def g_X6_nearest (N : Nat → Nat) (G : zG) (p3 : Nat) (V : zI) (L : zL) (x0 : Int64) (x2 : Int32) : Option (Int32) :=
  zfix (b_X6_nearest_7 N G p3 V L) FU (x0, x2, 99, 0)
def f_X6_nearest (N : Nat → Nat) (G : zG) (p3 : Nat) (x0 : Int64) (x2 : Int32) (V : zI) (L : zL) : Option (Int32) :=
  g_X6_nearest N G p3 V L x0 x2
set_option maxHeartbeats 4000000 in
set_option maxRecDepth 100000 in
theorem w_X6_nearest_7 {M : zM} {D : va_G} {cy : Nat → ClassId} {ad : Nat → Nat} {n : Nat} {K N : Nat → Nat} {G : zG} {V : zI} {L : zL} {r' : Int32} (X : RXc M D cy ad n K N G cX6_nearest 6 RX6 1 25) (Z : RZi M (zC D cy ad n K N G) .int r' V L) {p3 : Nat} (hp3 : p3 < n ∧ K p3 = 100) (nn : Nat) : ∀ (x0 : Int64) (x2 : Int32) (x4 : Int32) (x5 : Int32) (ls : Array Slot) (hl : lv_has ls 6 [(0, .long x0), (2, .int x2), (3, .ref (ad p3)), (4, .int x4), (5, .int x5)]) (hf : zfix (b_X6_nearest_7 N G p3 V L) nn (x0, x2, x4, x5) = some r'), RG M (zC D cy ad n K N G) V L 7 ls [] := by
  induction nn with
  | zero => intro x0 x2 x4 x5 ls hl hf; cases hf
  | succ nn ih =>
  intro x0 x2 x4 x5 ls hl hf
  have hk7 : ∀ (x0 : Int64) (x2 : Int32) (x4 : Int32) (x5 : Int32) (ls : Array Slot), lv_has ls 6 [(0, .long x0), (2, .int x2), (3, .ref (ad p3)), (4, .int x4), (5, .int x5)] → zfix (b_X6_nearest_7 N G p3 V L) nn (x0, x2, x4, x5) = some r' → RG M (zC D cy ad n K N G) V L 7 ls [] := ih
  have hf : b_X6_nearest_7 N G p3 V L (zfix (b_X6_nearest_7 N G p3 V L) nn) (x0, x2, x4, x5) = some r' := hf
  generalize zfix (b_X6_nearest_7 N G p3 V L) nn = k7 at hk7 hf
  clear ih
  unfold b_X6_nearest_7 at hf
  refine z_iload X.1 dX6_nearest_7 (lv_at hl 4 rfl) ?_
  refine z_aload_n X.1 dX6_nearest_9 rfl (lv_at hl 2 rfl) ?_
  refine c_alen100 X hp3 dX6_nearest_10 ?_
  refine z_icmp_ge (tgt := 44) X.1 dX6_nearest_11 (by decide) (fun c_ => ?_) (fun c_ => ?_)
  · have hf := (if_pos c_).symm.trans hf
    refine z_iload X.1 dX6_nearest_44 (lv_at hl 3 rfl) ?_
    exact c_iretS X Z hf rfl dX6_nearest_46
  · have hf := (if_neg c_).symm.trans hf
    refine z_lload_n X.1 dX6_nearest_14 rfl (lv_at hl 0 rfl) ?_
    refine z_iload_n X.1 dX6_nearest_15 rfl (lv_at hl 1 rfl) ?_
    obtain ⟨r1, hc1, hf⟩ := z_bind hf
    refine c_callSi [.long x0, .int x2] X hl.1 (c_X6_from D cy ad X.2.2 hc1) cm_X6_22 cw_X6_from rfl cq_X6_from ⟨by decide, by decide⟩ (Nat.le_of_ble_eq_true rfl) rfl dX6_nearest_16 ?_
    refine z_iload X.1 dX6_nearest_19 (lv_at hl 4 rfl) ?_
    refine z_ishr X.1 dX6_nearest_21 ?_
    refine z_iconst (v := 1) X.1 dX6_nearest_22 (by decide) ?_
    refine z_iand X.1 dX6_nearest_23 ?_
    refine z_if_eq (tgt := 38) X.1 dX6_nearest_24 (by decide) (fun c_ => ?_) (fun c_ => ?_)
    · have hf := (if_pos c_).symm.trans hf
      refine z_iinc (v := x5 + 1) (k0 := 4) (lv' := [(5, .int (x5 + 1)), (0, .long x0), (2, .int x2), (3, .ref (ad p3)), (4, .int x4)]) X.1 dX6_nearest_38 hl rfl rfl (by decide) rfl (fun ls hl => ?_)
      refine z_goto (tgt := 7) X.1 dX6_nearest_41 (by decide) ?_
      exact hk7 x0 x2 x4 (x5 + 1) ls (lv_sub hl [1, 2, 3, 4, 0] rfl) hf
    · have hf := (if_neg c_).symm.trans hf
      refine z_iload X.1 dX6_nearest_27 (lv_at hl 3 rfl) ?_
      refine z_aload_n X.1 dX6_nearest_29 rfl (lv_at hl 2 rfl) ?_
      refine z_iload X.1 dX6_nearest_30 (lv_at hl 4 rfl) ?_
      obtain ⟨hb2, hf⟩ := z_ite hf
      refine c_iald X hp3 hb2 dX6_nearest_32 ?_
      refine c_min X hl.1 cj_X6_41 ⟨by decide, Nat.le_of_ble_eq_true rfl⟩ dX6_nearest_33 ?_
      refine z_istore (lv' := [(4, .int (if (V p3 x5.toNatClampNeg) < x4 then (V p3 x5.toNatClampNeg) else x4)), (0, .long x0), (2, .int x2), (3, .ref (ad p3)), (5, .int x5)]) X.1 dX6_nearest_36 hl (by decide) rfl (fun ls hl => ?_)
      refine z_iinc (v := x5 + 1) (k0 := 4) (lv' := [(5, .int (x5 + 1)), (4, .int (if (V p3 x5.toNatClampNeg) < x4 then (V p3 x5.toNatClampNeg) else x4)), (0, .long x0), (2, .int x2), (3, .ref (ad p3))]) X.1 dX6_nearest_38 hl rfl rfl (by decide) rfl (fun ls hl => ?_)
      refine z_goto (tgt := 7) X.1 dX6_nearest_41 (by decide) ?_
      exact hk7 x0 x2 (if (V p3 x5.toNatClampNeg) < x4 then (V p3 x5.toNatClampNeg) else x4) (x5 + 1) ls (lv_sub hl [2, 3, 4, 1, 0] rfl) hf

set_option maxHeartbeats 4000000 in
set_option maxRecDepth 100000 in
theorem w_X6_nearest {M : zM} {D : va_G} {cy : Nat → ClassId} {ad : Nat → Nat} {n : Nat} {K N : Nat → Nat} {G : zG} {V : zI} {L : zL} {r' : Int32} (X : RXc M D cy ad n K N G cX6_nearest 6 RX6 1 25) (Z : RZi M (zC D cy ad n K N G) .int r' V L) {p3 : Nat} (hp3 : p3 < n ∧ K p3 = 100) (x0 : Int64) (x2 : Int32) (ls : Array Slot) (hl : lv_has ls 6 [(0, .long x0), (2, .int x2), (3, .ref (ad p3))]) (hf : g_X6_nearest N G p3 V L x0 x2 = some r') : RG M (zC D cy ad n K N G) V L 0 ls [] := by
  unfold g_X6_nearest at hf
  refine z_bipush (v := 99) X.1 dX6_nearest_0 (by decide) ?_
  refine z_istore (lv' := [(4, .int 99), (0, .long x0), (2, .int x2), (3, .ref (ad p3))]) X.1 dX6_nearest_2 hl (by decide) rfl (fun ls hl => ?_)
  refine z_iconst (v := 0) X.1 dX6_nearest_4 (by decide) ?_
  refine z_istore (lv' := [(5, .int 0), (4, .int 99), (0, .long x0), (2, .int x2), (3, .ref (ad p3))]) X.1 dX6_nearest_5 hl (by decide) rfl (fun ls hl => ?_)
  exact w_X6_nearest_7 X Z hp3 FU x0 x2 99 0 ls (lv_sub hl [2, 3, 4, 1, 0] rfl) hf

theorem c_X6_nearest (D : va_G) (cy : Nat → ClassId) (ad : Nat → Nat) {n : Nat} {K N : Nat → Nat} {G : zG} (hWF : zWF n K G) {p3 : Nat} {x0 : Int64} {x2 : Int32} {V : zI} {L : zL} (hp3 : p3 < n ∧ K p3 = 100) {r' : Int32} (hf : f_X6_nearest N G p3 x0 x2 V L = some r') : RCi (zC D cy ad n K N G) yX6_nearest cX6_nearest 6 .int 1 25 [.long x0, .int x2, .ref (ad p3)] V L r' V L := by
  unfold f_X6_nearest at hf
  exact RCi.of (by decide) hWF (Nat.le_of_ble_eq_true rfl) (fun M X Z ls hl => w_X6_nearest X Z hp3 x0 x2 ls hl hf)
def b_X6_firstWith_3 (N : Nat → Nat) (G : zG) (p3 : Nat) (V : zI) (L : zL) (k3 : Int64 × Int32 × Int32 × Int32 → Option (Int32)) : Int64 × Int32 × Int32 × Int32 → Option (Int32) := fun ⟨x0, x2, x4, x5⟩ =>
  (if (Int32.ofNat (N p3)) ≤ x5 then some (-1) else (f_X6_from x0 x2).bind fun r1 => (if ((r1 >>> (x5 &&& 31)) &&& 1) = 0 then k3 (x0, x2, x4, (x5 + 1)) else if inB x5 (N p3) then (if (V p3 x5.toNatClampNeg) = x4 then some x5 else k3 (x0, x2, x4, (x5 + 1))) else none))
def g_X6_firstWith (N : Nat → Nat) (G : zG) (p3 : Nat) (V : zI) (L : zL) (x0 : Int64) (x2 : Int32) (x4 : Int32) : Option (Int32) :=
  zfix (b_X6_firstWith_3 N G p3 V L) FU (x0, x2, x4, 0)
def f_X6_firstWith (N : Nat → Nat) (G : zG) (p3 : Nat) (x0 : Int64) (x2 : Int32) (x4 : Int32) (V : zI) (L : zL) : Option (Int32) :=
  g_X6_firstWith N G p3 V L x0 x2 x4
set_option maxHeartbeats 4000000 in
set_option maxRecDepth 100000 in
theorem w_X6_firstWith_3 {M : zM} {D : va_G} {cy : Nat → ClassId} {ad : Nat → Nat} {n : Nat} {K N : Nat → Nat} {G : zG} {V : zI} {L : zL} {r' : Int32} (X : RXc M D cy ad n K N G cX6_firstWith 6 RX6 1 22) (Z : RZi M (zC D cy ad n K N G) .int r' V L) {p3 : Nat} (hp3 : p3 < n ∧ K p3 = 100) (nn : Nat) : ∀ (x0 : Int64) (x2 : Int32) (x4 : Int32) (x5 : Int32) (ls : Array Slot) (hl : lv_has ls 6 [(0, .long x0), (2, .int x2), (3, .ref (ad p3)), (4, .int x4), (5, .int x5)]) (hf : zfix (b_X6_firstWith_3 N G p3 V L) nn (x0, x2, x4, x5) = some r'), RG M (zC D cy ad n K N G) V L 3 ls [] := by
  induction nn with
  | zero => intro x0 x2 x4 x5 ls hl hf; cases hf
  | succ nn ih =>
  intro x0 x2 x4 x5 ls hl hf
  have hk3 : ∀ (x0 : Int64) (x2 : Int32) (x4 : Int32) (x5 : Int32) (ls : Array Slot), lv_has ls 6 [(0, .long x0), (2, .int x2), (3, .ref (ad p3)), (4, .int x4), (5, .int x5)] → zfix (b_X6_firstWith_3 N G p3 V L) nn (x0, x2, x4, x5) = some r' → RG M (zC D cy ad n K N G) V L 3 ls [] := ih
  have hf : b_X6_firstWith_3 N G p3 V L (zfix (b_X6_firstWith_3 N G p3 V L) nn) (x0, x2, x4, x5) = some r' := hf
  generalize zfix (b_X6_firstWith_3 N G p3 V L) nn = k3 at hk3 hf
  clear ih
  unfold b_X6_firstWith_3 at hf
  refine z_iload X.1 dX6_firstWith_3 (lv_at hl 4 rfl) ?_
  refine z_aload_n X.1 dX6_firstWith_5 rfl (lv_at hl 2 rfl) ?_
  refine c_alen100 X hp3 dX6_firstWith_6 ?_
  refine z_icmp_ge (tgt := 41) X.1 dX6_firstWith_7 (by decide) (fun c_ => ?_) (fun c_ => ?_)
  · have hf := (if_pos c_).symm.trans hf
    refine z_iconst (v := -1) X.1 dX6_firstWith_41 (by decide) ?_
    exact c_iretS X Z hf rfl dX6_firstWith_42
  · have hf := (if_neg c_).symm.trans hf
    refine z_lload_n X.1 dX6_firstWith_10 rfl (lv_at hl 0 rfl) ?_
    refine z_iload_n X.1 dX6_firstWith_11 rfl (lv_at hl 1 rfl) ?_
    obtain ⟨r1, hc1, hf⟩ := z_bind hf
    refine c_callSi [.long x0, .int x2] X hl.1 (c_X6_from D cy ad X.2.2 hc1) cm_X6_22 cw_X6_from rfl cq_X6_from ⟨by decide, by decide⟩ (Nat.le_of_ble_eq_true rfl) rfl dX6_firstWith_12 ?_
    refine z_iload X.1 dX6_firstWith_15 (lv_at hl 4 rfl) ?_
    refine z_ishr X.1 dX6_firstWith_17 ?_
    refine z_iconst (v := 1) X.1 dX6_firstWith_18 (by decide) ?_
    refine z_iand X.1 dX6_firstWith_19 ?_
    refine z_if_eq (tgt := 35) X.1 dX6_firstWith_20 (by decide) (fun c_ => ?_) (fun c_ => ?_)
    · have hf := (if_pos c_).symm.trans hf
      refine z_iinc (v := x5 + 1) (k0 := 4) (lv' := [(5, .int (x5 + 1)), (0, .long x0), (2, .int x2), (3, .ref (ad p3)), (4, .int x4)]) X.1 dX6_firstWith_35 hl rfl rfl (by decide) rfl (fun ls hl => ?_)
      refine z_goto (tgt := 3) X.1 dX6_firstWith_38 (by decide) ?_
      exact hk3 x0 x2 x4 (x5 + 1) ls (lv_sub hl [1, 2, 3, 4, 0] rfl) hf
    · have hf := (if_neg c_).symm.trans hf
      refine z_aload_n X.1 dX6_firstWith_23 rfl (lv_at hl 2 rfl) ?_
      refine z_iload X.1 dX6_firstWith_24 (lv_at hl 4 rfl) ?_
      obtain ⟨hb2, hf⟩ := z_ite hf
      refine c_iald X hp3 hb2 dX6_firstWith_26 ?_
      refine z_iload X.1 dX6_firstWith_27 (lv_at hl 3 rfl) ?_
      refine z_icmp_ne (tgt := 35) X.1 dX6_firstWith_29 (by decide) (fun c_ => ?_) (fun c_ => ?_)
      · have hf := (if_neg c_).symm.trans hf
        refine z_iinc (v := x5 + 1) (k0 := 4) (lv' := [(5, .int (x5 + 1)), (0, .long x0), (2, .int x2), (3, .ref (ad p3)), (4, .int x4)]) X.1 dX6_firstWith_35 hl rfl rfl (by decide) rfl (fun ls hl => ?_)
        refine z_goto (tgt := 3) X.1 dX6_firstWith_38 (by decide) ?_
        exact hk3 x0 x2 x4 (x5 + 1) ls (lv_sub hl [1, 2, 3, 4, 0] rfl) hf
      · have hf := (if_pos c_).symm.trans hf
        refine z_iload X.1 dX6_firstWith_32 (lv_at hl 4 rfl) ?_
        exact c_iretS X Z hf rfl dX6_firstWith_34

set_option maxHeartbeats 4000000 in
set_option maxRecDepth 100000 in
theorem w_X6_firstWith {M : zM} {D : va_G} {cy : Nat → ClassId} {ad : Nat → Nat} {n : Nat} {K N : Nat → Nat} {G : zG} {V : zI} {L : zL} {r' : Int32} (X : RXc M D cy ad n K N G cX6_firstWith 6 RX6 1 22) (Z : RZi M (zC D cy ad n K N G) .int r' V L) {p3 : Nat} (hp3 : p3 < n ∧ K p3 = 100) (x0 : Int64) (x2 : Int32) (x4 : Int32) (ls : Array Slot) (hl : lv_has ls 6 [(0, .long x0), (2, .int x2), (3, .ref (ad p3)), (4, .int x4)]) (hf : g_X6_firstWith N G p3 V L x0 x2 x4 = some r') : RG M (zC D cy ad n K N G) V L 0 ls [] := by
  unfold g_X6_firstWith at hf
  refine z_iconst (v := 0) X.1 dX6_firstWith_0 (by decide) ?_
  refine z_istore (lv' := [(5, .int 0), (0, .long x0), (2, .int x2), (3, .ref (ad p3)), (4, .int x4)]) X.1 dX6_firstWith_1 hl (by decide) rfl (fun ls hl => ?_)
  exact w_X6_firstWith_3 X Z hp3 FU x0 x2 x4 0 ls (lv_sub hl [1, 2, 3, 4, 0] rfl) hf

theorem c_X6_firstWith (D : va_G) (cy : Nat → ClassId) (ad : Nat → Nat) {n : Nat} {K N : Nat → Nat} {G : zG} (hWF : zWF n K G) {p3 : Nat} {x0 : Int64} {x2 : Int32} {x4 : Int32} {V : zI} {L : zL} (hp3 : p3 < n ∧ K p3 = 100) {r' : Int32} (hf : f_X6_firstWith N G p3 x0 x2 x4 V L = some r') : RCi (zC D cy ad n K N G) yX6_firstWith cX6_firstWith 6 .int 1 22 [.long x0, .int x2, .ref (ad p3), .int x4] V L r' V L := by
  unfold f_X6_firstWith at hf
  exact RCi.of (by decide) hWF (Nat.le_of_ble_eq_true rfl) (fun M X Z ls hl => w_X6_firstWith X Z hp3 x0 x2 x4 ls hl hf)
def g_X0_worthOf (N : Nat → Nat) (G : zG) (p0 : Nat) (p1 : Nat) (p2 : Nat) (x3 : Int32) (x4 : Int32) (V : zI) (L : zL) : Option (Int64 × zI × zL) :=
  (zopt (G p0 10) ((f_X4_reckon_n N G p2 p0 p1 1 x3 x4 V L).bind fun r2 => some (r2.1.toInt64 * x4.toInt64, r2.2.1, r2.2.2)) (fun v1 => (f_X4_reckon_s N G p2 p0 v1 p1 1 x3 x4 V L).bind fun r3 => some (r3.1.toInt64 * x4.toInt64, r3.2.1, r3.2.2)))
def f_X0_worthOf (N : Nat → Nat) (G : zG) (p0 : Nat) (p1 : Nat) (p2 : Nat) (x3 : Int32) (x4 : Int32) (V : zI) (L : zL) : Option (Int64 × zI × zL) :=
  g_X0_worthOf N G p0 p1 p2 x3 x4 V L
set_option maxHeartbeats 4000000 in
set_option maxRecDepth 100000 in
theorem w_X0_worthOf {M : zM} {D : va_G} {cy : Nat → ClassId} {ad : Nat → Nat} {n : Nat} {K N : Nat → Nat} {G : zG} {r' : Int64 × zI × zL} (X : RXc M D cy ad n K N G cX0_worthOf 5 RX0 4 97) (Z : RZl M (zC D cy ad n K N G) r'.1 r'.2.1 r'.2.2) {p0 : Nat} (hp0 : p0 < n ∧ K p0 = 7) {p1 : Nat} (hp1 : p1 < n ∧ K p1 = 5) {p2 : Nat} (hp2 : p2 < n ∧ K p2 = 3) (x3 : Int32) (x4 : Int32) (V : zI) (L : zL) (ls : Array Slot) (hl : lv_has ls 5 [(0, .ref (ad p0)), (1, .ref (ad p1)), (2, .ref (ad p2)), (3, .int x3), (4, .int x4)]) (hf : g_X0_worthOf N G p0 p1 p2 x3 x4 V L = some r') : RG M (zC D cy ad n K N G) V L 0 ls [] := by
  unfold g_X0_worthOf at hf
  refine z_aload_n X.1 dX0_worthOf_0 rfl (lv_at hl 2 rfl) ?_
  refine z_aload_n X.1 dX0_worthOf_1 rfl (lv_at hl 0 rfl) ?_
  refine z_aload_n X.1 dX0_worthOf_2 rfl (lv_at hl 0 rfl) ?_
  rcases z_optE hf with ⟨hG1, hf⟩ | ⟨v1, hG1, hf⟩
  · refine c_getn X hp0 cf_X0_48 hG1 dX0_worthOf_3 ?_
    refine z_iconst (v := 1) X.1 dX0_worthOf_6 (by decide) ?_
    refine z_aload_n X.1 dX0_worthOf_7 rfl (lv_at hl 1 rfl) ?_
    refine z_iload_n X.1 dX0_worthOf_8 rfl (lv_at hl 3 rfl) ?_
    refine z_iload X.1 dX0_worthOf_9 (lv_at hl 4 rfl) ?_
    obtain ⟨r2, hc2, hf⟩ := z_bind hf
    refine c_callVi [.ref (ad p0), .null, .int 1, .ref (ad p1), .int x3, .int x4] X hl.1 (c_X4_reckon_n D cy ad X.2.2 hp2 hp0 hp1 hc2) hp2 ⟨by decide, rfl⟩ cm_X0_51 cw_X4_reckon rfl cq_X4_reckon ⟨by decide, by decide⟩ (Nat.le_of_ble_eq_true rfl) rfl dX0_worthOf_11 ?_
    refine z_i2l X.1 dX0_worthOf_14 ?_
    refine z_iload X.1 dX0_worthOf_15 (lv_at hl 4 rfl) ?_
    refine z_i2l X.1 dX0_worthOf_17 ?_
    refine z_lmul X.1 dX0_worthOf_18 ?_
    exact c_lret X Z hf dX0_worthOf_19
  · have hv1 := X.2.2.get hp0 (k := 10) rfl hG1
    refine c_geta X hp0 cf_X0_48 hG1 dX0_worthOf_3 ?_
    refine z_iconst (v := 1) X.1 dX0_worthOf_6 (by decide) ?_
    refine z_aload_n X.1 dX0_worthOf_7 rfl (lv_at hl 1 rfl) ?_
    refine z_iload_n X.1 dX0_worthOf_8 rfl (lv_at hl 3 rfl) ?_
    refine z_iload X.1 dX0_worthOf_9 (lv_at hl 4 rfl) ?_
    obtain ⟨r3, hc3, hf⟩ := z_bind hf
    refine c_callVi [.ref (ad p0), .ref (ad v1), .int 1, .ref (ad p1), .int x3, .int x4] X hl.1 (c_X4_reckon_s D cy ad X.2.2 hp2 hp0 hv1 hp1 hc3) hp2 ⟨by decide, rfl⟩ cm_X0_51 cw_X4_reckon rfl cq_X4_reckon ⟨by decide, by decide⟩ (Nat.le_of_ble_eq_true rfl) rfl dX0_worthOf_11 ?_
    refine z_i2l X.1 dX0_worthOf_14 ?_
    refine z_iload X.1 dX0_worthOf_15 (lv_at hl 4 rfl) ?_
    refine z_i2l X.1 dX0_worthOf_17 ?_
    refine z_lmul X.1 dX0_worthOf_18 ?_
    exact c_lret X Z hf dX0_worthOf_19

theorem c_X0_worthOf (D : va_G) (cy : Nat → ClassId) (ad : Nat → Nat) {n : Nat} {K N : Nat → Nat} {G : zG} (hWF : zWF n K G) {p0 : Nat} {p1 : Nat} {p2 : Nat} {x3 : Int32} {x4 : Int32} {V : zI} {L : zL} (hp0 : p0 < n ∧ K p0 = 7) (hp1 : p1 < n ∧ K p1 = 5) (hp2 : p2 < n ∧ K p2 = 3) {r' : Int64 × zI × zL} (hf : f_X0_worthOf N G p0 p1 p2 x3 x4 V L = some r') : RCl (zC D cy ad n K N G) yX0_worthOf cX0_worthOf 5 4 97 [.ref (ad p0), .ref (ad p1), .ref (ad p2), .int x3, .int x4] V L r'.1 r'.2.1 r'.2.2 := by
  unfold f_X0_worthOf at hf
  exact RCl.of (by decide) hWF (Nat.le_of_ble_eq_true rfl) (fun M X Z ls hl => w_X0_worthOf X Z hp0 hp1 hp2 x3 x4 V L ls hl hf)
def f_X0_weigh_83 (N : Nat → Nat) (G : zG) (p0 : Nat) (p1 : Nat) (p2 : Nat) (p3 : Nat) (p0_0 : Nat) (p0_1 : Nat) (p0_2 : Nat) (p0_3 : Nat) (p2_1 : Nat) (k3 : Int32 × zI × zL → Option (zI × zL)) (x4 : Int32) (x5 : Int32) (x6 : Int64) (s1 : Int32) (s2 : Int32) (V : zI) (L : zL) : Option (zI × zL) :=
  if inB s1 (N p0_3) then (f_X0_worthOf N G p1 p2 p3 x4 (x5 - 1) (z_uI V p0_3 s1.toNatClampNeg (vp_nar .boolean s2)) L).bind fun r2 => if inB x4 (N p0_0) then (f_X0_worthOf N G p1 p2 p3 x4 (x5 + 1) r2.2.1 (z_uL r2.2.2 p0_0 x4.toNatClampNeg (r2.1 - x6))).bind fun r4 => if inB x4 (N p0_1) then k3 ((x4 + 1), r4.2.1, z_uL r4.2.2 p0_1 x4.toNatClampNeg (r4.1 - x6)) else none else none else none
def f_X0_weigh_64 (N : Nat → Nat) (G : zG) (p0 : Nat) (p1 : Nat) (p2 : Nat) (p3 : Nat) (p0_0 : Nat) (p0_1 : Nat) (p0_2 : Nat) (p0_3 : Nat) (p2_1 : Nat) (k3 : Int32 × zI × zL → Option (zI × zL)) (x4 : Int32) (x5 : Int32) (x6 : Int64) (s1 : Int32) (s2 : Int32) (V : zI) (L : zL) : Option (zI × zL) :=
  if inB s1 (N p0_2) then (if 99 ≤ x5 then f_X0_weigh_83 N G p0 p1 p2 p3 p0_0 p0_1 p0_2 p0_3 p2_1 k3 x4 x5 x6 x4 0 (z_uI V p0_2 s1.toNatClampNeg (vp_nar .boolean s2)) L else f_X0_weigh_83 N G p0 p1 p2 p3 p0_0 p0_1 p0_2 p0_3 p2_1 k3 x4 x5 x6 x4 1 (z_uI V p0_2 s1.toNatClampNeg (vp_nar .boolean s2)) L) else none
def b_X0_weigh_3 (N : Nat → Nat) (G : zG) (p0 : Nat) (p1 : Nat) (p2 : Nat) (p3 : Nat) (p0_0 : Nat) (p0_1 : Nat) (p0_2 : Nat) (p0_3 : Nat) (p2_1 : Nat) (k3 : Int32 × zI × zL → Option (zI × zL)) : Int32 × zI × zL → Option (zI × zL) := fun ⟨x4, V, L⟩ =>
  (if 36 ≤ x4 then some (V, L) else (f_X9_isPair N G p1 (x4 / 6) (x4 - x4 / 6 * 6) V L).bind fun r1 => (if r1 = 0 then k3 ((x4 + 1), V, L) else if inB x4 (N p2_1) then (f_X0_worthOf N G p1 p2 p3 x4 (V p2_1 x4.toNatClampNeg) V L).bind fun r3 => (if (V p2_1 x4.toNatClampNeg) ≤ 0 then f_X0_weigh_64 N G p0 p1 p2 p3 p0_0 p0_1 p0_2 p0_3 p2_1 k3 x4 (V p2_1 x4.toNatClampNeg) r3.1 x4 0 r3.2.1 r3.2.2 else f_X0_weigh_64 N G p0 p1 p2 p3 p0_0 p0_1 p0_2 p0_3 p2_1 k3 x4 (V p2_1 x4.toNatClampNeg) r3.1 x4 1 r3.2.1 r3.2.2) else none))
def g_X0_weigh (N : Nat → Nat) (G : zG) (p0 : Nat) (p1 : Nat) (p2 : Nat) (p3 : Nat) (p0_0 : Nat) (p0_1 : Nat) (p0_2 : Nat) (p0_3 : Nat) (p2_1 : Nat) (V : zI) (L : zL) : Option (zI × zL) :=
  zfix (b_X0_weigh_3 N G p0 p1 p2 p3 p0_0 p0_1 p0_2 p0_3 p2_1) FU (0, V, L)
def f_X0_weigh (N : Nat → Nat) (G : zG) (p0 : Nat) (p1 : Nat) (p2 : Nat) (p3 : Nat) (V : zI) (L : zL) : Option (zI × zL) :=
  (G p0 0).bind fun p0_0 => (G p0 1).bind fun p0_1 => (G p0 2).bind fun p0_2 => (G p0 3).bind fun p0_3 => (G p2 1).bind fun p2_1 => g_X0_weigh N G p0 p1 p2 p3 p0_0 p0_1 p0_2 p0_3 p2_1 V L
set_option maxHeartbeats 4000000 in
set_option maxRecDepth 100000 in
theorem w_X0_weigh_83 {M : zM} {D : va_G} {cy : Nat → ClassId} {ad : Nat → Nat} {n : Nat} {K N : Nat → Nat} {G : zG} {r' : zI × zL} (X : RXc M D cy ad n K N G cX0_weigh 8 RX0 5 121) (Z : RZv M (zC D cy ad n K N G) r'.1 r'.2) {p0 : Nat} (hp0 : p0 < n ∧ K p0 = 0) {p1 : Nat} (hp1 : p1 < n ∧ K p1 = 7) {p2 : Nat} (hp2 : p2 < n ∧ K p2 = 5) {p3 : Nat} (hp3 : p3 < n ∧ K p3 = 3) {p0_0 : Nat} (hp0_0 : p0_0 < n ∧ K p0_0 = 103) (ep0_0 : G p0 0 = some p0_0) {p0_1 : Nat} (hp0_1 : p0_1 < n ∧ K p0_1 = 103) (ep0_1 : G p0 1 = some p0_1) {p0_2 : Nat} (hp0_2 : p0_2 < n ∧ K p0_2 = 102) (ep0_2 : G p0 2 = some p0_2) {p0_3 : Nat} (hp0_3 : p0_3 < n ∧ K p0_3 = 102) (ep0_3 : G p0 3 = some p0_3) {p2_1 : Nat} (hp2_1 : p2_1 < n ∧ K p2_1 = 100) (ep2_1 : G p2 1 = some p2_1) {k3 : Int32 × zI × zL → Option (zI × zL)} (hk3 : ∀ (x4 : Int32) (V : zI) (L : zL) (ls : Array Slot), lv_has ls 8 [(0, .ref (ad p0)), (1, .ref (ad p1)), (2, .ref (ad p2)), (3, .ref (ad p3)), (4, .int x4)] → k3 (x4, V, L) = some r' → RG M (zC D cy ad n K N G) V L 3 ls []) (x4 : Int32) (x5 : Int32) (x6 : Int64) (s1 : Int32) (s2 : Int32) (V : zI) (L : zL) (ls : Array Slot) (hl : lv_has ls 8 [(0, .ref (ad p0)), (1, .ref (ad p1)), (2, .ref (ad p2)), (3, .ref (ad p3)), (4, .int x4), (5, .int x5), (6, .long x6)]) (hf : f_X0_weigh_83 N G p0 p1 p2 p3 p0_0 p0_1 p0_2 p0_3 p2_1 k3 x4 x5 x6 s1 s2 V L = some r') : RG M (zC D cy ad n K N G) V L 83 ls [.int s2, .int s1, .ref (ad p0_3)] := by
  unfold f_X0_weigh_83 at hf
  obtain ⟨hb1, hf⟩ := z_ite hf
  refine c_zast X hp0_3 hb1 dX0_weigh_83 ?_
  refine z_aload_n X.1 dX0_weigh_84 rfl (lv_at hl 0 rfl) ?_
  refine c_geta X hp0 cf_X0_9 ep0_0 dX0_weigh_85 ?_
  refine z_iload X.1 dX0_weigh_88 (lv_at hl 4 rfl) ?_
  refine z_aload_n X.1 dX0_weigh_90 rfl (lv_at hl 1 rfl) ?_
  refine z_aload_n X.1 dX0_weigh_91 rfl (lv_at hl 2 rfl) ?_
  refine z_aload_n X.1 dX0_weigh_92 rfl (lv_at hl 3 rfl) ?_
  refine z_iload X.1 dX0_weigh_93 (lv_at hl 4 rfl) ?_
  refine z_iload X.1 dX0_weigh_95 (lv_at hl 5 rfl) ?_
  refine z_iconst (v := 1) X.1 dX0_weigh_97 (by decide) ?_
  refine z_isub X.1 dX0_weigh_98 ?_
  obtain ⟨r2, hc2, hf⟩ := z_bind hf
  refine c_callSl [.ref (ad p1), .ref (ad p2), .ref (ad p3), .int x4, .int (x5 - 1)] X hl.1 (c_X0_worthOf D cy ad X.2.2 hp1 hp2 hp3 hc2) cm_X0_44 cw_X0_worthOf rfl cq_X0_worthOf ⟨by decide, by decide⟩ (Nat.le_of_ble_eq_true rfl) rfl dX0_weigh_99 ?_
  refine z_lload X.1 dX0_weigh_102 (lv_at hl 6 rfl) ?_
  refine z_lsub X.1 dX0_weigh_104 ?_
  obtain ⟨hb3, hf⟩ := z_ite hf
  refine c_last X hp0_0 hb3 dX0_weigh_105 ?_
  refine z_aload_n X.1 dX0_weigh_106 rfl (lv_at hl 0 rfl) ?_
  refine c_geta X hp0 cf_X0_15 ep0_1 dX0_weigh_107 ?_
  refine z_iload X.1 dX0_weigh_110 (lv_at hl 4 rfl) ?_
  refine z_aload_n X.1 dX0_weigh_112 rfl (lv_at hl 1 rfl) ?_
  refine z_aload_n X.1 dX0_weigh_113 rfl (lv_at hl 2 rfl) ?_
  refine z_aload_n X.1 dX0_weigh_114 rfl (lv_at hl 3 rfl) ?_
  refine z_iload X.1 dX0_weigh_115 (lv_at hl 4 rfl) ?_
  refine z_iload X.1 dX0_weigh_117 (lv_at hl 5 rfl) ?_
  refine z_iconst (v := 1) X.1 dX0_weigh_119 (by decide) ?_
  refine z_iadd X.1 dX0_weigh_120 ?_
  obtain ⟨r4, hc4, hf⟩ := z_bind hf
  refine c_callSl [.ref (ad p1), .ref (ad p2), .ref (ad p3), .int x4, .int (x5 + 1)] X hl.1 (c_X0_worthOf D cy ad X.2.2 hp1 hp2 hp3 hc4) cm_X0_44 cw_X0_worthOf rfl cq_X0_worthOf ⟨by decide, by decide⟩ (Nat.le_of_ble_eq_true rfl) rfl dX0_weigh_121 ?_
  refine z_lload X.1 dX0_weigh_124 (lv_at hl 6 rfl) ?_
  refine z_lsub X.1 dX0_weigh_126 ?_
  obtain ⟨hb5, hf⟩ := z_ite hf
  refine c_last X hp0_1 hb5 dX0_weigh_127 ?_
  refine z_iinc (v := x4 + 1) (k0 := 4) (lv' := [(4, .int (x4 + 1)), (0, .ref (ad p0)), (1, .ref (ad p1)), (2, .ref (ad p2)), (3, .ref (ad p3)), (5, .int x5), (6, .long x6)]) X.1 dX0_weigh_128 hl rfl rfl (by decide) rfl (fun ls hl => ?_)
  refine z_goto (tgt := 3) X.1 dX0_weigh_131 (by decide) ?_
  exact hk3 (x4 + 1) r4.2.1 (z_uL r4.2.2 p0_1 x4.toNatClampNeg (r4.1 - x6)) ls (lv_sub hl [1, 2, 3, 4, 0] rfl) hf

set_option maxHeartbeats 4000000 in
set_option maxRecDepth 100000 in
theorem w_X0_weigh_64 {M : zM} {D : va_G} {cy : Nat → ClassId} {ad : Nat → Nat} {n : Nat} {K N : Nat → Nat} {G : zG} {r' : zI × zL} (X : RXc M D cy ad n K N G cX0_weigh 8 RX0 5 121) (Z : RZv M (zC D cy ad n K N G) r'.1 r'.2) {p0 : Nat} (hp0 : p0 < n ∧ K p0 = 0) {p1 : Nat} (hp1 : p1 < n ∧ K p1 = 7) {p2 : Nat} (hp2 : p2 < n ∧ K p2 = 5) {p3 : Nat} (hp3 : p3 < n ∧ K p3 = 3) {p0_0 : Nat} (hp0_0 : p0_0 < n ∧ K p0_0 = 103) (ep0_0 : G p0 0 = some p0_0) {p0_1 : Nat} (hp0_1 : p0_1 < n ∧ K p0_1 = 103) (ep0_1 : G p0 1 = some p0_1) {p0_2 : Nat} (hp0_2 : p0_2 < n ∧ K p0_2 = 102) (ep0_2 : G p0 2 = some p0_2) {p0_3 : Nat} (hp0_3 : p0_3 < n ∧ K p0_3 = 102) (ep0_3 : G p0 3 = some p0_3) {p2_1 : Nat} (hp2_1 : p2_1 < n ∧ K p2_1 = 100) (ep2_1 : G p2 1 = some p2_1) {k3 : Int32 × zI × zL → Option (zI × zL)} (hk3 : ∀ (x4 : Int32) (V : zI) (L : zL) (ls : Array Slot), lv_has ls 8 [(0, .ref (ad p0)), (1, .ref (ad p1)), (2, .ref (ad p2)), (3, .ref (ad p3)), (4, .int x4)] → k3 (x4, V, L) = some r' → RG M (zC D cy ad n K N G) V L 3 ls []) (x4 : Int32) (x5 : Int32) (x6 : Int64) (s1 : Int32) (s2 : Int32) (V : zI) (L : zL) (ls : Array Slot) (hl : lv_has ls 8 [(0, .ref (ad p0)), (1, .ref (ad p1)), (2, .ref (ad p2)), (3, .ref (ad p3)), (4, .int x4), (5, .int x5), (6, .long x6)]) (hf : f_X0_weigh_64 N G p0 p1 p2 p3 p0_0 p0_1 p0_2 p0_3 p2_1 k3 x4 x5 x6 s1 s2 V L = some r') : RG M (zC D cy ad n K N G) V L 64 ls [.int s2, .int s1, .ref (ad p0_2)] := by
  unfold f_X0_weigh_64 at hf
  obtain ⟨hb1, hf⟩ := z_ite hf
  refine c_zast X hp0_2 hb1 dX0_weigh_64 ?_
  refine z_aload_n X.1 dX0_weigh_65 rfl (lv_at hl 0 rfl) ?_
  refine c_geta X hp0 cf_X0_22 ep0_3 dX0_weigh_66 ?_
  refine z_iload X.1 dX0_weigh_69 (lv_at hl 4 rfl) ?_
  refine z_iload X.1 dX0_weigh_71 (lv_at hl 5 rfl) ?_
  refine z_bipush (v := 99) X.1 dX0_weigh_73 (by decide) ?_
  refine z_icmp_ge (tgt := 82) X.1 dX0_weigh_75 (by decide) (fun c_ => ?_) (fun c_ => ?_)
  · have hf := (if_pos c_).symm.trans hf
    refine z_iconst (v := 0) X.1 dX0_weigh_82 (by decide) ?_
    exact w_X0_weigh_83 X Z hp0 hp1 hp2 hp3 hp0_0 ep0_0 hp0_1 ep0_1 hp0_2 ep0_2 hp0_3 ep0_3 hp2_1 ep2_1 hk3 x4 x5 x6 x4 0 (z_uI V p0_2 s1.toNatClampNeg (vp_nar .boolean s2)) L ls (lv_sub hl [0, 1, 2, 3, 4, 5, 6] rfl) hf
  · have hf := (if_neg c_).symm.trans hf
    refine z_iconst (v := 1) X.1 dX0_weigh_78 (by decide) ?_
    refine z_goto (tgt := 83) X.1 dX0_weigh_79 (by decide) ?_
    exact w_X0_weigh_83 X Z hp0 hp1 hp2 hp3 hp0_0 ep0_0 hp0_1 ep0_1 hp0_2 ep0_2 hp0_3 ep0_3 hp2_1 ep2_1 hk3 x4 x5 x6 x4 1 (z_uI V p0_2 s1.toNatClampNeg (vp_nar .boolean s2)) L ls (lv_sub hl [0, 1, 2, 3, 4, 5, 6] rfl) hf

set_option maxHeartbeats 4000000 in
set_option maxRecDepth 100000 in
theorem w_X0_weigh_3 {M : zM} {D : va_G} {cy : Nat → ClassId} {ad : Nat → Nat} {n : Nat} {K N : Nat → Nat} {G : zG} {r' : zI × zL} (X : RXc M D cy ad n K N G cX0_weigh 8 RX0 5 121) (Z : RZv M (zC D cy ad n K N G) r'.1 r'.2) {p0 : Nat} (hp0 : p0 < n ∧ K p0 = 0) {p1 : Nat} (hp1 : p1 < n ∧ K p1 = 7) {p2 : Nat} (hp2 : p2 < n ∧ K p2 = 5) {p3 : Nat} (hp3 : p3 < n ∧ K p3 = 3) {p0_0 : Nat} (hp0_0 : p0_0 < n ∧ K p0_0 = 103) (ep0_0 : G p0 0 = some p0_0) {p0_1 : Nat} (hp0_1 : p0_1 < n ∧ K p0_1 = 103) (ep0_1 : G p0 1 = some p0_1) {p0_2 : Nat} (hp0_2 : p0_2 < n ∧ K p0_2 = 102) (ep0_2 : G p0 2 = some p0_2) {p0_3 : Nat} (hp0_3 : p0_3 < n ∧ K p0_3 = 102) (ep0_3 : G p0 3 = some p0_3) {p2_1 : Nat} (hp2_1 : p2_1 < n ∧ K p2_1 = 100) (ep2_1 : G p2 1 = some p2_1) (nn : Nat) : ∀ (x4 : Int32) (V : zI) (L : zL) (ls : Array Slot) (hl : lv_has ls 8 [(0, .ref (ad p0)), (1, .ref (ad p1)), (2, .ref (ad p2)), (3, .ref (ad p3)), (4, .int x4)]) (hf : zfix (b_X0_weigh_3 N G p0 p1 p2 p3 p0_0 p0_1 p0_2 p0_3 p2_1) nn (x4, V, L) = some r'), RG M (zC D cy ad n K N G) V L 3 ls [] := by
  induction nn with
  | zero => intro x4 V L ls hl hf; cases hf
  | succ nn ih =>
  intro x4 V L ls hl hf
  have hk3 : ∀ (x4 : Int32) (V : zI) (L : zL) (ls : Array Slot), lv_has ls 8 [(0, .ref (ad p0)), (1, .ref (ad p1)), (2, .ref (ad p2)), (3, .ref (ad p3)), (4, .int x4)] → zfix (b_X0_weigh_3 N G p0 p1 p2 p3 p0_0 p0_1 p0_2 p0_3 p2_1) nn (x4, V, L) = some r' → RG M (zC D cy ad n K N G) V L 3 ls [] := ih
  have hf : b_X0_weigh_3 N G p0 p1 p2 p3 p0_0 p0_1 p0_2 p0_3 p2_1 (zfix (b_X0_weigh_3 N G p0 p1 p2 p3 p0_0 p0_1 p0_2 p0_3 p2_1) nn) (x4, V, L) = some r' := hf
  generalize zfix (b_X0_weigh_3 N G p0 p1 p2 p3 p0_0 p0_1 p0_2 p0_3 p2_1) nn = k3 at hk3 hf
  clear ih
  unfold b_X0_weigh_3 at hf
  refine z_iload X.1 dX0_weigh_3 (lv_at hl 4 rfl) ?_
  refine z_bipush (v := 36) X.1 dX0_weigh_5 (by decide) ?_
  refine z_icmp_ge (tgt := 134) X.1 dX0_weigh_7 (by decide) (fun c_ => ?_) (fun c_ => ?_)
  · have hf := (if_pos c_).symm.trans hf
    exact c_vret X Z hf dX0_weigh_134
  · have hf := (if_neg c_).symm.trans hf
    refine z_aload_n X.1 dX0_weigh_10 rfl (lv_at hl 1 rfl) ?_
    refine z_iload X.1 dX0_weigh_11 (lv_at hl 4 rfl) ?_
    refine z_bipush (v := 6) X.1 dX0_weigh_13 (by decide) ?_
    refine z_idiv X.1 dX0_weigh_15 (by decide) ?_
    refine z_iload X.1 dX0_weigh_16 (lv_at hl 4 rfl) ?_
    refine z_bipush (v := 6) X.1 dX0_weigh_18 (by decide) ?_
    refine z_irem X.1 dX0_weigh_20 (by decide) ?_
    obtain ⟨r1, hc1, hf⟩ := z_bind hf
    refine c_callVi [.int (x4 / 6), .int (x4 - x4 / 6 * 6)] X hl.1 (c_X9_isPair D cy ad X.2.2 hp1 hc1) hp1 ⟨by decide, rfl⟩ cm_X0_33 cw_X9_isPair rfl cq_X9_isPair ⟨by decide, by decide⟩ (Nat.le_of_ble_eq_true rfl) rfl dX0_weigh_21 ?_
    refine z_if_eq (tgt := 128) X.1 dX0_weigh_24 (by decide) (fun c_ => ?_) (fun c_ => ?_)
    · have hf := (if_pos c_).symm.trans hf
      refine z_iinc (v := x4 + 1) (k0 := 4) (lv' := [(4, .int (x4 + 1)), (0, .ref (ad p0)), (1, .ref (ad p1)), (2, .ref (ad p2)), (3, .ref (ad p3))]) X.1 dX0_weigh_128 hl rfl rfl (by decide) rfl (fun ls hl => ?_)
      refine z_goto (tgt := 3) X.1 dX0_weigh_131 (by decide) ?_
      exact hk3 (x4 + 1) V L ls (lv_sub hl [1, 2, 3, 4, 0] rfl) hf
    · have hf := (if_neg c_).symm.trans hf
      refine z_aload_n X.1 dX0_weigh_27 rfl (lv_at hl 2 rfl) ?_
      refine c_geta X hp2 cf_X0_39 ep2_1 dX0_weigh_28 ?_
      refine z_iload X.1 dX0_weigh_31 (lv_at hl 4 rfl) ?_
      obtain ⟨hb2, hf⟩ := z_ite hf
      refine c_iald X hp2_1 hb2 dX0_weigh_33 ?_
      refine z_istore (lv' := [(5, .int (V p2_1 x4.toNatClampNeg)), (0, .ref (ad p0)), (1, .ref (ad p1)), (2, .ref (ad p2)), (3, .ref (ad p3)), (4, .int x4)]) X.1 dX0_weigh_34 hl (by decide) rfl (fun ls hl => ?_)
      refine z_aload_n X.1 dX0_weigh_36 rfl (lv_at hl 2 rfl) ?_
      refine z_aload_n X.1 dX0_weigh_37 rfl (lv_at hl 3 rfl) ?_
      refine z_aload_n X.1 dX0_weigh_38 rfl (lv_at hl 4 rfl) ?_
      refine z_iload X.1 dX0_weigh_39 (lv_at hl 5 rfl) ?_
      refine z_iload X.1 dX0_weigh_41 (lv_at hl 0 rfl) ?_
      obtain ⟨r3, hc3, hf⟩ := z_bind hf
      refine c_callSl [.ref (ad p1), .ref (ad p2), .ref (ad p3), .int x4, .int (V p2_1 x4.toNatClampNeg)] X hl.1 (c_X0_worthOf D cy ad X.2.2 hp1 hp2 hp3 hc3) cm_X0_44 cw_X0_worthOf rfl cq_X0_worthOf ⟨by decide, by decide⟩ (Nat.le_of_ble_eq_true rfl) rfl dX0_weigh_43 ?_
      refine z_lstore (lv' := [(6, .long r3.1), (5, .int (V p2_1 x4.toNatClampNeg)), (0, .ref (ad p0)), (1, .ref (ad p1)), (2, .ref (ad p2)), (3, .ref (ad p3)), (4, .int x4)]) X.1 dX0_weigh_46 hl (by decide) rfl (fun ls hl => ?_)
      refine z_aload_n X.1 dX0_weigh_48 rfl (lv_at hl 2 rfl) ?_
      refine c_geta X hp0 cf_X0_18 ep0_2 dX0_weigh_49 ?_
      refine z_iload X.1 dX0_weigh_52 (lv_at hl 6 rfl) ?_
      refine z_iload X.1 dX0_weigh_54 (lv_at hl 1 rfl) ?_
      refine z_if_le (tgt := 63) X.1 dX0_weigh_56 (by decide) (fun c_ => ?_) (fun c_ => ?_)
      · have hf := (if_pos c_).symm.trans hf
        refine z_iconst (v := 0) X.1 dX0_weigh_63 (by decide) ?_
        exact w_X0_weigh_64 X Z hp0 hp1 hp2 hp3 hp0_0 ep0_0 hp0_1 ep0_1 hp0_2 ep0_2 hp0_3 ep0_3 hp2_1 ep2_1 hk3 x4 (V p2_1 x4.toNatClampNeg) r3.1 x4 0 r3.2.1 r3.2.2 ls (lv_sub hl [2, 3, 4, 5, 6, 1, 0] rfl) hf
      · have hf := (if_neg c_).symm.trans hf
        refine z_iconst (v := 1) X.1 dX0_weigh_59 (by decide) ?_
        refine z_goto (tgt := 64) X.1 dX0_weigh_60 (by decide) ?_
        exact w_X0_weigh_64 X Z hp0 hp1 hp2 hp3 hp0_0 ep0_0 hp0_1 ep0_1 hp0_2 ep0_2 hp0_3 ep0_3 hp2_1 ep2_1 hk3 x4 (V p2_1 x4.toNatClampNeg) r3.1 x4 1 r3.2.1 r3.2.2 ls (lv_sub hl [2, 3, 4, 5, 6, 1, 0] rfl) hf

set_option maxHeartbeats 4000000 in
set_option maxRecDepth 100000 in
theorem w_X0_weigh {M : zM} {D : va_G} {cy : Nat → ClassId} {ad : Nat → Nat} {n : Nat} {K N : Nat → Nat} {G : zG} {r' : zI × zL} (X : RXc M D cy ad n K N G cX0_weigh 8 RX0 5 121) (Z : RZv M (zC D cy ad n K N G) r'.1 r'.2) {p0 : Nat} (hp0 : p0 < n ∧ K p0 = 0) {p1 : Nat} (hp1 : p1 < n ∧ K p1 = 7) {p2 : Nat} (hp2 : p2 < n ∧ K p2 = 5) {p3 : Nat} (hp3 : p3 < n ∧ K p3 = 3) {p0_0 : Nat} (hp0_0 : p0_0 < n ∧ K p0_0 = 103) (ep0_0 : G p0 0 = some p0_0) {p0_1 : Nat} (hp0_1 : p0_1 < n ∧ K p0_1 = 103) (ep0_1 : G p0 1 = some p0_1) {p0_2 : Nat} (hp0_2 : p0_2 < n ∧ K p0_2 = 102) (ep0_2 : G p0 2 = some p0_2) {p0_3 : Nat} (hp0_3 : p0_3 < n ∧ K p0_3 = 102) (ep0_3 : G p0 3 = some p0_3) {p2_1 : Nat} (hp2_1 : p2_1 < n ∧ K p2_1 = 100) (ep2_1 : G p2 1 = some p2_1)  (V : zI) (L : zL) (ls : Array Slot) (hl : lv_has ls 8 [(0, .ref (ad p0)), (1, .ref (ad p1)), (2, .ref (ad p2)), (3, .ref (ad p3))]) (hf : g_X0_weigh N G p0 p1 p2 p3 p0_0 p0_1 p0_2 p0_3 p2_1 V L = some r') : RG M (zC D cy ad n K N G) V L 0 ls [] := by
  unfold g_X0_weigh at hf
  refine z_iconst (v := 0) X.1 dX0_weigh_0 (by decide) ?_
  refine z_istore (lv' := [(4, .int 0), (0, .ref (ad p0)), (1, .ref (ad p1)), (2, .ref (ad p2)), (3, .ref (ad p3))]) X.1 dX0_weigh_1 hl (by decide) rfl (fun ls hl => ?_)
  exact w_X0_weigh_3 X Z hp0 hp1 hp2 hp3 hp0_0 ep0_0 hp0_1 ep0_1 hp0_2 ep0_2 hp0_3 ep0_3 hp2_1 ep2_1 FU 0 V L ls (lv_sub hl [1, 2, 3, 4, 0] rfl) hf

theorem c_X0_weigh (D : va_G) (cy : Nat → ClassId) (ad : Nat → Nat) {n : Nat} {K N : Nat → Nat} {G : zG} (hWF : zWF n K G) {p0 : Nat} {p1 : Nat} {p2 : Nat} {p3 : Nat} {V : zI} {L : zL} (hp0 : p0 < n ∧ K p0 = 0) (hp1 : p1 < n ∧ K p1 = 7) (hp2 : p2 < n ∧ K p2 = 5) (hp3 : p3 < n ∧ K p3 = 3) {r' : zI × zL} (hf : f_X0_weigh N G p0 p1 p2 p3 V L = some r') : RCv (zC D cy ad n K N G) yX0_weigh cX0_weigh 8 5 121 [.ref (ad p0), .ref (ad p1), .ref (ad p2), .ref (ad p3)] V L r'.1 r'.2 := by
  unfold f_X0_weigh at hf
  obtain ⟨p0_0, ep0_0, hf⟩ := z_bind hf
  have hp0_0 := hWF.get hp0 (k := 0) (c := 103) rfl ep0_0
  obtain ⟨p0_1, ep0_1, hf⟩ := z_bind hf
  have hp0_1 := hWF.get hp0 (k := 1) (c := 103) rfl ep0_1
  obtain ⟨p0_2, ep0_2, hf⟩ := z_bind hf
  have hp0_2 := hWF.get hp0 (k := 2) (c := 102) rfl ep0_2
  obtain ⟨p0_3, ep0_3, hf⟩ := z_bind hf
  have hp0_3 := hWF.get hp0 (k := 3) (c := 102) rfl ep0_3
  obtain ⟨p2_1, ep2_1, hf⟩ := z_bind hf
  have hp2_1 := hWF.get hp2 (k := 1) (c := 100) rfl ep2_1
  exact RCv.of (by decide) hWF (Nat.le_of_ble_eq_true rfl) (fun M X Z ls hl => w_X0_weigh X Z hp0 hp1 hp2 hp3 hp0_0 ep0_0 hp0_1 ep0_1 hp0_2 ep0_2 hp0_3 ep0_3 hp2_1 ep2_1 V L ls hl hf)
