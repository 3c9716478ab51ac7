def g_X0_compare (N : Nat → Nat) (G : zG) (p0 : Nat) (p0_0 : Nat) (p0_1 : Nat) (p0_2 : Nat) (p0_3 : Nat) (p0_4 : Nat) (x1 : Int32) (x2 : Int32) (x3 : Int32) (x4 : Int32) (V : zI) (L : zL) : Option (zI × zL) :=
  if inB ((x1 * 6) + x3) (N p0_2) then (if (V p0_2 ((x1 * 6) + x3).toNatClampNeg) = 0 then some (V, L) else if inB ((x2 * 6) + x3) (N p0_3) then (if (V p0_3 ((x2 * 6) + x3).toNatClampNeg) = 0 then some (V, L) else if inB ((x2 * 6) + x4) (N p0_2) then (if (V p0_2 ((x2 * 6) + x4).toNatClampNeg) = 0 then some (V, L) else if inB ((x1 * 6) + x4) (N p0_3) then (if (V p0_3 ((x1 * 6) + x4).toNatClampNeg) = 0 then some (V, L) else if inB ((x1 * 6) + x3) (N p0_0) then if inB ((x2 * 6) + x3) (N p0_1) then if inB ((x2 * 6) + x4) (N p0_0) then if inB ((x1 * 6) + x4) (N p0_1) then (if (lg_cmp ((((L p0_0 ((x1 * 6) + x3).toNatClampNeg) + (L p0_1 ((x2 * 6) + x3).toNatClampNeg)) + (L p0_0 ((x2 * 6) + x4).toNatClampNeg)) + (L p0_1 ((x1 * 6) + x4).toNatClampNeg)) (L p0 5)) ≤ 0 then some (V, L) else if inB 0 (N p0_4) then if inB 1 (N p0_4) then if inB 2 (N p0_4) then if inB 3 (N p0_4) then if inB 4 (N p0_4) then some (z_uI (z_uI (z_uI (z_uI (z_uI V p0_4 (0 : Int32).toNatClampNeg x1) p0_4 (1 : Int32).toNatClampNeg x2) p0_4 (2 : Int32).toNatClampNeg x3) p0_4 (3 : Int32).toNatClampNeg x4) p0_4 (4 : Int32).toNatClampNeg (((((L p0_0 ((x1 * 6) + x3).toNatClampNeg) + (L p0_1 ((x2 * 6) + x3).toNatClampNeg)) + (L p0_0 ((x2 * 6) + x4).toNatClampNeg)) + (L p0_1 ((x1 * 6) + x4).toNatClampNeg)).toInt32), z_uL L p0 5 ((((L p0_0 ((x1 * 6) + x3).toNatClampNeg) + (L p0_1 ((x2 * 6) + x3).toNatClampNeg)) + (L p0_0 ((x2 * 6) + x4).toNatClampNeg)) + (L p0_1 ((x1 * 6) + x4).toNatClampNeg))) else none else none else none else none else none) else none else none else none else none) else none) else none) else none) else none
def f_X0_compare (N : Nat → Nat) (G : zG) (p0 : Nat) (x1 : Int32) (x2 : Int32) (x3 : Int32) (x4 : Int32) (V : zI) (L : zL) : Option (zI × zL) :=
  (G p0 0).bind fun p0_0 => (G p0 1).bind fun p0_1 => (G p0 2).bind fun p0_2 => (G p0 3).bind fun p0_3 => (G p0 4).bind fun p0_4 => g_X0_compare N G p0 p0_0 p0_1 p0_2 p0_3 p0_4 x1 x2 x3 x4 V L
set_option maxHeartbeats 4000000 in
set_option maxRecDepth 100000 in
theorem w_X0_compare {M : zM} {D : va_G} {cy : Nat → ClassId} {ad : Nat → Nat} {n : Nat} {K N : Nat → Nat} {G : zG} {r' : zI × zL} (X : RXc M D cy ad n K N G cX0_compare 11 RX0 0 0) (Z : RZv M (zC D cy ad n K N G) r'.1 r'.2) {p0 : Nat} (hp0 : p0 < n ∧ K p0 = 0) {p0_0 : Nat} (hp0_0 : p0_0 < n ∧ K p0_0 = 103) (ep0_0 : G p0 0 = some p0_0) {p0_1 : Nat} (hp0_1 : p0_1 < n ∧ K p0_1 = 103) (ep0_1 : G p0 1 = some p0_1) {p0_2 : Nat} (hp0_2 : p0_2 < n ∧ K p0_2 = 102) (ep0_2 : G p0 2 = some p0_2) {p0_3 : Nat} (hp0_3 : p0_3 < n ∧ K p0_3 = 102) (ep0_3 : G p0 3 = some p0_3) {p0_4 : Nat} (hp0_4 : p0_4 < n ∧ K p0_4 = 100) (ep0_4 : G p0 4 = some p0_4) (x1 : Int32) (x2 : Int32) (x3 : Int32) (x4 : Int32) (V : zI) (L : zL) (ls : Array Slot) (hl : lv_has ls 11 [(0, .ref (ad p0)), (1, .int x1), (2, .int x2), (3, .int x3), (4, .int x4)]) (hf : g_X0_compare N G p0 p0_0 p0_1 p0_2 p0_3 p0_4 x1 x2 x3 x4 V L = some r') : RG M (zC D cy ad n K N G) V L 0 ls [] := by
  unfold g_X0_compare at hf
  refine z_iload_n X.1 dX0_compare_0 rfl (lv_at hl 1 rfl) ?_
  refine z_bipush (v := 6) X.1 dX0_compare_1 (by decide) ?_
  refine z_imul X.1 dX0_compare_3 ?_
  refine z_iload_n X.1 dX0_compare_4 rfl (lv_at hl 3 rfl) ?_
  refine z_iadd X.1 dX0_compare_5 ?_
  refine z_istore (lv' := [(5, .int ((x1 * 6) + x3)), (0, .ref (ad p0)), (1, .int x1), (2, .int x2), (3, .int x3), (4, .int x4)]) X.1 dX0_compare_6 hl (by decide) rfl (fun ls hl => ?_)
  refine z_iload_n X.1 dX0_compare_8 rfl (lv_at hl 3 rfl) ?_
  refine z_bipush (v := 6) X.1 dX0_compare_9 (by decide) ?_
  refine z_imul X.1 dX0_compare_11 ?_
  refine z_iload_n X.1 dX0_compare_12 rfl (lv_at hl 4 rfl) ?_
  refine z_iadd X.1 dX0_compare_13 ?_
  refine z_istore (lv' := [(6, .int ((x2 * 6) + x3)), (5, .int ((x1 * 6) + x3)), (0, .ref (ad p0)), (1, .int x1), (2, .int x2), (3, .int x3), (4, .int x4)]) X.1 dX0_compare_14 hl (by decide) rfl (fun ls hl => ?_)
  refine z_iload_n X.1 dX0_compare_16 rfl (lv_at hl 4 rfl) ?_
  refine z_bipush (v := 6) X.1 dX0_compare_17 (by decide) ?_
  refine z_imul X.1 dX0_compare_19 ?_
  refine z_iload X.1 dX0_compare_20 (lv_at hl 6 rfl) ?_
  refine z_iadd X.1 dX0_compare_22 ?_
  refine z_istore (lv' := [(7, .int ((x2 * 6) + x4)), (6, .int ((x2 * 6) + x3)), (5, .int ((x1 * 6) + x3)), (0, .ref (ad p0)), (1, .int x1), (2, .int x2), (3, .int x3), (4, .int x4)]) X.1 dX0_compare_23 hl (by decide) rfl (fun ls hl => ?_)
  refine z_iload_n X.1 dX0_compare_25 rfl (lv_at hl 4 rfl) ?_
  refine z_bipush (v := 6) X.1 dX0_compare_26 (by decide) ?_
  refine z_imul X.1 dX0_compare_28 ?_
  refine z_iload X.1 dX0_compare_29 (lv_at hl 7 rfl) ?_
  refine z_iadd X.1 dX0_compare_31 ?_
  refine z_istore (lv' := [(8, .int ((x1 * 6) + x4)), (7, .int ((x2 * 6) + x4)), (6, .int ((x2 * 6) + x3)), (5, .int ((x1 * 6) + x3)), (0, .ref (ad p0)), (1, .int x1), (2, .int x2), (3, .int x3), (4, .int x4)]) X.1 dX0_compare_32 hl (by decide) rfl (fun ls hl => ?_)
  refine z_aload_n X.1 dX0_compare_34 rfl (lv_at hl 4 rfl) ?_
  refine c_geta X hp0 cf_X0_18 ep0_2 dX0_compare_35 ?_
  refine z_iload X.1 dX0_compare_38 (lv_at hl 3 rfl) ?_
  obtain ⟨hb1, hf⟩ := z_ite hf
  refine c_zald X hp0_2 hb1 dX0_compare_40 ?_
  refine z_if_eq (tgt := 74) X.1 dX0_compare_41 (by decide) (fun c_ => ?_) (fun c_ => ?_)
  · have hf := (if_pos c_).symm.trans hf
    exact c_vret X Z hf dX0_compare_74
  · have hf := (if_neg c_).symm.trans hf
    refine z_aload_n X.1 dX0_compare_44 rfl (lv_at hl 4 rfl) ?_
    refine c_geta X hp0 cf_X0_22 ep0_3 dX0_compare_45 ?_
    refine z_iload X.1 dX0_compare_48 (lv_at hl 2 rfl) ?_
    obtain ⟨hb2, hf⟩ := z_ite hf
    refine c_zald X hp0_3 hb2 dX0_compare_50 ?_
    refine z_if_eq (tgt := 74) X.1 dX0_compare_51 (by decide) (fun c_ => ?_) (fun c_ => ?_)
    · have hf := (if_pos c_).symm.trans hf
      exact c_vret X Z hf dX0_compare_74
    · have hf := (if_neg c_).symm.trans hf
      refine z_aload_n X.1 dX0_compare_54 rfl (lv_at hl 4 rfl) ?_
      refine c_geta X hp0 cf_X0_18 ep0_2 dX0_compare_55 ?_
      refine z_iload X.1 dX0_compare_58 (lv_at hl 1 rfl) ?_
      obtain ⟨hb3, hf⟩ := z_ite hf
      refine c_zald X hp0_2 hb3 dX0_compare_60 ?_
      refine z_if_eq (tgt := 74) X.1 dX0_compare_61 (by decide) (fun c_ => ?_) (fun c_ => ?_)
      · have hf := (if_pos c_).symm.trans hf
        exact c_vret X Z hf dX0_compare_74
      · have hf := (if_neg c_).symm.trans hf
        refine z_aload_n X.1 dX0_compare_64 rfl (lv_at hl 4 rfl) ?_
        refine c_geta X hp0 cf_X0_22 ep0_3 dX0_compare_65 ?_
        refine z_iload X.1 dX0_compare_68 (lv_at hl 0 rfl) ?_
        obtain ⟨hb4, hf⟩ := z_ite hf
        refine c_zald X hp0_3 hb4 dX0_compare_70 ?_
        refine z_if_ne (tgt := 75) X.1 dX0_compare_71 (by decide) (fun c_ => ?_) (fun c_ => ?_)
        · have hf := (if_neg c_).symm.trans hf
          refine z_aload_n X.1 dX0_compare_75 rfl (lv_at hl 4 rfl) ?_
          refine c_geta X hp0 cf_X0_9 ep0_0 dX0_compare_76 ?_
          refine z_iload X.1 dX0_compare_79 (lv_at hl 3 rfl) ?_
          obtain ⟨hb5, hf⟩ := z_ite hf
          refine c_lald X hp0_0 hb5 dX0_compare_81 ?_
          refine z_aload_n X.1 dX0_compare_82 rfl (lv_at hl 4 rfl) ?_
          refine c_geta X hp0 cf_X0_15 ep0_1 dX0_compare_83 ?_
          refine z_iload X.1 dX0_compare_86 (lv_at hl 2 rfl) ?_
          obtain ⟨hb6, hf⟩ := z_ite hf
          refine c_lald X hp0_1 hb6 dX0_compare_88 ?_
          refine z_ladd X.1 dX0_compare_89 ?_
          refine z_aload_n X.1 dX0_compare_90 rfl (lv_at hl 4 rfl) ?_
          refine c_geta X hp0 cf_X0_9 ep0_0 dX0_compare_91 ?_
          refine z_iload X.1 dX0_compare_94 (lv_at hl 1 rfl) ?_
          obtain ⟨hb7, hf⟩ := z_ite hf
          refine c_lald X hp0_0 hb7 dX0_compare_96 ?_
          refine z_ladd X.1 dX0_compare_97 ?_
          refine z_aload_n X.1 dX0_compare_98 rfl (lv_at hl 4 rfl) ?_
          refine c_geta X hp0 cf_X0_15 ep0_1 dX0_compare_99 ?_
          refine z_iload X.1 dX0_compare_102 (lv_at hl 0 rfl) ?_
          obtain ⟨hb8, hf⟩ := z_ite hf
          refine c_lald X hp0_1 hb8 dX0_compare_104 ?_
          refine z_ladd X.1 dX0_compare_105 ?_
          refine z_lstore (lv' := [(9, .long ((((L p0_0 ((x1 * 6) + x3).toNatClampNeg) + (L p0_1 ((x2 * 6) + x3).toNatClampNeg)) + (L p0_0 ((x2 * 6) + x4).toNatClampNeg)) + (L p0_1 ((x1 * 6) + x4).toNatClampNeg))), (8, .int ((x1 * 6) + x4)), (7, .int ((x2 * 6) + x4)), (6, .int ((x2 * 6) + x3)), (5, .int ((x1 * 6) + x3)), (0, .ref (ad p0)), (1, .int x1), (2, .int x2), (3, .int x3), (4, .int x4)]) X.1 dX0_compare_106 hl (by decide) rfl (fun ls hl => ?_)
          refine z_lload X.1 dX0_compare_108 (lv_at hl 0 rfl) ?_
          refine z_aload_n X.1 dX0_compare_110 rfl (lv_at hl 5 rfl) ?_
          refine c_getl X hp0 cf_X0_29 dX0_compare_111 ?_
          refine z_lcmp X.1 dX0_compare_114 ?_
          refine z_if_le (tgt := 162) X.1 dX0_compare_115 (by decide) (fun c_ => ?_) (fun c_ => ?_)
          · have hf := (if_pos c_).symm.trans hf
            exact c_vret X Z hf dX0_compare_162
          · have hf := (if_neg c_).symm.trans hf
            refine z_aload_n X.1 dX0_compare_118 rfl (lv_at hl 5 rfl) ?_
            refine z_lload X.1 dX0_compare_119 (lv_at hl 0 rfl) ?_
            refine c_putl X hp0 cf_X0_29 cg_X0 cp_X0_5 rfl rfl dX0_compare_121 ?_
            refine z_aload_n X.1 dX0_compare_124 rfl (lv_at hl 5 rfl) ?_
            refine c_geta X hp0 cf_X0_25 ep0_4 dX0_compare_125 ?_
            refine z_iconst (v := 0) X.1 dX0_compare_128 (by decide) ?_
            refine z_iload_n X.1 dX0_compare_129 rfl (lv_at hl 6 rfl) ?_
            obtain ⟨hb9, hf⟩ := z_ite hf
            refine c_iast X hp0_4 hb9 dX0_compare_130 ?_
            refine z_aload_n X.1 dX0_compare_131 rfl (lv_at hl 5 rfl) ?_
            refine c_geta X hp0 cf_X0_25 ep0_4 dX0_compare_132 ?_
            refine z_iconst (v := 1) X.1 dX0_compare_135 (by decide) ?_
            refine z_iload_n X.1 dX0_compare_136 rfl (lv_at hl 7 rfl) ?_
            obtain ⟨hb10, hf⟩ := z_ite hf
            refine c_iast X hp0_4 hb10 dX0_compare_137 ?_
            refine z_aload_n X.1 dX0_compare_138 rfl (lv_at hl 5 rfl) ?_
            refine c_geta X hp0 cf_X0_25 ep0_4 dX0_compare_139 ?_
            refine z_iconst (v := 2) X.1 dX0_compare_142 (by decide) ?_
            refine z_iload_n X.1 dX0_compare_143 rfl (lv_at hl 8 rfl) ?_
            obtain ⟨hb11, hf⟩ := z_ite hf
            refine c_iast X hp0_4 hb11 dX0_compare_144 ?_
            refine z_aload_n X.1 dX0_compare_145 rfl (lv_at hl 5 rfl) ?_
            refine c_geta X hp0 cf_X0_25 ep0_4 dX0_compare_146 ?_
            refine z_iconst (v := 3) X.1 dX0_compare_149 (by decide) ?_
            refine z_iload X.1 dX0_compare_150 (lv_at hl 9 rfl) ?_
            obtain ⟨hb12, hf⟩ := z_ite hf
            refine c_iast X hp0_4 hb12 dX0_compare_152 ?_
            refine z_aload_n X.1 dX0_compare_153 rfl (lv_at hl 5 rfl) ?_
            refine c_geta X hp0 cf_X0_25 ep0_4 dX0_compare_154 ?_
            refine z_iconst (v := 4) X.1 dX0_compare_157 (by decide) ?_
            refine z_lload X.1 dX0_compare_158 (lv_at hl 0 rfl) ?_
            refine z_l2i X.1 dX0_compare_160 ?_
            obtain ⟨hb13, hf⟩ := z_ite hf
            refine c_iast X hp0_4 hb13 dX0_compare_161 ?_
            exact c_vret X Z hf dX0_compare_162
        · have hf := (if_pos c_).symm.trans hf
          exact c_vret X Z hf dX0_compare_74

theorem c_X0_compare (D : va_G) (cy : Nat → ClassId) (ad : Nat → Nat) {n : Nat} {K N : Nat → Nat} {G : zG} (hWF : zWF n K G) {p0 : Nat} {x1 : Int32} {x2 : Int32} {x3 : Int32} {x4 : Int32} {V : zI} {L : zL} (hp0 : p0 < n ∧ K p0 = 0) {r' : zI × zL} (hf : f_X0_compare N G p0 x1 x2 x3 x4 V L = some r') : RCv (zC D cy ad n K N G) yX0_compare cX0_compare 11 0 0 [.ref (ad p0), .int x1, .int x2, .int x3, .int x4] V L r'.1 r'.2 := by
  unfold f_X0_compare at hf
  obtain ⟨p0_0, ep0_0, hf⟩ := z_bind hf
  have hp0_0 := hWF.get hp0 (k := 0) (c := 103) rfl ep0_0
  obtain ⟨p0_1, ep0_1, hf⟩ := z_bind hf
  have hp0_1 := hWF.get hp0 (k := 1) (c := 103) rfl ep0_1
  obtain ⟨p0_2, ep0_2, hf⟩ := z_bind hf
  have hp0_2 := hWF.get hp0 (k := 2) (c := 102) rfl ep0_2
  obtain ⟨p0_3, ep0_3, hf⟩ := z_bind hf
  have hp0_3 := hWF.get hp0 (k := 3) (c := 102) rfl ep0_3
  obtain ⟨p0_4, ep0_4, hf⟩ := z_bind hf
  have hp0_4 := hWF.get hp0 (k := 4) (c := 100) rfl ep0_4
  exact RCv.of (by decide) hWF (Nat.le_of_ble_eq_true rfl) (fun M X Z ls hl => w_X0_compare X Z hp0 hp0_0 ep0_0 hp0_1 ep0_1 hp0_2 ep0_2 hp0_3 ep0_3 hp0_4 ep0_4 x1 x2 x3 x4 V L ls hl hf)
def f_X0_seekBetween_47 (N : Nat → Nat) (G : zG) (p0 : Nat) (k3 : Int32 × Int32 × Int32 × Int32 × zI × zL → Option (zI × zL)) (k12 : Int32 × Int32 × Int32 × Int32 × Int32 × zI × zL → Option (zI × zL)) (x1 : Int32) (x2 : Int32) (x3 : Int32) (x4 : Int32) (x5 : Int32) (s0 : Int32) (V : zI) (L : zL) : Option (zI × zL) :=
  (if s0 = 0 then k12 (x1, x2, x3, x4, (x5 + 1), V, L) else (if x4 = x5 then k12 (x1, x2, x3, x4, (x5 + 1), V, L) else (f_X0_compare N G p0 x1 x2 x4 x5 V L).bind fun r1 => k12 (x1, x2, x3, x4, (x5 + 1), r1.1, r1.2)))
def f_X0_seekBetween_46 (N : Nat → Nat) (G : zG) (p0 : Nat) (k3 : Int32 × Int32 × Int32 × Int32 × zI × zL → Option (zI × zL)) (k12 : Int32 × Int32 × Int32 × Int32 × Int32 × zI × zL → Option (zI × zL)) (x1 : Int32) (x2 : Int32) (x3 : Int32) (x4 : Int32) (x5 : Int32) (V : zI) (L : zL) : Option (zI × zL) :=
  f_X0_seekBetween_47 N G p0 k3 k12 x1 x2 x3 x4 x5 0 V L
def b_X0_seekBetween_12 (N : Nat → Nat) (G : zG) (p0 : Nat) (k3 : Int32 × Int32 × Int32 × Int32 × zI × zL → Option (zI × zL)) (k12 : Int32 × Int32 × Int32 × Int32 × Int32 × zI × zL → Option (zI × zL)) : Int32 × Int32 × Int32 × Int32 × Int32 × zI × zL → Option (zI × zL) := fun ⟨x1, x2, x3, x4, x5, V, L⟩ =>
  (if x3 ≤ x5 then k3 (x1, x2, x3, (x4 + 1), V, L) else (if x4 = x1 then f_X0_seekBetween_46 N G p0 k3 k12 x1 x2 x3 x4 x5 V L else (if x4 = x2 then f_X0_seekBetween_46 N G p0 k3 k12 x1 x2 x3 x4 x5 V L else (if x5 = x1 then f_X0_seekBetween_46 N G p0 k3 k12 x1 x2 x3 x4 x5 V L else (if x5 = x2 then f_X0_seekBetween_46 N G p0 k3 k12 x1 x2 x3 x4 x5 V L else f_X0_seekBetween_47 N G p0 k3 k12 x1 x2 x3 x4 x5 1 V L)))))
def b_X0_seekBetween_3 (N : Nat → Nat) (G : zG) (p0 : Nat) (k3 : Int32 × Int32 × Int32 × Int32 × zI × zL → Option (zI × zL)) : Int32 × Int32 × Int32 × Int32 × zI × zL → Option (zI × zL) := fun ⟨x1, x2, x3, x4, V, L⟩ =>
  (if x3 ≤ x4 then some (V, L) else zfix (b_X0_seekBetween_12 N G p0 k3) FU (x1, x2, x3, x4, 0, V, L))
def g_X0_seekBetween (N : Nat → Nat) (G : zG) (p0 : Nat) (x1 : Int32) (x2 : Int32) (x3 : Int32) (V : zI) (L : zL) : Option (zI × zL) :=
  zfix (b_X0_seekBetween_3 N G p0) FU (x1, x2, x3, 0, V, L)
def f_X0_seekBetween (N : Nat → Nat) (G : zG) (p0 : Nat) (x1 : Int32) (x2 : Int32) (x3 : Int32) (V : zI) (L : zL) : Option (zI × zL) :=
  g_X0_seekBetween N G p0 x1 x2 x3 V L
set_option maxHeartbeats 4000000 in
set_option maxRecDepth 100000 in
theorem w_X0_seekBetween_47 {M : zM} {D : va_G} {cy : Nat → ClassId} {ad : Nat → Nat} {n : Nat} {K N : Nat → Nat} {G : zG} {r' : zI × zL} (X : RXc M D cy ad n K N G cX0_seekBetween 7 RX0 1 30) (Z : RZv M (zC D cy ad n K N G) r'.1 r'.2) {p0 : Nat} (hp0 : p0 < n ∧ K p0 = 0) {k3 : Int32 × Int32 × Int32 × Int32 × zI × zL → Option (zI × zL)} {k12 : Int32 × Int32 × Int32 × Int32 × Int32 × zI × zL → Option (zI × zL)} (hk3 : ∀ (x1 : Int32) (x2 : Int32) (x3 : Int32) (x4 : Int32) (V : zI) (L : zL) (ls : Array Slot), lv_has ls 7 [(0, .ref (ad p0)), (1, .int x1), (2, .int x2), (3, .int x3), (4, .int x4)] → k3 (x1, x2, x3, x4, V, L) = some r' → RG M (zC D cy ad n K N G) V L 3 ls []) (hk12 : ∀ (x1 : Int32) (x2 : Int32) (x3 : Int32) (x4 : Int32) (x5 : Int32) (V : zI) (L : zL) (ls : Array Slot), lv_has ls 7 [(0, .ref (ad p0)), (1, .int x1), (2, .int x2), (3, .int x3), (4, .int x4), (5, .int x5)] → k12 (x1, x2, x3, x4, x5, V, L) = some r' → RG M (zC D cy ad n K N G) V L 12 ls []) (x1 : Int32) (x2 : Int32) (x3 : Int32) (x4 : Int32) (x5 : Int32) (s0 : Int32) (V : zI) (L : zL) (ls : Array Slot) (hl : lv_has ls 7 [(0, .ref (ad p0)), (1, .int x1), (2, .int x2), (3, .int x3), (4, .int x4), (5, .int x5)]) (hf : f_X0_seekBetween_47 N G p0 k3 k12 x1 x2 x3 x4 x5 s0 V L = some r') : RG M (zC D cy ad n K N G) V L 47 ls [.int s0] := by
  unfold f_X0_seekBetween_47 at hf
  refine z_istore (lv' := [(6, .int s0), (0, .ref (ad p0)), (1, .int x1), (2, .int x2), (3, .int x3), (4, .int x4), (5, .int x5)]) X.1 dX0_seekBetween_47 hl (by decide) rfl (fun ls hl => ?_)
  refine z_iload X.1 dX0_seekBetween_49 (lv_at hl 0 rfl) ?_
  refine z_if_eq (tgt := 71) X.1 dX0_seekBetween_51 (by decide) (fun c_ => ?_) (fun c_ => ?_)
  · have hf := (if_pos c_).symm.trans hf
    refine z_iinc (v := x5 + 1) (k0 := 6) (lv' := [(5, .int (x5 + 1)), (6, .int s0), (0, .ref (ad p0)), (1, .int x1), (2, .int x2), (3, .int x3), (4, .int x4)]) X.1 dX0_seekBetween_71 hl rfl rfl (by decide) rfl (fun ls hl => ?_)
    refine z_goto (tgt := 12) X.1 dX0_seekBetween_74 (by decide) ?_
    exact hk12 x1 x2 x3 x4 (x5 + 1) V L ls (lv_sub hl [2, 3, 4, 5, 6, 0] rfl) hf
  · have hf := (if_neg c_).symm.trans hf
    refine z_iload X.1 dX0_seekBetween_54 (lv_at hl 5 rfl) ?_
    refine z_iload X.1 dX0_seekBetween_56 (lv_at hl 6 rfl) ?_
    refine z_icmp_eq (tgt := 71) X.1 dX0_seekBetween_58 (by decide) (fun c_ => ?_) (fun c_ => ?_)
    · have hf := (if_pos c_).symm.trans hf
      refine z_iinc (v := x5 + 1) (k0 := 6) (lv' := [(5, .int (x5 + 1)), (6, .int s0), (0, .ref (ad p0)), (1, .int x1), (2, .int x2), (3, .int x3), (4, .int x4)]) X.1 dX0_seekBetween_71 hl rfl rfl (by decide) rfl (fun ls hl => ?_)
      refine z_goto (tgt := 12) X.1 dX0_seekBetween_74 (by decide) ?_
      exact hk12 x1 x2 x3 x4 (x5 + 1) V L ls (lv_sub hl [2, 3, 4, 5, 6, 0] rfl) hf
    · have hf := (if_neg c_).symm.trans hf
      refine z_aload_n X.1 dX0_seekBetween_61 rfl (lv_at hl 1 rfl) ?_
      refine z_iload_n X.1 dX0_seekBetween_62 rfl (lv_at hl 2 rfl) ?_
      refine z_iload_n X.1 dX0_seekBetween_63 rfl (lv_at hl 3 rfl) ?_
      refine z_iload X.1 dX0_seekBetween_64 (lv_at hl 5 rfl) ?_
      refine z_iload X.1 dX0_seekBetween_66 (lv_at hl 6 rfl) ?_
      obtain ⟨r1, hc1, hf⟩ := z_bind hf
      refine c_callVv [.int x1, .int x2, .int x4, .int x5] X hl.1 (c_X0_compare D cy ad X.2.2 hp0 hc1) hp0 ⟨by decide, rfl⟩ cm_X0_61 cw_X0_compare rfl cq_X0_compare ⟨by decide, by decide⟩ (Nat.le_of_ble_eq_true rfl) rfl dX0_seekBetween_68 ?_
      refine z_iinc (v := x5 + 1) (k0 := 6) (lv' := [(5, .int (x5 + 1)), (6, .int s0), (0, .ref (ad p0)), (1, .int x1), (2, .int x2), (3, .int x3), (4, .int x4)]) X.1 dX0_seekBetween_71 hl rfl rfl (by decide) rfl (fun ls hl => ?_)
      refine z_goto (tgt := 12) X.1 dX0_seekBetween_74 (by decide) ?_
      exact hk12 x1 x2 x3 x4 (x5 + 1) r1.1 r1.2 ls (lv_sub hl [2, 3, 4, 5, 6, 0] rfl) hf

set_option maxHeartbeats 4000000 in
set_option maxRecDepth 100000 in
theorem w_X0_seekBetween_46 {M : zM} {D : va_G} {cy : Nat → ClassId} {ad : Nat → Nat} {n : Nat} {K N : Nat → Nat} {G : zG} {r' : zI × zL} (X : RXc M D cy ad n K N G cX0_seekBetween 7 RX0 1 30) (Z : RZv M (zC D cy ad n K N G) r'.1 r'.2) {p0 : Nat} (hp0 : p0 < n ∧ K p0 = 0) {k3 : Int32 × Int32 × Int32 × Int32 × zI × zL → Option (zI × zL)} {k12 : Int32 × Int32 × Int32 × Int32 × Int32 × zI × zL → Option (zI × zL)} (hk3 : ∀ (x1 : Int32) (x2 : Int32) (x3 : Int32) (x4 : Int32) (V : zI) (L : zL) (ls : Array Slot), lv_has ls 7 [(0, .ref (ad p0)), (1, .int x1), (2, .int x2), (3, .int x3), (4, .int x4)] → k3 (x1, x2, x3, x4, V, L) = some r' → RG M (zC D cy ad n K N G) V L 3 ls []) (hk12 : ∀ (x1 : Int32) (x2 : Int32) (x3 : Int32) (x4 : Int32) (x5 : Int32) (V : zI) (L : zL) (ls : Array Slot), lv_has ls 7 [(0, .ref (ad p0)), (1, .int x1), (2, .int x2), (3, .int x3), (4, .int x4), (5, .int x5)] → k12 (x1, x2, x3, x4, x5, V, L) = some r' → RG M (zC D cy ad n K N G) V L 12 ls []) (x1 : Int32) (x2 : Int32) (x3 : Int32) (x4 : Int32) (x5 : Int32) (V : zI) (L : zL) (ls : Array Slot) (hl : lv_has ls 7 [(0, .ref (ad p0)), (1, .int x1), (2, .int x2), (3, .int x3), (4, .int x4), (5, .int x5)]) (hf : f_X0_seekBetween_46 N G p0 k3 k12 x1 x2 x3 x4 x5 V L = some r') : RG M (zC D cy ad n K N G) V L 46 ls [] := by
  unfold f_X0_seekBetween_46 at hf
  refine z_iconst (v := 0) X.1 dX0_seekBetween_46 (by decide) ?_
  exact w_X0_seekBetween_47 X Z hp0 hk3 hk12 x1 x2 x3 x4 x5 0 V L ls (lv_sub hl [0, 1, 2, 3, 4, 5] rfl) hf

set_option maxHeartbeats 4000000 in
set_option maxRecDepth 100000 in
theorem w_X0_seekBetween_12 {M : zM} {D : va_G} {cy : Nat → ClassId} {ad : Nat → Nat} {n : Nat} {K N : Nat → Nat} {G : zG} {r' : zI × zL} (X : RXc M D cy ad n K N G cX0_seekBetween 7 RX0 1 30) (Z : RZv M (zC D cy ad n K N G) r'.1 r'.2) {p0 : Nat} (hp0 : p0 < n ∧ K p0 = 0) {k3 : Int32 × Int32 × Int32 × Int32 × zI × zL → Option (zI × zL)} (hk3 : ∀ (x1 : Int32) (x2 : Int32) (x3 : Int32) (x4 : Int32) (V : zI) (L : zL) (ls : Array Slot), lv_has ls 7 [(0, .ref (ad p0)), (1, .int x1), (2, .int x2), (3, .int x3), (4, .int x4)] → k3 (x1, x2, x3, x4, V, L) = some r' → RG M (zC D cy ad n K N G) V L 3 ls []) (nn : Nat) : ∀ (x1 : Int32) (x2 : Int32) (x3 : Int32) (x4 : Int32) (x5 : Int32) (V : zI) (L : zL) (ls : Array Slot) (hl : lv_has ls 7 [(0, .ref (ad p0)), (1, .int x1), (2, .int x2), (3, .int x3), (4, .int x4), (5, .int x5)]) (hf : zfix (b_X0_seekBetween_12 N G p0 k3) nn (x1, x2, x3, x4, x5, V, L) = some r'), RG M (zC D cy ad n K N G) V L 12 ls [] := by
  induction nn with
  | zero => intro x1 x2 x3 x4 x5 V L ls hl hf; cases hf
  | succ nn ih =>
  intro x1 x2 x3 x4 x5 V L ls hl hf
  have hk12 : ∀ (x1 : Int32) (x2 : Int32) (x3 : Int32) (x4 : Int32) (x5 : Int32) (V : zI) (L : zL) (ls : Array Slot), lv_has ls 7 [(0, .ref (ad p0)), (1, .int x1), (2, .int x2), (3, .int x3), (4, .int x4), (5, .int x5)] → zfix (b_X0_seekBetween_12 N G p0 k3) nn (x1, x2, x3, x4, x5, V, L) = some r' → RG M (zC D cy ad n K N G) V L 12 ls [] := ih
  have hf : b_X0_seekBetween_12 N G p0 k3 (zfix (b_X0_seekBetween_12 N G p0 k3) nn) (x1, x2, x3, x4, x5, V, L) = some r' := hf
  generalize zfix (b_X0_seekBetween_12 N G p0 k3) nn = k12 at hk12 hf
  clear ih
  unfold b_X0_seekBetween_12 at hf
  refine z_iload X.1 dX0_seekBetween_12 (lv_at hl 5 rfl) ?_
  refine z_iload_n X.1 dX0_seekBetween_14 rfl (lv_at hl 3 rfl) ?_
  refine z_icmp_ge (tgt := 77) X.1 dX0_seekBetween_15 (by decide) (fun c_ => ?_) (fun c_ => ?_)
  · have hf := (if_pos c_).symm.trans hf
    refine z_iinc (v := x4 + 1) (k0 := 4) (lv' := [(4, .int (x4 + 1)), (0, .ref (ad p0)), (1, .int x1), (2, .int x2), (3, .int x3), (5, .int x5)]) X.1 dX0_seekBetween_77 hl rfl rfl (by decide) rfl (fun ls hl => ?_)
    refine z_goto (tgt := 3) X.1 dX0_seekBetween_80 (by decide) ?_
    exact hk3 x1 x2 x3 (x4 + 1) V L ls (lv_sub hl [1, 2, 3, 4, 0] rfl) hf
  · have hf := (if_neg c_).symm.trans hf
    refine z_iload X.1 dX0_seekBetween_18 (lv_at hl 4 rfl) ?_
    refine z_iload_n X.1 dX0_seekBetween_20 rfl (lv_at hl 1 rfl) ?_
    refine z_icmp_eq (tgt := 46) X.1 dX0_seekBetween_21 (by decide) (fun c_ => ?_) (fun c_ => ?_)
    · have hf := (if_pos c_).symm.trans hf
      exact w_X0_seekBetween_46 X Z hp0 hk3 hk12 x1 x2 x3 x4 x5 V L ls (lv_sub hl [0, 1, 2, 3, 4, 5] rfl) hf
    · have hf := (if_neg c_).symm.trans hf
      refine z_iload X.1 dX0_seekBetween_24 (lv_at hl 4 rfl) ?_
      refine z_iload_n X.1 dX0_seekBetween_26 rfl (lv_at hl 2 rfl) ?_
      refine z_icmp_eq (tgt := 46) X.1 dX0_seekBetween_27 (by decide) (fun c_ => ?_) (fun c_ => ?_)
      · have hf := (if_pos c_).symm.trans hf
        exact w_X0_seekBetween_46 X Z hp0 hk3 hk12 x1 x2 x3 x4 x5 V L ls (lv_sub hl [0, 1, 2, 3, 4, 5] rfl) hf
      · have hf := (if_neg c_).symm.trans hf
        refine z_iload X.1 dX0_seekBetween_30 (lv_at hl 5 rfl) ?_
        refine z_iload_n X.1 dX0_seekBetween_32 rfl (lv_at hl 1 rfl) ?_
        refine z_icmp_eq (tgt := 46) X.1 dX0_seekBetween_33 (by decide) (fun c_ => ?_) (fun c_ => ?_)
        · have hf := (if_pos c_).symm.trans hf
          exact w_X0_seekBetween_46 X Z hp0 hk3 hk12 x1 x2 x3 x4 x5 V L ls (lv_sub hl [0, 1, 2, 3, 4, 5] rfl) hf
        · have hf := (if_neg c_).symm.trans hf
          refine z_iload X.1 dX0_seekBetween_36 (lv_at hl 5 rfl) ?_
          refine z_iload_n X.1 dX0_seekBetween_38 rfl (lv_at hl 2 rfl) ?_
          refine z_icmp_eq (tgt := 46) X.1 dX0_seekBetween_39 (by decide) (fun c_ => ?_) (fun c_ => ?_)
          · have hf := (if_pos c_).symm.trans hf
            exact w_X0_seekBetween_46 X Z hp0 hk3 hk12 x1 x2 x3 x4 x5 V L ls (lv_sub hl [0, 1, 2, 3, 4, 5] rfl) hf
          · have hf := (if_neg c_).symm.trans hf
            refine z_iconst (v := 1) X.1 dX0_seekBetween_42 (by decide) ?_
            refine z_goto (tgt := 47) X.1 dX0_seekBetween_43 (by decide) ?_
            exact w_X0_seekBetween_47 X Z hp0 hk3 hk12 x1 x2 x3 x4 x5 1 V L ls (lv_sub hl [0, 1, 2, 3, 4, 5] rfl) hf

set_option maxHeartbeats 4000000 in
set_option maxRecDepth 100000 in
theorem w_X0_seekBetween_3 {M : zM} {D : va_G} {cy : Nat → ClassId} {ad : Nat → Nat} {n : Nat} {K N : Nat → Nat} {G : zG} {r' : zI × zL} (X : RXc M D cy ad n K N G cX0_seekBetween 7 RX0 1 30) (Z : RZv M (zC D cy ad n K N G) r'.1 r'.2) {p0 : Nat} (hp0 : p0 < n ∧ K p0 = 0) (nn : Nat) : ∀ (x1 : Int32) (x2 : Int32) (x3 : Int32) (x4 : Int32) (V : zI) (L : zL) (ls : Array Slot) (hl : lv_has ls 7 [(0, .ref (ad p0)), (1, .int x1), (2, .int x2), (3, .int x3), (4, .int x4)]) (hf : zfix (b_X0_seekBetween_3 N G p0) nn (x1, x2, x3, x4, V, L) = some r'), RG M (zC D cy ad n K N G) V L 3 ls [] := by
  induction nn with
  | zero => intro x1 x2 x3 x4 V L ls hl hf; cases hf
  | succ nn ih =>
  intro x1 x2 x3 x4 V L ls hl hf
  have hk3 : ∀ (x1 : Int32) (x2 : Int32) (x3 : Int32) (x4 : Int32) (V : zI) (L : zL) (ls : Array Slot), lv_has ls 7 [(0, .ref (ad p0)), (1, .int x1), (2, .int x2), (3, .int x3), (4, .int x4)] → zfix (b_X0_seekBetween_3 N G p0) nn (x1, x2, x3, x4, V, L) = some r' → RG M (zC D cy ad n K N G) V L 3 ls [] := ih
  have hf : b_X0_seekBetween_3 N G p0 (zfix (b_X0_seekBetween_3 N G p0) nn) (x1, x2, x3, x4, V, L) = some r' := hf
  generalize zfix (b_X0_seekBetween_3 N G p0) nn = k3 at hk3 hf
  clear ih
  unfold b_X0_seekBetween_3 at hf
  refine z_iload X.1 dX0_seekBetween_3 (lv_at hl 4 rfl) ?_
  refine z_iload_n X.1 dX0_seekBetween_5 rfl (lv_at hl 3 rfl) ?_
  refine z_icmp_ge (tgt := 83) X.1 dX0_seekBetween_6 (by decide) (fun c_ => ?_) (fun c_ => ?_)
  · have hf := (if_pos c_).symm.trans hf
    exact c_vret X Z hf dX0_seekBetween_83
  · have hf := (if_neg c_).symm.trans hf
    refine z_iconst (v := 0) X.1 dX0_seekBetween_9 (by decide) ?_
    refine z_istore (lv' := [(5, .int 0), (0, .ref (ad p0)), (1, .int x1), (2, .int x2), (3, .int x3), (4, .int x4)]) X.1 dX0_seekBetween_10 hl (by decide) rfl (fun ls hl => ?_)
    exact w_X0_seekBetween_12 X Z hp0 hk3 FU x1 x2 x3 x4 0 V L ls (lv_sub hl [1, 2, 3, 4, 5, 0] rfl) hf

set_option maxHeartbeats 4000000 in
set_option maxRecDepth 100000 in
theorem w_X0_seekBetween {M : zM} {D : va_G} {cy : Nat → ClassId} {ad : Nat → Nat} {n : Nat} {K N : Nat → Nat} {G : zG} {r' : zI × zL} (X : RXc M D cy ad n K N G cX0_seekBetween 7 RX0 1 30) (Z : RZv M (zC D cy ad n K N G) r'.1 r'.2) {p0 : Nat} (hp0 : p0 < n ∧ K p0 = 0) (x1 : Int32) (x2 : Int32) (x3 : Int32) (V : zI) (L : zL) (ls : Array Slot) (hl : lv_has ls 7 [(0, .ref (ad p0)), (1, .int x1), (2, .int x2), (3, .int x3)]) (hf : g_X0_seekBetween N G p0 x1 x2 x3 V L = some r') : RG M (zC D cy ad n K N G) V L 0 ls [] := by
  unfold g_X0_seekBetween at hf
  refine z_iconst (v := 0) X.1 dX0_seekBetween_0 (by decide) ?_
  refine z_istore (lv' := [(4, .int 0), (0, .ref (ad p0)), (1, .int x1), (2, .int x2), (3, .int x3)]) X.1 dX0_seekBetween_1 hl (by decide) rfl (fun ls hl => ?_)
  exact w_X0_seekBetween_3 X Z hp0 FU x1 x2 x3 0 V L ls (lv_sub hl [1, 2, 3, 4, 0] rfl) hf

theorem c_X0_seekBetween (D : va_G) (cy : Nat → ClassId) (ad : Nat → Nat) {n : Nat} {K N : Nat → Nat} {G : zG} (hWF : zWF n K G) {p0 : Nat} {x1 : Int32} {x2 : Int32} {x3 : Int32} {V : zI} {L : zL} (hp0 : p0 < n ∧ K p0 = 0) {r' : zI × zL} (hf : f_X0_seekBetween N G p0 x1 x2 x3 V L = some r') : RCv (zC D cy ad n K N G) yX0_seekBetween cX0_seekBetween 7 1 30 [.ref (ad p0), .int x1, .int x2, .int x3] V L r'.1 r'.2 := by
  unfold f_X0_seekBetween at hf
  exact RCv.of (by decide) hWF (Nat.le_of_ble_eq_true rfl) (fun M X Z ls hl => w_X0_seekBetween X Z hp0 x1 x2 x3 V L ls hl hf)
def b_X0_seekBest_11 (N : Nat → Nat) (G : zG) (p0 : Nat) (k2 : Int32 × Int32 × zI × zL → Option (zI × zL)) (k11 : Int32 × Int32 × Int32 × zI × zL → Option (zI × zL)) : Int32 × Int32 × Int32 × zI × zL → Option (zI × zL) := fun ⟨x1, x2, x3, V, L⟩ =>
  (if x1 ≤ x3 then k2 (x1, (x2 + 1), V, L) else (f_X0_seekBetween N G p0 x2 x3 x1 V L).bind fun r1 => k11 (x1, x2, (x3 + 1), r1.1, r1.2))
def b_X0_seekBest_2 (N : Nat → Nat) (G : zG) (p0 : Nat) (k2 : Int32 × Int32 × zI × zL → Option (zI × zL)) : Int32 × Int32 × zI × zL → Option (zI × zL) := fun ⟨x1, x2, V, L⟩ =>
  (if x1 ≤ x2 then some (V, L) else zfix (b_X0_seekBest_11 N G p0 k2) FU (x1, x2, (x2 + 1), V, L))
def g_X0_seekBest (N : Nat → Nat) (G : zG) (p0 : Nat) (x1 : Int32) (V : zI) (L : zL) : Option (zI × zL) :=
  zfix (b_X0_seekBest_2 N G p0) FU (x1, 0, V, L)
def f_X0_seekBest (N : Nat → Nat) (G : zG) (p0 : Nat) (x1 : Int32) (V : zI) (L : zL) : Option (zI × zL) :=
  g_X0_seekBest N G p0 x1 V L
set_option maxHeartbeats 4000000 in
set_option maxRecDepth 100000 in
theorem w_X0_seekBest_11 {M : zM} {D : va_G} {cy : Nat → ClassId} {ad : Nat → Nat} {n : Nat} {K N : Nat → Nat} {G : zG} {r' : zI × zL} (X : RXc M D cy ad n K N G cX0_seekBest 4 RX0 2 56) (Z : RZv M (zC D cy ad n K N G) r'.1 r'.2) {p0 : Nat} (hp0 : p0 < n ∧ K p0 = 0) {k2 : Int32 × Int32 × zI × zL → Option (zI × zL)} (hk2 : ∀ (x1 : Int32) (x2 : Int32) (V : zI) (L : zL) (ls : Array Slot), lv_has ls 4 [(0, .ref (ad p0)), (1, .int x1), (2, .int x2)] → k2 (x1, x2, V, L) = some r' → RG M (zC D cy ad n K N G) V L 2 ls []) (nn : Nat) : ∀ (x1 : Int32) (x2 : Int32) (x3 : Int32) (V : zI) (L : zL) (ls : Array Slot) (hl : lv_has ls 4 [(0, .ref (ad p0)), (1, .int x1), (2, .int x2), (3, .int x3)]) (hf : zfix (b_X0_seekBest_11 N G p0 k2) nn (x1, x2, x3, V, L) = some r'), RG M (zC D cy ad n K N G) V L 11 ls [] := by
  induction nn with
  | zero => intro x1 x2 x3 V L ls hl hf; cases hf
  | succ nn ih =>
  intro x1 x2 x3 V L ls hl hf
  have hk11 : ∀ (x1 : Int32) (x2 : Int32) (x3 : Int32) (V : zI) (L : zL) (ls : Array Slot), lv_has ls 4 [(0, .ref (ad p0)), (1, .int x1), (2, .int x2), (3, .int x3)] → zfix (b_X0_seekBest_11 N G p0 k2) nn (x1, x2, x3, V, L) = some r' → RG M (zC D cy ad n K N G) V L 11 ls [] := ih
  have hf : b_X0_seekBest_11 N G p0 k2 (zfix (b_X0_seekBest_11 N G p0 k2) nn) (x1, x2, x3, V, L) = some r' := hf
  generalize zfix (b_X0_seekBest_11 N G p0 k2) nn = k11 at hk11 hf
  clear ih
  unfold b_X0_seekBest_11 at hf
  refine z_iload_n X.1 dX0_seekBest_11 rfl (lv_at hl 3 rfl) ?_
  refine z_iload_n X.1 dX0_seekBest_12 rfl (lv_at hl 1 rfl) ?_
  refine z_icmp_ge (tgt := 29) X.1 dX0_seekBest_13 (by decide) (fun c_ => ?_) (fun c_ => ?_)
  · have hf := (if_pos c_).symm.trans hf
    refine z_iinc (v := x2 + 1) (k0 := 2) (lv' := [(2, .int (x2 + 1)), (0, .ref (ad p0)), (1, .int x1), (3, .int x3)]) X.1 dX0_seekBest_29 hl rfl rfl (by decide) rfl (fun ls hl => ?_)
    refine z_goto (tgt := 2) X.1 dX0_seekBest_32 (by decide) ?_
    exact hk2 x1 (x2 + 1) V L ls (lv_sub hl [1, 2, 0] rfl) hf
  · have hf := (if_neg c_).symm.trans hf
    refine z_aload_n X.1 dX0_seekBest_16 rfl (lv_at hl 0 rfl) ?_
    refine z_iload_n X.1 dX0_seekBest_17 rfl (lv_at hl 2 rfl) ?_
    refine z_iload_n X.1 dX0_seekBest_18 rfl (lv_at hl 3 rfl) ?_
    refine z_iload_n X.1 dX0_seekBest_19 rfl (lv_at hl 1 rfl) ?_
    obtain ⟨r1, hc1, hf⟩ := z_bind hf
    refine c_callVv [.int x2, .int x3, .int x1] X hl.1 (c_X0_seekBetween D cy ad X.2.2 hp0 hc1) hp0 ⟨by decide, rfl⟩ cm_X0_57 cw_X0_seekBetween rfl cq_X0_seekBetween ⟨by decide, by decide⟩ (Nat.le_of_ble_eq_true rfl) rfl dX0_seekBest_20 ?_
    refine z_iinc (v := x3 + 1) (k0 := 3) (lv' := [(3, .int (x3 + 1)), (0, .ref (ad p0)), (1, .int x1), (2, .int x2)]) X.1 dX0_seekBest_23 hl rfl rfl (by decide) rfl (fun ls hl => ?_)
    refine z_goto (tgt := 11) X.1 dX0_seekBest_26 (by decide) ?_
    exact hk11 x1 x2 (x3 + 1) r1.1 r1.2 ls (lv_sub hl [1, 2, 3, 0] rfl) hf

set_option maxHeartbeats 4000000 in
set_option maxRecDepth 100000 in
theorem w_X0_seekBest_2 {M : zM} {D : va_G} {cy : Nat → ClassId} {ad : Nat → Nat} {n : Nat} {K N : Nat → Nat} {G : zG} {r' : zI × zL} (X : RXc M D cy ad n K N G cX0_seekBest 4 RX0 2 56) (Z : RZv M (zC D cy ad n K N G) r'.1 r'.2) {p0 : Nat} (hp0 : p0 < n ∧ K p0 = 0) (nn : Nat) : ∀ (x1 : Int32) (x2 : Int32) (V : zI) (L : zL) (ls : Array Slot) (hl : lv_has ls 4 [(0, .ref (ad p0)), (1, .int x1), (2, .int x2)]) (hf : zfix (b_X0_seekBest_2 N G p0) nn (x1, x2, V, L) = some r'), RG M (zC D cy ad n K N G) V L 2 ls [] := by
  induction nn with
  | zero => intro x1 x2 V L ls hl hf; cases hf
  | succ nn ih =>
  intro x1 x2 V L ls hl hf
  have hk2 : ∀ (x1 : Int32) (x2 : Int32) (V : zI) (L : zL) (ls : Array Slot), lv_has ls 4 [(0, .ref (ad p0)), (1, .int x1), (2, .int x2)] → zfix (b_X0_seekBest_2 N G p0) nn (x1, x2, V, L) = some r' → RG M (zC D cy ad n K N G) V L 2 ls [] := ih
  have hf : b_X0_seekBest_2 N G p0 (zfix (b_X0_seekBest_2 N G p0) nn) (x1, x2, V, L) = some r' := hf
  generalize zfix (b_X0_seekBest_2 N G p0) nn = k2 at hk2 hf
  clear ih
  unfold b_X0_seekBest_2 at hf
  refine z_iload_n X.1 dX0_seekBest_2 rfl (lv_at hl 2 rfl) ?_
  refine z_iload_n X.1 dX0_seekBest_3 rfl (lv_at hl 1 rfl) ?_
  refine z_icmp_ge (tgt := 35) X.1 dX0_seekBest_4 (by decide) (fun c_ => ?_) (fun c_ => ?_)
  · have hf := (if_pos c_).symm.trans hf
    exact c_vret X Z hf dX0_seekBest_35
  · have hf := (if_neg c_).symm.trans hf
    refine z_iload_n X.1 dX0_seekBest_7 rfl (lv_at hl 2 rfl) ?_
    refine z_iconst (v := 1) X.1 dX0_seekBest_8 (by decide) ?_
    refine z_iadd X.1 dX0_seekBest_9 ?_
    refine z_istore_n (lv' := [(3, .int (x2 + 1)), (0, .ref (ad p0)), (1, .int x1), (2, .int x2)]) X.1 dX0_seekBest_10 rfl hl (by decide) rfl (fun ls hl => ?_)
    exact w_X0_seekBest_11 X Z hp0 hk2 FU x1 x2 (x2 + 1) V L ls (lv_sub hl [1, 2, 3, 0] rfl) hf

set_option maxHeartbeats 4000000 in
set_option maxRecDepth 100000 in
theorem w_X0_seekBest {M : zM} {D : va_G} {cy : Nat → ClassId} {ad : Nat → Nat} {n : Nat} {K N : Nat → Nat} {G : zG} {r' : zI × zL} (X : RXc M D cy ad n K N G cX0_seekBest 4 RX0 2 56) (Z : RZv M (zC D cy ad n K N G) r'.1 r'.2) {p0 : Nat} (hp0 : p0 < n ∧ K p0 = 0) (x1 : Int32) (V : zI) (L : zL) (ls : Array Slot) (hl : lv_has ls 4 [(0, .ref (ad p0)), (1, .int x1)]) (hf : g_X0_seekBest N G p0 x1 V L = some r') : RG M (zC D cy ad n K N G) V L 0 ls [] := by
  unfold g_X0_seekBest at hf
  refine z_iconst (v := 0) X.1 dX0_seekBest_0 (by decide) ?_
  refine z_istore_n (lv' := [(2, .int 0), (0, .ref (ad p0)), (1, .int x1)]) X.1 dX0_seekBest_1 rfl hl (by decide) rfl (fun ls hl => ?_)
  exact w_X0_seekBest_2 X Z hp0 FU x1 0 V L ls (lv_sub hl [1, 2, 0] rfl) hf

theorem c_X0_seekBest (D : va_G) (cy : Nat → ClassId) (ad : Nat → Nat) {n : Nat} {K N : Nat → Nat} {G : zG} (hWF : zWF n K G) {p0 : Nat} {x1 : Int32} {V : zI} {L : zL} (hp0 : p0 < n ∧ K p0 = 0) {r' : zI × zL} (hf : f_X0_seekBest N G p0 x1 V L = some r') : RCv (zC D cy ad n K N G) yX0_seekBest cX0_seekBest 4 2 56 [.ref (ad p0), .int x1] V L r'.1 r'.2 := by
  unfold f_X0_seekBest at hf
  exact RCv.of (by decide) hWF (Nat.le_of_ble_eq_true rfl) (fun M X Z ls hl => w_X0_seekBest X Z hp0 x1 V L ls hl hf)
def b_X10_isBag_21 (N : Nat → Nat) (G : zG) (p0 : Nat) (p0_0 : Nat) (p0_2 : Nat) (V : zI) (L : zL) (k21 : Int32 × Int32 → Option (Int32)) : Int32 × Int32 → Option (Int32) := fun ⟨x1, x2⟩ =>
  (if x1 ≤ x2 then some 1 else if inB x2 (N p0_0) then (f_X9_isTown N G p0_2 ((V p0_0 x2.toNatClampNeg) &&& 255) V L).bind fun r2 => (if r2 = 0 then some 0 else k21 (x1, (x2 + 2))) else none)
def g_X10_isBag (N : Nat → Nat) (G : zG) (p0 : Nat) (p0_0 : Nat) (p0_2 : Nat) (V : zI) (L : zL) (x1 : Int32) : Option (Int32) :=
  (if x1 < 2 then some 0 else (if 32 < x1 then some 0 else (if (x1 - x1 / 2 * 2) = 0 then zfix (b_X10_isBag_21 N G p0 p0_0 p0_2 V L) FU (x1, 0) else some 0)))
def f_X10_isBag (N : Nat → Nat) (G : zG) (p0 : Nat) (x1 : Int32) (V : zI) (L : zL) : Option (Int32) :=
  (G p0 0).bind fun p0_0 => (G p0 2).bind fun p0_2 => g_X10_isBag N G p0 p0_0 p0_2 V L x1
set_option maxHeartbeats 4000000 in
set_option maxRecDepth 100000 in
theorem w_X10_isBag_21 {M : zM} {D : va_G} {cy : Nat → ClassId} {ad : Nat → Nat} {n : Nat} {K N : Nat → Nat} {G : zG} {V : zI} {L : zL} {r' : Int32} (X : RXc M D cy ad n K N G cX10_isBag 3 RX10 1 21) (Z : RZi M (zC D cy ad n K N G) .boolean r' V L) {p0 : Nat} (hp0 : p0 < n ∧ K p0 = 8) {p0_0 : Nat} (hp0_0 : p0_0 < n ∧ K p0_0 = 101) (ep0_0 : G p0 0 = some p0_0) {p0_2 : Nat} (hp0_2 : p0_2 < n ∧ K p0_2 = 7) (ep0_2 : G p0 2 = some p0_2) (nn : Nat) : ∀ (x1 : Int32) (x2 : Int32) (ls : Array Slot) (hl : lv_has ls 3 [(0, .ref (ad p0)), (1, .int x1), (2, .int x2)]) (hf : zfix (b_X10_isBag_21 N G p0 p0_0 p0_2 V L) nn (x1, x2) = some r'), RG M (zC D cy ad n K N G) V L 21 ls [] := by
  induction nn with
  | zero => intro x1 x2 ls hl hf; cases hf
  | succ nn ih =>
  intro x1 x2 ls hl hf
  have hk21 : ∀ (x1 : Int32) (x2 : Int32) (ls : Array Slot), lv_has ls 3 [(0, .ref (ad p0)), (1, .int x1), (2, .int x2)] → zfix (b_X10_isBag_21 N G p0 p0_0 p0_2 V L) nn (x1, x2) = some r' → RG M (zC D cy ad n K N G) V L 21 ls [] := ih
  have hf : b_X10_isBag_21 N G p0 p0_0 p0_2 V L (zfix (b_X10_isBag_21 N G p0 p0_0 p0_2 V L) nn) (x1, x2) = some r' := hf
  generalize zfix (b_X10_isBag_21 N G p0 p0_0 p0_2 V L) nn = k21 at hk21 hf
  clear ih
  unfold b_X10_isBag_21 at hf
  refine z_iload_n X.1 dX10_isBag_21 rfl (lv_at hl 2 rfl) ?_
  refine z_iload_n X.1 dX10_isBag_22 rfl (lv_at hl 1 rfl) ?_
  refine z_icmp_ge (tgt := 54) X.1 dX10_isBag_23 (by decide) (fun c_ => ?_) (fun c_ => ?_)
  · have hf := (if_pos c_).symm.trans hf
    refine z_iconst (v := 1) X.1 dX10_isBag_54 (by decide) ?_
    exact c_iretS X Z hf (by decide) dX10_isBag_55
  · have hf := (if_neg c_).symm.trans hf
    refine z_aload_n X.1 dX10_isBag_26 rfl (lv_at hl 0 rfl) ?_
    refine c_geta X hp0 cf_X10_20 ep0_2 dX10_isBag_27 ?_
    refine z_aload_n X.1 dX10_isBag_30 rfl (lv_at hl 0 rfl) ?_
    refine c_geta X hp0 cf_X10_9 ep0_0 dX10_isBag_31 ?_
    refine z_iload_n X.1 dX10_isBag_34 rfl (lv_at hl 2 rfl) ?_
    obtain ⟨hb1, hf⟩ := z_ite hf
    refine c_bald X hp0_0 hb1 dX10_isBag_35 ?_
    refine z_sipush (v := 255) X.1 dX10_isBag_36 (by decide) ?_
    refine z_iand X.1 dX10_isBag_39 ?_
    obtain ⟨r2, hc2, hf⟩ := z_bind hf
    refine c_callVi [.int ((V p0_0 x2.toNatClampNeg) &&& 255)] X hl.1 (c_X9_isTown D cy ad X.2.2 hp0_2 hc2) hp0_2 ⟨by decide, rfl⟩ cm_X10_149 cw_X9_isTown rfl cq_X9_isTown ⟨by decide, by decide⟩ (Nat.le_of_ble_eq_true rfl) rfl dX10_isBag_40 ?_
    refine z_if_ne (tgt := 48) X.1 dX10_isBag_43 (by decide) (fun c_ => ?_) (fun c_ => ?_)
    · have hf := (if_neg c_).symm.trans hf
      refine z_iinc (v := x2 + 2) (k0 := 2) (lv' := [(2, .int (x2 + 2)), (0, .ref (ad p0)), (1, .int x1)]) X.1 dX10_isBag_48 hl rfl rfl (by decide) rfl (fun ls hl => ?_)
      refine z_goto (tgt := 21) X.1 dX10_isBag_51 (by decide) ?_
      exact hk21 x1 (x2 + 2) ls (lv_sub hl [1, 2, 0] rfl) hf
    · have hf := (if_pos c_).symm.trans hf
      refine z_iconst (v := 0) X.1 dX10_isBag_46 (by decide) ?_
      exact c_iretS X Z hf (by decide) dX10_isBag_47

set_option maxHeartbeats 4000000 in
set_option maxRecDepth 100000 in
theorem w_X10_isBag {M : zM} {D : va_G} {cy : Nat → ClassId} {ad : Nat → Nat} {n : Nat} {K N : Nat → Nat} {G : zG} {V : zI} {L : zL} {r' : Int32} (X : RXc M D cy ad n K N G cX10_isBag 3 RX10 1 21) (Z : RZi M (zC D cy ad n K N G) .boolean r' V L) {p0 : Nat} (hp0 : p0 < n ∧ K p0 = 8) {p0_0 : Nat} (hp0_0 : p0_0 < n ∧ K p0_0 = 101) (ep0_0 : G p0 0 = some p0_0) {p0_2 : Nat} (hp0_2 : p0_2 < n ∧ K p0_2 = 7) (ep0_2 : G p0 2 = some p0_2) (x1 : Int32) (ls : Array Slot) (hl : lv_has ls 3 [(0, .ref (ad p0)), (1, .int x1)]) (hf : g_X10_isBag N G p0 p0_0 p0_2 V L x1 = some r') : RG M (zC D cy ad n K N G) V L 0 ls [] := by
  unfold g_X10_isBag at hf
  refine z_iload_n X.1 dX10_isBag_0 rfl (lv_at hl 1 rfl) ?_
  refine z_iconst (v := 2) X.1 dX10_isBag_1 (by decide) ?_
  refine z_icmp_lt (tgt := 17) X.1 dX10_isBag_2 (by decide) (fun c_ => ?_) (fun c_ => ?_)
  · have hf := (if_pos c_).symm.trans hf
    refine z_iconst (v := 0) X.1 dX10_isBag_17 (by decide) ?_
    exact c_iretS X Z hf (by decide) dX10_isBag_18
  · have hf := (if_neg c_).symm.trans hf
    refine z_iload_n X.1 dX10_isBag_5 rfl (lv_at hl 1 rfl) ?_
    refine z_bipush (v := 32) X.1 dX10_isBag_6 (by decide) ?_
    refine z_icmp_gt (tgt := 17) X.1 dX10_isBag_8 (by decide) (fun c_ => ?_) (fun c_ => ?_)
    · have hf := (if_pos c_).symm.trans hf
      refine z_iconst (v := 0) X.1 dX10_isBag_17 (by decide) ?_
      exact c_iretS X Z hf (by decide) dX10_isBag_18
    · have hf := (if_neg c_).symm.trans hf
      refine z_iload_n X.1 dX10_isBag_11 rfl (lv_at hl 1 rfl) ?_
      refine z_iconst (v := 2) X.1 dX10_isBag_12 (by decide) ?_
      refine z_irem X.1 dX10_isBag_13 (by decide) ?_
      refine z_if_eq (tgt := 19) X.1 dX10_isBag_14 (by decide) (fun c_ => ?_) (fun c_ => ?_)
      · have hf := (if_pos c_).symm.trans hf
        refine z_iconst (v := 0) X.1 dX10_isBag_19 (by decide) ?_
        refine z_istore_n (lv' := [(2, .int 0), (0, .ref (ad p0)), (1, .int x1)]) X.1 dX10_isBag_20 rfl hl (by decide) rfl (fun ls hl => ?_)
        exact w_X10_isBag_21 X Z hp0 hp0_0 ep0_0 hp0_2 ep0_2 FU x1 0 ls (lv_sub hl [1, 2, 0] rfl) hf
      · have hf := (if_neg c_).symm.trans hf
        refine z_iconst (v := 0) X.1 dX10_isBag_17 (by decide) ?_
        exact c_iretS X Z hf (by decide) dX10_isBag_18

theorem c_X10_isBag (D : va_G) (cy : Nat → ClassId) (ad : Nat → Nat) {n : Nat} {K N : Nat → Nat} {G : zG} (hWF : zWF n K G) {p0 : Nat} {x1 : Int32} {V : zI} {L : zL} (hp0 : p0 < n ∧ K p0 = 8) {r' : Int32} (hf : f_X10_isBag N G p0 x1 V L = some r') : RCi (zC D cy ad n K N G) yX10_isBag cX10_isBag 3 .boolean 1 21 [.ref (ad p0), .int x1] V L r' V L := by
  unfold f_X10_isBag at hf
  obtain ⟨p0_0, ep0_0, hf⟩ := z_bind hf
  have hp0_0 := hWF.get hp0 (k := 0) (c := 101) rfl ep0_0
  obtain ⟨p0_2, ep0_2, hf⟩ := z_bind hf
  have hp0_2 := hWF.get hp0 (k := 2) (c := 7) rfl ep0_2
  exact RCi.of (by decide) hWF (Nat.le_of_ble_eq_true rfl) (fun M X Z ls hl => w_X10_isBag X Z hp0 hp0_0 ep0_0 hp0_2 ep0_2 x1 ls hl hf)
def b_X10_bag_33 (N : Nat → Nat) (G : zG) (p0 : Nat) (p0_0 : Nat) (p0_11 : Nat) (p0_12 : Nat) (k33 : Int32 × zI × zL → Option (Int32 × zI × zL)) : Int32 × zI × zL → Option (Int32 × zI × zL) := fun ⟨x2, V, L⟩ =>
  (if (V p0 13) ≤ x2 then some (V p0 13, V, L) else (if 16 ≤ x2 then some (V p0 13, V, L) else if inB ((2 : Int32) * x2) (N p0_0) then if inB x2 (N p0_11) then if inB (((2 : Int32) * x2) + 1) (N p0_0) then if inB x2 (N p0_12) then k33 ((x2 + 1), z_uI (z_uI V p0_11 x2.toNatClampNeg ((V p0_0 ((2 : Int32) * x2).toNatClampNeg) &&& 255)) p0_12 x2.toNatClampNeg (((z_uI V p0_11 x2.toNatClampNeg ((V p0_0 ((2 : Int32) * x2).toNatClampNeg) &&& 255)) p0_0 (((2 : Int32) * x2) + 1).toNatClampNeg) &&& 255), L) else none else none else none else none))
def g_X10_bag (N : Nat → Nat) (G : zG) (p0 : Nat) (p0_0 : Nat) (p0_11 : Nat) (p0_12 : Nat) (V : zI) (L : zL) : Option (Int32 × zI × zL) :=
  (f_X10_isBag N G p0 (V p0 1) (z_uI V p0 1 0) L).bind fun r1 => (if r1 = 0 then (f_X10_refuse N G p0 5 (z_uI V p0 1 0) L).bind fun r2 => some (r2.1, r2.2.1, r2.2.2) else zfix (b_X10_bag_33 N G p0 p0_0 p0_11 p0_12) FU (0, z_uI (z_uI V p0 1 0) p0 13 ((V p0 1) / 2), L))
def f_X10_bag (N : Nat → Nat) (G : zG) (p0 : Nat) (V : zI) (L : zL) : Option (Int32 × zI × zL) :=
  (G p0 0).bind fun p0_0 => (G p0 11).bind fun p0_11 => (G p0 12).bind fun p0_12 => g_X10_bag N G p0 p0_0 p0_11 p0_12 V L
set_option maxHeartbeats 4000000 in
set_option maxRecDepth 100000 in
theorem w_X10_bag_33 {M : zM} {D : va_G} {cy : Nat → ClassId} {ad : Nat → Nat} {n : Nat} {K N : Nat → Nat} {G : zG} {r' : Int32 × zI × zL} (X : RXc M D cy ad n K N G cX10_bag 3 RX10 2 43) (Z : RZi M (zC D cy ad n K N G) .int r'.1 r'.2.1 r'.2.2) {p0 : Nat} (hp0 : p0 < n ∧ K p0 = 8) {p0_0 : Nat} (hp0_0 : p0_0 < n ∧ K p0_0 = 101) (ep0_0 : G p0 0 = some p0_0) {p0_11 : Nat} (hp0_11 : p0_11 < n ∧ K p0_11 = 100) (ep0_11 : G p0 11 = some p0_11) {p0_12 : Nat} (hp0_12 : p0_12 < n ∧ K p0_12 = 100) (ep0_12 : G p0 12 = some p0_12) (nn : Nat) : ∀ (x2 : Int32) (V : zI) (L : zL) (ls : Array Slot) (hl : lv_has ls 3 [(0, .ref (ad p0)), (2, .int x2)]) (hf : zfix (b_X10_bag_33 N G p0 p0_0 p0_11 p0_12) nn (x2, V, L) = some r'), RG M (zC D cy ad n K N G) V L 33 ls [] := by
  induction nn with
  | zero => intro x2 V L ls hl hf; cases hf
  | succ nn ih =>
  intro x2 V L ls hl hf
  have hk33 : ∀ (x2 : Int32) (V : zI) (L : zL) (ls : Array Slot), lv_has ls 3 [(0, .ref (ad p0)), (2, .int x2)] → zfix (b_X10_bag_33 N G p0 p0_0 p0_11 p0_12) nn (x2, V, L) = some r' → RG M (zC D cy ad n K N G) V L 33 ls [] := ih
  have hf : b_X10_bag_33 N G p0 p0_0 p0_11 p0_12 (zfix (b_X10_bag_33 N G p0 p0_0 p0_11 p0_12) nn) (x2, V, L) = some r' := hf
  generalize zfix (b_X10_bag_33 N G p0 p0_0 p0_11 p0_12) nn = k33 at hk33 hf
  clear ih
  unfold b_X10_bag_33 at hf
  refine z_iload_n X.1 dX10_bag_33 rfl (lv_at hl 1 rfl) ?_
  refine z_aload_n X.1 dX10_bag_34 rfl (lv_at hl 0 rfl) ?_
  refine c_geti X hp0 cf_X10_68 dX10_bag_35 ?_
  refine z_icmp_ge (tgt := 91) X.1 dX10_bag_38 (by decide) (fun c_ => ?_) (fun c_ => ?_)
  · have hf := (if_pos c_).symm.trans hf
    refine z_aload_n X.1 dX10_bag_91 rfl (lv_at hl 0 rfl) ?_
    refine c_geti X hp0 cf_X10_68 dX10_bag_92 ?_
    exact c_iret X Z hf rfl dX10_bag_95
  · have hf := (if_neg c_).symm.trans hf
    refine z_iload_n X.1 dX10_bag_41 rfl (lv_at hl 1 rfl) ?_
    refine z_bipush (v := 16) X.1 dX10_bag_42 (by decide) ?_
    refine z_icmp_ge (tgt := 91) X.1 dX10_bag_44 (by decide) (fun c_ => ?_) (fun c_ => ?_)
    · have hf := (if_pos c_).symm.trans hf
      refine z_aload_n X.1 dX10_bag_91 rfl (lv_at hl 0 rfl) ?_
      refine c_geti X hp0 cf_X10_68 dX10_bag_92 ?_
      exact c_iret X Z hf rfl dX10_bag_95
    · have hf := (if_neg c_).symm.trans hf
      refine z_aload_n X.1 dX10_bag_47 rfl (lv_at hl 0 rfl) ?_
      refine c_geta X hp0 cf_X10_61 ep0_11 dX10_bag_48 ?_
      refine z_iload_n X.1 dX10_bag_51 rfl (lv_at hl 1 rfl) ?_
      refine z_aload_n X.1 dX10_bag_52 rfl (lv_at hl 0 rfl) ?_
      refine c_geta X hp0 cf_X10_9 ep0_0 dX10_bag_53 ?_
      refine z_iconst (v := 2) X.1 dX10_bag_56 (by decide) ?_
      refine z_iload_n X.1 dX10_bag_57 rfl (lv_at hl 1 rfl) ?_
      refine z_imul X.1 dX10_bag_58 ?_
      obtain ⟨hb1, hf⟩ := z_ite hf
      refine c_bald X hp0_0 hb1 dX10_bag_59 ?_
      refine z_sipush (v := 255) X.1 dX10_bag_60 (by decide) ?_
      refine z_iand X.1 dX10_bag_63 ?_
      obtain ⟨hb2, hf⟩ := z_ite hf
      refine c_iast X hp0_11 hb2 dX10_bag_64 ?_
      refine z_aload_n X.1 dX10_bag_65 rfl (lv_at hl 0 rfl) ?_
      refine c_geta X hp0 cf_X10_65 ep0_12 dX10_bag_66 ?_
      refine z_iload_n X.1 dX10_bag_69 rfl (lv_at hl 1 rfl) ?_
      refine z_aload_n X.1 dX10_bag_70 rfl (lv_at hl 0 rfl) ?_
      refine c_geta X hp0 cf_X10_9 ep0_0 dX10_bag_71 ?_
      refine z_iconst (v := 2) X.1 dX10_bag_74 (by decide) ?_
      refine z_iload_n X.1 dX10_bag_75 rfl (lv_at hl 1 rfl) ?_
      refine z_imul X.1 dX10_bag_76 ?_
      refine z_iconst (v := 1) X.1 dX10_bag_77 (by decide) ?_
      refine z_iadd X.1 dX10_bag_78 ?_
      obtain ⟨hb3, hf⟩ := z_ite hf
      refine c_bald X hp0_0 hb3 dX10_bag_79 ?_
      refine z_sipush (v := 255) X.1 dX10_bag_80 (by decide) ?_
      refine z_iand X.1 dX10_bag_83 ?_
      obtain ⟨hb4, hf⟩ := z_ite hf
      refine c_iast X hp0_12 hb4 dX10_bag_84 ?_
      refine z_iinc (v := x2 + 1) (k0 := 1) (lv' := [(2, .int (x2 + 1)), (0, .ref (ad p0))]) X.1 dX10_bag_85 hl rfl rfl (by decide) rfl (fun ls hl => ?_)
      refine z_goto (tgt := 33) X.1 dX10_bag_88 (by decide) ?_
      exact hk33 (x2 + 1) (z_uI (z_uI V p0_11 x2.toNatClampNeg ((V p0_0 ((2 : Int32) * x2).toNatClampNeg) &&& 255)) p0_12 x2.toNatClampNeg (((z_uI V p0_11 x2.toNatClampNeg ((V p0_0 ((2 : Int32) * x2).toNatClampNeg) &&& 255)) p0_0 (((2 : Int32) * x2) + 1).toNatClampNeg) &&& 255)) L ls (lv_sub hl [1, 0] rfl) hf

set_option maxHeartbeats 4000000 in
set_option maxRecDepth 100000 in
theorem w_X10_bag {M : zM} {D : va_G} {cy : Nat → ClassId} {ad : Nat → Nat} {n : Nat} {K N : Nat → Nat} {G : zG} {r' : Int32 × zI × zL} (X : RXc M D cy ad n K N G cX10_bag 3 RX10 2 43) (Z : RZi M (zC D cy ad n K N G) .int r'.1 r'.2.1 r'.2.2) {p0 : Nat} (hp0 : p0 < n ∧ K p0 = 8) {p0_0 : Nat} (hp0_0 : p0_0 < n ∧ K p0_0 = 101) (ep0_0 : G p0 0 = some p0_0) {p0_11 : Nat} (hp0_11 : p0_11 < n ∧ K p0_11 = 100) (ep0_11 : G p0 11 = some p0_11) {p0_12 : Nat} (hp0_12 : p0_12 < n ∧ K p0_12 = 100) (ep0_12 : G p0 12 = some p0_12)  (V : zI) (L : zL) (ls : Array Slot) (hl : lv_has ls 3 [(0, .ref (ad p0))]) (hf : g_X10_bag N G p0 p0_0 p0_11 p0_12 V L = some r') : RG M (zC D cy ad n K N G) V L 0 ls [] := by
  unfold g_X10_bag at hf
  refine z_aload_n X.1 dX10_bag_0 rfl (lv_at hl 0 rfl) ?_
  refine c_geti X hp0 cf_X10_13 dX10_bag_1 ?_
  refine z_istore_n (lv' := [(1, .int (V p0 1)), (0, .ref (ad p0))]) X.1 dX10_bag_4 rfl hl (by decide) rfl (fun ls hl => ?_)
  refine z_aload_n X.1 dX10_bag_5 rfl (lv_at hl 1 rfl) ?_
  refine z_iconst (v := 0) X.1 dX10_bag_6 (by decide) ?_
  refine c_puti X hp0 cf_X10_13 cg_X10 cp_X10_1 rfl rfl dX10_bag_7 ?_
  refine z_aload_n X.1 dX10_bag_10 rfl (lv_at hl 1 rfl) ?_
  refine z_iload_n X.1 dX10_bag_11 rfl (lv_at hl 0 rfl) ?_
  obtain ⟨r1, hc1, hf⟩ := z_bind hf
  refine c_callVi [.int (V p0 1)] X hl.1 (c_X10_isBag D cy ad X.2.2 hp0 hc1) hp0 ⟨by decide, rfl⟩ cm_X10_248 cw_X10_isBag rfl cq_X10_isBag ⟨by decide, by decide⟩ (Nat.le_of_ble_eq_true rfl) rfl dX10_bag_12 ?_
  refine z_if_ne (tgt := 24) X.1 dX10_bag_15 (by decide) (fun c_ => ?_) (fun c_ => ?_)
  · have hf := (if_neg c_).symm.trans hf
    refine z_aload_n X.1 dX10_bag_24 rfl (lv_at hl 1 rfl) ?_
    refine z_iload_n X.1 dX10_bag_25 rfl (lv_at hl 0 rfl) ?_
    refine z_iconst (v := 2) X.1 dX10_bag_26 (by decide) ?_
    refine z_idiv X.1 dX10_bag_27 (by decide) ?_
    refine c_puti X hp0 cf_X10_68 cg_X10 cp_X10_13 rfl rfl dX10_bag_28 ?_
    refine z_iconst (v := 0) X.1 dX10_bag_31 (by decide) ?_
    refine z_istore_n (lv' := [(2, .int 0), (1, .int (V p0 1)), (0, .ref (ad p0))]) X.1 dX10_bag_32 rfl hl (by decide) rfl (fun ls hl => ?_)
    exact w_X10_bag_33 X Z hp0 hp0_0 ep0_0 hp0_11 ep0_11 hp0_12 ep0_12 FU 0 (z_uI (z_uI V p0 1 0) p0 13 ((V p0 1) / 2)) L ls (lv_sub hl [2, 0] rfl) hf
  · have hf := (if_pos c_).symm.trans hf
    refine z_aload_n X.1 dX10_bag_18 rfl (lv_at hl 1 rfl) ?_
    refine z_iconst (v := 5) X.1 dX10_bag_19 (by decide) ?_
    obtain ⟨r2, hc2, hf⟩ := z_bind hf
    refine c_callVi [.int 5] X hl.1 (c_X10_refuse D cy ad X.2.2 hp0 hc2) hp0 ⟨by decide, rfl⟩ cm_X10_80 cw_X10_refuse rfl cq_X10_refuse ⟨by decide, by decide⟩ (Nat.le_of_ble_eq_true rfl) rfl dX10_bag_20 ?_
    exact c_iret X Z hf rfl dX10_bag_23

theorem c_X10_bag (D : va_G) (cy : Nat → ClassId) (ad : Nat → Nat) {n : Nat} {K N : Nat → Nat} {G : zG} (hWF : zWF n K G) {p0 : Nat} {V : zI} {L : zL} (hp0 : p0 < n ∧ K p0 = 8) {r' : Int32 × zI × zL} (hf : f_X10_bag N G p0 V L = some r') : RCi (zC D cy ad n K N G) yX10_bag cX10_bag 3 .int 2 43 [.ref (ad p0)] V L r'.1 r'.2.1 r'.2.2 := by
  unfold f_X10_bag at hf
  obtain ⟨p0_0, ep0_0, hf⟩ := z_bind hf
  have hp0_0 := hWF.get hp0 (k := 0) (c := 101) rfl ep0_0
  obtain ⟨p0_11, ep0_11, hf⟩ := z_bind hf
  have hp0_11 := hWF.get hp0 (k := 11) (c := 100) rfl ep0_11
  obtain ⟨p0_12, ep0_12, hf⟩ := z_bind hf
  have hp0_12 := hWF.get hp0 (k := 12) (c := 100) rfl ep0_12
  exact RCi.of (by decide) hWF (Nat.le_of_ble_eq_true rfl) (fun M X Z ls hl => w_X10_bag X Z hp0 hp0_0 ep0_0 hp0_11 ep0_11 hp0_12 ep0_12 V L ls hl hf)
def g_X7_heldBy (N : Nat → Nat) (G : zG) (p0 : Nat) (p0_1 : Nat) (V : zI) (L : zL) (x1 : Int32) (x2 : Int32) : Option (Int32) :=
  (if ((x1 * 6) + x2) < 0 then some 0 else (if 36 ≤ ((x1 * 6) + x2) then some 0 else if inB ((x1 * 6) + x2) (N p0_1) then some (V p0_1 ((x1 * 6) + x2).toNatClampNeg) else none))
def f_X7_heldBy (N : Nat → Nat) (G : zG) (p0 : Nat) (x1 : Int32) (x2 : Int32) (V : zI) (L : zL) : Option (Int32) :=
  (G p0 1).bind fun p0_1 => g_X7_heldBy N G p0 p0_1 V L x1 x2
set_option maxHeartbeats 4000000 in
set_option maxRecDepth 100000 in
theorem w_X7_heldBy {M : zM} {D : va_G} {cy : Nat → ClassId} {ad : Nat → Nat} {n : Nat} {K N : Nat → Nat} {G : zG} {V : zI} {L : zL} {r' : Int32} (X : RXc M D cy ad n K N G cX7_heldBy 4 RX7 0 0) (Z : RZi M (zC D cy ad n K N G) .int r' V L) {p0 : Nat} (hp0 : p0 < n ∧ K p0 = 5) {p0_1 : Nat} (hp0_1 : p0_1 < n ∧ K p0_1 = 100) (ep0_1 : G p0 1 = some p0_1) (x1 : Int32) (x2 : Int32) (ls : Array Slot) (hl : lv_has ls 4 [(0, .ref (ad p0)), (1, .int x1), (2, .int x2)]) (hf : g_X7_heldBy N G p0 p0_1 V L x1 x2 = some r') : RG M (zC D cy ad n K N G) V L 0 ls [] := by
  unfold g_X7_heldBy at hf
  refine z_iload_n X.1 dX7_heldBy_0 rfl (lv_at hl 1 rfl) ?_
  refine z_bipush (v := 6) X.1 dX7_heldBy_1 (by decide) ?_
  refine z_imul X.1 dX7_heldBy_3 ?_
  refine z_iload_n X.1 dX7_heldBy_4 rfl (lv_at hl 2 rfl) ?_
  refine z_iadd X.1 dX7_heldBy_5 ?_
  refine z_istore_n (lv' := [(3, .int ((x1 * 6) + x2)), (0, .ref (ad p0)), (1, .int x1), (2, .int x2)]) X.1 dX7_heldBy_6 rfl hl (by decide) rfl (fun ls hl => ?_)
  refine z_iload_n X.1 dX7_heldBy_7 rfl (lv_at hl 0 rfl) ?_
  refine z_if_lt (tgt := 26) X.1 dX7_heldBy_8 (by decide) (fun c_ => ?_) (fun c_ => ?_)
  · have hf := (if_pos c_).symm.trans hf
    refine z_iconst (v := 0) X.1 dX7_heldBy_26 (by decide) ?_
    exact c_iretS X Z hf rfl dX7_heldBy_27
  · have hf := (if_neg c_).symm.trans hf
    refine z_iload_n X.1 dX7_heldBy_11 rfl (lv_at hl 0 rfl) ?_
    refine z_bipush (v := 36) X.1 dX7_heldBy_12 (by decide) ?_
    refine z_icmp_ge (tgt := 26) X.1 dX7_heldBy_14 (by decide) (fun c_ => ?_) (fun c_ => ?_)
    · have hf := (if_pos c_).symm.trans hf
      refine z_iconst (v := 0) X.1 dX7_heldBy_26 (by decide) ?_
      exact c_iretS X Z hf rfl dX7_heldBy_27
    · have hf := (if_neg c_).symm.trans hf
      refine z_aload_n X.1 dX7_heldBy_17 rfl (lv_at hl 1 rfl) ?_
      refine c_geta X hp0 cf_X7_15 ep0_1 dX7_heldBy_18 ?_
      refine z_iload_n X.1 dX7_heldBy_21 rfl (lv_at hl 0 rfl) ?_
      obtain ⟨hb1, hf⟩ := z_ite hf
      refine c_iald X hp0_1 hb1 dX7_heldBy_22 ?_
      refine z_goto (tgt := 27) X.1 dX7_heldBy_23 (by decide) ?_
      exact c_iretS X Z hf rfl dX7_heldBy_27

theorem c_X7_heldBy (D : va_G) (cy : Nat → ClassId) (ad : Nat → Nat) {n : Nat} {K N : Nat → Nat} {G : zG} (hWF : zWF n K G) {p0 : Nat} {x1 : Int32} {x2 : Int32} {V : zI} {L : zL} (hp0 : p0 < n ∧ K p0 = 5) {r' : Int32} (hf : f_X7_heldBy N G p0 x1 x2 V L = some r') : RCi (zC D cy ad n K N G) yX7_heldBy cX7_heldBy 4 .int 0 0 [.ref (ad p0), .int x1, .int x2] V L r' V L := by
  unfold f_X7_heldBy at hf
  obtain ⟨p0_1, ep0_1, hf⟩ := z_bind hf
  have hp0_1 := hWF.get hp0 (k := 1) (c := 100) rfl ep0_1
  exact RCi.of (by decide) hWF (Nat.le_of_ble_eq_true rfl) (fun M X Z ls hl => w_X7_heldBy X Z hp0 hp0_1 ep0_1 x1 x2 ls hl hf)
def b_X10_fitsBag_2 (N : Nat → Nat) (G : zG) (p0 : Nat) (p0_11 : Nat) (p0_12 : Nat) (p0_5 : Nat) (V : zI) (L : zL) (k2 : Int32 × Int32 → Option (Int32)) : Int32 × Int32 → Option (Int32) := fun ⟨x1, x2⟩ =>
  (if (V p0 13) ≤ x2 then some 1 else (if 16 ≤ x2 then some 1 else if inB x2 (N p0_11) then (f_X7_heldBy N G p0_5 x1 (V p0_11 x2.toNatClampNeg) V L).bind fun r2 => if inB x2 (N p0_12) then (if r2 = (V p0_12 x2.toNatClampNeg) then k2 (x1, (x2 + 1)) else some 0) else none else none))
def g_X10_fitsBag (N : Nat → Nat) (G : zG) (p0 : Nat) (p0_11 : Nat) (p0_12 : Nat) (p0_5 : Nat) (V : zI) (L : zL) (x1 : Int32) : Option (Int32) :=
  zfix (b_X10_fitsBag_2 N G p0 p0_11 p0_12 p0_5 V L) FU (x1, 0)
def f_X10_fitsBag (N : Nat → Nat) (G : zG) (p0 : Nat) (x1 : Int32) (V : zI) (L : zL) : Option (Int32) :=
  (G p0 11).bind fun p0_11 => (G p0 12).bind fun p0_12 => (G p0 5).bind fun p0_5 => g_X10_fitsBag N G p0 p0_11 p0_12 p0_5 V L x1
set_option maxHeartbeats 4000000 in
set_option maxRecDepth 100000 in
theorem w_X10_fitsBag_2 {M : zM} {D : va_G} {cy : Nat → ClassId} {ad : Nat → Nat} {n : Nat} {K N : Nat → Nat} {G : zG} {V : zI} {L : zL} {r' : Int32} (X : RXc M D cy ad n K N G cX10_fitsBag 3 RX10 1 23) (Z : RZi M (zC D cy ad n K N G) .boolean r' V L) {p0 : Nat} (hp0 : p0 < n ∧ K p0 = 8) {p0_11 : Nat} (hp0_11 : p0_11 < n ∧ K p0_11 = 100) (ep0_11 : G p0 11 = some p0_11) {p0_12 : Nat} (hp0_12 : p0_12 < n ∧ K p0_12 = 100) (ep0_12 : G p0 12 = some p0_12) {p0_5 : Nat} (hp0_5 : p0_5 < n ∧ K p0_5 = 5) (ep0_5 : G p0 5 = some p0_5) (nn : Nat) : ∀ (x1 : Int32) (x2 : Int32) (ls : Array Slot) (hl : lv_has ls 3 [(0, .ref (ad p0)), (1, .int x1), (2, .int x2)]) (hf : zfix (b_X10_fitsBag_2 N G p0 p0_11 p0_12 p0_5 V L) nn (x1, x2) = some r'), RG M (zC D cy ad n K N G) V L 2 ls [] := by
  induction nn with
  | zero => intro x1 x2 ls hl hf; cases hf
  | succ nn ih =>
  intro x1 x2 ls hl hf
  have hk2 : ∀ (x1 : Int32) (x2 : Int32) (ls : Array Slot), lv_has ls 3 [(0, .ref (ad p0)), (1, .int x1), (2, .int x2)] → zfix (b_X10_fitsBag_2 N G p0 p0_11 p0_12 p0_5 V L) nn (x1, x2) = some r' → RG M (zC D cy ad n K N G) V L 2 ls [] := ih
  have hf : b_X10_fitsBag_2 N G p0 p0_11 p0_12 p0_5 V L (zfix (b_X10_fitsBag_2 N G p0 p0_11 p0_12 p0_5 V L) nn) (x1, x2) = some r' := hf
  generalize zfix (b_X10_fitsBag_2 N G p0 p0_11 p0_12 p0_5 V L) nn = k2 at hk2 hf
  clear ih
  unfold b_X10_fitsBag_2 at hf
  refine z_iload_n X.1 dX10_fitsBag_2 rfl (lv_at hl 2 rfl) ?_
  refine z_aload_n X.1 dX10_fitsBag_3 rfl (lv_at hl 0 rfl) ?_
  refine c_geti X hp0 cf_X10_68 dX10_fitsBag_4 ?_
  refine z_icmp_ge (tgt := 47) X.1 dX10_fitsBag_7 (by decide) (fun c_ => ?_) (fun c_ => ?_)
  · have hf := (if_pos c_).symm.trans hf
    refine z_iconst (v := 1) X.1 dX10_fitsBag_47 (by decide) ?_
    exact c_iretS X Z hf (by decide) dX10_fitsBag_48
  · have hf := (if_neg c_).symm.trans hf
    refine z_iload_n X.1 dX10_fitsBag_10 rfl (lv_at hl 2 rfl) ?_
    refine z_bipush (v := 16) X.1 dX10_fitsBag_11 (by decide) ?_
    refine z_icmp_ge (tgt := 47) X.1 dX10_fitsBag_13 (by decide) (fun c_ => ?_) (fun c_ => ?_)
    · have hf := (if_pos c_).symm.trans hf
      refine z_iconst (v := 1) X.1 dX10_fitsBag_47 (by decide) ?_
      exact c_iretS X Z hf (by decide) dX10_fitsBag_48
    · have hf := (if_neg c_).symm.trans hf
      refine z_aload_n X.1 dX10_fitsBag_16 rfl (lv_at hl 0 rfl) ?_
      refine c_geta X hp0 cf_X10_33 ep0_5 dX10_fitsBag_17 ?_
      refine z_iload_n X.1 dX10_fitsBag_20 rfl (lv_at hl 1 rfl) ?_
      refine z_aload_n X.1 dX10_fitsBag_21 rfl (lv_at hl 0 rfl) ?_
      refine c_geta X hp0 cf_X10_61 ep0_11 dX10_fitsBag_22 ?_
      refine z_iload_n X.1 dX10_fitsBag_25 rfl (lv_at hl 2 rfl) ?_
      obtain ⟨hb1, hf⟩ := z_ite hf
      refine c_iald X hp0_11 hb1 dX10_fitsBag_26 ?_
      obtain ⟨r2, hc2, hf⟩ := z_bind hf
      refine c_callVi [.int x1, .int (V p0_11 x2.toNatClampNeg)] X hl.1 (c_X7_heldBy D cy ad X.2.2 hp0_5 hc2) hp0_5 ⟨by decide, rfl⟩ cm_X10_257 cw_X7_heldBy rfl cq_X7_heldBy ⟨by decide, by decide⟩ (Nat.le_of_ble_eq_true rfl) rfl dX10_fitsBag_27 ?_
      refine z_aload_n X.1 dX10_fitsBag_30 rfl (lv_at hl 0 rfl) ?_
      refine c_geta X hp0 cf_X10_65 ep0_12 dX10_fitsBag_31 ?_
      refine z_iload_n X.1 dX10_fitsBag_34 rfl (lv_at hl 2 rfl) ?_
      obtain ⟨hb3, hf⟩ := z_ite hf
      refine c_iald X hp0_12 hb3 dX10_fitsBag_35 ?_
      refine z_icmp_eq (tgt := 41) X.1 dX10_fitsBag_36 (by decide) (fun c_ => ?_) (fun c_ => ?_)
      · have hf := (if_pos c_).symm.trans hf
        refine z_iinc (v := x2 + 1) (k0 := 2) (lv' := [(2, .int (x2 + 1)), (0, .ref (ad p0)), (1, .int x1)]) X.1 dX10_fitsBag_41 hl rfl rfl (by decide) rfl (fun ls hl => ?_)
        refine z_goto (tgt := 2) X.1 dX10_fitsBag_44 (by decide) ?_
        exact hk2 x1 (x2 + 1) ls (lv_sub hl [1, 2, 0] rfl) hf
      · have hf := (if_neg c_).symm.trans hf
        refine z_iconst (v := 0) X.1 dX10_fitsBag_39 (by decide) ?_
        exact c_iretS X Z hf (by decide) dX10_fitsBag_40

set_option maxHeartbeats 4000000 in
set_option maxRecDepth 100000 in
theorem w_X10_fitsBag {M : zM} {D : va_G} {cy : Nat → ClassId} {ad : Nat → Nat} {n : Nat} {K N : Nat → Nat} {G : zG} {V : zI} {L : zL} {r' : Int32} (X : RXc M D cy ad n K N G cX10_fitsBag 3 RX10 1 23) (Z : RZi M (zC D cy ad n K N G) .boolean r' V L) {p0 : Nat} (hp0 : p0 < n ∧ K p0 = 8) {p0_11 : Nat} (hp0_11 : p0_11 < n ∧ K p0_11 = 100) (ep0_11 : G p0 11 = some p0_11) {p0_12 : Nat} (hp0_12 : p0_12 < n ∧ K p0_12 = 100) (ep0_12 : G p0 12 = some p0_12) {p0_5 : Nat} (hp0_5 : p0_5 < n ∧ K p0_5 = 5) (ep0_5 : G p0 5 = some p0_5) (x1 : Int32) (ls : Array Slot) (hl : lv_has ls 3 [(0, .ref (ad p0)), (1, .int x1)]) (hf : g_X10_fitsBag N G p0 p0_11 p0_12 p0_5 V L x1 = some r') : RG M (zC D cy ad n K N G) V L 0 ls [] := by
  unfold g_X10_fitsBag at hf
  refine z_iconst (v := 0) X.1 dX10_fitsBag_0 (by decide) ?_
  refine z_istore_n (lv' := [(2, .int 0), (0, .ref (ad p0)), (1, .int x1)]) X.1 dX10_fitsBag_1 rfl hl (by decide) rfl (fun ls hl => ?_)
  exact w_X10_fitsBag_2 X Z hp0 hp0_11 ep0_11 hp0_12 ep0_12 hp0_5 ep0_5 FU x1 0 ls (lv_sub hl [1, 2, 0] rfl) hf

theorem c_X10_fitsBag (D : va_G) (cy : Nat → ClassId) (ad : Nat → Nat) {n : Nat} {K N : Nat → Nat} {G : zG} (hWF : zWF n K G) {p0 : Nat} {x1 : Int32} {V : zI} {L : zL} (hp0 : p0 < n ∧ K p0 = 8) {r' : Int32} (hf : f_X10_fitsBag N G p0 x1 V L = some r') : RCi (zC D cy ad n K N G) yX10_fitsBag cX10_fitsBag 3 .boolean 1 23 [.ref (ad p0), .int x1] V L r' V L := by
  unfold f_X10_fitsBag at hf
  obtain ⟨p0_11, ep0_11, hf⟩ := z_bind hf
  have hp0_11 := hWF.get hp0 (k := 11) (c := 100) rfl ep0_11
  obtain ⟨p0_12, ep0_12, hf⟩ := z_bind hf
  have hp0_12 := hWF.get hp0 (k := 12) (c := 100) rfl ep0_12
  obtain ⟨p0_5, ep0_5, hf⟩ := z_bind hf
  have hp0_5 := hWF.get hp0 (k := 5) (c := 5) rfl ep0_5
  exact RCi.of (by decide) hWF (Nat.le_of_ble_eq_true rfl) (fun M X Z ls hl => w_X10_fitsBag X Z hp0 hp0_11 ep0_11 hp0_12 ep0_12 hp0_5 ep0_5 x1 ls hl hf)
def b_X10_mostLeft_18 (N : Nat → Nat) (G : zG) (p0 : Nat) (p0_5 : Nat) (V : zI) (L : zL) (k5 : Int32 × Int32 × Int32 × Int32 → Option (Int32)) (k18 : Int32 × Int32 × Int32 × Int32 × Int32 × Int32 → Option (Int32)) : Int32 × Int32 × Int32 × Int32 × Int32 × Int32 → Option (Int32) := fun ⟨x1, x2, x3, x4, x5, x6⟩ =>
  (if 6 ≤ x6 then (if ((x1 >>> (x4 &&& 31)) &&& 1) = 0 then k5 (x1, x2, x3, (x4 + 1)) else k5 (x1, x2, (if x3 < x5 then x5 else x3), (x4 + 1))) else (if ((x1 >>> (x6 &&& 31)) &&& 1) = 0 then k18 (x1, x2, x3, x4, x5, (x6 + 1)) else (f_X7_heldBy N G p0_5 x6 x2 V L).bind fun r1 => (f_X7_heldBy N G p0_5 x4 x2 V L).bind fun r2 => (if r1 = r2 then k18 (x1, x2, x3, x4, (x5 + 1), (x6 + 1)) else k18 (x1, x2, x3, x4, x5, (x6 + 1)))))
def b_X10_mostLeft_5 (N : Nat → Nat) (G : zG) (p0 : Nat) (p0_5 : Nat) (V : zI) (L : zL) (k5 : Int32 × Int32 × Int32 × Int32 → Option (Int32)) : Int32 × Int32 × Int32 × Int32 → Option (Int32) := fun ⟨x1, x2, x3, x4⟩ =>
  (if 6 ≤ x4 then some x3 else zfix (b_X10_mostLeft_18 N G p0 p0_5 V L k5) FU (x1, x2, x3, x4, 0, 0))
def g_X10_mostLeft (N : Nat → Nat) (G : zG) (p0 : Nat) (p0_5 : Nat) (V : zI) (L : zL) (x1 : Int32) (x2 : Int32) : Option (Int32) :=
  zfix (b_X10_mostLeft_5 N G p0 p0_5 V L) FU (x1, x2, 0, 0)
def f_X10_mostLeft (N : Nat → Nat) (G : zG) (p0 : Nat) (x1 : Int32) (x2 : Int32) (V : zI) (L : zL) : Option (Int32) :=
  (G p0 5).bind fun p0_5 => g_X10_mostLeft N G p0 p0_5 V L x1 x2
set_option maxHeartbeats 4000000 in
set_option maxRecDepth 100000 in
theorem w_X10_mostLeft_18 {M : zM} {D : va_G} {cy : Nat → ClassId} {ad : Nat → Nat} {n : Nat} {K N : Nat → Nat} {G : zG} {V : zI} {L : zL} {r' : Int32} (X : RXc M D cy ad n K N G cX10_mostLeft 7 RX10 1 25) (Z : RZi M (zC D cy ad n K N G) .int r' V L) {p0 : Nat} (hp0 : p0 < n ∧ K p0 = 8) {p0_5 : Nat} (hp0_5 : p0_5 < n ∧ K p0_5 = 5) (ep0_5 : G p0 5 = some p0_5) {k5 : Int32 × Int32 × Int32 × Int32 → Option (Int32)} (hk5 : ∀ (x1 : Int32) (x2 : Int32) (x3 : Int32) (x4 : Int32) (ls : Array Slot), lv_has ls 7 [(0, .ref (ad p0)), (1, .int x1), (2, .int x2), (3, .int x3), (4, .int x4)] → k5 (x1, x2, x3, x4) = some r' → RG M (zC D cy ad n K N G) V L 5 ls []) (nn : Nat) : ∀ (x1 : Int32) (x2 : Int32) (x3 : Int32) (x4 : Int32) (x5 : Int32) (x6 : Int32) (ls : Array Slot) (hl : lv_has ls 7 [(0, .ref (ad p0)), (1, .int x1), (2, .int x2), (3, .int x3), (4, .int x4), (5, .int x5), (6, .int x6)]) (hf : zfix (b_X10_mostLeft_18 N G p0 p0_5 V L k5) nn (x1, x2, x3, x4, x5, x6) = some r'), RG M (zC D cy ad n K N G) V L 18 ls [] := by
  induction nn with
  | zero => intro x1 x2 x3 x4 x5 x6 ls hl hf; cases hf
  | succ nn ih =>
  intro x1 x2 x3 x4 x5 x6 ls hl hf
  have hk18 : ∀ (x1 : Int32) (x2 : Int32) (x3 : Int32) (x4 : Int32) (x5 : Int32) (x6 : Int32) (ls : Array Slot), lv_has ls 7 [(0, .ref (ad p0)), (1, .int x1), (2, .int x2), (3, .int x3), (4, .int x4), (5, .int x5), (6, .int x6)] → zfix (b_X10_mostLeft_18 N G p0 p0_5 V L k5) nn (x1, x2, x3, x4, x5, x6) = some r' → RG M (zC D cy ad n K N G) V L 18 ls [] := ih
  have hf : b_X10_mostLeft_18 N G p0 p0_5 V L k5 (zfix (b_X10_mostLeft_18 N G p0 p0_5 V L k5) nn) (x1, x2, x3, x4, x5, x6) = some r' := hf
  generalize zfix (b_X10_mostLeft_18 N G p0 p0_5 V L k5) nn = k18 at hk18 hf
  clear ih
  unfold b_X10_mostLeft_18 at hf
  refine z_iload X.1 dX10_mostLeft_18 (lv_at hl 6 rfl) ?_
  refine z_bipush (v := 6) X.1 dX10_mostLeft_20 (by decide) ?_
  refine z_icmp_ge (tgt := 66) X.1 dX10_mostLeft_22 (by decide) (fun c_ => ?_) (fun c_ => ?_)
  · have hf := (if_pos c_).symm.trans hf
    refine z_iload_n X.1 dX10_mostLeft_66 rfl (lv_at hl 1 rfl) ?_
    refine z_iload X.1 dX10_mostLeft_67 (lv_at hl 4 rfl) ?_
    refine z_ishr X.1 dX10_mostLeft_69 ?_
    refine z_iconst (v := 1) X.1 dX10_mostLeft_70 (by decide) ?_
    refine z_iand X.1 dX10_mostLeft_71 ?_
    refine z_if_eq (tgt := 82) X.1 dX10_mostLeft_72 (by decide) (fun c_ => ?_) (fun c_ => ?_)
    · have hf := (if_pos c_).symm.trans hf
      refine z_iinc (v := x4 + 1) (k0 := 4) (lv' := [(4, .int (x4 + 1)), (0, .ref (ad p0)), (1, .int x1), (2, .int x2), (3, .int x3), (5, .int x5), (6, .int x6)]) X.1 dX10_mostLeft_82 hl rfl rfl (by decide) rfl (fun ls hl => ?_)
      refine z_goto (tgt := 5) X.1 dX10_mostLeft_85 (by decide) ?_
      exact hk5 x1 x2 x3 (x4 + 1) ls (lv_sub hl [1, 2, 3, 4, 0] rfl) hf
    · have hf := (if_neg c_).symm.trans hf
      refine z_iload_n X.1 dX10_mostLeft_75 rfl (lv_at hl 3 rfl) ?_
      refine z_iload X.1 dX10_mostLeft_76 (lv_at hl 5 rfl) ?_
      refine c_max X hl.1 cj_X10_260 ⟨by decide, Nat.le_of_ble_eq_true rfl⟩ dX10_mostLeft_78 ?_
      refine z_istore_n (lv' := [(3, .int (if x3 < x5 then x5 else x3)), (0, .ref (ad p0)), (1, .int x1), (2, .int x2), (4, .int x4), (5, .int x5), (6, .int x6)]) X.1 dX10_mostLeft_81 rfl hl (by decide) rfl (fun ls hl => ?_)
      refine z_iinc (v := x4 + 1) (k0 := 4) (lv' := [(4, .int (x4 + 1)), (3, .int (if x3 < x5 then x5 else x3)), (0, .ref (ad p0)), (1, .int x1), (2, .int x2), (5, .int x5), (6, .int x6)]) X.1 dX10_mostLeft_82 hl rfl rfl (by decide) rfl (fun ls hl => ?_)
      refine z_goto (tgt := 5) X.1 dX10_mostLeft_85 (by decide) ?_
      exact hk5 x1 x2 (if x3 < x5 then x5 else x3) (x4 + 1) ls (lv_sub hl [2, 3, 4, 1, 0] rfl) hf
  · have hf := (if_neg c_).symm.trans hf
    refine z_iload_n X.1 dX10_mostLeft_25 rfl (lv_at hl 1 rfl) ?_
    refine z_iload X.1 dX10_mostLeft_26 (lv_at hl 6 rfl) ?_
    refine z_ishr X.1 dX10_mostLeft_28 ?_
    refine z_iconst (v := 1) X.1 dX10_mostLeft_29 (by decide) ?_
    refine z_iand X.1 dX10_mostLeft_30 ?_
    refine z_if_eq (tgt := 60) X.1 dX10_mostLeft_31 (by decide) (fun c_ => ?_) (fun c_ => ?_)
    · have hf := (if_pos c_).symm.trans hf
      refine z_iinc (v := x6 + 1) (k0 := 6) (lv' := [(6, .int (x6 + 1)), (0, .ref (ad p0)), (1, .int x1), (2, .int x2), (3, .int x3), (4, .int x4), (5, .int x5)]) X.1 dX10_mostLeft_60 hl rfl rfl (by decide) rfl (fun ls hl => ?_)
      refine z_goto (tgt := 18) X.1 dX10_mostLeft_63 (by decide) ?_
      exact hk18 x1 x2 x3 x4 x5 (x6 + 1) ls (lv_sub hl [1, 2, 3, 4, 5, 6, 0] rfl) hf
    · have hf := (if_neg c_).symm.trans hf
      refine z_aload_n X.1 dX10_mostLeft_34 rfl (lv_at hl 0 rfl) ?_
      refine c_geta X hp0 cf_X10_33 ep0_5 dX10_mostLeft_35 ?_
      refine z_iload X.1 dX10_mostLeft_38 (lv_at hl 6 rfl) ?_
      refine z_iload_n X.1 dX10_mostLeft_40 rfl (lv_at hl 2 rfl) ?_
      obtain ⟨r1, hc1, hf⟩ := z_bind hf
      refine c_callVi [.int x6, .int x2] X hl.1 (c_X7_heldBy D cy ad X.2.2 hp0_5 hc1) hp0_5 ⟨by decide, rfl⟩ cm_X10_257 cw_X7_heldBy rfl cq_X7_heldBy ⟨by decide, by decide⟩ (Nat.le_of_ble_eq_true rfl) rfl dX10_mostLeft_41 ?_
      refine z_aload_n X.1 dX10_mostLeft_44 rfl (lv_at hl 0 rfl) ?_
      refine c_geta X hp0 cf_X10_33 ep0_5 dX10_mostLeft_45 ?_
      refine z_iload X.1 dX10_mostLeft_48 (lv_at hl 4 rfl) ?_
      refine z_iload_n X.1 dX10_mostLeft_50 rfl (lv_at hl 2 rfl) ?_
      obtain ⟨r2, hc2, hf⟩ := z_bind hf
      refine c_callVi [.int x4, .int x2] X hl.1 (c_X7_heldBy D cy ad X.2.2 hp0_5 hc2) hp0_5 ⟨by decide, rfl⟩ cm_X10_257 cw_X7_heldBy rfl cq_X7_heldBy ⟨by decide, by decide⟩ (Nat.le_of_ble_eq_true rfl) rfl dX10_mostLeft_51 ?_
      refine z_icmp_ne (tgt := 60) X.1 dX10_mostLeft_54 (by decide) (fun c_ => ?_) (fun c_ => ?_)
      · have hf := (if_neg c_).symm.trans hf
        refine z_iinc (v := x6 + 1) (k0 := 6) (lv' := [(6, .int (x6 + 1)), (0, .ref (ad p0)), (1, .int x1), (2, .int x2), (3, .int x3), (4, .int x4), (5, .int x5)]) X.1 dX10_mostLeft_60 hl rfl rfl (by decide) rfl (fun ls hl => ?_)
        refine z_goto (tgt := 18) X.1 dX10_mostLeft_63 (by decide) ?_
        exact hk18 x1 x2 x3 x4 x5 (x6 + 1) ls (lv_sub hl [1, 2, 3, 4, 5, 6, 0] rfl) hf
      · have hf := (if_pos c_).symm.trans hf
        refine z_iinc (v := x5 + 1) (k0 := 5) (lv' := [(5, .int (x5 + 1)), (0, .ref (ad p0)), (1, .int x1), (2, .int x2), (3, .int x3), (4, .int x4), (6, .int x6)]) X.1 dX10_mostLeft_57 hl rfl rfl (by decide) rfl (fun ls hl => ?_)
        refine z_iinc (v := x6 + 1) (k0 := 6) (lv' := [(6, .int (x6 + 1)), (5, .int (x5 + 1)), (0, .ref (ad p0)), (1, .int x1), (2, .int x2), (3, .int x3), (4, .int x4)]) X.1 dX10_mostLeft_60 hl rfl rfl (by decide) rfl (fun ls hl => ?_)
        refine z_goto (tgt := 18) X.1 dX10_mostLeft_63 (by decide) ?_
        exact hk18 x1 x2 x3 x4 (x5 + 1) (x6 + 1) ls (lv_sub hl [2, 3, 4, 5, 6, 1, 0] rfl) hf

set_option maxHeartbeats 4000000 in
set_option maxRecDepth 100000 in
theorem w_X10_mostLeft_5 {M : zM} {D : va_G} {cy : Nat → ClassId} {ad : Nat → Nat} {n : Nat} {K N : Nat → Nat} {G : zG} {V : zI} {L : zL} {r' : Int32} (X : RXc M D cy ad n K N G cX10_mostLeft 7 RX10 1 25) (Z : RZi M (zC D cy ad n K N G) .int r' V L) {p0 : Nat} (hp0 : p0 < n ∧ K p0 = 8) {p0_5 : Nat} (hp0_5 : p0_5 < n ∧ K p0_5 = 5) (ep0_5 : G p0 5 = some p0_5) (nn : Nat) : ∀ (x1 : Int32) (x2 : Int32) (x3 : Int32) (x4 : Int32) (ls : Array Slot) (hl : lv_has ls 7 [(0, .ref (ad p0)), (1, .int x1), (2, .int x2), (3, .int x3), (4, .int x4)]) (hf : zfix (b_X10_mostLeft_5 N G p0 p0_5 V L) nn (x1, x2, x3, x4) = some r'), RG M (zC D cy ad n K N G) V L 5 ls [] := by
  induction nn with
  | zero => intro x1 x2 x3 x4 ls hl hf; cases hf
  | succ nn ih =>
  intro x1 x2 x3 x4 ls hl hf
  have hk5 : ∀ (x1 : Int32) (x2 : Int32) (x3 : Int32) (x4 : Int32) (ls : Array Slot), lv_has ls 7 [(0, .ref (ad p0)), (1, .int x1), (2, .int x2), (3, .int x3), (4, .int x4)] → zfix (b_X10_mostLeft_5 N G p0 p0_5 V L) nn (x1, x2, x3, x4) = some r' → RG M (zC D cy ad n K N G) V L 5 ls [] := ih
  have hf : b_X10_mostLeft_5 N G p0 p0_5 V L (zfix (b_X10_mostLeft_5 N G p0 p0_5 V L) nn) (x1, x2, x3, x4) = some r' := hf
  generalize zfix (b_X10_mostLeft_5 N G p0 p0_5 V L) nn = k5 at hk5 hf
  clear ih
  unfold b_X10_mostLeft_5 at hf
  refine z_iload X.1 dX10_mostLeft_5 (lv_at hl 4 rfl) ?_
  refine z_bipush (v := 6) X.1 dX10_mostLeft_7 (by decide) ?_
  refine z_icmp_ge (tgt := 88) X.1 dX10_mostLeft_9 (by decide) (fun c_ => ?_) (fun c_ => ?_)
  · have hf := (if_pos c_).symm.trans hf
    refine z_iload_n X.1 dX10_mostLeft_88 rfl (lv_at hl 3 rfl) ?_
    exact c_iretS X Z hf rfl dX10_mostLeft_89
  · have hf := (if_neg c_).symm.trans hf
    refine z_iconst (v := 0) X.1 dX10_mostLeft_12 (by decide) ?_
    refine z_istore (lv' := [(5, .int 0), (0, .ref (ad p0)), (1, .int x1), (2, .int x2), (3, .int x3), (4, .int x4)]) X.1 dX10_mostLeft_13 hl (by decide) rfl (fun ls hl => ?_)
    refine z_iconst (v := 0) X.1 dX10_mostLeft_15 (by decide) ?_
    refine z_istore (lv' := [(6, .int 0), (5, .int 0), (0, .ref (ad p0)), (1, .int x1), (2, .int x2), (3, .int x3), (4, .int x4)]) X.1 dX10_mostLeft_16 hl (by decide) rfl (fun ls hl => ?_)
    exact w_X10_mostLeft_18 X Z hp0 hp0_5 ep0_5 hk5 FU x1 x2 x3 x4 0 0 ls (lv_sub hl [2, 3, 4, 5, 6, 1, 0] rfl) hf

set_option maxHeartbeats 4000000 in
set_option maxRecDepth 100000 in
theorem w_X10_mostLeft {M : zM} {D : va_G} {cy : Nat → ClassId} {ad : Nat → Nat} {n : Nat} {K N : Nat → Nat} {G : zG} {V : zI} {L : zL} {r' : Int32} (X : RXc M D cy ad n K N G cX10_mostLeft 7 RX10 1 25) (Z : RZi M (zC D cy ad n K N G) .int r' V L) {p0 : Nat} (hp0 : p0 < n ∧ K p0 = 8) {p0_5 : Nat} (hp0_5 : p0_5 < n ∧ K p0_5 = 5) (ep0_5 : G p0 5 = some p0_5) (x1 : Int32) (x2 : Int32) (ls : Array Slot) (hl : lv_has ls 7 [(0, .ref (ad p0)), (1, .int x1), (2, .int x2)]) (hf : g_X10_mostLeft N G p0 p0_5 V L x1 x2 = some r') : RG M (zC D cy ad n K N G) V L 0 ls [] := by
  unfold g_X10_mostLeft at hf
  refine z_iconst (v := 0) X.1 dX10_mostLeft_0 (by decide) ?_
  refine z_istore_n (lv' := [(3, .int 0), (0, .ref (ad p0)), (1, .int x1), (2, .int x2)]) X.1 dX10_mostLeft_1 rfl hl (by decide) rfl (fun ls hl => ?_)
  refine z_iconst (v := 0) X.1 dX10_mostLeft_2 (by decide) ?_
  refine z_istore (lv' := [(4, .int 0), (3, .int 0), (0, .ref (ad p0)), (1, .int x1), (2, .int x2)]) X.1 dX10_mostLeft_3 hl (by decide) rfl (fun ls hl => ?_)
  exact w_X10_mostLeft_5 X Z hp0 hp0_5 ep0_5 FU x1 x2 0 0 ls (lv_sub hl [2, 3, 4, 1, 0] rfl) hf

theorem c_X10_mostLeft (D : va_G) (cy : Nat → ClassId) (ad : Nat → Nat) {n : Nat} {K N : Nat → Nat} {G : zG} (hWF : zWF n K G) {p0 : Nat} {x1 : Int32} {x2 : Int32} {V : zI} {L : zL} (hp0 : p0 < n ∧ K p0 = 8) {r' : Int32} (hf : f_X10_mostLeft N G p0 x1 x2 V L = some r') : RCi (zC D cy ad n K N G) yX10_mostLeft cX10_mostLeft 7 .int 1 25 [.ref (ad p0), .int x1, .int x2] V L r' V L := by
  unfold f_X10_mostLeft at hf
  obtain ⟨p0_5, ep0_5, hf⟩ := z_bind hf
  have hp0_5 := hWF.get hp0 (k := 5) (c := 5) rfl ep0_5
  exact RCi.of (by decide) hWF (Nat.le_of_ble_eq_true rfl) (fun M X Z ls hl => w_X10_mostLeft X Z hp0 hp0_5 ep0_5 x1 x2 ls hl hf)
def f_X10_whose_98 (N : Nat → Nat) (G : zG) (p0 : Nat) (p0_2 : Nat) (V : zI) (L : zL) (k65 : Int32 × Int32 × Int32 × Int32 × Int32 → Option (Int32)) (x1 : Int32) (x2 : Int32) (x5 : Int32) (x6 : Int32) : Option (Int32) :=
  k65 (x1, x2, x5, x6, (x5 + 1))
def b_X10_whose_65 (N : Nat → Nat) (G : zG) (p0 : Nat) (p0_2 : Nat) (V : zI) (L : zL) (k65 : Int32 × Int32 × Int32 × Int32 × Int32 → Option (Int32)) : Int32 × Int32 × Int32 × Int32 × Int32 → Option (Int32) := fun ⟨x1, x2, x3, x4, x5⟩ =>
  (if (V p0_2 0) ≤ x5 then (if x1 = 1 then some x3 else some x4) else (f_X10_mostLeft N G p0 x2 x5 V L).bind fun r1 => (if x3 = (-1) then f_X10_whose_98 N G p0 p0_2 V L k65 x1 x2 x5 r1 else (if x4 ≤ r1 then k65 (x1, x2, x3, x4, (x5 + 1)) else f_X10_whose_98 N G p0 p0_2 V L k65 x1 x2 x5 r1)))
def f_X10_whose_51 (N : Nat → Nat) (G : zG) (p0 : Nat) (p0_2 : Nat) (V : zI) (L : zL) (x1 : Int32) (x2 : Int32) : Option (Int32) :=
  (if x2 = 0 then some (-1) else zfix (b_X10_whose_65 N G p0 p0_2 V L) FU (x1, x2, (-1), (-1), 0))
def b_X10_whose_4 (N : Nat → Nat) (G : zG) (p0 : Nat) (p0_2 : Nat) (V : zI) (L : zL) (k4 : Int32 × Int32 × Int32 → Option (Int32)) : Int32 × Int32 × Int32 → Option (Int32) := fun ⟨x1, x2, x3⟩ =>
  (if (V p0_2 0) ≤ x3 then (if x1 = 0 then some x2 else (if x1 = 1 then f_X10_whose_51 N G p0 p0_2 V L x1 x2 else (if x1 = 2 then f_X10_whose_51 N G p0 p0_2 V L x1 x2 else some (-1)))) else (f_X10_fitsBag N G p0 x3 V L).bind fun r1 => (if r1 = 0 then k4 (x1, x2, (x3 + 1)) else k4 (x1, (x2 ||| ((1 : Int32) <<< (x3 &&& 31))), (x3 + 1))))
def g_X10_whose (N : Nat → Nat) (G : zG) (p0 : Nat) (p0_2 : Nat) (V : zI) (L : zL) (x1 : Int32) : Option (Int32) :=
  zfix (b_X10_whose_4 N G p0 p0_2 V L) FU (x1, 0, 0)
def f_X10_whose (N : Nat → Nat) (G : zG) (p0 : Nat) (x1 : Int32) (V : zI) (L : zL) : Option (Int32) :=
  (G p0 2).bind fun p0_2 => g_X10_whose N G p0 p0_2 V L x1
set_option maxHeartbeats 4000000 in
set_option maxRecDepth 100000 in
theorem w_X10_whose_98 {M : zM} {D : va_G} {cy : Nat → ClassId} {ad : Nat → Nat} {n : Nat} {K N : Nat → Nat} {G : zG} {V : zI} {L : zL} {r' : Int32} (X : RXc M D cy ad n K N G cX10_whose 7 RX10 2 51) (Z : RZi M (zC D cy ad n K N G) .int r' V L) {p0 : Nat} (hp0 : p0 < n ∧ K p0 = 8) {p0_2 : Nat} (hp0_2 : p0_2 < n ∧ K p0_2 = 7) (ep0_2 : G p0 2 = some p0_2) {k65 : Int32 × Int32 × Int32 × Int32 × Int32 → Option (Int32)} (hk65 : ∀ (x1 : Int32) (x2 : Int32) (x3 : Int32) (x4 : Int32) (x5 : Int32) (ls : Array Slot), lv_has ls 7 [(0, .ref (ad p0)), (1, .int x1), (2, .int x2), (3, .int x3), (4, .int x4), (5, .int x5)] → k65 (x1, x2, x3, x4, x5) = some r' → RG M (zC D cy ad n K N G) V L 65 ls []) (x1 : Int32) (x2 : Int32) (x5 : Int32) (x6 : Int32) (ls : Array Slot) (hl : lv_has ls 7 [(0, .ref (ad p0)), (1, .int x1), (2, .int x2), (5, .int x5), (6, .int x6)]) (hf : f_X10_whose_98 N G p0 p0_2 V L k65 x1 x2 x5 x6 = some r') : RG M (zC D cy ad n K N G) V L 98 ls [] := by
  unfold f_X10_whose_98 at hf
  refine z_iload X.1 dX10_whose_98 (lv_at hl 3 rfl) ?_
  refine z_istore_n (lv' := [(3, .int x5), (0, .ref (ad p0)), (1, .int x1), (2, .int x2), (5, .int x5), (6, .int x6)]) X.1 dX10_whose_100 rfl hl (by decide) rfl (fun ls hl => ?_)
  refine z_iload X.1 dX10_whose_101 (lv_at hl 5 rfl) ?_
  refine z_istore (lv' := [(4, .int x6), (3, .int x5), (0, .ref (ad p0)), (1, .int x1), (2, .int x2), (5, .int x5), (6, .int x6)]) X.1 dX10_whose_103 hl (by decide) rfl (fun ls hl => ?_)
  refine z_iinc (v := x5 + 1) (k0 := 5) (lv' := [(5, .int (x5 + 1)), (4, .int x6), (3, .int x5), (0, .ref (ad p0)), (1, .int x1), (2, .int x2), (6, .int x6)]) X.1 dX10_whose_105 hl rfl rfl (by decide) rfl (fun ls hl => ?_)
  refine z_goto (tgt := 65) X.1 dX10_whose_108 (by decide) ?_
  exact hk65 x1 x2 x5 x6 (x5 + 1) ls (lv_sub hl [3, 4, 5, 2, 1, 0] rfl) hf

set_option maxHeartbeats 4000000 in
set_option maxRecDepth 100000 in
theorem w_X10_whose_65 {M : zM} {D : va_G} {cy : Nat → ClassId} {ad : Nat → Nat} {n : Nat} {K N : Nat → Nat} {G : zG} {V : zI} {L : zL} {r' : Int32} (X : RXc M D cy ad n K N G cX10_whose 7 RX10 2 51) (Z : RZi M (zC D cy ad n K N G) .int r' V L) {p0 : Nat} (hp0 : p0 < n ∧ K p0 = 8) {p0_2 : Nat} (hp0_2 : p0_2 < n ∧ K p0_2 = 7) (ep0_2 : G p0 2 = some p0_2) (nn : Nat) : ∀ (x1 : Int32) (x2 : Int32) (x3 : Int32) (x4 : Int32) (x5 : Int32) (ls : Array Slot) (hl : lv_has ls 7 [(0, .ref (ad p0)), (1, .int x1), (2, .int x2), (3, .int x3), (4, .int x4), (5, .int x5)]) (hf : zfix (b_X10_whose_65 N G p0 p0_2 V L) nn (x1, x2, x3, x4, x5) = some r'), RG M (zC D cy ad n K N G) V L 65 ls [] := by
  induction nn with
  | zero => intro x1 x2 x3 x4 x5 ls hl hf; cases hf
  | succ nn ih =>
  intro x1 x2 x3 x4 x5 ls hl hf
  have hk65 : ∀ (x1 : Int32) (x2 : Int32) (x3 : Int32) (x4 : Int32) (x5 : Int32) (ls : Array Slot), lv_has ls 7 [(0, .ref (ad p0)), (1, .int x1), (2, .int x2), (3, .int x3), (4, .int x4), (5, .int x5)] → zfix (b_X10_whose_65 N G p0 p0_2 V L) nn (x1, x2, x3, x4, x5) = some r' → RG M (zC D cy ad n K N G) V L 65 ls [] := ih
  have hf : b_X10_whose_65 N G p0 p0_2 V L (zfix (b_X10_whose_65 N G p0 p0_2 V L) nn) (x1, x2, x3, x4, x5) = some r' := hf
  generalize zfix (b_X10_whose_65 N G p0 p0_2 V L) nn = k65 at hk65 hf
  clear ih
  unfold b_X10_whose_65 at hf
  refine z_iload X.1 dX10_whose_65 (lv_at hl 5 rfl) ?_
  refine z_aload_n X.1 dX10_whose_67 rfl (lv_at hl 0 rfl) ?_
  refine c_geta X hp0 cf_X10_20 ep0_2 dX10_whose_68 ?_
  refine c_geti X hp0_2 cf_X10_118 dX10_whose_71 ?_
  refine z_icmp_ge (tgt := 111) X.1 dX10_whose_74 (by decide) (fun c_ => ?_) (fun c_ => ?_)
  · have hf := (if_pos c_).symm.trans hf
    refine z_iload_n X.1 dX10_whose_111 rfl (lv_at hl 1 rfl) ?_
    refine z_iconst (v := 1) X.1 dX10_whose_112 (by decide) ?_
    refine z_icmp_ne (tgt := 120) X.1 dX10_whose_113 (by decide) (fun c_ => ?_) (fun c_ => ?_)
    · have hf := (if_neg c_).symm.trans hf
      refine z_iload X.1 dX10_whose_120 (lv_at hl 4 rfl) ?_
      exact c_iretS X Z hf rfl dX10_whose_122
    · have hf := (if_pos c_).symm.trans hf
      refine z_iload_n X.1 dX10_whose_116 rfl (lv_at hl 3 rfl) ?_
      refine z_goto (tgt := 122) X.1 dX10_whose_117 (by decide) ?_
      exact c_iretS X Z hf rfl dX10_whose_122
  · have hf := (if_neg c_).symm.trans hf
    refine z_aload_n X.1 dX10_whose_77 rfl (lv_at hl 0 rfl) ?_
    refine z_iload_n X.1 dX10_whose_78 rfl (lv_at hl 2 rfl) ?_
    refine z_iload X.1 dX10_whose_79 (lv_at hl 5 rfl) ?_
    obtain ⟨r1, hc1, hf⟩ := z_bind hf
    refine c_callVi [.int x2, .int x5] X hl.1 (c_X10_mostLeft D cy ad X.2.2 hp0 hc1) hp0 ⟨by decide, rfl⟩ cm_X10_254 cw_X10_mostLeft rfl cq_X10_mostLeft ⟨by decide, by decide⟩ (Nat.le_of_ble_eq_true rfl) rfl dX10_whose_81 ?_
    refine z_istore (lv' := [(6, .int r1), (0, .ref (ad p0)), (1, .int x1), (2, .int x2), (3, .int x3), (4, .int x4), (5, .int x5)]) X.1 dX10_whose_84 hl (by decide) rfl (fun ls hl => ?_)
    refine z_iload_n X.1 dX10_whose_86 rfl (lv_at hl 4 rfl) ?_
    refine z_iconst (v := -1) X.1 dX10_whose_87 (by decide) ?_
    refine z_icmp_eq (tgt := 98) X.1 dX10_whose_88 (by decide) (fun c_ => ?_) (fun c_ => ?_)
    · have hf := (if_pos c_).symm.trans hf
      exact w_X10_whose_98 X Z hp0 hp0_2 ep0_2 hk65 x1 x2 x5 r1 ls (lv_sub hl [1, 2, 3, 6, 0] rfl) hf
    · have hf := (if_neg c_).symm.trans hf
      refine z_iload X.1 dX10_whose_91 (lv_at hl 0 rfl) ?_
      refine z_iload X.1 dX10_whose_93 (lv_at hl 5 rfl) ?_
      refine z_icmp_ge (tgt := 105) X.1 dX10_whose_95 (by decide) (fun c_ => ?_) (fun c_ => ?_)
      · have hf := (if_pos c_).symm.trans hf
        refine z_iinc (v := x5 + 1) (k0 := 6) (lv' := [(5, .int (x5 + 1)), (6, .int r1), (0, .ref (ad p0)), (1, .int x1), (2, .int x2), (3, .int x3), (4, .int x4)]) X.1 dX10_whose_105 hl rfl rfl (by decide) rfl (fun ls hl => ?_)
        refine z_goto (tgt := 65) X.1 dX10_whose_108 (by decide) ?_
        exact hk65 x1 x2 x3 x4 (x5 + 1) ls (lv_sub hl [2, 3, 4, 5, 6, 0] rfl) hf
      · have hf := (if_neg c_).symm.trans hf
        exact w_X10_whose_98 X Z hp0 hp0_2 ep0_2 hk65 x1 x2 x5 r1 ls (lv_sub hl [1, 2, 3, 6, 0] rfl) hf

set_option maxHeartbeats 4000000 in
set_option maxRecDepth 100000 in
theorem w_X10_whose_51 {M : zM} {D : va_G} {cy : Nat → ClassId} {ad : Nat → Nat} {n : Nat} {K N : Nat → Nat} {G : zG} {V : zI} {L : zL} {r' : Int32} (X : RXc M D cy ad n K N G cX10_whose 7 RX10 2 51) (Z : RZi M (zC D cy ad n K N G) .int r' V L) {p0 : Nat} (hp0 : p0 < n ∧ K p0 = 8) {p0_2 : Nat} (hp0_2 : p0_2 < n ∧ K p0_2 = 7) (ep0_2 : G p0 2 = some p0_2) (x1 : Int32) (x2 : Int32) (ls : Array Slot) (hl : lv_has ls 7 [(0, .ref (ad p0)), (1, .int x1), (2, .int x2)]) (hf : f_X10_whose_51 N G p0 p0_2 V L x1 x2 = some r') : RG M (zC D cy ad n K N G) V L 51 ls [] := by
  unfold f_X10_whose_51 at hf
  refine z_iload_n X.1 dX10_whose_51 rfl (lv_at hl 2 rfl) ?_
  refine z_if_ne (tgt := 57) X.1 dX10_whose_52 (by decide) (fun c_ => ?_) (fun c_ => ?_)
  · have hf := (if_neg c_).symm.trans hf
    refine z_iconst (v := -1) X.1 dX10_whose_57 (by decide) ?_
    refine z_istore_n (lv' := [(3, .int (-1)), (0, .ref (ad p0)), (1, .int x1), (2, .int x2)]) X.1 dX10_whose_58 rfl hl (by decide) rfl (fun ls hl => ?_)
    refine z_iconst (v := -1) X.1 dX10_whose_59 (by decide) ?_
    refine z_istore (lv' := [(4, .int (-1)), (3, .int (-1)), (0, .ref (ad p0)), (1, .int x1), (2, .int x2)]) X.1 dX10_whose_60 hl (by decide) rfl (fun ls hl => ?_)
    refine z_iconst (v := 0) X.1 dX10_whose_62 (by decide) ?_
    refine z_istore (lv' := [(5, .int 0), (4, .int (-1)), (3, .int (-1)), (0, .ref (ad p0)), (1, .int x1), (2, .int x2)]) X.1 dX10_whose_63 hl (by decide) rfl (fun ls hl => ?_)
    exact w_X10_whose_65 X Z hp0 hp0_2 ep0_2 FU x1 x2 (-1) (-1) 0 ls (lv_sub hl [3, 4, 5, 2, 1, 0] rfl) hf
  · have hf := (if_pos c_).symm.trans hf
    refine z_iconst (v := -1) X.1 dX10_whose_55 (by decide) ?_
    exact c_iretS X Z hf rfl dX10_whose_56

set_option maxHeartbeats 4000000 in
set_option maxRecDepth 100000 in
theorem w_X10_whose_4 {M : zM} {D : va_G} {cy : Nat → ClassId} {ad : Nat → Nat} {n : Nat} {K N : Nat → Nat} {G : zG} {V : zI} {L : zL} {r' : Int32} (X : RXc M D cy ad n K N G cX10_whose 7 RX10 2 51) (Z : RZi M (zC D cy ad n K N G) .int r' V L) {p0 : Nat} (hp0 : p0 < n ∧ K p0 = 8) {p0_2 : Nat} (hp0_2 : p0_2 < n ∧ K p0_2 = 7) (ep0_2 : G p0 2 = some p0_2) (nn : Nat) : ∀ (x1 : Int32) (x2 : Int32) (x3 : Int32) (ls : Array Slot) (hl : lv_has ls 7 [(0, .ref (ad p0)), (1, .int x1), (2, .int x2), (3, .int x3)]) (hf : zfix (b_X10_whose_4 N G p0 p0_2 V L) nn (x1, x2, x3) = some r'), RG M (zC D cy ad n K N G) V L 4 ls [] := by
  induction nn with
  | zero => intro x1 x2 x3 ls hl hf; cases hf
  | succ nn ih =>
  intro x1 x2 x3 ls hl hf
  have hk4 : ∀ (x1 : Int32) (x2 : Int32) (x3 : Int32) (ls : Array Slot), lv_has ls 7 [(0, .ref (ad p0)), (1, .int x1), (2, .int x2), (3, .int x3)] → zfix (b_X10_whose_4 N G p0 p0_2 V L) nn (x1, x2, x3) = some r' → RG M (zC D cy ad n K N G) V L 4 ls [] := ih
  have hf : b_X10_whose_4 N G p0 p0_2 V L (zfix (b_X10_whose_4 N G p0 p0_2 V L) nn) (x1, x2, x3) = some r' := hf
  generalize zfix (b_X10_whose_4 N G p0 p0_2 V L) nn = k4 at hk4 hf
  clear ih
  unfold b_X10_whose_4 at hf
  refine z_iload_n X.1 dX10_whose_4 rfl (lv_at hl 3 rfl) ?_
  refine z_aload_n X.1 dX10_whose_5 rfl (lv_at hl 0 rfl) ?_
  refine c_geta X hp0 cf_X10_20 ep0_2 dX10_whose_6 ?_
  refine c_geti X hp0_2 cf_X10_118 dX10_whose_9 ?_
  refine z_icmp_ge (tgt := 35) X.1 dX10_whose_12 (by decide) (fun c_ => ?_) (fun c_ => ?_)
  · have hf := (if_pos c_).symm.trans hf
    refine z_iload_n X.1 dX10_whose_35 rfl (lv_at hl 1 rfl) ?_
    refine z_if_ne (tgt := 41) X.1 dX10_whose_36 (by decide) (fun c_ => ?_) (fun c_ => ?_)
    · have hf := (if_neg c_).symm.trans hf
      refine z_iload_n X.1 dX10_whose_41 rfl (lv_at hl 1 rfl) ?_
      refine z_iconst (v := 1) X.1 dX10_whose_42 (by decide) ?_
      refine z_icmp_eq (tgt := 51) X.1 dX10_whose_43 (by decide) (fun c_ => ?_) (fun c_ => ?_)
      · have hf := (if_pos c_).symm.trans hf
        exact w_X10_whose_51 X Z hp0 hp0_2 ep0_2 x1 x2 ls (lv_sub hl [0, 1, 2] rfl) hf
      · have hf := (if_neg c_).symm.trans hf
        refine z_iload_n X.1 dX10_whose_46 rfl (lv_at hl 1 rfl) ?_
        refine z_iconst (v := 2) X.1 dX10_whose_47 (by decide) ?_
        refine z_icmp_ne (tgt := 55) X.1 dX10_whose_48 (by decide) (fun c_ => ?_) (fun c_ => ?_)
        · have hf := (if_neg c_).symm.trans hf
          refine z_iconst (v := -1) X.1 dX10_whose_55 (by decide) ?_
          exact c_iretS X Z hf rfl dX10_whose_56
        · have hf := (if_pos c_).symm.trans hf
          exact w_X10_whose_51 X Z hp0 hp0_2 ep0_2 x1 x2 ls (lv_sub hl [0, 1, 2] rfl) hf
    · have hf := (if_pos c_).symm.trans hf
      refine z_iload_n X.1 dX10_whose_39 rfl (lv_at hl 2 rfl) ?_
      exact c_iretS X Z hf rfl dX10_whose_40
  · have hf := (if_neg c_).symm.trans hf
    refine z_aload_n X.1 dX10_whose_15 rfl (lv_at hl 0 rfl) ?_
    refine z_iload_n X.1 dX10_whose_16 rfl (lv_at hl 3 rfl) ?_
    obtain ⟨r1, hc1, hf⟩ := z_bind hf
    refine c_callVi [.int x3] X hl.1 (c_X10_fitsBag D cy ad X.2.2 hp0 hc1) hp0 ⟨by decide, rfl⟩ cm_X10_251 cw_X10_fitsBag rfl cq_X10_fitsBag ⟨by decide, by decide⟩ (Nat.le_of_ble_eq_true rfl) rfl dX10_whose_17 ?_
    refine z_if_eq (tgt := 29) X.1 dX10_whose_20 (by decide) (fun c_ => ?_) (fun c_ => ?_)
    · have hf := (if_pos c_).symm.trans hf
      refine z_iinc (v := x3 + 1) (k0 := 3) (lv' := [(3, .int (x3 + 1)), (0, .ref (ad p0)), (1, .int x1), (2, .int x2)]) X.1 dX10_whose_29 hl rfl rfl (by decide) rfl (fun ls hl => ?_)
      refine z_goto (tgt := 4) X.1 dX10_whose_32 (by decide) ?_
      exact hk4 x1 x2 (x3 + 1) ls (lv_sub hl [1, 2, 3, 0] rfl) hf
    · have hf := (if_neg c_).symm.trans hf
      refine z_iload_n X.1 dX10_whose_23 rfl (lv_at hl 2 rfl) ?_
      refine z_iconst (v := 1) X.1 dX10_whose_24 (by decide) ?_
      refine z_iload_n X.1 dX10_whose_25 rfl (lv_at hl 3 rfl) ?_
      refine z_ishl X.1 dX10_whose_26 ?_
      refine z_ior X.1 dX10_whose_27 ?_
      refine z_istore_n (lv' := [(2, .int (x2 ||| ((1 : Int32) <<< (x3 &&& 31)))), (0, .ref (ad p0)), (1, .int x1), (3, .int x3)]) X.1 dX10_whose_28 rfl hl (by decide) rfl (fun ls hl => ?_)
      refine z_iinc (v := x3 + 1) (k0 := 3) (lv' := [(3, .int (x3 + 1)), (2, .int (x2 ||| ((1 : Int32) <<< (x3 &&& 31)))), (0, .ref (ad p0)), (1, .int x1)]) X.1 dX10_whose_29 hl rfl rfl (by decide) rfl (fun ls hl => ?_)
      refine z_goto (tgt := 4) X.1 dX10_whose_32 (by decide) ?_
      exact hk4 x1 (x2 ||| ((1 : Int32) <<< (x3 &&& 31))) (x3 + 1) ls (lv_sub hl [2, 3, 1, 0] rfl) hf

set_option maxHeartbeats 4000000 in
set_option maxRecDepth 100000 in
theorem w_X10_whose {M : zM} {D : va_G} {cy : Nat → ClassId} {ad : Nat → Nat} {n : Nat} {K N : Nat → Nat} {G : zG} {V : zI} {L : zL} {r' : Int32} (X : RXc M D cy ad n K N G cX10_whose 7 RX10 2 51) (Z : RZi M (zC D cy ad n K N G) .int r' V L) {p0 : Nat} (hp0 : p0 < n ∧ K p0 = 8) {p0_2 : Nat} (hp0_2 : p0_2 < n ∧ K p0_2 = 7) (ep0_2 : G p0 2 = some p0_2) (x1 : Int32) (ls : Array Slot) (hl : lv_has ls 7 [(0, .ref (ad p0)), (1, .int x1)]) (hf : g_X10_whose N G p0 p0_2 V L x1 = some r') : RG M (zC D cy ad n K N G) V L 0 ls [] := by
  unfold g_X10_whose at hf
  refine z_iconst (v := 0) X.1 dX10_whose_0 (by decide) ?_
  refine z_istore_n (lv' := [(2, .int 0), (0, .ref (ad p0)), (1, .int x1)]) X.1 dX10_whose_1 rfl hl (by decide) rfl (fun ls hl => ?_)
  refine z_iconst (v := 0) X.1 dX10_whose_2 (by decide) ?_
  refine z_istore_n (lv' := [(3, .int 0), (2, .int 0), (0, .ref (ad p0)), (1, .int x1)]) X.1 dX10_whose_3 rfl hl (by decide) rfl (fun ls hl => ?_)
  exact w_X10_whose_4 X Z hp0 hp0_2 ep0_2 FU x1 0 0 ls (lv_sub hl [2, 3, 1, 0] rfl) hf

theorem c_X10_whose (D : va_G) (cy : Nat → ClassId) (ad : Nat → Nat) {n : Nat} {K N : Nat → Nat} {G : zG} (hWF : zWF n K G) {p0 : Nat} {x1 : Int32} {V : zI} {L : zL} (hp0 : p0 < n ∧ K p0 = 8) {r' : Int32} (hf : f_X10_whose N G p0 x1 V L = some r') : RCi (zC D cy ad n K N G) yX10_whose cX10_whose 7 .int 2 51 [.ref (ad p0), .int x1] V L r' V L := by
  unfold f_X10_whose at hf
  obtain ⟨p0_2, ep0_2, hf⟩ := z_bind hf
  have hp0_2 := hWF.get hp0 (k := 2) (c := 7) rfl ep0_2
  exact RCi.of (by decide) hWF (Nat.le_of_ble_eq_true rfl) (fun M X Z ls hl => w_X10_whose X Z hp0 hp0_2 ep0_2 x1 ls hl hf)
def g_X10_canPass (N : Nat → Nat) (G : zG) (p0 : Nat) (p0_5 : Nat) (V : zI) (L : zL) (x1 : Int32) : Option (Int32) :=
  (if x1 < 1 then some 0 else (if 100 < x1 then some 0 else (if ((999 : Int32) - (V p0_5 0)) < x1 then some 0 else some 1)))
def f_X10_canPass (N : Nat → Nat) (G : zG) (p0 : Nat) (x1 : Int32) (V : zI) (L : zL) : Option (Int32) :=
  (G p0 5).bind fun p0_5 => g_X10_canPass N G p0 p0_5 V L x1
set_option maxHeartbeats 4000000 in
set_option maxRecDepth 100000 in
theorem w_X10_canPass {M : zM} {D : va_G} {cy : Nat → ClassId} {ad : Nat → Nat} {n : Nat} {K N : Nat → Nat} {G : zG} {V : zI} {L : zL} {r' : Int32} (X : RXc M D cy ad n K N G cX10_canPass 2 RX10 0 0) (Z : RZi M (zC D cy ad n K N G) .boolean r' V L) {p0 : Nat} (hp0 : p0 < n ∧ K p0 = 8) {p0_5 : Nat} (hp0_5 : p0_5 < n ∧ K p0_5 = 5) (ep0_5 : G p0 5 = some p0_5) (x1 : Int32) (ls : Array Slot) (hl : lv_has ls 2 [(0, .ref (ad p0)), (1, .int x1)]) (hf : g_X10_canPass N G p0 p0_5 V L x1 = some r') : RG M (zC D cy ad n K N G) V L 0 ls [] := by
  unfold g_X10_canPass at hf
  refine z_iload_n X.1 dX10_canPass_0 rfl (lv_at hl 1 rfl) ?_
  refine z_iconst (v := 1) X.1 dX10_canPass_1 (by decide) ?_
  refine z_icmp_lt (tgt := 30) X.1 dX10_canPass_2 (by decide) (fun c_ => ?_) (fun c_ => ?_)
  · have hf := (if_pos c_).symm.trans hf
    refine z_iconst (v := 0) X.1 dX10_canPass_30 (by decide) ?_
    exact c_iretS X Z hf (by decide) dX10_canPass_31
  · have hf := (if_neg c_).symm.trans hf
    refine z_iload_n X.1 dX10_canPass_5 rfl (lv_at hl 1 rfl) ?_
    refine z_bipush (v := 100) X.1 dX10_canPass_6 (by decide) ?_
    refine z_icmp_gt (tgt := 30) X.1 dX10_canPass_8 (by decide) (fun c_ => ?_) (fun c_ => ?_)
    · have hf := (if_pos c_).symm.trans hf
      refine z_iconst (v := 0) X.1 dX10_canPass_30 (by decide) ?_
      exact c_iretS X Z hf (by decide) dX10_canPass_31
    · have hf := (if_neg c_).symm.trans hf
      refine z_iload_n X.1 dX10_canPass_11 rfl (lv_at hl 1 rfl) ?_
      refine z_sipush (v := 999) X.1 dX10_canPass_12 (by decide) ?_
      refine z_aload_n X.1 dX10_canPass_15 rfl (lv_at hl 0 rfl) ?_
      refine c_geta X hp0 cf_X10_33 ep0_5 dX10_canPass_16 ?_
      refine c_geti X hp0_5 cf_X10_124 dX10_canPass_19 ?_
      refine z_isub X.1 dX10_canPass_22 ?_
      refine z_icmp_gt (tgt := 30) X.1 dX10_canPass_23 (by decide) (fun c_ => ?_) (fun c_ => ?_)
      · have hf := (if_pos c_).symm.trans hf
        refine z_iconst (v := 0) X.1 dX10_canPass_30 (by decide) ?_
        exact c_iretS X Z hf (by decide) dX10_canPass_31
      · have hf := (if_neg c_).symm.trans hf
        refine z_iconst (v := 1) X.1 dX10_canPass_26 (by decide) ?_
        refine z_goto (tgt := 31) X.1 dX10_canPass_27 (by decide) ?_
        exact c_iretS X Z hf (by decide) dX10_canPass_31

theorem c_X10_canPass (D : va_G) (cy : Nat → ClassId) (ad : Nat → Nat) {n : Nat} {K N : Nat → Nat} {G : zG} (hWF : zWF n K G) {p0 : Nat} {x1 : Int32} {V : zI} {L : zL} (hp0 : p0 < n ∧ K p0 = 8) {r' : Int32} (hf : f_X10_canPass N G p0 x1 V L = some r') : RCi (zC D cy ad n K N G) yX10_canPass cX10_canPass 2 .boolean 0 0 [.ref (ad p0), .int x1] V L r' V L := by
  unfold f_X10_canPass at hf
  obtain ⟨p0_5, ep0_5, hf⟩ := z_bind hf
  have hp0_5 := hWF.get hp0 (k := 5) (c := 5) rfl ep0_5
  exact RCi.of (by decide) hWF (Nat.le_of_ble_eq_true rfl) (fun M X Z ls hl => w_X10_canPass X Z hp0 hp0_5 ep0_5 x1 ls hl hf)
def g_X10_canGive (N : Nat → Nat) (G : zG) (p0 : Nat) (p0_5 : Nat) (V : zI) (L : zL) (x1 : Int32) (x2 : Int32) (x3 : Int32) : Option (Int32) :=
  (f_X7_heldBy N G p0_5 x1 x2 V L).bind fun r1 => (if r1 ≤ 0 then some 0 else (if x3 = x2 then some 1 else (f_X7_heldBy N G p0_5 x3 x2 V L).bind fun r2 => (if 99 ≤ r2 then some 0 else some 1)))
def f_X10_canGive (N : Nat → Nat) (G : zG) (p0 : Nat) (x1 : Int32) (x2 : Int32) (x3 : Int32) (V : zI) (L : zL) : Option (Int32) :=
  (G p0 5).bind fun p0_5 => g_X10_canGive N G p0 p0_5 V L x1 x2 x3
set_option maxHeartbeats 4000000 in
set_option maxRecDepth 100000 in
theorem w_X10_canGive {M : zM} {D : va_G} {cy : Nat → ClassId} {ad : Nat → Nat} {n : Nat} {K N : Nat → Nat} {G : zG} {V : zI} {L : zL} {r' : Int32} (X : RXc M D cy ad n K N G cX10_canGive 4 RX10 1 23) (Z : RZi M (zC D cy ad n K N G) .boolean r' V L) {p0 : Nat} (hp0 : p0 < n ∧ K p0 = 8) {p0_5 : Nat} (hp0_5 : p0_5 < n ∧ K p0_5 = 5) (ep0_5 : G p0 5 = some p0_5) (x1 : Int32) (x2 : Int32) (x3 : Int32) (ls : Array Slot) (hl : lv_has ls 4 [(0, .ref (ad p0)), (1, .int x1), (2, .int x2), (3, .int x3)]) (hf : g_X10_canGive N G p0 p0_5 V L x1 x2 x3 = some r') : RG M (zC D cy ad n K N G) V L 0 ls [] := by
  unfold g_X10_canGive at hf
  refine z_aload_n X.1 dX10_canGive_0 rfl (lv_at hl 0 rfl) ?_
  refine c_geta X hp0 cf_X10_33 ep0_5 dX10_canGive_1 ?_
  refine z_iload_n X.1 dX10_canGive_4 rfl (lv_at hl 1 rfl) ?_
  refine z_iload_n X.1 dX10_canGive_5 rfl (lv_at hl 2 rfl) ?_
  obtain ⟨r1, hc1, hf⟩ := z_bind hf
  refine c_callVi [.int x1, .int x2] X hl.1 (c_X7_heldBy D cy ad X.2.2 hp0_5 hc1) hp0_5 ⟨by decide, rfl⟩ cm_X10_257 cw_X7_heldBy rfl cq_X7_heldBy ⟨by decide, by decide⟩ (Nat.le_of_ble_eq_true rfl) rfl dX10_canGive_6 ?_
  refine z_if_le (tgt := 35) X.1 dX10_canGive_9 (by decide) (fun c_ => ?_) (fun c_ => ?_)
  · have hf := (if_pos c_).symm.trans hf
    refine z_iconst (v := 0) X.1 dX10_canGive_35 (by decide) ?_
    exact c_iretS X Z hf (by decide) dX10_canGive_36
  · have hf := (if_neg c_).symm.trans hf
    refine z_iload_n X.1 dX10_canGive_12 rfl (lv_at hl 3 rfl) ?_
    refine z_iload_n X.1 dX10_canGive_13 rfl (lv_at hl 2 rfl) ?_
    refine z_icmp_eq (tgt := 31) X.1 dX10_canGive_14 (by decide) (fun c_ => ?_) (fun c_ => ?_)
    · have hf := (if_pos c_).symm.trans hf
      refine z_iconst (v := 1) X.1 dX10_canGive_31 (by decide) ?_
      refine z_goto (tgt := 36) X.1 dX10_canGive_32 (by decide) ?_
      exact c_iretS X Z hf (by decide) dX10_canGive_36
    · have hf := (if_neg c_).symm.trans hf
      refine z_aload_n X.1 dX10_canGive_17 rfl (lv_at hl 0 rfl) ?_
      refine c_geta X hp0 cf_X10_33 ep0_5 dX10_canGive_18 ?_
      refine z_iload_n X.1 dX10_canGive_21 rfl (lv_at hl 3 rfl) ?_
      refine z_iload_n X.1 dX10_canGive_22 rfl (lv_at hl 2 rfl) ?_
      obtain ⟨r2, hc2, hf⟩ := z_bind hf
      refine c_callVi [.int x3, .int x2] X hl.1 (c_X7_heldBy D cy ad X.2.2 hp0_5 hc2) hp0_5 ⟨by decide, rfl⟩ cm_X10_257 cw_X7_heldBy rfl cq_X7_heldBy ⟨by decide, by decide⟩ (Nat.le_of_ble_eq_true rfl) rfl dX10_canGive_23 ?_
      refine z_bipush (v := 99) X.1 dX10_canGive_26 (by decide) ?_
      refine z_icmp_ge (tgt := 35) X.1 dX10_canGive_28 (by decide) (fun c_ => ?_) (fun c_ => ?_)
      · have hf := (if_pos c_).symm.trans hf
        refine z_iconst (v := 0) X.1 dX10_canGive_35 (by decide) ?_
        exact c_iretS X Z hf (by decide) dX10_canGive_36
      · have hf := (if_neg c_).symm.trans hf
        refine z_iconst (v := 1) X.1 dX10_canGive_31 (by decide) ?_
        refine z_goto (tgt := 36) X.1 dX10_canGive_32 (by decide) ?_
        exact c_iretS X Z hf (by decide) dX10_canGive_36

theorem c_X10_canGive (D : va_G) (cy : Nat → ClassId) (ad : Nat → Nat) {n : Nat} {K N : Nat → Nat} {G : zG} (hWF : zWF n K G) {p0 : Nat} {x1 : Int32} {x2 : Int32} {x3 : Int32} {V : zI} {L : zL} (hp0 : p0 < n ∧ K p0 = 8) {r' : Int32} (hf : f_X10_canGive N G p0 x1 x2 x3 V L = some r') : RCi (zC D cy ad n K N G) yX10_canGive cX10_canGive 4 .boolean 1 23 [.ref (ad p0), .int x1, .int x2, .int x3] V L r' V L := by
  unfold f_X10_canGive at hf
  obtain ⟨p0_5, ep0_5, hf⟩ := z_bind hf
  have hp0_5 := hWF.get hp0 (k := 5) (c := 5) rfl ep0_5
  exact RCi.of (by decide) hWF (Nat.le_of_ble_eq_true rfl) (fun M X Z ls hl => w_X10_canGive X Z hp0 hp0_5 ep0_5 x1 x2 x3 ls hl hf)
def g_X10_seed (N : Nat → Nat) (G : zG) (p0 : Nat) (p0_8 : Nat) (x1 : Int32) (V : zI) (L : zL) : Option (Int32 × zI × zL) :=
  (if 0 ≤ x1 then some (1, z_uI V p0_8 0 x1, L) else (f_X10_refuse N G p0 5 V L).bind fun r1 => some (0, r1.2.1, r1.2.2))
def f_X10_seed (N : Nat → Nat) (G : zG) (p0 : Nat) (x1 : Int32) (V : zI) (L : zL) : Option (Int32 × zI × zL) :=
  (G p0 8).bind fun p0_8 => g_X10_seed N G p0 p0_8 x1 V L
set_option maxHeartbeats 4000000 in
set_option maxRecDepth 100000 in
theorem w_X10_seed {M : zM} {D : va_G} {cy : Nat → ClassId} {ad : Nat → Nat} {n : Nat} {K N : Nat → Nat} {G : zG} {r' : Int32 × zI × zL} (X : RXc M D cy ad n K N G cX10_seed 2 RX10 1 21) (Z : RZi M (zC D cy ad n K N G) .boolean r'.1 r'.2.1 r'.2.2) {p0 : Nat} (hp0 : p0 < n ∧ K p0 = 8) {p0_8 : Nat} (hp0_8 : p0_8 < n ∧ K p0_8 = 1) (ep0_8 : G p0 8 = some p0_8) (x1 : Int32) (V : zI) (L : zL) (ls : Array Slot) (hl : lv_has ls 2 [(0, .ref (ad p0)), (1, .int x1)]) (hf : g_X10_seed N G p0 p0_8 x1 V L = some r') : RG M (zC D cy ad n K N G) V L 0 ls [] := by
  unfold g_X10_seed at hf
  refine z_iload_n X.1 dX10_seed_0 rfl (lv_at hl 1 rfl) ?_
  refine z_if_ge (tgt := 12) X.1 dX10_seed_1 (by decide) (fun c_ => ?_) (fun c_ => ?_)
  · have hf := (if_pos c_).symm.trans hf
    refine z_aload_n X.1 dX10_seed_12 rfl (lv_at hl 0 rfl) ?_
    refine c_geta X hp0 cf_X10_50 ep0_8 dX10_seed_13 ?_
    refine z_iload_n X.1 dX10_seed_16 rfl (lv_at hl 1 rfl) ?_
    refine c_puti X hp0_8 cf_X10_146 cg_X1 cp_X1_0 rfl rfl dX10_seed_17 ?_
    refine z_iconst (v := 1) X.1 dX10_seed_20 (by decide) ?_
    exact c_iret X Z hf (by decide) dX10_seed_21
  · have hf := (if_neg c_).symm.trans hf
    refine z_aload_n X.1 dX10_seed_4 rfl (lv_at hl 0 rfl) ?_
    refine z_iconst (v := 5) X.1 dX10_seed_5 (by decide) ?_
    obtain ⟨r1, hc1, hf⟩ := z_bind hf
    refine c_callVi [.int 5] X hl.1 (c_X10_refuse D cy ad X.2.2 hp0 hc1) hp0 ⟨by decide, rfl⟩ cm_X10_80 cw_X10_refuse rfl cq_X10_refuse ⟨by decide, by decide⟩ (Nat.le_of_ble_eq_true rfl) rfl dX10_seed_6 ?_
    refine z_pop X.1 dX10_seed_9 rfl ?_
    refine z_iconst (v := 0) X.1 dX10_seed_10 (by decide) ?_
    exact c_iret X Z hf (by decide) dX10_seed_11

theorem c_X10_seed (D : va_G) (cy : Nat → ClassId) (ad : Nat → Nat) {n : Nat} {K N : Nat → Nat} {G : zG} (hWF : zWF n K G) {p0 : Nat} {x1 : Int32} {V : zI} {L : zL} (hp0 : p0 < n ∧ K p0 = 8) {r' : Int32 × zI × zL} (hf : f_X10_seed N G p0 x1 V L = some r') : RCi (zC D cy ad n K N G) yX10_seed cX10_seed 2 .boolean 1 21 [.ref (ad p0), .int x1] V L r'.1 r'.2.1 r'.2.2 := by
  unfold f_X10_seed at hf
  obtain ⟨p0_8, ep0_8, hf⟩ := z_bind hf
  have hp0_8 := hWF.get hp0 (k := 8) (c := 1) rfl ep0_8
  exact RCi.of (by decide) hWF (Nat.le_of_ble_eq_true rfl) (fun M X Z ls hl => w_X10_seed X Z hp0 hp0_8 ep0_8 x1 V L ls hl hf)
def g_X7_keptAt (N : Nat → Nat) (G : zG) (p0 : Nat) (p0_8 : Nat) (V : zI) (L : zL) (x1 : Int32) (x2 : Int32) : Option (Int32) :=
  (if x1 < 0 then some (-1) else (if x1 < 50 then if inB x1 (N p0_8) then (if x2 = 0 then if inB x1 (N p0_8) then some (((V p0_8 x1.toNatClampNeg) / 2) / 36) else none else (if x2 = 1 then some ((((V p0_8 x1.toNatClampNeg) / 2) - ((V p0_8 x1.toNatClampNeg) / 2) / 36 * 36) / 6) else (if x2 = 2 then some ((((V p0_8 x1.toNatClampNeg) / 2) - ((V p0_8 x1.toNatClampNeg) / 2) / 36 * 36) - (((V p0_8 x1.toNatClampNeg) / 2) - ((V p0_8 x1.toNatClampNeg) / 2) / 36 * 36) / 6 * 6) else (if x2 = 3 then if inB x1 (N p0_8) then some ((V p0_8 x1.toNatClampNeg) - (V p0_8 x1.toNatClampNeg) / 2 * 2) else none else some (-1))))) else none else some (-1)))
def f_X7_keptAt (N : Nat → Nat) (G : zG) (p0 : Nat) (x1 : Int32) (x2 : Int32) (V : zI) (L : zL) : Option (Int32) :=
  (G p0 8).bind fun p0_8 => g_X7_keptAt N G p0 p0_8 V L x1 x2
set_option maxHeartbeats 4000000 in
set_option maxRecDepth 100000 in
theorem w_X7_keptAt {M : zM} {D : va_G} {cy : Nat → ClassId} {ad : Nat → Nat} {n : Nat} {K N : Nat → Nat} {G : zG} {V : zI} {L : zL} {r' : Int32} (X : RXc M D cy ad n K N G cX7_keptAt 4 RX7 0 0) (Z : RZi M (zC D cy ad n K N G) .int r' V L) {p0 : Nat} (hp0 : p0 < n ∧ K p0 = 5) {p0_8 : Nat} (hp0_8 : p0_8 < n ∧ K p0_8 = 100) (ep0_8 : G p0 8 = some p0_8) (x1 : Int32) (x2 : Int32) (ls : Array Slot) (hl : lv_has ls 4 [(0, .ref (ad p0)), (1, .int x1), (2, .int x2)]) (hf : g_X7_keptAt N G p0 p0_8 V L x1 x2 = some r') : RG M (zC D cy ad n K N G) V L 0 ls [] := by
  unfold g_X7_keptAt at hf
  refine z_iload_n X.1 dX7_keptAt_0 rfl (lv_at hl 1 rfl) ?_
  refine z_if_lt (tgt := 10) X.1 dX7_keptAt_1 (by decide) (fun c_ => ?_) (fun c_ => ?_)
  · have hf := (if_pos c_).symm.trans hf
    refine z_iconst (v := -1) X.1 dX7_keptAt_10 (by decide) ?_
    exact c_iretS X Z hf rfl dX7_keptAt_11
  · have hf := (if_neg c_).symm.trans hf
    refine z_iload_n X.1 dX7_keptAt_4 rfl (lv_at hl 1 rfl) ?_
    refine z_bipush (v := 50) X.1 dX7_keptAt_5 (by decide) ?_
    refine z_icmp_lt (tgt := 12) X.1 dX7_keptAt_7 (by decide) (fun c_ => ?_) (fun c_ => ?_)
    · have hf := (if_pos c_).symm.trans hf
      refine z_aload_n X.1 dX7_keptAt_12 rfl (lv_at hl 0 rfl) ?_
      refine c_geta X hp0 cf_X7_37 ep0_8 dX7_keptAt_13 ?_
      refine z_iload_n X.1 dX7_keptAt_16 rfl (lv_at hl 1 rfl) ?_
      obtain ⟨hb1, hf⟩ := z_ite hf
      refine c_iald X hp0_8 hb1 dX7_keptAt_17 ?_
      refine z_iconst (v := 2) X.1 dX7_keptAt_18 (by decide) ?_
      refine z_idiv X.1 dX7_keptAt_19 (by decide) ?_
      refine z_bipush (v := 36) X.1 dX7_keptAt_20 (by decide) ?_
      refine z_irem X.1 dX7_keptAt_22 (by decide) ?_
      refine z_istore_n (lv' := [(3, .int (((V p0_8 x1.toNatClampNeg) / 2) - ((V p0_8 x1.toNatClampNeg) / 2) / 36 * 36)), (0, .ref (ad p0)), (1, .int x1), (2, .int x2)]) X.1 dX7_keptAt_23 rfl hl (by decide) rfl (fun ls hl => ?_)
      refine z_iload_n X.1 dX7_keptAt_24 rfl (lv_at hl 3 rfl) ?_
      by_cases c0_ : x2 = 0
      · have hf := (if_pos c0_).symm.trans hf
        refine z_tabIn (tgt := 56) (off := 31) X.1 dX7_keptAt_25 (by rw [c0_]; decide) (by rw [c0_]; decide) (by rw [c0_]; rfl) (by decide) ?_
        refine z_aload_n X.1 dX7_keptAt_56 rfl (lv_at hl 1 rfl) ?_
        refine c_geta X hp0 cf_X7_37 ep0_8 dX7_keptAt_57 ?_
        refine z_iload_n X.1 dX7_keptAt_60 rfl (lv_at hl 2 rfl) ?_
        obtain ⟨hb2, hf⟩ := z_ite hf
        refine c_iald X hp0_8 hb2 dX7_keptAt_61 ?_
        refine z_iconst (v := 2) X.1 dX7_keptAt_62 (by decide) ?_
        refine z_idiv X.1 dX7_keptAt_63 (by decide) ?_
        refine z_bipush (v := 36) X.1 dX7_keptAt_64 (by decide) ?_
        refine z_idiv X.1 dX7_keptAt_66 (by decide) ?_
        exact c_iretS X Z hf rfl dX7_keptAt_67
      have hf := (if_neg c0_).symm.trans hf
      have d0_ := lv_neT (a := 0) c0_ (by decide)
      by_cases c1_ : x2 = 1
      · have hf := (if_pos c1_).symm.trans hf
        refine z_tabIn (tgt := 68) (off := 43) X.1 dX7_keptAt_25 (by rw [c1_]; decide) (by rw [c1_]; decide) (by rw [c1_]; rfl) (by decide) ?_
        refine z_iload_n X.1 dX7_keptAt_68 rfl (lv_at hl 0 rfl) ?_
        refine z_bipush (v := 6) X.1 dX7_keptAt_69 (by decide) ?_
        refine z_idiv X.1 dX7_keptAt_71 (by decide) ?_
        exact c_iretS X Z hf rfl dX7_keptAt_72
      have hf := (if_neg c1_).symm.trans hf
      have d1_ := lv_neT (a := 1) c1_ (by decide)
      by_cases c2_ : x2 = 2
      · have hf := (if_pos c2_).symm.trans hf
        refine z_tabIn (tgt := 73) (off := 48) X.1 dX7_keptAt_25 (by rw [c2_]; decide) (by rw [c2_]; decide) (by rw [c2_]; rfl) (by decide) ?_
        refine z_iload_n X.1 dX7_keptAt_73 rfl (lv_at hl 0 rfl) ?_
        refine z_bipush (v := 6) X.1 dX7_keptAt_74 (by decide) ?_
        refine z_irem X.1 dX7_keptAt_76 (by decide) ?_
        exact c_iretS X Z hf rfl dX7_keptAt_77
      have hf := (if_neg c2_).symm.trans hf
      have d2_ := lv_neT (a := 2) c2_ (by decide)
      by_cases c3_ : x2 = 3
      · have hf := (if_pos c3_).symm.trans hf
        refine z_tabIn (tgt := 78) (off := 53) X.1 dX7_keptAt_25 (by rw [c3_]; decide) (by rw [c3_]; decide) (by rw [c3_]; rfl) (by decide) ?_
        refine z_aload_n X.1 dX7_keptAt_78 rfl (lv_at hl 1 rfl) ?_
        refine c_geta X hp0 cf_X7_37 ep0_8 dX7_keptAt_79 ?_
        refine z_iload_n X.1 dX7_keptAt_82 rfl (lv_at hl 2 rfl) ?_
        obtain ⟨hb3, hf⟩ := z_ite hf
        refine c_iald X hp0_8 hb3 dX7_keptAt_83 ?_
        refine z_iconst (v := 2) X.1 dX7_keptAt_84 (by decide) ?_
        refine z_irem X.1 dX7_keptAt_85 (by decide) ?_
        exact c_iretS X Z hf rfl dX7_keptAt_86
      have hf := (if_neg c3_).symm.trans hf
      have d3_ := lv_neT (a := 3) c3_ (by decide)
      refine z_tabOut (tgt := 87) X.1 dX7_keptAt_25 (by omega) (by decide) ?_
      refine z_iconst (v := -1) X.1 dX7_keptAt_87 (by decide) ?_
      exact c_iretS X Z hf rfl dX7_keptAt_88
    · have hf := (if_neg c_).symm.trans hf
      refine z_iconst (v := -1) X.1 dX7_keptAt_10 (by decide) ?_
      exact c_iretS X Z hf rfl dX7_keptAt_11

theorem c_X7_keptAt (D : va_G) (cy : Nat → ClassId) (ad : Nat → Nat) {n : Nat} {K N : Nat → Nat} {G : zG} (hWF : zWF n K G) {p0 : Nat} {x1 : Int32} {x2 : Int32} {V : zI} {L : zL} (hp0 : p0 < n ∧ K p0 = 5) {r' : Int32} (hf : f_X7_keptAt N G p0 x1 x2 V L = some r') : RCi (zC D cy ad n K N G) yX7_keptAt cX7_keptAt 4 .int 0 0 [.ref (ad p0), .int x1, .int x2] V L r' V L := by
  unfold f_X7_keptAt at hf
  obtain ⟨p0_8, ep0_8, hf⟩ := z_bind hf
  have hp0_8 := hWF.get hp0 (k := 8) (c := 100) rfl ep0_8
  exact RCi.of (by decide) hWF (Nat.le_of_ble_eq_true rfl) (fun M X Z ls hl => w_X7_keptAt X Z hp0 hp0_8 ep0_8 x1 x2 ls hl hf)
def g_X10_kept (N : Nat → Nat) (G : zG) (p0 : Nat) (p0_5 : Nat) (V : zI) (L : zL) (x1 : Int32) (x2 : Int32) : Option (Int32) :=
  (if x1 < 0 then some (-1) else (if (V p0_5 7) ≤ x1 then some (-1) else (f_X7_keptAt N G p0_5 x1 x2 V L).bind fun r1 => some r1))
def f_X10_kept (N : Nat → Nat) (G : zG) (p0 : Nat) (x1 : Int32) (x2 : Int32) (V : zI) (L : zL) : Option (Int32) :=
  (G p0 5).bind fun p0_5 => g_X10_kept N G p0 p0_5 V L x1 x2
set_option maxHeartbeats 4000000 in
set_option maxRecDepth 100000 in
theorem w_X10_kept {M : zM} {D : va_G} {cy : Nat → ClassId} {ad : Nat → Nat} {n : Nat} {K N : Nat → Nat} {G : zG} {V : zI} {L : zL} {r' : Int32} (X : RXc M D cy ad n K N G cX10_kept 3 RX10 1 23) (Z : RZi M (zC D cy ad n K N G) .int r' V L) {p0 : Nat} (hp0 : p0 < n ∧ K p0 = 8) {p0_5 : Nat} (hp0_5 : p0_5 < n ∧ K p0_5 = 5) (ep0_5 : G p0 5 = some p0_5) (x1 : Int32) (x2 : Int32) (ls : Array Slot) (hl : lv_has ls 3 [(0, .ref (ad p0)), (1, .int x1), (2, .int x2)]) (hf : g_X10_kept N G p0 p0_5 V L x1 x2 = some r') : RG M (zC D cy ad n K N G) V L 0 ls [] := by
  unfold g_X10_kept at hf
  refine z_iload_n X.1 dX10_kept_0 rfl (lv_at hl 1 rfl) ?_
  refine z_if_lt (tgt := 27) X.1 dX10_kept_1 (by decide) (fun c_ => ?_) (fun c_ => ?_)
  · have hf := (if_pos c_).symm.trans hf
    refine z_iconst (v := -1) X.1 dX10_kept_27 (by decide) ?_
    exact c_iretS X Z hf rfl dX10_kept_28
  · have hf := (if_neg c_).symm.trans hf
    refine z_iload_n X.1 dX10_kept_4 rfl (lv_at hl 1 rfl) ?_
    refine z_aload_n X.1 dX10_kept_5 rfl (lv_at hl 0 rfl) ?_
    refine c_geta X hp0 cf_X10_33 ep0_5 dX10_kept_6 ?_
    refine c_geti X hp0_5 cf_X10_143 dX10_kept_9 ?_
    refine z_icmp_ge (tgt := 27) X.1 dX10_kept_12 (by decide) (fun c_ => ?_) (fun c_ => ?_)
    · have hf := (if_pos c_).symm.trans hf
      refine z_iconst (v := -1) X.1 dX10_kept_27 (by decide) ?_
      exact c_iretS X Z hf rfl dX10_kept_28
    · have hf := (if_neg c_).symm.trans hf
      refine z_aload_n X.1 dX10_kept_15 rfl (lv_at hl 0 rfl) ?_
      refine c_geta X hp0 cf_X10_33 ep0_5 dX10_kept_16 ?_
      refine z_iload_n X.1 dX10_kept_19 rfl (lv_at hl 1 rfl) ?_
      refine z_iload_n X.1 dX10_kept_20 rfl (lv_at hl 2 rfl) ?_
      obtain ⟨r1, hc1, hf⟩ := z_bind hf
      refine c_callVi [.int x1, .int x2] X hl.1 (c_X7_keptAt D cy ad X.2.2 hp0_5 hc1) hp0_5 ⟨by decide, rfl⟩ cm_X10_279 cw_X7_keptAt rfl cq_X7_keptAt ⟨by decide, by decide⟩ (Nat.le_of_ble_eq_true rfl) rfl dX10_kept_21 ?_
      refine z_goto (tgt := 28) X.1 dX10_kept_24 (by decide) ?_
      exact c_iretS X Z hf rfl dX10_kept_28

theorem c_X10_kept (D : va_G) (cy : Nat → ClassId) (ad : Nat → Nat) {n : Nat} {K N : Nat → Nat} {G : zG} (hWF : zWF n K G) {p0 : Nat} {x1 : Int32} {x2 : Int32} {V : zI} {L : zL} (hp0 : p0 < n ∧ K p0 = 8) {r' : Int32} (hf : f_X10_kept N G p0 x1 x2 V L = some r') : RCi (zC D cy ad n K N G) yX10_kept cX10_kept 3 .int 1 23 [.ref (ad p0), .int x1, .int x2] V L r' V L := by
  unfold f_X10_kept at hf
  obtain ⟨p0_5, ep0_5, hf⟩ := z_bind hf
  have hp0_5 := hWF.get hp0 (k := 5) (c := 5) rfl ep0_5
  exact RCi.of (by decide) hWF (Nat.le_of_ble_eq_true rfl) (fun M X Z ls hl => w_X10_kept X Z hp0 hp0_5 ep0_5 x1 x2 ls hl hf)
def g_X10_putOctet (N : Nat → Nat) (G : zG) (p0 : Nat) (p0_14 : Nat) (x1 : Int32) (V : zI) (L : zL) : Option (zI × zL) :=
  (if 512 ≤ (V p0 15) then some (V, L) else if inB (V p0 15) (N p0_14) then some (z_uI (z_uI V p0_14 (V p0 15).toNatClampNeg x1) p0 15 (((z_uI V p0_14 (V p0 15).toNatClampNeg x1) p0 15) + 1), L) else none)
def f_X10_putOctet (N : Nat → Nat) (G : zG) (p0 : Nat) (x1 : Int32) (V : zI) (L : zL) : Option (zI × zL) :=
  (G p0 14).bind fun p0_14 => g_X10_putOctet N G p0 p0_14 x1 V L
set_option maxHeartbeats 4000000 in
set_option maxRecDepth 100000 in
theorem w_X10_putOctet {M : zM} {D : va_G} {cy : Nat → ClassId} {ad : Nat → Nat} {n : Nat} {K N : Nat → Nat} {G : zG} {r' : zI × zL} (X : RXc M D cy ad n K N G cX10_putOctet 2 RX10 0 0) (Z : RZv M (zC D cy ad n K N G) r'.1 r'.2) {p0 : Nat} (hp0 : p0 < n ∧ K p0 = 8) {p0_14 : Nat} (hp0_14 : p0_14 < n ∧ K p0_14 = 100) (ep0_14 : G p0 14 = some p0_14) (x1 : Int32) (V : zI) (L : zL) (ls : Array Slot) (hl : lv_has ls 2 [(0, .ref (ad p0)), (1, .int x1)]) (hf : g_X10_putOctet N G p0 p0_14 x1 V L = some r') : RG M (zC D cy ad n K N G) V L 0 ls [] := by
  unfold g_X10_putOctet at hf
  refine z_aload_n X.1 dX10_putOctet_0 rfl (lv_at hl 0 rfl) ?_
  refine c_geti X hp0 cf_X10_74 dX10_putOctet_1 ?_
  refine z_sipush (v := 512) X.1 dX10_putOctet_4 (by decide) ?_
  refine z_icmp_ge (tgt := 30) X.1 dX10_putOctet_7 (by decide) (fun c_ => ?_) (fun c_ => ?_)
  · have hf := (if_pos c_).symm.trans hf
    exact c_vret X Z hf dX10_putOctet_30
  · have hf := (if_neg c_).symm.trans hf
    refine z_aload_n X.1 dX10_putOctet_10 rfl (lv_at hl 0 rfl) ?_
    refine c_geta X hp0 cf_X10_71 ep0_14 dX10_putOctet_11 ?_
    refine z_aload_n X.1 dX10_putOctet_14 rfl (lv_at hl 0 rfl) ?_
    refine c_geti X hp0 cf_X10_74 dX10_putOctet_15 ?_
    refine z_iload_n X.1 dX10_putOctet_18 rfl (lv_at hl 1 rfl) ?_
    obtain ⟨hb1, hf⟩ := z_ite hf
    refine c_iast X hp0_14 hb1 dX10_putOctet_19 ?_
    refine z_aload_n X.1 dX10_putOctet_20 rfl (lv_at hl 0 rfl) ?_
    refine z_dup X.1 dX10_putOctet_21 rfl ?_
    refine c_geti X hp0 cf_X10_74 dX10_putOctet_22 ?_
    refine z_iconst (v := 1) X.1 dX10_putOctet_25 (by decide) ?_
    refine z_iadd X.1 dX10_putOctet_26 ?_
    refine c_puti X hp0 cf_X10_74 cg_X10 cp_X10_15 rfl rfl dX10_putOctet_27 ?_
    exact c_vret X Z hf dX10_putOctet_30

theorem c_X10_putOctet (D : va_G) (cy : Nat → ClassId) (ad : Nat → Nat) {n : Nat} {K N : Nat → Nat} {G : zG} (hWF : zWF n K G) {p0 : Nat} {x1 : Int32} {V : zI} {L : zL} (hp0 : p0 < n ∧ K p0 = 8) {r' : zI × zL} (hf : f_X10_putOctet N G p0 x1 V L = some r') : RCv (zC D cy ad n K N G) yX10_putOctet cX10_putOctet 2 0 0 [.ref (ad p0), .int x1] V L r'.1 r'.2 := by
  unfold f_X10_putOctet at hf
  obtain ⟨p0_14, ep0_14, hf⟩ := z_bind hf
  have hp0_14 := hWF.get hp0 (k := 14) (c := 100) rfl ep0_14
  exact RCv.of (by decide) hWF (Nat.le_of_ble_eq_true rfl) (fun M X Z ls hl => w_X10_putOctet X Z hp0 hp0_14 ep0_14 x1 V L ls hl hf)
def g_X3_checkOn (x0 : Int32) (x1 : Int32) : Option (Int32) :=
  some ((((5 : Int32) * x0) + x1) - (((5 : Int32) * x0) + x1) / 251 * 251)
def f_X3_checkOn (x0 : Int32) (x1 : Int32) : Option (Int32) :=
  g_X3_checkOn x0 x1
set_option maxHeartbeats 4000000 in
set_option maxRecDepth 100000 in
theorem w_X3_checkOn {M : zM} {D : va_G} {cy : Nat → ClassId} {ad : Nat → Nat} {n : Nat} {K N : Nat → Nat} {G : zG} {V : zI} {L : zL} {r' : Int32} (X : RXc M D cy ad n K N G cX3_checkOn 2 RX3 0 0) (Z : RZi M (zC D cy ad n K N G) .int r' V L) (x0 : Int32) (x1 : Int32) (ls : Array Slot) (hl : lv_has ls 2 [(0, .int x0), (1, .int x1)]) (hf : g_X3_checkOn x0 x1 = some r') : RG M (zC D cy ad n K N G) V L 0 ls [] := by
  unfold g_X3_checkOn at hf
  refine z_iconst (v := 5) X.1 dX3_checkOn_0 (by decide) ?_
  refine z_iload_n X.1 dX3_checkOn_1 rfl (lv_at hl 0 rfl) ?_
  refine z_imul X.1 dX3_checkOn_2 ?_
  refine z_iload_n X.1 dX3_checkOn_3 rfl (lv_at hl 1 rfl) ?_
  refine z_iadd X.1 dX3_checkOn_4 ?_
  refine z_sipush (v := 251) X.1 dX3_checkOn_5 (by decide) ?_
  refine z_irem X.1 dX3_checkOn_8 (by decide) ?_
  exact c_iretS X Z hf rfl dX3_checkOn_9

theorem c_X3_checkOn (D : va_G) (cy : Nat → ClassId) (ad : Nat → Nat) {n : Nat} {K N : Nat → Nat} {G : zG} (hWF : zWF n K G) {x0 : Int32} {x1 : Int32} {V : zI} {L : zL} {r' : Int32} (hf : f_X3_checkOn x0 x1 = some r') : RCi (zC D cy ad n K N G) yX3_checkOn cX3_checkOn 2 .int 0 0 [.int x0, .int x1] V L r' V L := by
  unfold f_X3_checkOn at hf
  exact RCi.of (by decide) hWF (Nat.le_of_ble_eq_true rfl) (fun M X Z ls hl => w_X3_checkOn X Z x0 x1 ls hl hf)
def b_X10_image_192 (N : Nat → Nat) (G : zG) (p0 : Nat) (p0_14 : Nat) (p0_2 : Nat) (p0_5 : Nat) (p0_5_1 : Nat) (p0_5_2 : Nat) (p0_5_3 : Nat) (p0_5_5 : Nat) (p0_5_6 : Nat) (k192 : Int32 × Int32 × zI × zL → Option (Int32 × zI × zL)) : Int32 × Int32 × zI × zL → Option (Int32 × zI × zL) := fun ⟨x1, x2, V, L⟩ =>
  (if (V p0 15) ≤ x2 then (f_X10_putOctet N G p0 x1 V L).bind fun r1 => some (r1.1 p0 15, r1.1, r1.2) else if inB x2 (N p0_14) then (f_X3_checkOn x1 (V p0_14 x2.toNatClampNeg)).bind fun r3 => k192 (r3, (x2 + 1), V, L) else none)
def f_X10_image_186 (N : Nat → Nat) (G : zG) (p0 : Nat) (p0_14 : Nat) (p0_2 : Nat) (p0_5 : Nat) (p0_5_1 : Nat) (p0_5_2 : Nat) (p0_5_3 : Nat) (p0_5_5 : Nat) (p0_5_6 : Nat) (V : zI) (L : zL) : Option (Int32 × zI × zL) :=
  zfix (b_X10_image_192 N G p0 p0_14 p0_2 p0_5 p0_5_1 p0_5_2 p0_5_3 p0_5_5 p0_5_6) FU (191, 0, V, L)
def b_X10_image_118 (N : Nat → Nat) (G : zG) (p0 : Nat) (p0_14 : Nat) (p0_2 : Nat) (p0_5 : Nat) (p0_5_1 : Nat) (p0_5_2 : Nat) (p0_5_3 : Nat) (p0_5_5 : Nat) (p0_5_6 : Nat) (k118 : Int32 × zI × zL → Option (Int32 × zI × zL)) : Int32 × zI × zL → Option (Int32 × zI × zL) := fun ⟨x1, V, L⟩ =>
  (if (V p0_5 4) ≤ x1 then f_X10_image_186 N G p0 p0_14 p0_2 p0_5 p0_5_1 p0_5_2 p0_5_3 p0_5_5 p0_5_6 V L else (if 60 ≤ x1 then f_X10_image_186 N G p0 p0_14 p0_2 p0_5 p0_5_1 p0_5_2 p0_5_3 p0_5_5 p0_5_6 V L else if inB x1 (N p0_5_5) then (f_X10_putOctet N G p0 ((V p0_5_5 x1.toNatClampNeg) / 6) V L).bind fun r2 => if inB x1 (N p0_5_5) then (f_X10_putOctet N G p0 ((r2.1 p0_5_5 x1.toNatClampNeg) - (r2.1 p0_5_5 x1.toNatClampNeg) / 6 * 6) r2.1 r2.2).bind fun r4 => if inB x1 (N p0_5_6) then (f_X10_putOctet N G p0 (r4.1 p0_5_6 x1.toNatClampNeg) r4.1 r4.2).bind fun r6 => k118 ((x1 + 1), r6.1, r6.2) else none else none else none))
def b_X10_image_36 (N : Nat → Nat) (G : zG) (p0 : Nat) (p0_14 : Nat) (p0_2 : Nat) (p0_5 : Nat) (p0_5_1 : Nat) (p0_5_2 : Nat) (p0_5_3 : Nat) (p0_5_5 : Nat) (p0_5_6 : Nat) (k36 : Int32 × zI × zL → Option (Int32 × zI × zL)) : Int32 × zI × zL → Option (Int32 × zI × zL) := fun ⟨x1, V, L⟩ =>
  (if 36 ≤ x1 then (f_X10_putOctet N G p0 (V p0_5 4) V L).bind fun r1 => zfix (b_X10_image_118 N G p0 p0_14 p0_2 p0_5 p0_5_1 p0_5_2 p0_5_3 p0_5_5 p0_5_6) FU (0, r1.1, r1.2) else (f_X9_isPair N G p0_2 (x1 / 6) (x1 - x1 / 6 * 6) V L).bind fun r2 => (if r2 = 0 then k36 ((x1 + 1), V, L) else if inB x1 (N p0_5_1) then (f_X10_putOctet N G p0 (V p0_5_1 x1.toNatClampNeg) V L).bind fun r4 => if inB x1 (N p0_5_2) then (f_X10_putOctet N G p0 (r4.1 p0_5_2 x1.toNatClampNeg) r4.1 r4.2).bind fun r6 => if inB x1 (N p0_5_3) then (f_X10_putOctet N G p0 (r6.1 p0_5_3 x1.toNatClampNeg) r6.1 r6.2).bind fun r8 => k36 ((x1 + 1), r8.1, r8.2) else none else none else none))
def g_X10_image (N : Nat → Nat) (G : zG) (p0 : Nat) (p0_14 : Nat) (p0_2 : Nat) (p0_5 : Nat) (p0_5_1 : Nat) (p0_5_2 : Nat) (p0_5_3 : Nat) (p0_5_5 : Nat) (p0_5_6 : Nat) (V : zI) (L : zL) : Option (Int32 × zI × zL) :=
  (f_X10_putOctet N G p0 (((z_uI V p0 15 0) p0_5 0) >>> ((8 : Int32) &&& 31)) (z_uI V p0 15 0) L).bind fun r1 => (f_X10_putOctet N G p0 ((r1.1 p0_5 0) &&& 255) r1.1 r1.2).bind fun r2 => zfix (b_X10_image_36 N G p0 p0_14 p0_2 p0_5 p0_5_1 p0_5_2 p0_5_3 p0_5_5 p0_5_6) FU (0, r2.1, r2.2)
def f_X10_image (N : Nat → Nat) (G : zG) (p0 : Nat) (V : zI) (L : zL) : Option (Int32 × zI × zL) :=
  (G p0 14).bind fun p0_14 => (G p0 2).bind fun p0_2 => (G p0 5).bind fun p0_5 => (G p0_5 1).bind fun p0_5_1 => (G p0_5 2).bind fun p0_5_2 => (G p0_5 3).bind fun p0_5_3 => (G p0_5 5).bind fun p0_5_5 => (G p0_5 6).bind fun p0_5_6 => g_X10_image N G p0 p0_14 p0_2 p0_5 p0_5_1 p0_5_2 p0_5_3 p0_5_5 p0_5_6 V L
set_option maxHeartbeats 4000000 in
set_option maxRecDepth 100000 in
theorem w_X10_image_192 {M : zM} {D : va_G} {cy : Nat → ClassId} {ad : Nat → Nat} {n : Nat} {K N : Nat → Nat} {G : zG} {r' : Int32 × zI × zL} (X : RXc M D cy ad n K N G cX10_image 3 RX10 2 43) (Z : RZi M (zC D cy ad n K N G) .int r'.1 r'.2.1 r'.2.2) {p0 : Nat} (hp0 : p0 < n ∧ K p0 = 8) {p0_14 : Nat} (hp0_14 : p0_14 < n ∧ K p0_14 = 100) (ep0_14 : G p0 14 = some p0_14) {p0_2 : Nat} (hp0_2 : p0_2 < n ∧ K p0_2 = 7) (ep0_2 : G p0 2 = some p0_2) {p0_5 : Nat} (hp0_5 : p0_5 < n ∧ K p0_5 = 5) (ep0_5 : G p0 5 = some p0_5) {p0_5_1 : Nat} (hp0_5_1 : p0_5_1 < n ∧ K p0_5_1 = 100) (ep0_5_1 : G p0_5 1 = some p0_5_1) {p0_5_2 : Nat} (hp0_5_2 : p0_5_2 < n ∧ K p0_5_2 = 100) (ep0_5_2 : G p0_5 2 = some p0_5_2) {p0_5_3 : Nat} (hp0_5_3 : p0_5_3 < n ∧ K p0_5_3 = 100) (ep0_5_3 : G p0_5 3 = some p0_5_3) {p0_5_5 : Nat} (hp0_5_5 : p0_5_5 < n ∧ K p0_5_5 = 100) (ep0_5_5 : G p0_5 5 = some p0_5_5) {p0_5_6 : Nat} (hp0_5_6 : p0_5_6 < n ∧ K p0_5_6 = 100) (ep0_5_6 : G p0_5 6 = some p0_5_6) (nn : Nat) : ∀ (x1 : Int32) (x2 : Int32) (V : zI) (L : zL) (ls : Array Slot) (hl : lv_has ls 3 [(0, .ref (ad p0)), (1, .int x1), (2, .int x2)]) (hf : zfix (b_X10_image_192 N G p0 p0_14 p0_2 p0_5 p0_5_1 p0_5_2 p0_5_3 p0_5_5 p0_5_6) nn (x1, x2, V, L) = some r'), RG M (zC D cy ad n K N G) V L 192 ls [] := by
  induction nn with
  | zero => intro x1 x2 V L ls hl hf; cases hf
  | succ nn ih =>
  intro x1 x2 V L ls hl hf
  have hk192 : ∀ (x1 : Int32) (x2 : Int32) (V : zI) (L : zL) (ls : Array Slot), lv_has ls 3 [(0, .ref (ad p0)), (1, .int x1), (2, .int x2)] → zfix (b_X10_image_192 N G p0 p0_14 p0_2 p0_5 p0_5_1 p0_5_2 p0_5_3 p0_5_5 p0_5_6) nn (x1, x2, V, L) = some r' → RG M (zC D cy ad n K N G) V L 192 ls [] := ih
  have hf : b_X10_image_192 N G p0 p0_14 p0_2 p0_5 p0_5_1 p0_5_2 p0_5_3 p0_5_5 p0_5_6 (zfix (b_X10_image_192 N G p0 p0_14 p0_2 p0_5 p0_5_1 p0_5_2 p0_5_3 p0_5_5 p0_5_6) nn) (x1, x2, V, L) = some r' := hf
  generalize zfix (b_X10_image_192 N G p0 p0_14 p0_2 p0_5 p0_5_1 p0_5_2 p0_5_3 p0_5_5 p0_5_6) nn = k192 at hk192 hf
  clear ih
  unfold b_X10_image_192 at hf
  refine z_iload_n X.1 dX10_image_192 rfl (lv_at hl 2 rfl) ?_
  refine z_aload_n X.1 dX10_image_193 rfl (lv_at hl 0 rfl) ?_
  refine c_geti X hp0 cf_X10_74 dX10_image_194 ?_
  refine z_icmp_ge (tgt := 217) X.1 dX10_image_197 (by decide) (fun c_ => ?_) (fun c_ => ?_)
  · have hf := (if_pos c_).symm.trans hf
    refine z_aload_n X.1 dX10_image_217 rfl (lv_at hl 0 rfl) ?_
    refine z_iload_n X.1 dX10_image_218 rfl (lv_at hl 1 rfl) ?_
    obtain ⟨r1, hc1, hf⟩ := z_bind hf
    refine c_callVv [.int x1] X hl.1 (c_X10_putOctet D cy ad X.2.2 hp0 hc1) hp0 ⟨by decide, rfl⟩ cm_X10_282 cw_X10_putOctet rfl cq_X10_putOctet ⟨by decide, by decide⟩ (Nat.le_of_ble_eq_true rfl) rfl dX10_image_219 ?_
    refine z_aload_n X.1 dX10_image_222 rfl (lv_at hl 0 rfl) ?_
    refine c_geti X hp0 cf_X10_74 dX10_image_223 ?_
    exact c_iret X Z hf rfl dX10_image_226
  · have hf := (if_neg c_).symm.trans hf
    refine z_iload_n X.1 dX10_image_200 rfl (lv_at hl 1 rfl) ?_
    refine z_aload_n X.1 dX10_image_201 rfl (lv_at hl 0 rfl) ?_
    refine c_geta X hp0 cf_X10_71 ep0_14 dX10_image_202 ?_
    refine z_iload_n X.1 dX10_image_205 rfl (lv_at hl 2 rfl) ?_
    obtain ⟨hb2, hf⟩ := z_ite hf
    refine c_iald X hp0_14 hb2 dX10_image_206 ?_
    obtain ⟨r3, hc3, hf⟩ := z_bind hf
    refine c_callSi [.int x1, .int (V p0_14 x2.toNatClampNeg)] X hl.1 (c_X3_checkOn D cy ad X.2.2 hc3) cm_X10_287 cw_X3_checkOn rfl cq_X3_checkOn ⟨by decide, by decide⟩ (Nat.le_of_ble_eq_true rfl) rfl dX10_image_207 ?_
    refine z_istore_n (lv' := [(1, .int r3), (0, .ref (ad p0)), (2, .int x2)]) X.1 dX10_image_210 rfl hl (by decide) rfl (fun ls hl => ?_)
    refine z_iinc (v := x2 + 1) (k0 := 2) (lv' := [(2, .int (x2 + 1)), (1, .int r3), (0, .ref (ad p0))]) X.1 dX10_image_211 hl rfl rfl (by decide) rfl (fun ls hl => ?_)
    refine z_goto (tgt := 192) X.1 dX10_image_214 (by decide) ?_
    exact hk192 r3 (x2 + 1) V L ls (lv_sub hl [2, 1, 0] rfl) hf

set_option maxHeartbeats 4000000 in
set_option maxRecDepth 100000 in
theorem w_X10_image_186 {M : zM} {D : va_G} {cy : Nat → ClassId} {ad : Nat → Nat} {n : Nat} {K N : Nat → Nat} {G : zG} {r' : Int32 × zI × zL} (X : RXc M D cy ad n K N G cX10_image 3 RX10 2 43) (Z : RZi M (zC D cy ad n K N G) .int r'.1 r'.2.1 r'.2.2) {p0 : Nat} (hp0 : p0 < n ∧ K p0 = 8) {p0_14 : Nat} (hp0_14 : p0_14 < n ∧ K p0_14 = 100) (ep0_14 : G p0 14 = some p0_14) {p0_2 : Nat} (hp0_2 : p0_2 < n ∧ K p0_2 = 7) (ep0_2 : G p0 2 = some p0_2) {p0_5 : Nat} (hp0_5 : p0_5 < n ∧ K p0_5 = 5) (ep0_5 : G p0 5 = some p0_5) {p0_5_1 : Nat} (hp0_5_1 : p0_5_1 < n ∧ K p0_5_1 = 100) (ep0_5_1 : G p0_5 1 = some p0_5_1) {p0_5_2 : Nat} (hp0_5_2 : p0_5_2 < n ∧ K p0_5_2 = 100) (ep0_5_2 : G p0_5 2 = some p0_5_2) {p0_5_3 : Nat} (hp0_5_3 : p0_5_3 < n ∧ K p0_5_3 = 100) (ep0_5_3 : G p0_5 3 = some p0_5_3) {p0_5_5 : Nat} (hp0_5_5 : p0_5_5 < n ∧ K p0_5_5 = 100) (ep0_5_5 : G p0_5 5 = some p0_5_5) {p0_5_6 : Nat} (hp0_5_6 : p0_5_6 < n ∧ K p0_5_6 = 100) (ep0_5_6 : G p0_5 6 = some p0_5_6)  (V : zI) (L : zL) (ls : Array Slot) (hl : lv_has ls 3 [(0, .ref (ad p0))]) (hf : f_X10_image_186 N G p0 p0_14 p0_2 p0_5 p0_5_1 p0_5_2 p0_5_3 p0_5_5 p0_5_6 V L = some r') : RG M (zC D cy ad n K N G) V L 186 ls [] := by
  unfold f_X10_image_186 at hf
  refine z_sipush (v := 191) X.1 dX10_image_186 (by decide) ?_
  refine z_istore_n (lv' := [(1, .int 191), (0, .ref (ad p0))]) X.1 dX10_image_189 rfl hl (by decide) rfl (fun ls hl => ?_)
  refine z_iconst (v := 0) X.1 dX10_image_190 (by decide) ?_
  refine z_istore_n (lv' := [(2, .int 0), (1, .int 191), (0, .ref (ad p0))]) X.1 dX10_image_191 rfl hl (by decide) rfl (fun ls hl => ?_)
  exact w_X10_image_192 X Z hp0 hp0_14 ep0_14 hp0_2 ep0_2 hp0_5 ep0_5 hp0_5_1 ep0_5_1 hp0_5_2 ep0_5_2 hp0_5_3 ep0_5_3 hp0_5_5 ep0_5_5 hp0_5_6 ep0_5_6 FU 191 0 V L ls (lv_sub hl [2, 1, 0] rfl) hf

set_option maxHeartbeats 4000000 in
set_option maxRecDepth 100000 in
theorem w_X10_image_118 {M : zM} {D : va_G} {cy : Nat → ClassId} {ad : Nat → Nat} {n : Nat} {K N : Nat → Nat} {G : zG} {r' : Int32 × zI × zL} (X : RXc M D cy ad n K N G cX10_image 3 RX10 2 43) (Z : RZi M (zC D cy ad n K N G) .int r'.1 r'.2.1 r'.2.2) {p0 : Nat} (hp0 : p0 < n ∧ K p0 = 8) {p0_14 : Nat} (hp0_14 : p0_14 < n ∧ K p0_14 = 100) (ep0_14 : G p0 14 = some p0_14) {p0_2 : Nat} (hp0_2 : p0_2 < n ∧ K p0_2 = 7) (ep0_2 : G p0 2 = some p0_2) {p0_5 : Nat} (hp0_5 : p0_5 < n ∧ K p0_5 = 5) (ep0_5 : G p0 5 = some p0_5) {p0_5_1 : Nat} (hp0_5_1 : p0_5_1 < n ∧ K p0_5_1 = 100) (ep0_5_1 : G p0_5 1 = some p0_5_1) {p0_5_2 : Nat} (hp0_5_2 : p0_5_2 < n ∧ K p0_5_2 = 100) (ep0_5_2 : G p0_5 2 = some p0_5_2) {p0_5_3 : Nat} (hp0_5_3 : p0_5_3 < n ∧ K p0_5_3 = 100) (ep0_5_3 : G p0_5 3 = some p0_5_3) {p0_5_5 : Nat} (hp0_5_5 : p0_5_5 < n ∧ K p0_5_5 = 100) (ep0_5_5 : G p0_5 5 = some p0_5_5) {p0_5_6 : Nat} (hp0_5_6 : p0_5_6 < n ∧ K p0_5_6 = 100) (ep0_5_6 : G p0_5 6 = some p0_5_6) (nn : Nat) : ∀ (x1 : Int32) (V : zI) (L : zL) (ls : Array Slot) (hl : lv_has ls 3 [(0, .ref (ad p0)), (1, .int x1)]) (hf : zfix (b_X10_image_118 N G p0 p0_14 p0_2 p0_5 p0_5_1 p0_5_2 p0_5_3 p0_5_5 p0_5_6) nn (x1, V, L) = some r'), RG M (zC D cy ad n K N G) V L 118 ls [] := by
  induction nn with
  | zero => intro x1 V L ls hl hf; cases hf
  | succ nn ih =>
  intro x1 V L ls hl hf
  have hk118 : ∀ (x1 : Int32) (V : zI) (L : zL) (ls : Array Slot), lv_has ls 3 [(0, .ref (ad p0)), (1, .int x1)] → zfix (b_X10_image_118 N G p0 p0_14 p0_2 p0_5 p0_5_1 p0_5_2 p0_5_3 p0_5_5 p0_5_6) nn (x1, V, L) = some r' → RG M (zC D cy ad n K N G) V L 118 ls [] := ih
  have hf : b_X10_image_118 N G p0 p0_14 p0_2 p0_5 p0_5_1 p0_5_2 p0_5_3 p0_5_5 p0_5_6 (zfix (b_X10_image_118 N G p0 p0_14 p0_2 p0_5 p0_5_1 p0_5_2 p0_5_3 p0_5_5 p0_5_6) nn) (x1, V, L) = some r' := hf
  generalize zfix (b_X10_image_118 N G p0 p0_14 p0_2 p0_5 p0_5_1 p0_5_2 p0_5_3 p0_5_5 p0_5_6) nn = k118 at hk118 hf
  clear ih
  unfold b_X10_image_118 at hf
  refine z_iload_n X.1 dX10_image_118 rfl (lv_at hl 1 rfl) ?_
  refine z_aload_n X.1 dX10_image_119 rfl (lv_at hl 0 rfl) ?_
  refine c_geta X hp0 cf_X10_33 ep0_5 dX10_image_120 ?_
  refine c_geti X hp0_5 cf_X10_134 dX10_image_123 ?_
  refine z_icmp_ge (tgt := 186) X.1 dX10_image_126 (by decide) (fun c_ => ?_) (fun c_ => ?_)
  · have hf := (if_pos c_).symm.trans hf
    exact w_X10_image_186 X Z hp0 hp0_14 ep0_14 hp0_2 ep0_2 hp0_5 ep0_5 hp0_5_1 ep0_5_1 hp0_5_2 ep0_5_2 hp0_5_3 ep0_5_3 hp0_5_5 ep0_5_5 hp0_5_6 ep0_5_6 V L ls (lv_sub hl [0] rfl) hf
  · have hf := (if_neg c_).symm.trans hf
    refine z_iload_n X.1 dX10_image_129 rfl (lv_at hl 1 rfl) ?_
    refine z_bipush (v := 60) X.1 dX10_image_130 (by decide) ?_
    refine z_icmp_ge (tgt := 186) X.1 dX10_image_132 (by decide) (fun c_ => ?_) (fun c_ => ?_)
    · have hf := (if_pos c_).symm.trans hf
      exact w_X10_image_186 X Z hp0 hp0_14 ep0_14 hp0_2 ep0_2 hp0_5 ep0_5 hp0_5_1 ep0_5_1 hp0_5_2 ep0_5_2 hp0_5_3 ep0_5_3 hp0_5_5 ep0_5_5 hp0_5_6 ep0_5_6 V L ls (lv_sub hl [0] rfl) hf
    · have hf := (if_neg c_).symm.trans hf
      refine z_aload_n X.1 dX10_image_135 rfl (lv_at hl 0 rfl) ?_
      refine z_aload_n X.1 dX10_image_136 rfl (lv_at hl 0 rfl) ?_
      refine c_geta X hp0 cf_X10_33 ep0_5 dX10_image_137 ?_
      refine c_geta X hp0_5 cf_X10_172 ep0_5_5 dX10_image_140 ?_
      refine z_iload_n X.1 dX10_image_143 rfl (lv_at hl 1 rfl) ?_
      obtain ⟨hb1, hf⟩ := z_ite hf
      refine c_iald X hp0_5_5 hb1 dX10_image_144 ?_
      refine z_bipush (v := 6) X.1 dX10_image_145 (by decide) ?_
      refine z_idiv X.1 dX10_image_147 (by decide) ?_
      obtain ⟨r2, hc2, hf⟩ := z_bind hf
      refine c_callVv [.int ((V p0_5_5 x1.toNatClampNeg) / 6)] X hl.1 (c_X10_putOctet D cy ad X.2.2 hp0 hc2) hp0 ⟨by decide, rfl⟩ cm_X10_282 cw_X10_putOctet rfl cq_X10_putOctet ⟨by decide, by decide⟩ (Nat.le_of_ble_eq_true rfl) rfl dX10_image_148 ?_
      refine z_aload_n X.1 dX10_image_151 rfl (lv_at hl 0 rfl) ?_
      refine z_aload_n X.1 dX10_image_152 rfl (lv_at hl 0 rfl) ?_
      refine c_geta X hp0 cf_X10_33 ep0_5 dX10_image_153 ?_
      refine c_geta X hp0_5 cf_X10_172 ep0_5_5 dX10_image_156 ?_
      refine z_iload_n X.1 dX10_image_159 rfl (lv_at hl 1 rfl) ?_
      obtain ⟨hb3, hf⟩ := z_ite hf
      refine c_iald X hp0_5_5 hb3 dX10_image_160 ?_
      refine z_bipush (v := 6) X.1 dX10_image_161 (by decide) ?_
      refine z_irem X.1 dX10_image_163 (by decide) ?_
      obtain ⟨r4, hc4, hf⟩ := z_bind hf
      refine c_callVv [.int ((r2.1 p0_5_5 x1.toNatClampNeg) - (r2.1 p0_5_5 x1.toNatClampNeg) / 6 * 6)] X hl.1 (c_X10_putOctet D cy ad X.2.2 hp0 hc4) hp0 ⟨by decide, rfl⟩ cm_X10_282 cw_X10_putOctet rfl cq_X10_putOctet ⟨by decide, by decide⟩ (Nat.le_of_ble_eq_true rfl) rfl dX10_image_164 ?_
      refine z_aload_n X.1 dX10_image_167 rfl (lv_at hl 0 rfl) ?_
      refine z_aload_n X.1 dX10_image_168 rfl (lv_at hl 0 rfl) ?_
      refine c_geta X hp0 cf_X10_33 ep0_5 dX10_image_169 ?_
      refine c_geta X hp0_5 cf_X10_175 ep0_5_6 dX10_image_172 ?_
      refine z_iload_n X.1 dX10_image_175 rfl (lv_at hl 1 rfl) ?_
      obtain ⟨hb5, hf⟩ := z_ite hf
      refine c_iald X hp0_5_6 hb5 dX10_image_176 ?_
      obtain ⟨r6, hc6, hf⟩ := z_bind hf
      refine c_callVv [.int (r4.1 p0_5_6 x1.toNatClampNeg)] X hl.1 (c_X10_putOctet D cy ad X.2.2 hp0 hc6) hp0 ⟨by decide, rfl⟩ cm_X10_282 cw_X10_putOctet rfl cq_X10_putOctet ⟨by decide, by decide⟩ (Nat.le_of_ble_eq_true rfl) rfl dX10_image_177 ?_
      refine z_iinc (v := x1 + 1) (k0 := 1) (lv' := [(1, .int (x1 + 1)), (0, .ref (ad p0))]) X.1 dX10_image_180 hl rfl rfl (by decide) rfl (fun ls hl => ?_)
      refine z_goto (tgt := 118) X.1 dX10_image_183 (by decide) ?_
      exact hk118 (x1 + 1) r6.1 r6.2 ls (lv_sub hl [1, 0] rfl) hf

set_option maxHeartbeats 4000000 in
set_option maxRecDepth 100000 in
theorem w_X10_image_36 {M : zM} {D : va_G} {cy : Nat → ClassId} {ad : Nat → Nat} {n : Nat} {K N : Nat → Nat} {G : zG} {r' : Int32 × zI × zL} (X : RXc M D cy ad n K N G cX10_image 3 RX10 2 43) (Z : RZi M (zC D cy ad n K N G) .int r'.1 r'.2.1 r'.2.2) {p0 : Nat} (hp0 : p0 < n ∧ K p0 = 8) {p0_14 : Nat} (hp0_14 : p0_14 < n ∧ K p0_14 = 100) (ep0_14 : G p0 14 = some p0_14) {p0_2 : Nat} (hp0_2 : p0_2 < n ∧ K p0_2 = 7) (ep0_2 : G p0 2 = some p0_2) {p0_5 : Nat} (hp0_5 : p0_5 < n ∧ K p0_5 = 5) (ep0_5 : G p0 5 = some p0_5) {p0_5_1 : Nat} (hp0_5_1 : p0_5_1 < n ∧ K p0_5_1 = 100) (ep0_5_1 : G p0_5 1 = some p0_5_1) {p0_5_2 : Nat} (hp0_5_2 : p0_5_2 < n ∧ K p0_5_2 = 100) (ep0_5_2 : G p0_5 2 = some p0_5_2) {p0_5_3 : Nat} (hp0_5_3 : p0_5_3 < n ∧ K p0_5_3 = 100) (ep0_5_3 : G p0_5 3 = some p0_5_3) {p0_5_5 : Nat} (hp0_5_5 : p0_5_5 < n ∧ K p0_5_5 = 100) (ep0_5_5 : G p0_5 5 = some p0_5_5) {p0_5_6 : Nat} (hp0_5_6 : p0_5_6 < n ∧ K p0_5_6 = 100) (ep0_5_6 : G p0_5 6 = some p0_5_6) (nn : Nat) : ∀ (x1 : Int32) (V : zI) (L : zL) (ls : Array Slot) (hl : lv_has ls 3 [(0, .ref (ad p0)), (1, .int x1)]) (hf : zfix (b_X10_image_36 N G p0 p0_14 p0_2 p0_5 p0_5_1 p0_5_2 p0_5_3 p0_5_5 p0_5_6) nn (x1, V, L) = some r'), RG M (zC D cy ad n K N G) V L 36 ls [] := by
  induction nn with
  | zero => intro x1 V L ls hl hf; cases hf
  | succ nn ih =>
  intro x1 V L ls hl hf
  have hk36 : ∀ (x1 : Int32) (V : zI) (L : zL) (ls : Array Slot), lv_has ls 3 [(0, .ref (ad p0)), (1, .int x1)] → zfix (b_X10_image_36 N G p0 p0_14 p0_2 p0_5 p0_5_1 p0_5_2 p0_5_3 p0_5_5 p0_5_6) nn (x1, V, L) = some r' → RG M (zC D cy ad n K N G) V L 36 ls [] := ih
  have hf : b_X10_image_36 N G p0 p0_14 p0_2 p0_5 p0_5_1 p0_5_2 p0_5_3 p0_5_5 p0_5_6 (zfix (b_X10_image_36 N G p0 p0_14 p0_2 p0_5 p0_5_1 p0_5_2 p0_5_3 p0_5_5 p0_5_6) nn) (x1, V, L) = some r' := hf
  generalize zfix (b_X10_image_36 N G p0 p0_14 p0_2 p0_5 p0_5_1 p0_5_2 p0_5_3 p0_5_5 p0_5_6) nn = k36 at hk36 hf
  clear ih
  unfold b_X10_image_36 at hf
  refine z_iload_n X.1 dX10_image_36 rfl (lv_at hl 1 rfl) ?_
  refine z_bipush (v := 36) X.1 dX10_image_37 (by decide) ?_
  refine z_icmp_ge (tgt := 105) X.1 dX10_image_39 (by decide) (fun c_ => ?_) (fun c_ => ?_)
  · have hf := (if_pos c_).symm.trans hf
    refine z_aload_n X.1 dX10_image_105 rfl (lv_at hl 0 rfl) ?_
    refine z_aload_n X.1 dX10_image_106 rfl (lv_at hl 0 rfl) ?_
    refine c_geta X hp0 cf_X10_33 ep0_5 dX10_image_107 ?_
    refine c_geti X hp0_5 cf_X10_134 dX10_image_110 ?_
    obtain ⟨r1, hc1, hf⟩ := z_bind hf
    refine c_callVv [.int (V p0_5 4)] X hl.1 (c_X10_putOctet D cy ad X.2.2 hp0 hc1) hp0 ⟨by decide, rfl⟩ cm_X10_282 cw_X10_putOctet rfl cq_X10_putOctet ⟨by decide, by decide⟩ (Nat.le_of_ble_eq_true rfl) rfl dX10_image_113 ?_
    refine z_iconst (v := 0) X.1 dX10_image_116 (by decide) ?_
    refine z_istore_n (lv' := [(1, .int 0), (0, .ref (ad p0))]) X.1 dX10_image_117 rfl hl (by decide) rfl (fun ls hl => ?_)
    exact w_X10_image_118 X Z hp0 hp0_14 ep0_14 hp0_2 ep0_2 hp0_5 ep0_5 hp0_5_1 ep0_5_1 hp0_5_2 ep0_5_2 hp0_5_3 ep0_5_3 hp0_5_5 ep0_5_5 hp0_5_6 ep0_5_6 FU 0 r1.1 r1.2 ls (lv_sub hl [1, 0] rfl) hf
  · have hf := (if_neg c_).symm.trans hf
    refine z_aload_n X.1 dX10_image_42 rfl (lv_at hl 0 rfl) ?_
    refine c_geta X hp0 cf_X10_20 ep0_2 dX10_image_43 ?_
    refine z_iload_n X.1 dX10_image_46 rfl (lv_at hl 1 rfl) ?_
    refine z_bipush (v := 6) X.1 dX10_image_47 (by decide) ?_
    refine z_idiv X.1 dX10_image_49 (by decide) ?_
    refine z_iload_n X.1 dX10_image_50 rfl (lv_at hl 1 rfl) ?_
    refine z_bipush (v := 6) X.1 dX10_image_51 (by decide) ?_
    refine z_irem X.1 dX10_image_53 (by decide) ?_
    obtain ⟨r2, hc2, hf⟩ := z_bind hf
    refine c_callVi [.int (x1 / 6), .int (x1 - x1 / 6 * 6)] X hl.1 (c_X9_isPair D cy ad X.2.2 hp0_2 hc2) hp0_2 ⟨by decide, rfl⟩ cm_X10_162 cw_X9_isPair rfl cq_X9_isPair ⟨by decide, by decide⟩ (Nat.le_of_ble_eq_true rfl) rfl dX10_image_54 ?_
    refine z_if_eq (tgt := 99) X.1 dX10_image_57 (by decide) (fun c_ => ?_) (fun c_ => ?_)
    · have hf := (if_pos c_).symm.trans hf
      refine z_iinc (v := x1 + 1) (k0 := 1) (lv' := [(1, .int (x1 + 1)), (0, .ref (ad p0))]) X.1 dX10_image_99 hl rfl rfl (by decide) rfl (fun ls hl => ?_)
      refine z_goto (tgt := 36) X.1 dX10_image_102 (by decide) ?_
      exact hk36 (x1 + 1) V L ls (lv_sub hl [1, 0] rfl) hf
    · have hf := (if_neg c_).symm.trans hf
      refine z_aload_n X.1 dX10_image_60 rfl (lv_at hl 0 rfl) ?_
      refine z_aload_n X.1 dX10_image_61 rfl (lv_at hl 0 rfl) ?_
      refine c_geta X hp0 cf_X10_33 ep0_5 dX10_image_62 ?_
      refine c_geta X hp0_5 cf_X10_127 ep0_5_1 dX10_image_65 ?_
      refine z_iload_n X.1 dX10_image_68 rfl (lv_at hl 1 rfl) ?_
      obtain ⟨hb3, hf⟩ := z_ite hf
      refine c_iald X hp0_5_1 hb3 dX10_image_69 ?_
      obtain ⟨r4, hc4, hf⟩ := z_bind hf
      refine c_callVv [.int (V p0_5_1 x1.toNatClampNeg)] X hl.1 (c_X10_putOctet D cy ad X.2.2 hp0 hc4) hp0 ⟨by decide, rfl⟩ cm_X10_282 cw_X10_putOctet rfl cq_X10_putOctet ⟨by decide, by decide⟩ (Nat.le_of_ble_eq_true rfl) rfl dX10_image_70 ?_
      refine z_aload_n X.1 dX10_image_73 rfl (lv_at hl 0 rfl) ?_
      refine z_aload_n X.1 dX10_image_74 rfl (lv_at hl 0 rfl) ?_
      refine c_geta X hp0 cf_X10_33 ep0_5 dX10_image_75 ?_
      refine c_geta X hp0_5 cf_X10_137 ep0_5_2 dX10_image_78 ?_
      refine z_iload_n X.1 dX10_image_81 rfl (lv_at hl 1 rfl) ?_
      obtain ⟨hb5, hf⟩ := z_ite hf
      refine c_iald X hp0_5_2 hb5 dX10_image_82 ?_
      obtain ⟨r6, hc6, hf⟩ := z_bind hf
      refine c_callVv [.int (r4.1 p0_5_2 x1.toNatClampNeg)] X hl.1 (c_X10_putOctet D cy ad X.2.2 hp0 hc6) hp0 ⟨by decide, rfl⟩ cm_X10_282 cw_X10_putOctet rfl cq_X10_putOctet ⟨by decide, by decide⟩ (Nat.le_of_ble_eq_true rfl) rfl dX10_image_83 ?_
      refine z_aload_n X.1 dX10_image_86 rfl (lv_at hl 0 rfl) ?_
      refine z_aload_n X.1 dX10_image_87 rfl (lv_at hl 0 rfl) ?_
      refine c_geta X hp0 cf_X10_33 ep0_5 dX10_image_88 ?_
      refine c_geta X hp0_5 cf_X10_140 ep0_5_3 dX10_image_91 ?_
      refine z_iload_n X.1 dX10_image_94 rfl (lv_at hl 1 rfl) ?_
      obtain ⟨hb7, hf⟩ := z_ite hf
      refine c_iald X hp0_5_3 hb7 dX10_image_95 ?_
      obtain ⟨r8, hc8, hf⟩ := z_bind hf
      refine c_callVv [.int (r6.1 p0_5_3 x1.toNatClampNeg)] X hl.1 (c_X10_putOctet D cy ad X.2.2 hp0 hc8) hp0 ⟨by decide, rfl⟩ cm_X10_282 cw_X10_putOctet rfl cq_X10_putOctet ⟨by decide, by decide⟩ (Nat.le_of_ble_eq_true rfl) rfl dX10_image_96 ?_
      refine z_iinc (v := x1 + 1) (k0 := 1) (lv' := [(1, .int (x1 + 1)), (0, .ref (ad p0))]) X.1 dX10_image_99 hl rfl rfl (by decide) rfl (fun ls hl => ?_)
      refine z_goto (tgt := 36) X.1 dX10_image_102 (by decide) ?_
      exact hk36 (x1 + 1) r8.1 r8.2 ls (lv_sub hl [1, 0] rfl) hf

set_option maxHeartbeats 4000000 in
set_option maxRecDepth 100000 in
theorem w_X10_image {M : zM} {D : va_G} {cy : Nat → ClassId} {ad : Nat → Nat} {n : Nat} {K N : Nat → Nat} {G : zG} {r' : Int32 × zI × zL} (X : RXc M D cy ad n K N G cX10_image 3 RX10 2 43) (Z : RZi M (zC D cy ad n K N G) .int r'.1 r'.2.1 r'.2.2) {p0 : Nat} (hp0 : p0 < n ∧ K p0 = 8) {p0_14 : Nat} (hp0_14 : p0_14 < n ∧ K p0_14 = 100) (ep0_14 : G p0 14 = some p0_14) {p0_2 : Nat} (hp0_2 : p0_2 < n ∧ K p0_2 = 7) (ep0_2 : G p0 2 = some p0_2) {p0_5 : Nat} (hp0_5 : p0_5 < n ∧ K p0_5 = 5) (ep0_5 : G p0 5 = some p0_5) {p0_5_1 : Nat} (hp0_5_1 : p0_5_1 < n ∧ K p0_5_1 = 100) (ep0_5_1 : G p0_5 1 = some p0_5_1) {p0_5_2 : Nat} (hp0_5_2 : p0_5_2 < n ∧ K p0_5_2 = 100) (ep0_5_2 : G p0_5 2 = some p0_5_2) {p0_5_3 : Nat} (hp0_5_3 : p0_5_3 < n ∧ K p0_5_3 = 100) (ep0_5_3 : G p0_5 3 = some p0_5_3) {p0_5_5 : Nat} (hp0_5_5 : p0_5_5 < n ∧ K p0_5_5 = 100) (ep0_5_5 : G p0_5 5 = some p0_5_5) {p0_5_6 : Nat} (hp0_5_6 : p0_5_6 < n ∧ K p0_5_6 = 100) (ep0_5_6 : G p0_5 6 = some p0_5_6)  (V : zI) (L : zL) (ls : Array Slot) (hl : lv_has ls 3 [(0, .ref (ad p0))]) (hf : g_X10_image N G p0 p0_14 p0_2 p0_5 p0_5_1 p0_5_2 p0_5_3 p0_5_5 p0_5_6 V L = some r') : RG M (zC D cy ad n K N G) V L 0 ls [] := by
  unfold g_X10_image at hf
  refine z_aload_n X.1 dX10_image_0 rfl (lv_at hl 0 rfl) ?_
  refine z_iconst (v := 0) X.1 dX10_image_1 (by decide) ?_
  refine c_puti X hp0 cf_X10_74 cg_X10 cp_X10_15 rfl rfl dX10_image_2 ?_
  refine z_aload_n X.1 dX10_image_5 rfl (lv_at hl 0 rfl) ?_
  refine z_aload_n X.1 dX10_image_6 rfl (lv_at hl 0 rfl) ?_
  refine c_geta X hp0 cf_X10_33 ep0_5 dX10_image_7 ?_
  refine c_geti X hp0_5 cf_X10_124 dX10_image_10 ?_
  refine z_bipush (v := 8) X.1 dX10_image_13 (by decide) ?_
  refine z_ishr X.1 dX10_image_15 ?_
  obtain ⟨r1, hc1, hf⟩ := z_bind hf
  refine c_callVv [.int (((z_uI V p0 15 0) p0_5 0) >>> ((8 : Int32) &&& 31))] X hl.1 (c_X10_putOctet D cy ad X.2.2 hp0 hc1) hp0 ⟨by decide, rfl⟩ cm_X10_282 cw_X10_putOctet rfl cq_X10_putOctet ⟨by decide, by decide⟩ (Nat.le_of_ble_eq_true rfl) rfl dX10_image_16 ?_
  refine z_aload_n X.1 dX10_image_19 rfl (lv_at hl 0 rfl) ?_
  refine z_aload_n X.1 dX10_image_20 rfl (lv_at hl 0 rfl) ?_
  refine c_geta X hp0 cf_X10_33 ep0_5 dX10_image_21 ?_
  refine c_geti X hp0_5 cf_X10_124 dX10_image_24 ?_
  refine z_sipush (v := 255) X.1 dX10_image_27 (by decide) ?_
  refine z_iand X.1 dX10_image_30 ?_
  obtain ⟨r2, hc2, hf⟩ := z_bind hf
  refine c_callVv [.int ((r1.1 p0_5 0) &&& 255)] X hl.1 (c_X10_putOctet D cy ad X.2.2 hp0 hc2) hp0 ⟨by decide, rfl⟩ cm_X10_282 cw_X10_putOctet rfl cq_X10_putOctet ⟨by decide, by decide⟩ (Nat.le_of_ble_eq_true rfl) rfl dX10_image_31 ?_
  refine z_iconst (v := 0) X.1 dX10_image_34 (by decide) ?_
  refine z_istore_n (lv' := [(1, .int 0), (0, .ref (ad p0))]) X.1 dX10_image_35 rfl hl (by decide) rfl (fun ls hl => ?_)
  exact w_X10_image_36 X Z hp0 hp0_14 ep0_14 hp0_2 ep0_2 hp0_5 ep0_5 hp0_5_1 ep0_5_1 hp0_5_2 ep0_5_2 hp0_5_3 ep0_5_3 hp0_5_5 ep0_5_5 hp0_5_6 ep0_5_6 FU 0 r2.1 r2.2 ls (lv_sub hl [1, 0] rfl) hf

theorem c_X10_image (D : va_G) (cy : Nat → ClassId) (ad : Nat → Nat) {n : Nat} {K N : Nat → Nat} {G : zG} (hWF : zWF n K G) {p0 : Nat} {V : zI} {L : zL} (hp0 : p0 < n ∧ K p0 = 8) {r' : Int32 × zI × zL} (hf : f_X10_image N G p0 V L = some r') : RCi (zC D cy ad n K N G) yX10_image cX10_image 3 .int 2 43 [.ref (ad p0)] V L r'.1 r'.2.1 r'.2.2 := by
  unfold f_X10_image at hf
  obtain ⟨p0_14, ep0_14, hf⟩ := z_bind hf
  have hp0_14 := hWF.get hp0 (k := 14) (c := 100) rfl ep0_14
  obtain ⟨p0_2, ep0_2, hf⟩ := z_bind hf
  have hp0_2 := hWF.get hp0 (k := 2) (c := 7) rfl ep0_2
  obtain ⟨p0_5, ep0_5, hf⟩ := z_bind hf
  have hp0_5 := hWF.get hp0 (k := 5) (c := 5) rfl ep0_5
  obtain ⟨p0_5_1, ep0_5_1, hf⟩ := z_bind hf
  have hp0_5_1 := hWF.get hp0_5 (k := 1) (c := 100) rfl ep0_5_1
  obtain ⟨p0_5_2, ep0_5_2, hf⟩ := z_bind hf
  have hp0_5_2 := hWF.get hp0_5 (k := 2) (c := 100) rfl ep0_5_2
  obtain ⟨p0_5_3, ep0_5_3, hf⟩ := z_bind hf
  have hp0_5_3 := hWF.get hp0_5 (k := 3) (c := 100) rfl ep0_5_3
  obtain ⟨p0_5_5, ep0_5_5, hf⟩ := z_bind hf
  have hp0_5_5 := hWF.get hp0_5 (k := 5) (c := 100) rfl ep0_5_5
  obtain ⟨p0_5_6, ep0_5_6, hf⟩ := z_bind hf
  have hp0_5_6 := hWF.get hp0_5 (k := 6) (c := 100) rfl ep0_5_6
  exact RCi.of (by decide) hWF (Nat.le_of_ble_eq_true rfl) (fun M X Z ls hl => w_X10_image X Z hp0 hp0_14 ep0_14 hp0_2 ep0_2 hp0_5 ep0_5 hp0_5_1 ep0_5_1 hp0_5_2 ep0_5_2 hp0_5_3 ep0_5_3 hp0_5_5 ep0_5_5 hp0_5_6 ep0_5_6 V L ls hl hf)
