def f_X10_give_34 (y0 : Nat) (n c q : Nat) (K N : Nat → Nat) (G : zG) (V : zI) (L : zL) : Option (Int32 × zS) :=
  (f_X10_refuse N G y0 3 V L).bind fun r1 => some (0, n, c, q, K, N, G, r1.2.1, r1.2.2)
def f_X10_give_46 (y0 : Nat) (x1 : Int32) (x2 : Int32) (x3 : Int32) (n c q : Nat) (K N : Nat → Nat) (G : zG) (V : zI) (L : zL) : Option (Int32 × zS) :=
  (G y0 5).bind fun v1 => (G v1 1).bind fun v2 => if inB ((x1 * 6) + x2) (N v2) then if inB ((x1 * 6) + x2) (N v2) then (if x3 = x2 then some (1, n, c, q, K, N, G, z_uI V v2 ((x1 * 6) + x2).toNatClampNeg ((V v2 ((x1 * 6) + x2).toNatClampNeg) - 1), L) else (G y0 5).bind fun v5 => (G v5 1).bind fun v6 => if inB ((x3 * 6) + x2) (N v6) then if inB ((x3 * 6) + x2) (N v6) then some (1, n, c, q, K, N, G, z_uI (z_uI V v2 ((x1 * 6) + x2).toNatClampNeg ((V v2 ((x1 * 6) + x2).toNatClampNeg) - 1)) v6 ((x3 * 6) + x2).toNatClampNeg (((z_uI V v2 ((x1 * 6) + x2).toNatClampNeg ((V v2 ((x1 * 6) + x2).toNatClampNeg) - 1)) v6 ((x3 * 6) + x2).toNatClampNeg) + 1), L) else none else none) else none else none
def g_X10_give (y0 : Nat) (x1 : Int32) (x2 : Int32) (x3 : Int32) (n c q : Nat) (K N : Nat → Nat) (G : zG) (V : zI) (L : zL) : Option (Int32 × zS) :=
  (G y0 2).bind fun v1 => (f_X9_isPair N G v1 x1 x2 V L).bind fun r2 => (if r2 = 0 then f_X10_give_34 y0 n c q K N G V L else (G y0 2).bind fun v3 => (f_X9_isPair N G v3 x1 x3 V L).bind fun r4 => (if r4 = 0 then f_X10_give_34 y0 n c q K N G V L else (f_X10_canGive N G y0 x1 x2 x3 V L).bind fun r5 => (if r5 = 0 then f_X10_give_34 y0 n c q K N G V L else (f_X10_remember y0 n K N G V L).bind fun r6 => f_X10_give_46 y0 x1 x2 x3 r6.1 (c + r6.2.1) (q + r6.2.2.1) r6.2.2.2.1 r6.2.2.2.2.1 r6.2.2.2.2.2.1 r6.2.2.2.2.2.2.1 r6.2.2.2.2.2.2.2)))
def f_X10_give (y0 : Nat) (x1 : Int32) (x2 : Int32) (x3 : Int32) (n : Nat) (K N : Nat → Nat) (G : zG) (V : zI) (L : zL) : Option (Int32 × zS) := g_X10_give y0 x1 x2 x3 n 0 0 K N G V L
set_option maxHeartbeats 4000000 in
set_option maxRecDepth 100000 in
theorem m_X10_give_34 (y0 : Nat) (n c q : Nat) (K N : Nat → Nat) (G : zG) (V : zI) (L : zL) {r' : Int32 × zS} (hf : f_X10_give_34 y0 n c q K N G V L = some r') : c ≤ r'.2.2.1 ∧ q ≤ r'.2.2.2.1 := by
  unfold f_X10_give_34 at hf
  obtain ⟨r1, hc1, hf⟩ := z_bind hf
  cases hf
  exact ⟨Nat.le_refl _, Nat.le_refl _⟩

set_option maxHeartbeats 4000000 in
set_option maxRecDepth 100000 in
theorem m_X10_give_46 (y0 : Nat) (x1 : Int32) (x2 : Int32) (x3 : Int32) (n c q : Nat) (K N : Nat → Nat) (G : zG) (V : zI) (L : zL) {r' : Int32 × zS} (hf : f_X10_give_46 y0 x1 x2 x3 n c q K N G V L = some r') : c ≤ r'.2.2.1 ∧ q ≤ r'.2.2.2.1 := by
  unfold f_X10_give_46 at hf
  obtain ⟨v1, hG1, hf⟩ := z_bind hf
  obtain ⟨v2, hG2, hf⟩ := z_bind hf
  obtain ⟨hb3, hf⟩ := z_ite hf
  obtain ⟨hb4, hf⟩ := z_ite hf
  rcases z_iteE hf with hf | hf
  ·
    cases hf
    exact ⟨Nat.le_refl _, Nat.le_refl _⟩
  ·
    obtain ⟨v5, hG5, hf⟩ := z_bind hf
    obtain ⟨v6, hG6, hf⟩ := z_bind hf
    obtain ⟨hb7, hf⟩ := z_ite hf
    obtain ⟨hb8, hf⟩ := z_ite hf
    cases hf
    exact ⟨Nat.le_refl _, Nat.le_refl _⟩

set_option maxHeartbeats 4000000 in
set_option maxRecDepth 100000 in
theorem w_X10_give_34 {M : zM} {D : va_G} {cy : Nat → ClassId} {ad0 K0 : Nat → Nat} {n0 : Nat} {r' : Int32 × zS} (Z : RZAi M D cy ad0 n0 K0 .boolean r'.1 r'.2) (hC : M.2.2.2.1.cells = r'.2.2.1 ∧ M.2.2.2.1.slots = r'.2.2.2.1) (y0 : Nat) (n c q : Nat) (K N : Nat → Nat) (G : zG) (V : zI) (L : zL) (ad : Nat → Nat) (ls : Array Slot) (X : RXA M D cy ad n c q K N G cX10_give 4 RX10 3 104) (ha : ∀ w, w < n0 → ad w = ad0 w) (hn0 : n0 ≤ n) (hk0 : ∀ w, w < n0 → K w = K0 w) (hy0 : y0 < n ∧ K y0 = 8) (hl : lv_has ls 4 [(0, .ref (ad y0))]) (hf : f_X10_give_34 y0 n c q K N G V L = some r') : RG (zMb M c q) (zC D cy ad n K N G) V L 34 ls [] := by
  unfold f_X10_give_34 at hf
  refine z_aload_n X.1.1 dX10_give_34 rfl (lv_at hl 0 rfl) ?_
  refine z_iconst (v := 3) X.1.1 dX10_give_35 (by decide) ?_
  obtain ⟨r1, hc1, hf⟩ := z_bind hf
  refine c_callVi [.int 3] X.1 hl.1 (c_X10_refuse D cy ad X.1.2.2 hy0 hc1) hy0 ⟨by decide, rfl⟩ cm_X10_80 cw_X10_refuse rfl cq_X10_refuse ⟨by decide, by decide⟩ (Nat.le_of_ble_eq_true rfl) rfl dX10_give_36 ?_
  refine z_pop X.1.1 dX10_give_39 rfl ?_
  refine z_iconst (v := 0) X.1.1 dX10_give_40 (by decide) ?_
  exact a_iret X Z ha hn0 hk0 hf (by decide) dX10_give_41

set_option maxHeartbeats 4000000 in
set_option maxRecDepth 100000 in
theorem w_X10_give_46 {M : zM} {D : va_G} {cy : Nat → ClassId} {ad0 K0 : Nat → Nat} {n0 : Nat} {r' : Int32 × zS} (Z : RZAi M D cy ad0 n0 K0 .boolean r'.1 r'.2) (hC : M.2.2.2.1.cells = r'.2.2.1 ∧ M.2.2.2.1.slots = r'.2.2.2.1) (y0 : Nat) (x1 : Int32) (x2 : Int32) (x3 : Int32) (n c q : Nat) (K N : Nat → Nat) (G : zG) (V : zI) (L : zL) (ad : Nat → Nat) (ls : Array Slot) (X : RXA M D cy ad n c q K N G cX10_give 4 RX10 3 104) (ha : ∀ w, w < n0 → ad w = ad0 w) (hn0 : n0 ≤ n) (hk0 : ∀ w, w < n0 → K w = K0 w) (hy0 : y0 < n ∧ K y0 = 8) (hl : lv_has ls 4 [(0, .ref (ad y0)), (1, .int x1), (2, .int x2), (3, .int x3)]) (hf : f_X10_give_46 y0 x1 x2 x3 n c q K N G V L = some r') : RG (zMb M c q) (zC D cy ad n K N G) V L 46 ls [] := by
  unfold f_X10_give_46 at hf
  refine z_aload_n X.1.1 dX10_give_46 rfl (lv_at hl 0 rfl) ?_
  obtain ⟨v1, hG1, hf⟩ := z_bind hf
  have hv1 := X.1.2.2.get hy0 (k := 5) (c := 5) rfl hG1
  refine c_geta X.1 hy0 cf_X10_33 hG1 dX10_give_47 ?_
  obtain ⟨v2, hG2, hf⟩ := z_bind hf
  have hv2 := X.1.2.2.get hv1 (k := 1) (c := 100) rfl hG2
  refine c_geta X.1 hv1 cf_X10_127 hG2 dX10_give_50 ?_
  refine z_iload_n X.1.1 dX10_give_53 rfl (lv_at hl 1 rfl) ?_
  refine z_bipush (v := 6) X.1.1 dX10_give_54 (by decide) ?_
  refine z_imul X.1.1 dX10_give_56 ?_
  refine z_iload_n X.1.1 dX10_give_57 rfl (lv_at hl 2 rfl) ?_
  refine z_iadd X.1.1 dX10_give_58 ?_
  refine z_dup2 X.1.1 dX10_give_59 rfl rfl ?_
  obtain ⟨hb3, hf⟩ := z_ite hf
  refine c_iald X.1 hv2 hb3 dX10_give_60 ?_
  refine z_iconst (v := 1) X.1.1 dX10_give_61 (by decide) ?_
  refine z_isub X.1.1 dX10_give_62 ?_
  obtain ⟨hb4, hf⟩ := z_ite hf
  refine c_iast X.1 hv2 hb4 dX10_give_63 ?_
  refine z_iload_n X.1.1 dX10_give_64 rfl (lv_at hl 3 rfl) ?_
  refine z_iload_n X.1.1 dX10_give_65 rfl (lv_at hl 2 rfl) ?_
  refine z_icmp_eq (tgt := 87) X.1.1 dX10_give_66 (by decide) (fun c_ => ?_) (fun c_ => ?_)
  · have hf := (if_pos c_).symm.trans hf
    refine z_iconst (v := 1) X.1.1 dX10_give_87 (by decide) ?_
    exact a_iret X Z ha hn0 hk0 hf (by decide) dX10_give_88
  · have hf := (if_neg c_).symm.trans hf
    refine z_aload_n X.1.1 dX10_give_69 rfl (lv_at hl 0 rfl) ?_
    obtain ⟨v5, hG5, hf⟩ := z_bind hf
    have hv5 := X.1.2.2.get hy0 (k := 5) (c := 5) rfl hG5
    refine c_geta X.1 hy0 cf_X10_33 hG5 dX10_give_70 ?_
    obtain ⟨v6, hG6, hf⟩ := z_bind hf
    have hv6 := X.1.2.2.get hv5 (k := 1) (c := 100) rfl hG6
    refine c_geta X.1 hv5 cf_X10_127 hG6 dX10_give_73 ?_
    refine z_iload_n X.1.1 dX10_give_76 rfl (lv_at hl 3 rfl) ?_
    refine z_bipush (v := 6) X.1.1 dX10_give_77 (by decide) ?_
    refine z_imul X.1.1 dX10_give_79 ?_
    refine z_iload_n X.1.1 dX10_give_80 rfl (lv_at hl 2 rfl) ?_
    refine z_iadd X.1.1 dX10_give_81 ?_
    refine z_dup2 X.1.1 dX10_give_82 rfl rfl ?_
    obtain ⟨hb7, hf⟩ := z_ite hf
    refine c_iald X.1 hv6 hb7 dX10_give_83 ?_
    refine z_iconst (v := 1) X.1.1 dX10_give_84 (by decide) ?_
    refine z_iadd X.1.1 dX10_give_85 ?_
    obtain ⟨hb8, hf⟩ := z_ite hf
    refine c_iast X.1 hv6 hb8 dX10_give_86 ?_
    refine z_iconst (v := 1) X.1.1 dX10_give_87 (by decide) ?_
    exact a_iret X Z ha hn0 hk0 hf (by decide) dX10_give_88

set_option maxHeartbeats 4000000 in
set_option maxRecDepth 100000 in
theorem w_X10_give {M : zM} {D : va_G} {cy : Nat → ClassId} {ad0 K0 : Nat → Nat} {n0 : Nat} {r' : Int32 × zS} (Z : RZAi M D cy ad0 n0 K0 .boolean r'.1 r'.2) (hC : M.2.2.2.1.cells = r'.2.2.1 ∧ M.2.2.2.1.slots = r'.2.2.2.1) (y0 : Nat) (x1 : Int32) (x2 : Int32) (x3 : Int32) (n c q : Nat) (K N : Nat → Nat) (G : zG) (V : zI) (L : zL) (ad : Nat → Nat) (ls : Array Slot) (X : RXA M D cy ad n c q K N G cX10_give 4 RX10 3 104) (ha : ∀ w, w < n0 → ad w = ad0 w) (hn0 : n0 ≤ n) (hk0 : ∀ w, w < n0 → K w = K0 w) (hy0 : y0 < n ∧ K y0 = 8) (hl : lv_has ls 4 [(0, .ref (ad y0)), (1, .int x1), (2, .int x2), (3, .int x3)]) (hf : g_X10_give y0 x1 x2 x3 n c q K N G V L = some r') : RG (zMb M c q) (zC D cy ad n K N G) V L 0 ls [] := by
  unfold g_X10_give at hf
  refine z_aload_n X.1.1 dX10_give_0 rfl (lv_at hl 0 rfl) ?_
  obtain ⟨v1, hG1, hf⟩ := z_bind hf
  have hv1 := X.1.2.2.get hy0 (k := 2) (c := 7) rfl hG1
  refine c_geta X.1 hy0 cf_X10_20 hG1 dX10_give_1 ?_
  refine z_iload_n X.1.1 dX10_give_4 rfl (lv_at hl 1 rfl) ?_
  refine z_iload_n X.1.1 dX10_give_5 rfl (lv_at hl 2 rfl) ?_
  obtain ⟨r2, hc2, hf⟩ := z_bind hf
  refine c_callVi [.int x1, .int x2] X.1 hl.1 (c_X9_isPair D cy ad X.1.2.2 hv1 hc2) hv1 ⟨by decide, rfl⟩ cm_X10_162 cw_X9_isPair rfl cq_X9_isPair ⟨by decide, by decide⟩ (Nat.le_of_ble_eq_true rfl) rfl dX10_give_6 ?_
  refine z_if_eq (tgt := 34) X.1.1 dX10_give_9 (by decide) (fun c_ => ?_) (fun c_ => ?_)
  · have hf := (if_pos c_).symm.trans hf
    exact w_X10_give_34 Z hC y0 n c q K N G V L ad ls X ha hn0 hk0 hy0 (lv_sub hl [0] rfl) hf
  · have hf := (if_neg c_).symm.trans hf
    refine z_aload_n X.1.1 dX10_give_12 rfl (lv_at hl 0 rfl) ?_
    obtain ⟨v3, hG3, hf⟩ := z_bind hf
    have hv3 := X.1.2.2.get hy0 (k := 2) (c := 7) rfl hG3
    refine c_geta X.1 hy0 cf_X10_20 hG3 dX10_give_13 ?_
    refine z_iload_n X.1.1 dX10_give_16 rfl (lv_at hl 1 rfl) ?_
    refine z_iload_n X.1.1 dX10_give_17 rfl (lv_at hl 3 rfl) ?_
    obtain ⟨r4, hc4, hf⟩ := z_bind hf
    refine c_callVi [.int x1, .int x3] X.1 hl.1 (c_X9_isPair D cy ad X.1.2.2 hv3 hc4) hv3 ⟨by decide, rfl⟩ cm_X10_162 cw_X9_isPair rfl cq_X9_isPair ⟨by decide, by decide⟩ (Nat.le_of_ble_eq_true rfl) rfl dX10_give_18 ?_
    refine z_if_eq (tgt := 34) X.1.1 dX10_give_21 (by decide) (fun c_ => ?_) (fun c_ => ?_)
    · have hf := (if_pos c_).symm.trans hf
      exact w_X10_give_34 Z hC y0 n c q K N G V L ad ls X ha hn0 hk0 hy0 (lv_sub hl [0] rfl) hf
    · have hf := (if_neg c_).symm.trans hf
      refine z_aload_n X.1.1 dX10_give_24 rfl (lv_at hl 0 rfl) ?_
      refine z_iload_n X.1.1 dX10_give_25 rfl (lv_at hl 1 rfl) ?_
      refine z_iload_n X.1.1 dX10_give_26 rfl (lv_at hl 2 rfl) ?_
      refine z_iload_n X.1.1 dX10_give_27 rfl (lv_at hl 3 rfl) ?_
      obtain ⟨r5, hc5, hf⟩ := z_bind hf
      refine c_callVi [.int x1, .int x2, .int x3] X.1 hl.1 (c_X10_canGive D cy ad X.1.2.2 hy0 hc5) hy0 ⟨by decide, rfl⟩ cm_X10_275 cw_X10_canGive rfl cq_X10_canGive ⟨by decide, by decide⟩ (Nat.le_of_ble_eq_true rfl) rfl dX10_give_28 ?_
      refine z_if_ne (tgt := 42) X.1.1 dX10_give_31 (by decide) (fun c_ => ?_) (fun c_ => ?_)
      · have hf := (if_neg c_).symm.trans hf
        refine z_aload_n X.1.1 dX10_give_42 rfl (lv_at hl 0 rfl) ?_
        obtain ⟨r6, hc6, hf⟩ := z_bind hf
        have hm := m_X10_give_46 y0 x1 x2 x3 r6.1 (c + r6.2.1) (q + r6.2.2.1) r6.2.2.2.1 r6.2.2.2.2.1 r6.2.2.2.2.2.1 r6.2.2.2.2.2.2.1 r6.2.2.2.2.2.2.2 hf
        refine a_callVv [] X hl.1 (c_X10_remember D cy ad X.1.2.2 hy0 hc6) hy0 ⟨by decide, rfl⟩ cm_X10_266 cw_X10_remember rfl cq_X10_remember ⟨by decide, by decide⟩ (Nat.le_of_ble_eq_true rfl) rfl ⟨by rw [hC.1]; exact hm.1, by rw [hC.2]; exact hm.2⟩ dX10_give_43 (fun ad' hag hnn hKg X => ?_)
        rw [← hag y0 hy0.1] at hl
        exact w_X10_give_46 Z hC y0 x1 x2 x3 r6.1 (c + r6.2.1) (q + r6.2.2.1) r6.2.2.2.1 r6.2.2.2.2.1 r6.2.2.2.2.2.1 r6.2.2.2.2.2.2.1 r6.2.2.2.2.2.2.2 ad' ls X (zag_up ha hn0 hag) (by omega) (zag_up hk0 hn0 hKg) (zh_ext hy0 hnn hKg) (lv_sub hl [0, 1, 2, 3] rfl) hf
      · have hf := (if_pos c_).symm.trans hf
        exact w_X10_give_34 Z hC y0 n c q K N G V L ad ls X ha hn0 hk0 hy0 (lv_sub hl [0] rfl) hf

theorem c_X10_give (D : va_G) (cy : Nat → ClassId) (ad : Nat → Nat) {n : Nat} {K N : Nat → Nat} {G : zG} (hWF : zWF n K G) {y0 : Nat} {x1 : Int32} {x2 : Int32} {x3 : Int32} {V : zI} {L : zL} (hy0 : y0 < n ∧ K y0 = 8) {r' : Int32 × zS} (hf : f_X10_give y0 x1 x2 x3 n K N G V L = some r') : RAi D cy ad n K N G yX10_give cX10_give 4 .boolean 3 104 [.ref (ad y0), .int x1, .int x2, .int x3] V L r'.1 r'.2 :=
  RAi.of (by decide) hWF (Nat.le_of_ble_eq_true rfl) (fun M X Z hC hnm ls hl => w_X10_give Z hC y0 x1 x2 x3 n 0 0 K N G V L ad ls X (fun _ _ => rfl) (Nat.le_refl _) (fun _ _ => rfl) hy0 hl hf)
def b_X10_days_22 (k22 : Nat × Int32 × Int32 × Int32 × zS → Option (Int32 × zS)) : Nat × Int32 × Int32 × Int32 × zS → Option (Int32 × zS) := fun ⟨y0, x1, x2, x3, n, c, q, K, N, G, V, L⟩ =>
  (if x1 ≤ x3 then some (x2, n, c, q, K, N, G, V, L) else (G y0 7).bind fun v1 => (G y0 2).bind fun v2 => (G y0 5).bind fun v3 => (f_X4_passDay_n N G v1 v2 v3 V L).bind fun r4 => (G y0 5).bind fun v5 => k22 (y0, x1, (x2 + (r4.1 v5 10)), (x3 + 1), n, c, q, K, N, G, r4.1, r4.2))
def f_X10_days_18 (y0 : Nat) (x1 : Int32) (n c q : Nat) (K N : Nat → Nat) (G : zG) (V : zI) (L : zL) : Option (Int32 × zS) :=
  zfix (b_X10_days_22) FU (y0, x1, 0, 0, n, c, q, K, N, G, V, L)
def g_X10_days (y0 : Nat) (x1 : Int32) (n c q : Nat) (K N : Nat → Nat) (G : zG) (V : zI) (L : zL) : Option (Int32 × zS) :=
  (f_X10_canPass N G y0 x1 V L).bind fun r1 => (if r1 = 0 then (f_X10_refuse N G y0 2 V L).bind fun r3 => some (r3.1, n, c, q, K, N, G, r3.2.1, r3.2.2) else (f_X10_remember y0 n K N G V L).bind fun r2 => f_X10_days_18 y0 x1 r2.1 (c + r2.2.1) (q + r2.2.2.1) r2.2.2.2.1 r2.2.2.2.2.1 r2.2.2.2.2.2.1 r2.2.2.2.2.2.2.1 r2.2.2.2.2.2.2.2)
def f_X10_days (y0 : Nat) (x1 : Int32) (n : Nat) (K N : Nat → Nat) (G : zG) (V : zI) (L : zL) : Option (Int32 × zS) := g_X10_days y0 x1 n 0 0 K N G V L
set_option maxHeartbeats 4000000 in
set_option maxRecDepth 100000 in
theorem m_X10_days_22 (nn : Nat) : ∀ (y0 : Nat) (x1 : Int32) (x2 : Int32) (x3 : Int32) (n c q : Nat) (K N : Nat → Nat) (G : zG) (V : zI) (L : zL) {r' : Int32 × zS}, zfix (b_X10_days_22) nn (y0, x1, x2, x3, n, c, q, K, N, G, V, L) = some r' → c ≤ r'.2.2.1 ∧ q ≤ r'.2.2.2.1 := by
  induction nn with
  | zero => intro y0 x1 x2 x3 n c q K N G V L r' hf; cases hf
  | succ nn ih =>
  intro y0 x1 x2 x3 n c q K N G V L r' hf
  have hm22 : ∀ (y0 : Nat) (x1 : Int32) (x2 : Int32) (x3 : Int32) (n c q : Nat) (K N : Nat → Nat) (G : zG) (V : zI) (L : zL) {r' : Int32 × zS}, zfix (b_X10_days_22) nn (y0, x1, x2, x3, n, c, q, K, N, G, V, L) = some r' → c ≤ r'.2.2.1 ∧ q ≤ r'.2.2.2.1 := ih
  have hf : b_X10_days_22 (zfix (b_X10_days_22) nn) (y0, x1, x2, x3, n, c, q, K, N, G, V, L) = some r' := hf
  generalize zfix (b_X10_days_22) nn = k22 at hm22 hf
  clear ih
  unfold b_X10_days_22 at hf
  rcases z_iteE hf with hf | hf
  ·
    cases hf
    exact ⟨Nat.le_refl _, Nat.le_refl _⟩
  ·
    obtain ⟨v1, hG1, hf⟩ := z_bind hf
    obtain ⟨v2, hG2, hf⟩ := z_bind hf
    obtain ⟨v3, hG3, hf⟩ := z_bind hf
    obtain ⟨r4, hc4, hf⟩ := z_bind hf
    obtain ⟨v5, hG5, hf⟩ := z_bind hf
    exact hm22 y0 x1 (x2 + (r4.1 v5 10)) (x3 + 1) n c q K N G r4.1 r4.2 hf

set_option maxHeartbeats 4000000 in
set_option maxRecDepth 100000 in
theorem m_X10_days_18 (y0 : Nat) (x1 : Int32) (n c q : Nat) (K N : Nat → Nat) (G : zG) (V : zI) (L : zL) {r' : Int32 × zS} (hf : f_X10_days_18 y0 x1 n c q K N G V L = some r') : c ≤ r'.2.2.1 ∧ q ≤ r'.2.2.2.1 := by
  unfold f_X10_days_18 at hf
  exact m_X10_days_22 FU y0 x1 0 0 n c q K N G V L hf

set_option maxHeartbeats 4000000 in
set_option maxRecDepth 100000 in
theorem w_X10_days_22 {M : zM} {D : va_G} {cy : Nat → ClassId} {ad0 K0 : Nat → Nat} {n0 : Nat} {r' : Int32 × zS} (Z : RZAi M D cy ad0 n0 K0 .int r'.1 r'.2) (hC : M.2.2.2.1.cells = r'.2.2.1 ∧ M.2.2.2.1.slots = r'.2.2.2.1) (nn : Nat) : ∀ (y0 : Nat) (x1 : Int32) (x2 : Int32) (x3 : Int32) (n c q : Nat) (K N : Nat → Nat) (G : zG) (V : zI) (L : zL) (ad : Nat → Nat) (ls : Array Slot) (X : RXA M D cy ad n c q K N G cX10_days 4 RX10 7 174) (ha : ∀ w, w < n0 → ad w = ad0 w) (hn0 : n0 ≤ n) (hk0 : ∀ w, w < n0 → K w = K0 w) (hy0 : y0 < n ∧ K y0 = 8) (hl : lv_has ls 4 [(0, .ref (ad y0)), (1, .int x1), (2, .int x2), (3, .int x3)]) (hf : zfix (b_X10_days_22) nn (y0, x1, x2, x3, n, c, q, K, N, G, V, L) = some r'), RG (zMb M c q) (zC D cy ad n K N G) V L 22 ls [] := by
  induction nn with
  | zero => intro y0 x1 x2 x3 n c q K N G V L ad ls X ha hn0 hk0 hy0 hl hf; cases hf
  | succ nn ih =>
  intro y0 x1 x2 x3 n c q K N G V L ad ls X ha hn0 hk0 hy0 hl hf
  have hk22 : ∀ (y0 : Nat) (x1 : Int32) (x2 : Int32) (x3 : Int32) (n c q : Nat) (K N : Nat → Nat) (G : zG) (V : zI) (L : zL) (ad : Nat → Nat) (ls : Array Slot) (X : RXA M D cy ad n c q K N G cX10_days 4 RX10 7 174) (ha : ∀ w, w < n0 → ad w = ad0 w) (hn0 : n0 ≤ n) (hk0 : ∀ w, w < n0 → K w = K0 w) (hy0 : y0 < n ∧ K y0 = 8) (hl : lv_has ls 4 [(0, .ref (ad y0)), (1, .int x1), (2, .int x2), (3, .int x3)]) (hf : zfix (b_X10_days_22) nn (y0, x1, x2, x3, n, c, q, K, N, G, V, L) = some r'), RG (zMb M c q) (zC D cy ad n K N G) V L 22 ls [] := ih
  have hm22 : ∀ (y0 : Nat) (x1 : Int32) (x2 : Int32) (x3 : Int32) (n c q : Nat) (K N : Nat → Nat) (G : zG) (V : zI) (L : zL) {r' : Int32 × zS}, zfix (b_X10_days_22) nn (y0, x1, x2, x3, n, c, q, K, N, G, V, L) = some r' → c ≤ r'.2.2.1 ∧ q ≤ r'.2.2.2.1 := m_X10_days_22 nn
  have hf : b_X10_days_22 (zfix (b_X10_days_22) nn) (y0, x1, x2, x3, n, c, q, K, N, G, V, L) = some r' := hf
  generalize zfix (b_X10_days_22) nn = k22 at hk22 hm22 hf
  clear ih
  unfold b_X10_days_22 at hf
  refine z_iload_n X.1.1 dX10_days_22 rfl (lv_at hl 3 rfl) ?_
  refine z_iload_n X.1.1 dX10_days_23 rfl (lv_at hl 1 rfl) ?_
  refine z_icmp_ge (tgt := 59) X.1.1 dX10_days_24 (by decide) (fun c_ => ?_) (fun c_ => ?_)
  · have hf := (if_pos c_).symm.trans hf
    refine z_iload_n X.1.1 dX10_days_59 rfl (lv_at hl 2 rfl) ?_
    exact a_iret X Z ha hn0 hk0 hf rfl dX10_days_60
  · have hf := (if_neg c_).symm.trans hf
    refine z_aload_n X.1.1 dX10_days_27 rfl (lv_at hl 0 rfl) ?_
    obtain ⟨v1, hG1, hf⟩ := z_bind hf
    have hv1 := X.1.2.2.get hy0 (k := 7) (c := 3) rfl hG1
    refine c_geta X.1 hy0 cf_X10_43 hG1 dX10_days_28 ?_
    refine z_aload_n X.1.1 dX10_days_31 rfl (lv_at hl 0 rfl) ?_
    obtain ⟨v2, hG2, hf⟩ := z_bind hf
    have hv2 := X.1.2.2.get hy0 (k := 2) (c := 7) rfl hG2
    refine c_geta X.1 hy0 cf_X10_20 hG2 dX10_days_32 ?_
    refine z_aload_n X.1.1 dX10_days_35 rfl (lv_at hl 0 rfl) ?_
    obtain ⟨v3, hG3, hf⟩ := z_bind hf
    have hv3 := X.1.2.2.get hy0 (k := 5) (c := 5) rfl hG3
    refine c_geta X.1 hy0 cf_X10_33 hG3 dX10_days_36 ?_
    refine c_null X.1 dX10_days_39 ?_
    obtain ⟨r4, hc4, hf⟩ := z_bind hf
    refine c_callVv [.ref (ad v2), .ref (ad v3), .null] X.1 hl.1 (c_X4_passDay_n D cy ad X.1.2.2 hv1 hv2 hv3 hc4) hv1 ⟨by decide, rfl⟩ cm_X10_190 cw_X4_passDay rfl cq_X4_passDay ⟨by decide, by decide⟩ (Nat.le_of_ble_eq_true rfl) rfl dX10_days_40 ?_
    refine z_iload_n X.1.1 dX10_days_43 rfl (lv_at hl 2 rfl) ?_
    refine z_aload_n X.1.1 dX10_days_44 rfl (lv_at hl 0 rfl) ?_
    obtain ⟨v5, hG5, hf⟩ := z_bind hf
    have hv5 := X.1.2.2.get hy0 (k := 5) (c := 5) rfl hG5
    refine c_geta X.1 hy0 cf_X10_33 hG5 dX10_days_45 ?_
    refine c_geti X.1 hv5 cf_X10_269 dX10_days_48 ?_
    refine z_iadd X.1.1 dX10_days_51 ?_
    refine z_istore_n (lv' := [(2, .int (x2 + (r4.1 v5 10))), (0, .ref (ad y0)), (1, .int x1), (3, .int x3)]) X.1.1 dX10_days_52 rfl hl (by decide) rfl (fun ls hl => ?_)
    refine z_iinc (v := x3 + 1) (k0 := 3) (lv' := [(3, .int (x3 + 1)), (2, .int (x2 + (r4.1 v5 10))), (0, .ref (ad y0)), (1, .int x1)]) X.1.1 dX10_days_53 hl rfl rfl (by decide) rfl (fun ls hl => ?_)
    refine z_goto (tgt := 22) X.1.1 dX10_days_56 (by decide) ?_
    exact hk22 y0 x1 (x2 + (r4.1 v5 10)) (x3 + 1) n c q K N G r4.1 r4.2 ad ls X ha hn0 hk0 hy0 (lv_sub hl [2, 3, 1, 0] rfl) hf

set_option maxHeartbeats 4000000 in
set_option maxRecDepth 100000 in
theorem w_X10_days_18 {M : zM} {D : va_G} {cy : Nat → ClassId} {ad0 K0 : Nat → Nat} {n0 : Nat} {r' : Int32 × zS} (Z : RZAi M D cy ad0 n0 K0 .int r'.1 r'.2) (hC : M.2.2.2.1.cells = r'.2.2.1 ∧ M.2.2.2.1.slots = r'.2.2.2.1) (y0 : Nat) (x1 : Int32) (n c q : Nat) (K N : Nat → Nat) (G : zG) (V : zI) (L : zL) (ad : Nat → Nat) (ls : Array Slot) (X : RXA M D cy ad n c q K N G cX10_days 4 RX10 7 174) (ha : ∀ w, w < n0 → ad w = ad0 w) (hn0 : n0 ≤ n) (hk0 : ∀ w, w < n0 → K w = K0 w) (hy0 : y0 < n ∧ K y0 = 8) (hl : lv_has ls 4 [(0, .ref (ad y0)), (1, .int x1)]) (hf : f_X10_days_18 y0 x1 n c q K N G V L = some r') : RG (zMb M c q) (zC D cy ad n K N G) V L 18 ls [] := by
  unfold f_X10_days_18 at hf
  refine z_iconst (v := 0) X.1.1 dX10_days_18 (by decide) ?_
  refine z_istore_n (lv' := [(2, .int 0), (0, .ref (ad y0)), (1, .int x1)]) X.1.1 dX10_days_19 rfl hl (by decide) rfl (fun ls hl => ?_)
  refine z_iconst (v := 0) X.1.1 dX10_days_20 (by decide) ?_
  refine z_istore_n (lv' := [(3, .int 0), (2, .int 0), (0, .ref (ad y0)), (1, .int x1)]) X.1.1 dX10_days_21 rfl hl (by decide) rfl (fun ls hl => ?_)
  exact w_X10_days_22 Z hC FU y0 x1 0 0 n c q K N G V L ad ls X ha hn0 hk0 hy0 (lv_sub hl [2, 3, 1, 0] rfl) hf

set_option maxHeartbeats 4000000 in
set_option maxRecDepth 100000 in
theorem w_X10_days {M : zM} {D : va_G} {cy : Nat → ClassId} {ad0 K0 : Nat → Nat} {n0 : Nat} {r' : Int32 × zS} (Z : RZAi M D cy ad0 n0 K0 .int r'.1 r'.2) (hC : M.2.2.2.1.cells = r'.2.2.1 ∧ M.2.2.2.1.slots = r'.2.2.2.1) (y0 : Nat) (x1 : Int32) (n c q : Nat) (K N : Nat → Nat) (G : zG) (V : zI) (L : zL) (ad : Nat → Nat) (ls : Array Slot) (X : RXA M D cy ad n c q K N G cX10_days 4 RX10 7 174) (ha : ∀ w, w < n0 → ad w = ad0 w) (hn0 : n0 ≤ n) (hk0 : ∀ w, w < n0 → K w = K0 w) (hy0 : y0 < n ∧ K y0 = 8) (hl : lv_has ls 4 [(0, .ref (ad y0)), (1, .int x1)]) (hf : g_X10_days y0 x1 n c q K N G V L = some r') : RG (zMb M c q) (zC D cy ad n K N G) V L 0 ls [] := by
  unfold g_X10_days at hf
  refine z_aload_n X.1.1 dX10_days_0 rfl (lv_at hl 0 rfl) ?_
  refine z_iload_n X.1.1 dX10_days_1 rfl (lv_at hl 1 rfl) ?_
  obtain ⟨r1, hc1, hf⟩ := z_bind hf
  refine c_callVi [.int x1] X.1 hl.1 (c_X10_canPass D cy ad X.1.2.2 hy0 hc1) hy0 ⟨by decide, rfl⟩ cm_X10_263 cw_X10_canPass rfl cq_X10_canPass ⟨by decide, by decide⟩ (Nat.le_of_ble_eq_true rfl) rfl dX10_days_2 ?_
  refine z_if_ne (tgt := 14) X.1.1 dX10_days_5 (by decide) (fun c_ => ?_) (fun c_ => ?_)
  · have hf := (if_neg c_).symm.trans hf
    refine z_aload_n X.1.1 dX10_days_14 rfl (lv_at hl 0 rfl) ?_
    obtain ⟨r2, hc2, hf⟩ := z_bind hf
    have hm := m_X10_days_18 y0 x1 r2.1 (c + r2.2.1) (q + r2.2.2.1) r2.2.2.2.1 r2.2.2.2.2.1 r2.2.2.2.2.2.1 r2.2.2.2.2.2.2.1 r2.2.2.2.2.2.2.2 hf
    refine a_callVv [] X hl.1 (c_X10_remember D cy ad X.1.2.2 hy0 hc2) hy0 ⟨by decide, rfl⟩ cm_X10_266 cw_X10_remember rfl cq_X10_remember ⟨by decide, by decide⟩ (Nat.le_of_ble_eq_true rfl) rfl ⟨by rw [hC.1]; exact hm.1, by rw [hC.2]; exact hm.2⟩ dX10_days_15 (fun ad' hag hnn hKg X => ?_)
    rw [← hag y0 hy0.1] at hl
    exact w_X10_days_18 Z hC y0 x1 r2.1 (c + r2.2.1) (q + r2.2.2.1) r2.2.2.2.1 r2.2.2.2.2.1 r2.2.2.2.2.2.1 r2.2.2.2.2.2.2.1 r2.2.2.2.2.2.2.2 ad' ls X (zag_up ha hn0 hag) (by omega) (zag_up hk0 hn0 hKg) (zh_ext hy0 hnn hKg) (lv_sub hl [0, 1] rfl) hf
  · have hf := (if_pos c_).symm.trans hf
    refine z_aload_n X.1.1 dX10_days_8 rfl (lv_at hl 0 rfl) ?_
    refine z_iconst (v := 2) X.1.1 dX10_days_9 (by decide) ?_
    obtain ⟨r3, hc3, hf⟩ := z_bind hf
    refine c_callVi [.int 2] X.1 hl.1 (c_X10_refuse D cy ad X.1.2.2 hy0 hc3) hy0 ⟨by decide, rfl⟩ cm_X10_80 cw_X10_refuse rfl cq_X10_refuse ⟨by decide, by decide⟩ (Nat.le_of_ble_eq_true rfl) rfl dX10_days_10 ?_
    exact a_iret X Z ha hn0 hk0 hf rfl dX10_days_13

theorem c_X10_days (D : va_G) (cy : Nat → ClassId) (ad : Nat → Nat) {n : Nat} {K N : Nat → Nat} {G : zG} (hWF : zWF n K G) {y0 : Nat} {x1 : Int32} {V : zI} {L : zL} (hy0 : y0 < n ∧ K y0 = 8) {r' : Int32 × zS} (hf : f_X10_days y0 x1 n K N G V L = some r') : RAi D cy ad n K N G yX10_days cX10_days 4 .int 7 174 [.ref (ad y0), .int x1] V L r'.1 r'.2 :=
  RAi.of (by decide) hWF (Nat.le_of_ble_eq_true rfl) (fun M X Z hC hnm ls hl => w_X10_days Z hC y0 x1 n 0 0 K N G V L ad ls X (fun _ _ => rfl) (Nat.le_refl _) (fun _ _ => rfl) hy0 hl hf)
def b_X10_chance_22 (k22 : Nat × Int32 × Int32 × Int32 × zS → Option (Int32 × zS)) : Nat × Int32 × Int32 × Int32 × zS → Option (Int32 × zS) := fun ⟨y0, x1, x2, x3, n, c, q, K, N, G, V, L⟩ =>
  (if x1 ≤ x3 then some (x2, n, c, q, K, N, G, V, L) else (G y0 7).bind fun v1 => (G y0 2).bind fun v2 => (G y0 5).bind fun v3 => (G y0 8).bind fun v4 => (f_X4_passDay_s N G v1 v2 v3 v4 V L).bind fun r5 => (G y0 5).bind fun v6 => k22 (y0, x1, (x2 + (r5.1 v6 11)), (x3 + 1), n, c, q, K, N, G, r5.1, r5.2))
def f_X10_chance_18 (y0 : Nat) (x1 : Int32) (n c q : Nat) (K N : Nat → Nat) (G : zG) (V : zI) (L : zL) : Option (Int32 × zS) :=
  zfix (b_X10_chance_22) FU (y0, x1, 0, 0, n, c, q, K, N, G, V, L)
def g_X10_chance (y0 : Nat) (x1 : Int32) (n c q : Nat) (K N : Nat → Nat) (G : zG) (V : zI) (L : zL) : Option (Int32 × zS) :=
  (f_X10_canPass N G y0 x1 V L).bind fun r1 => (if r1 = 0 then (f_X10_refuse N G y0 2 V L).bind fun r3 => some (r3.1, n, c, q, K, N, G, r3.2.1, r3.2.2) else (f_X10_remember y0 n K N G V L).bind fun r2 => f_X10_chance_18 y0 x1 r2.1 (c + r2.2.1) (q + r2.2.2.1) r2.2.2.2.1 r2.2.2.2.2.1 r2.2.2.2.2.2.1 r2.2.2.2.2.2.2.1 r2.2.2.2.2.2.2.2)
def f_X10_chance (y0 : Nat) (x1 : Int32) (n : Nat) (K N : Nat → Nat) (G : zG) (V : zI) (L : zL) : Option (Int32 × zS) := g_X10_chance y0 x1 n 0 0 K N G V L
set_option maxHeartbeats 4000000 in
set_option maxRecDepth 100000 in
theorem m_X10_chance_22 (nn : Nat) : ∀ (y0 : Nat) (x1 : Int32) (x2 : Int32) (x3 : Int32) (n c q : Nat) (K N : Nat → Nat) (G : zG) (V : zI) (L : zL) {r' : Int32 × zS}, zfix (b_X10_chance_22) nn (y0, x1, x2, x3, n, c, q, K, N, G, V, L) = some r' → c ≤ r'.2.2.1 ∧ q ≤ r'.2.2.2.1 := by
  induction nn with
  | zero => intro y0 x1 x2 x3 n c q K N G V L r' hf; cases hf
  | succ nn ih =>
  intro y0 x1 x2 x3 n c q K N G V L r' hf
  have hm22 : ∀ (y0 : Nat) (x1 : Int32) (x2 : Int32) (x3 : Int32) (n c q : Nat) (K N : Nat → Nat) (G : zG) (V : zI) (L : zL) {r' : Int32 × zS}, zfix (b_X10_chance_22) nn (y0, x1, x2, x3, n, c, q, K, N, G, V, L) = some r' → c ≤ r'.2.2.1 ∧ q ≤ r'.2.2.2.1 := ih
  have hf : b_X10_chance_22 (zfix (b_X10_chance_22) nn) (y0, x1, x2, x3, n, c, q, K, N, G, V, L) = some r' := hf
  generalize zfix (b_X10_chance_22) nn = k22 at hm22 hf
  clear ih
  unfold b_X10_chance_22 at hf
  rcases z_iteE hf with hf | hf
  ·
    cases hf
    exact ⟨Nat.le_refl _, Nat.le_refl _⟩
  ·
    obtain ⟨v1, hG1, hf⟩ := z_bind hf
    obtain ⟨v2, hG2, hf⟩ := z_bind hf
    obtain ⟨v3, hG3, hf⟩ := z_bind hf
    obtain ⟨v4, hG4, hf⟩ := z_bind hf
    obtain ⟨r5, hc5, hf⟩ := z_bind hf
    obtain ⟨v6, hG6, hf⟩ := z_bind hf
    exact hm22 y0 x1 (x2 + (r5.1 v6 11)) (x3 + 1) n c q K N G r5.1 r5.2 hf

set_option maxHeartbeats 4000000 in
set_option maxRecDepth 100000 in
theorem m_X10_chance_18 (y0 : Nat) (x1 : Int32) (n c q : Nat) (K N : Nat → Nat) (G : zG) (V : zI) (L : zL) {r' : Int32 × zS} (hf : f_X10_chance_18 y0 x1 n c q K N G V L = some r') : c ≤ r'.2.2.1 ∧ q ≤ r'.2.2.2.1 := by
  unfold f_X10_chance_18 at hf
  exact m_X10_chance_22 FU y0 x1 0 0 n c q K N G V L hf

set_option maxHeartbeats 4000000 in
set_option maxRecDepth 100000 in
theorem w_X10_chance_22 {M : zM} {D : va_G} {cy : Nat → ClassId} {ad0 K0 : Nat → Nat} {n0 : Nat} {r' : Int32 × zS} (Z : RZAi M D cy ad0 n0 K0 .int r'.1 r'.2) (hC : M.2.2.2.1.cells = r'.2.2.1 ∧ M.2.2.2.1.slots = r'.2.2.2.1) (nn : Nat) : ∀ (y0 : Nat) (x1 : Int32) (x2 : Int32) (x3 : Int32) (n c q : Nat) (K N : Nat → Nat) (G : zG) (V : zI) (L : zL) (ad : Nat → Nat) (ls : Array Slot) (X : RXA M D cy ad n c q K N G cX10_chance 4 RX10 7 174) (ha : ∀ w, w < n0 → ad w = ad0 w) (hn0 : n0 ≤ n) (hk0 : ∀ w, w < n0 → K w = K0 w) (hy0 : y0 < n ∧ K y0 = 8) (hl : lv_has ls 4 [(0, .ref (ad y0)), (1, .int x1), (2, .int x2), (3, .int x3)]) (hf : zfix (b_X10_chance_22) nn (y0, x1, x2, x3, n, c, q, K, N, G, V, L) = some r'), RG (zMb M c q) (zC D cy ad n K N G) V L 22 ls [] := by
  induction nn with
  | zero => intro y0 x1 x2 x3 n c q K N G V L ad ls X ha hn0 hk0 hy0 hl hf; cases hf
  | succ nn ih =>
  intro y0 x1 x2 x3 n c q K N G V L ad ls X ha hn0 hk0 hy0 hl hf
  have hk22 : ∀ (y0 : Nat) (x1 : Int32) (x2 : Int32) (x3 : Int32) (n c q : Nat) (K N : Nat → Nat) (G : zG) (V : zI) (L : zL) (ad : Nat → Nat) (ls : Array Slot) (X : RXA M D cy ad n c q K N G cX10_chance 4 RX10 7 174) (ha : ∀ w, w < n0 → ad w = ad0 w) (hn0 : n0 ≤ n) (hk0 : ∀ w, w < n0 → K w = K0 w) (hy0 : y0 < n ∧ K y0 = 8) (hl : lv_has ls 4 [(0, .ref (ad y0)), (1, .int x1), (2, .int x2), (3, .int x3)]) (hf : zfix (b_X10_chance_22) nn (y0, x1, x2, x3, n, c, q, K, N, G, V, L) = some r'), RG (zMb M c q) (zC D cy ad n K N G) V L 22 ls [] := ih
  have hm22 : ∀ (y0 : Nat) (x1 : Int32) (x2 : Int32) (x3 : Int32) (n c q : Nat) (K N : Nat → Nat) (G : zG) (V : zI) (L : zL) {r' : Int32 × zS}, zfix (b_X10_chance_22) nn (y0, x1, x2, x3, n, c, q, K, N, G, V, L) = some r' → c ≤ r'.2.2.1 ∧ q ≤ r'.2.2.2.1 := m_X10_chance_22 nn
  have hf : b_X10_chance_22 (zfix (b_X10_chance_22) nn) (y0, x1, x2, x3, n, c, q, K, N, G, V, L) = some r' := hf
  generalize zfix (b_X10_chance_22) nn = k22 at hk22 hm22 hf
  clear ih
  unfold b_X10_chance_22 at hf
  refine z_iload_n X.1.1 dX10_chance_22 rfl (lv_at hl 3 rfl) ?_
  refine z_iload_n X.1.1 dX10_chance_23 rfl (lv_at hl 1 rfl) ?_
  refine z_icmp_ge (tgt := 62) X.1.1 dX10_chance_24 (by decide) (fun c_ => ?_) (fun c_ => ?_)
  · have hf := (if_pos c_).symm.trans hf
    refine z_iload_n X.1.1 dX10_chance_62 rfl (lv_at hl 2 rfl) ?_
    exact a_iret X Z ha hn0 hk0 hf rfl dX10_chance_63
  · have hf := (if_neg c_).symm.trans hf
    refine z_aload_n X.1.1 dX10_chance_27 rfl (lv_at hl 0 rfl) ?_
    obtain ⟨v1, hG1, hf⟩ := z_bind hf
    have hv1 := X.1.2.2.get hy0 (k := 7) (c := 3) rfl hG1
    refine c_geta X.1 hy0 cf_X10_43 hG1 dX10_chance_28 ?_
    refine z_aload_n X.1.1 dX10_chance_31 rfl (lv_at hl 0 rfl) ?_
    obtain ⟨v2, hG2, hf⟩ := z_bind hf
    have hv2 := X.1.2.2.get hy0 (k := 2) (c := 7) rfl hG2
    refine c_geta X.1 hy0 cf_X10_20 hG2 dX10_chance_32 ?_
    refine z_aload_n X.1.1 dX10_chance_35 rfl (lv_at hl 0 rfl) ?_
    obtain ⟨v3, hG3, hf⟩ := z_bind hf
    have hv3 := X.1.2.2.get hy0 (k := 5) (c := 5) rfl hG3
    refine c_geta X.1 hy0 cf_X10_33 hG3 dX10_chance_36 ?_
    refine z_aload_n X.1.1 dX10_chance_39 rfl (lv_at hl 0 rfl) ?_
    obtain ⟨v4, hG4, hf⟩ := z_bind hf
    have hv4 := X.1.2.2.get hy0 (k := 8) (c := 1) rfl hG4
    refine c_geta X.1 hy0 cf_X10_50 hG4 dX10_chance_40 ?_
    obtain ⟨r5, hc5, hf⟩ := z_bind hf
    refine c_callVv [.ref (ad v2), .ref (ad v3), .ref (ad v4)] X.1 hl.1 (c_X4_passDay_s D cy ad X.1.2.2 hv1 hv2 hv3 hv4 hc5) hv1 ⟨by decide, rfl⟩ cm_X10_190 cw_X4_passDay rfl cq_X4_passDay ⟨by decide, by decide⟩ (Nat.le_of_ble_eq_true rfl) rfl dX10_chance_43 ?_
    refine z_iload_n X.1.1 dX10_chance_46 rfl (lv_at hl 2 rfl) ?_
    refine z_aload_n X.1.1 dX10_chance_47 rfl (lv_at hl 0 rfl) ?_
    obtain ⟨v6, hG6, hf⟩ := z_bind hf
    have hv6 := X.1.2.2.get hy0 (k := 5) (c := 5) rfl hG6
    refine c_geta X.1 hy0 cf_X10_33 hG6 dX10_chance_48 ?_
    refine c_geti X.1 hv6 cf_X10_272 dX10_chance_51 ?_
    refine z_iadd X.1.1 dX10_chance_54 ?_
    refine z_istore_n (lv' := [(2, .int (x2 + (r5.1 v6 11))), (0, .ref (ad y0)), (1, .int x1), (3, .int x3)]) X.1.1 dX10_chance_55 rfl hl (by decide) rfl (fun ls hl => ?_)
    refine z_iinc (v := x3 + 1) (k0 := 3) (lv' := [(3, .int (x3 + 1)), (2, .int (x2 + (r5.1 v6 11))), (0, .ref (ad y0)), (1, .int x1)]) X.1.1 dX10_chance_56 hl rfl rfl (by decide) rfl (fun ls hl => ?_)
    refine z_goto (tgt := 22) X.1.1 dX10_chance_59 (by decide) ?_
    exact hk22 y0 x1 (x2 + (r5.1 v6 11)) (x3 + 1) n c q K N G r5.1 r5.2 ad ls X ha hn0 hk0 hy0 (lv_sub hl [2, 3, 1, 0] rfl) hf

set_option maxHeartbeats 4000000 in
set_option maxRecDepth 100000 in
theorem w_X10_chance_18 {M : zM} {D : va_G} {cy : Nat → ClassId} {ad0 K0 : Nat → Nat} {n0 : Nat} {r' : Int32 × zS} (Z : RZAi M D cy ad0 n0 K0 .int r'.1 r'.2) (hC : M.2.2.2.1.cells = r'.2.2.1 ∧ M.2.2.2.1.slots = r'.2.2.2.1) (y0 : Nat) (x1 : Int32) (n c q : Nat) (K N : Nat → Nat) (G : zG) (V : zI) (L : zL) (ad : Nat → Nat) (ls : Array Slot) (X : RXA M D cy ad n c q K N G cX10_chance 4 RX10 7 174) (ha : ∀ w, w < n0 → ad w = ad0 w) (hn0 : n0 ≤ n) (hk0 : ∀ w, w < n0 → K w = K0 w) (hy0 : y0 < n ∧ K y0 = 8) (hl : lv_has ls 4 [(0, .ref (ad y0)), (1, .int x1)]) (hf : f_X10_chance_18 y0 x1 n c q K N G V L = some r') : RG (zMb M c q) (zC D cy ad n K N G) V L 18 ls [] := by
  unfold f_X10_chance_18 at hf
  refine z_iconst (v := 0) X.1.1 dX10_chance_18 (by decide) ?_
  refine z_istore_n (lv' := [(2, .int 0), (0, .ref (ad y0)), (1, .int x1)]) X.1.1 dX10_chance_19 rfl hl (by decide) rfl (fun ls hl => ?_)
  refine z_iconst (v := 0) X.1.1 dX10_chance_20 (by decide) ?_
  refine z_istore_n (lv' := [(3, .int 0), (2, .int 0), (0, .ref (ad y0)), (1, .int x1)]) X.1.1 dX10_chance_21 rfl hl (by decide) rfl (fun ls hl => ?_)
  exact w_X10_chance_22 Z hC FU y0 x1 0 0 n c q K N G V L ad ls X ha hn0 hk0 hy0 (lv_sub hl [2, 3, 1, 0] rfl) hf

set_option maxHeartbeats 4000000 in
set_option maxRecDepth 100000 in
theorem w_X10_chance {M : zM} {D : va_G} {cy : Nat → ClassId} {ad0 K0 : Nat → Nat} {n0 : Nat} {r' : Int32 × zS} (Z : RZAi M D cy ad0 n0 K0 .int r'.1 r'.2) (hC : M.2.2.2.1.cells = r'.2.2.1 ∧ M.2.2.2.1.slots = r'.2.2.2.1) (y0 : Nat) (x1 : Int32) (n c q : Nat) (K N : Nat → Nat) (G : zG) (V : zI) (L : zL) (ad : Nat → Nat) (ls : Array Slot) (X : RXA M D cy ad n c q K N G cX10_chance 4 RX10 7 174) (ha : ∀ w, w < n0 → ad w = ad0 w) (hn0 : n0 ≤ n) (hk0 : ∀ w, w < n0 → K w = K0 w) (hy0 : y0 < n ∧ K y0 = 8) (hl : lv_has ls 4 [(0, .ref (ad y0)), (1, .int x1)]) (hf : g_X10_chance y0 x1 n c q K N G V L = some r') : RG (zMb M c q) (zC D cy ad n K N G) V L 0 ls [] := by
  unfold g_X10_chance at hf
  refine z_aload_n X.1.1 dX10_chance_0 rfl (lv_at hl 0 rfl) ?_
  refine z_iload_n X.1.1 dX10_chance_1 rfl (lv_at hl 1 rfl) ?_
  obtain ⟨r1, hc1, hf⟩ := z_bind hf
  refine c_callVi [.int x1] X.1 hl.1 (c_X10_canPass D cy ad X.1.2.2 hy0 hc1) hy0 ⟨by decide, rfl⟩ cm_X10_263 cw_X10_canPass rfl cq_X10_canPass ⟨by decide, by decide⟩ (Nat.le_of_ble_eq_true rfl) rfl dX10_chance_2 ?_
  refine z_if_ne (tgt := 14) X.1.1 dX10_chance_5 (by decide) (fun c_ => ?_) (fun c_ => ?_)
  · have hf := (if_neg c_).symm.trans hf
    refine z_aload_n X.1.1 dX10_chance_14 rfl (lv_at hl 0 rfl) ?_
    obtain ⟨r2, hc2, hf⟩ := z_bind hf
    have hm := m_X10_chance_18 y0 x1 r2.1 (c + r2.2.1) (q + r2.2.2.1) r2.2.2.2.1 r2.2.2.2.2.1 r2.2.2.2.2.2.1 r2.2.2.2.2.2.2.1 r2.2.2.2.2.2.2.2 hf
    refine a_callVv [] X hl.1 (c_X10_remember D cy ad X.1.2.2 hy0 hc2) hy0 ⟨by decide, rfl⟩ cm_X10_266 cw_X10_remember rfl cq_X10_remember ⟨by decide, by decide⟩ (Nat.le_of_ble_eq_true rfl) rfl ⟨by rw [hC.1]; exact hm.1, by rw [hC.2]; exact hm.2⟩ dX10_chance_15 (fun ad' hag hnn hKg X => ?_)
    rw [← hag y0 hy0.1] at hl
    exact w_X10_chance_18 Z hC y0 x1 r2.1 (c + r2.2.1) (q + r2.2.2.1) r2.2.2.2.1 r2.2.2.2.2.1 r2.2.2.2.2.2.1 r2.2.2.2.2.2.2.1 r2.2.2.2.2.2.2.2 ad' ls X (zag_up ha hn0 hag) (by omega) (zag_up hk0 hn0 hKg) (zh_ext hy0 hnn hKg) (lv_sub hl [0, 1] rfl) hf
  · have hf := (if_pos c_).symm.trans hf
    refine z_aload_n X.1.1 dX10_chance_8 rfl (lv_at hl 0 rfl) ?_
    refine z_iconst (v := 2) X.1.1 dX10_chance_9 (by decide) ?_
    obtain ⟨r3, hc3, hf⟩ := z_bind hf
    refine c_callVi [.int 2] X.1 hl.1 (c_X10_refuse D cy ad X.1.2.2 hy0 hc3) hy0 ⟨by decide, rfl⟩ cm_X10_80 cw_X10_refuse rfl cq_X10_refuse ⟨by decide, by decide⟩ (Nat.le_of_ble_eq_true rfl) rfl dX10_chance_10 ?_
    exact a_iret X Z ha hn0 hk0 hf rfl dX10_chance_13

theorem c_X10_chance (D : va_G) (cy : Nat → ClassId) (ad : Nat → Nat) {n : Nat} {K N : Nat → Nat} {G : zG} (hWF : zWF n K G) {y0 : Nat} {x1 : Int32} {V : zI} {L : zL} (hy0 : y0 < n ∧ K y0 = 8) {r' : Int32 × zS} (hf : f_X10_chance y0 x1 n K N G V L = some r') : RAi D cy ad n K N G yX10_chance cX10_chance 4 .int 7 174 [.ref (ad y0), .int x1] V L r'.1 r'.2 :=
  RAi.of (by decide) hWF (Nat.le_of_ble_eq_true rfl) (fun M X Z hC hnm ls hl => w_X10_chance Z hC y0 x1 n 0 0 K N G V L ad ls X (fun _ _ => rfl) (Nat.le_refl _) (fun _ _ => rfl) hy0 hl hf)
