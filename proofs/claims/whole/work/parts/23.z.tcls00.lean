def b_X8_markOwnWords_9 (k9 : Nat × Int32 × Int32 × Int32 × Int32 × zS → Option (zS)) : Nat × Int32 × Int32 × Int32 × Int32 × zS → Option (zS) := fun ⟨y0, x1, x2, x3, x4, n, c, q, K, N, G, V, L⟩ =>
  (if 104 ≤ x4 then some (n, c, q, K, N, G, V, L) else if inB x4 104 then (if (zsb.getD x4.toNatClampNeg 0 &&& 255) = 32 then (f_X8_markOwnWord N G y0 x1 x3 V L).bind fun r2 => k9 (y0, 0, 0, (x3 + 1), (x4 + 1), n, c, q, K, N, G, r2.1, r2.2) else k9 (y0, (x1 ||| ((((zsb.getD x4.toNatClampNeg 0 &&& 255) - 97) + 1) <<< ((x2 * 5) &&& 31))), (x2 + 1), x3, (x4 + 1), n, c, q, K, N, G, V, L)) else none)
def g_X8_markOwnWords (y0 : Nat) (n c q : Nat) (K N : Nat → Nat) (G : zG) (V : zI) (L : zL) : Option (zS) :=
  zfix (b_X8_markOwnWords_9) FU (y0, 0, 0, 0, 0, n, c, q, K, N, G, V, L)
def f_X8_markOwnWords (y0 : Nat) (n : Nat) (K N : Nat → Nat) (G : zG) (V : zI) (L : zL) : Option (zS) := g_X8_markOwnWords y0 n 0 0 K N G V L
set_option maxHeartbeats 4000000 in
set_option maxRecDepth 100000 in
theorem m_X8_markOwnWords_9 (nn : Nat) : ∀ (y0 : Nat) (x1 : Int32) (x2 : Int32) (x3 : Int32) (x4 : Int32) (n c q : Nat) (K N : Nat → Nat) (G : zG) (V : zI) (L : zL) {r' : zS}, zfix (b_X8_markOwnWords_9) nn (y0, x1, x2, x3, x4, n, c, q, K, N, G, V, L) = some r' → c ≤ r'.2.1 ∧ q ≤ r'.2.2.1 := by
  induction nn with
  | zero => intro y0 x1 x2 x3 x4 n c q K N G V L r' hf; cases hf
  | succ nn ih =>
  intro y0 x1 x2 x3 x4 n c q K N G V L r' hf
  have hm9 : ∀ (y0 : Nat) (x1 : Int32) (x2 : Int32) (x3 : Int32) (x4 : Int32) (n c q : Nat) (K N : Nat → Nat) (G : zG) (V : zI) (L : zL) {r' : zS}, zfix (b_X8_markOwnWords_9) nn (y0, x1, x2, x3, x4, n, c, q, K, N, G, V, L) = some r' → c ≤ r'.2.1 ∧ q ≤ r'.2.2.1 := ih
  have hf : b_X8_markOwnWords_9 (zfix (b_X8_markOwnWords_9) nn) (y0, x1, x2, x3, x4, n, c, q, K, N, G, V, L) = some r' := hf
  generalize zfix (b_X8_markOwnWords_9) nn = k9 at hm9 hf
  clear ih
  unfold b_X8_markOwnWords_9 at hf
  rcases z_iteE hf with hf | hf
  ·
    cases hf
    exact ⟨Nat.le_refl _, Nat.le_refl _⟩
  ·
    obtain ⟨hb1, hf⟩ := z_ite hf
    rcases z_iteE hf with hf | hf
    ·
      obtain ⟨r2, hc2, hf⟩ := z_bind hf
      exact hm9 y0 0 0 (x3 + 1) (x4 + 1) n c q K N G r2.1 r2.2 hf
    ·
      exact hm9 y0 (x1 ||| ((((zsb.getD x4.toNatClampNeg 0 &&& 255) - 97) + 1) <<< ((x2 * 5) &&& 31))) (x2 + 1) x3 (x4 + 1) n c q K N G V L hf

set_option maxHeartbeats 4000000 in
set_option maxRecDepth 100000 in
theorem w_X8_markOwnWords_9 {M : zM} {D : va_G} {cy : Nat → ClassId} {ad0 K0 : Nat → Nat} {n0 : Nat} {r' : zS} (Z : RZAv M D cy ad0 n0 K0 r') (hC : M.2.2.2.1.cells = r'.2.1 ∧ M.2.2.2.1.slots = r'.2.2.1) {sa sb : Nat} (hT : zTf M sa sb) (nn : Nat) : ∀ (y0 : Nat) (x1 : Int32) (x2 : Int32) (x3 : Int32) (x4 : Int32) (n c q : Nat) (K N : Nat → Nat) (G : zG) (V : zI) (L : zL) (ad : Nat → Nat) (ls : Array Slot) (X : RXA M D cy ad n c q K N G cX8_markOwnWords 6 RX8 4 90) (ha : ∀ w, w < n0 → ad w = ad0 w) (hn0 : n0 ≤ n) (hk0 : ∀ w, w < n0 → K w = K0 w) (hy0 : y0 < n ∧ K y0 = 6) (hl : lv_has ls 6 [(0, .ref (ad y0)), (1, .int x1), (2, .int x2), (3, .int x3), (4, .int x4)]) (hf : zfix (b_X8_markOwnWords_9) nn (y0, x1, x2, x3, x4, n, c, q, K, N, G, V, L) = some r'), RG (zMb M c q) (zC D cy ad n K N G) V L 9 ls [] := by
  induction nn with
  | zero => intro y0 x1 x2 x3 x4 n c q K N G V L ad ls X ha hn0 hk0 hy0 hl hf; cases hf
  | succ nn ih =>
  intro y0 x1 x2 x3 x4 n c q K N G V L ad ls X ha hn0 hk0 hy0 hl hf
  have hk9 : ∀ (y0 : Nat) (x1 : Int32) (x2 : Int32) (x3 : Int32) (x4 : Int32) (n c q : Nat) (K N : Nat → Nat) (G : zG) (V : zI) (L : zL) (ad : Nat → Nat) (ls : Array Slot) (X : RXA M D cy ad n c q K N G cX8_markOwnWords 6 RX8 4 90) (ha : ∀ w, w < n0 → ad w = ad0 w) (hn0 : n0 ≤ n) (hk0 : ∀ w, w < n0 → K w = K0 w) (hy0 : y0 < n ∧ K y0 = 6) (hl : lv_has ls 6 [(0, .ref (ad y0)), (1, .int x1), (2, .int x2), (3, .int x3), (4, .int x4)]) (hf : zfix (b_X8_markOwnWords_9) nn (y0, x1, x2, x3, x4, n, c, q, K, N, G, V, L) = some r'), RG (zMb M c q) (zC D cy ad n K N G) V L 9 ls [] := ih
  have hm9 : ∀ (y0 : Nat) (x1 : Int32) (x2 : Int32) (x3 : Int32) (x4 : Int32) (n c q : Nat) (K N : Nat → Nat) (G : zG) (V : zI) (L : zL) {r' : zS}, zfix (b_X8_markOwnWords_9) nn (y0, x1, x2, x3, x4, n, c, q, K, N, G, V, L) = some r' → c ≤ r'.2.1 ∧ q ≤ r'.2.2.1 := m_X8_markOwnWords_9 nn
  have hf : b_X8_markOwnWords_9 (zfix (b_X8_markOwnWords_9) nn) (y0, x1, x2, x3, x4, n, c, q, K, N, G, V, L) = some r' := hf
  generalize zfix (b_X8_markOwnWords_9) nn = k9 at hk9 hm9 hf
  clear ih
  unfold b_X8_markOwnWords_9 at hf
  refine z_iload X.1.1 dX8_markOwnWords_9 (lv_at hl 4 rfl) ?_
  refine t_ldc X hT dX8_markOwnWords_11 ?_
  refine t_length X hT hl.1 ⟨by decide, by decide⟩ (Nat.le_of_ble_eq_true rfl) dX8_markOwnWords_13 ?_
  refine z_icmp_ge (tgt := 74) X.1.1 dX8_markOwnWords_16 (by decide) (fun c_ => ?_) (fun c_ => ?_)
  · have hf := (if_pos c_).symm.trans hf
    exact a_vret X Z ha hn0 hk0 hf dX8_markOwnWords_74
  · have hf := (if_neg c_).symm.trans hf
    refine t_ldc X hT dX8_markOwnWords_19 ?_
    refine z_iload X.1.1 dX8_markOwnWords_21 (lv_at hl 4 rfl) ?_
    obtain ⟨hb1, hf⟩ := z_ite hf
    refine t_charAt X hT hl.1 hb1 ⟨by decide, by decide⟩ (Nat.le_of_ble_eq_true rfl) dX8_markOwnWords_23 ?_
    refine z_istore (lv' := [(5, .int (zsb.getD x4.toNatClampNeg 0 &&& 255)), (0, .ref (ad y0)), (1, .int x1), (2, .int x2), (3, .int x3), (4, .int x4)]) X.1.1 dX8_markOwnWords_26 hl (by decide) rfl (fun ls hl => ?_)
    refine z_iload X.1.1 dX8_markOwnWords_28 (lv_at hl 0 rfl) ?_
    refine z_bipush (v := 32) X.1.1 dX8_markOwnWords_30 (by decide) ?_
    refine z_icmp_ne (tgt := 51) X.1.1 dX8_markOwnWords_32 (by decide) (fun c_ => ?_) (fun c_ => ?_)
    · have hf := (if_neg c_).symm.trans hf
      refine z_iload_n X.1.1 dX8_markOwnWords_51 rfl (lv_at hl 2 rfl) ?_
      refine z_iload X.1.1 dX8_markOwnWords_52 (lv_at hl 0 rfl) ?_
      refine z_bipush (v := 97) X.1.1 dX8_markOwnWords_54 (by decide) ?_
      refine z_isub X.1.1 dX8_markOwnWords_56 ?_
      refine z_iconst (v := 1) X.1.1 dX8_markOwnWords_57 (by decide) ?_
      refine z_iadd X.1.1 dX8_markOwnWords_58 ?_
      refine z_iload_n X.1.1 dX8_markOwnWords_59 rfl (lv_at hl 3 rfl) ?_
      refine z_iconst (v := 5) X.1.1 dX8_markOwnWords_60 (by decide) ?_
      refine z_imul X.1.1 dX8_markOwnWords_61 ?_
      refine z_ishl X.1.1 dX8_markOwnWords_62 ?_
      refine z_ior X.1.1 dX8_markOwnWords_63 ?_
      refine z_istore_n (lv' := [(1, .int (x1 ||| ((((zsb.getD x4.toNatClampNeg 0 &&& 255) - 97) + 1) <<< ((x2 * 5) &&& 31)))), (5, .int (zsb.getD x4.toNatClampNeg 0 &&& 255)), (0, .ref (ad y0)), (2, .int x2), (3, .int x3), (4, .int x4)]) X.1.1 dX8_markOwnWords_64 rfl hl (by decide) rfl (fun ls hl => ?_)
      refine z_iinc (v := x2 + 1) (k0 := 3) (lv' := [(2, .int (x2 + 1)), (1, .int (x1 ||| ((((zsb.getD x4.toNatClampNeg 0 &&& 255) - 97) + 1) <<< ((x2 * 5) &&& 31)))), (5, .int (zsb.getD x4.toNatClampNeg 0 &&& 255)), (0, .ref (ad y0)), (3, .int x3), (4, .int x4)]) X.1.1 dX8_markOwnWords_65 hl rfl rfl (by decide) rfl (fun ls hl => ?_)
      refine z_iinc (v := x4 + 1) (k0 := 5) (lv' := [(4, .int (x4 + 1)), (2, .int (x2 + 1)), (1, .int (x1 ||| ((((zsb.getD x4.toNatClampNeg 0 &&& 255) - 97) + 1) <<< ((x2 * 5) &&& 31)))), (5, .int (zsb.getD x4.toNatClampNeg 0 &&& 255)), (0, .ref (ad y0)), (3, .int x3)]) X.1.1 dX8_markOwnWords_68 hl rfl rfl (by decide) rfl (fun ls hl => ?_)
      refine z_goto (tgt := 9) X.1.1 dX8_markOwnWords_71 (by decide) ?_
      exact hk9 y0 (x1 ||| ((((zsb.getD x4.toNatClampNeg 0 &&& 255) - 97) + 1) <<< ((x2 * 5) &&& 31))) (x2 + 1) x3 (x4 + 1) n c q K N G V L ad ls X ha hn0 hk0 hy0 (lv_sub hl [4, 2, 1, 5, 0] rfl) hf
    · have hf := (if_pos c_).symm.trans hf
      refine z_aload_n X.1.1 dX8_markOwnWords_35 rfl (lv_at hl 1 rfl) ?_
      refine z_iload_n X.1.1 dX8_markOwnWords_36 rfl (lv_at hl 2 rfl) ?_
      refine z_iload_n X.1.1 dX8_markOwnWords_37 rfl (lv_at hl 4 rfl) ?_
      obtain ⟨r2, hc2, hf⟩ := z_bind hf
      refine c_callVv [.int x1, .int x3] X.1 hl.1 (c_X8_markOwnWord D cy ad X.1.2.2 hy0 hc2) hy0 ⟨by decide, rfl⟩ cm_X8_59 cw_X8_markOwnWord rfl cq_X8_markOwnWord ⟨by decide, by decide⟩ (Nat.le_of_ble_eq_true rfl) rfl dX8_markOwnWords_38 ?_
      refine z_iconst (v := 0) X.1.1 dX8_markOwnWords_41 (by decide) ?_
      refine z_istore_n (lv' := [(1, .int 0), (5, .int (zsb.getD x4.toNatClampNeg 0 &&& 255)), (0, .ref (ad y0)), (2, .int x2), (3, .int x3), (4, .int x4)]) X.1.1 dX8_markOwnWords_42 rfl hl (by decide) rfl (fun ls hl => ?_)
      refine z_iconst (v := 0) X.1.1 dX8_markOwnWords_43 (by decide) ?_
      refine z_istore_n (lv' := [(2, .int 0), (1, .int 0), (5, .int (zsb.getD x4.toNatClampNeg 0 &&& 255)), (0, .ref (ad y0)), (3, .int x3), (4, .int x4)]) X.1.1 dX8_markOwnWords_44 rfl hl (by decide) rfl (fun ls hl => ?_)
      refine z_iinc (v := x3 + 1) (k0 := 4) (lv' := [(3, .int (x3 + 1)), (2, .int 0), (1, .int 0), (5, .int (zsb.getD x4.toNatClampNeg 0 &&& 255)), (0, .ref (ad y0)), (4, .int x4)]) X.1.1 dX8_markOwnWords_45 hl rfl rfl (by decide) rfl (fun ls hl => ?_)
      refine z_goto (tgt := 68) X.1.1 dX8_markOwnWords_48 (by decide) ?_
      refine z_iinc (v := x4 + 1) (k0 := 5) (lv' := [(4, .int (x4 + 1)), (3, .int (x3 + 1)), (2, .int 0), (1, .int 0), (5, .int (zsb.getD x4.toNatClampNeg 0 &&& 255)), (0, .ref (ad y0))]) X.1.1 dX8_markOwnWords_68 hl rfl rfl (by decide) rfl (fun ls hl => ?_)
      refine z_goto (tgt := 9) X.1.1 dX8_markOwnWords_71 (by decide) ?_
      exact hk9 y0 0 0 (x3 + 1) (x4 + 1) n c q K N G r2.1 r2.2 ad ls X ha hn0 hk0 hy0 (lv_sub hl [5, 3, 2, 1, 0] rfl) hf

set_option maxHeartbeats 4000000 in
set_option maxRecDepth 100000 in
theorem w_X8_markOwnWords {M : zM} {D : va_G} {cy : Nat → ClassId} {ad0 K0 : Nat → Nat} {n0 : Nat} {r' : zS} (Z : RZAv M D cy ad0 n0 K0 r') (hC : M.2.2.2.1.cells = r'.2.1 ∧ M.2.2.2.1.slots = r'.2.2.1) {sa sb : Nat} (hT : zTf M sa sb) (y0 : Nat) (n c q : Nat) (K N : Nat → Nat) (G : zG) (V : zI) (L : zL) (ad : Nat → Nat) (ls : Array Slot) (X : RXA M D cy ad n c q K N G cX8_markOwnWords 6 RX8 4 90) (ha : ∀ w, w < n0 → ad w = ad0 w) (hn0 : n0 ≤ n) (hk0 : ∀ w, w < n0 → K w = K0 w) (hy0 : y0 < n ∧ K y0 = 6) (hl : lv_has ls 6 [(0, .ref (ad y0))]) (hf : g_X8_markOwnWords y0 n c q K N G V L = some r') : RG (zMb M c q) (zC D cy ad n K N G) V L 0 ls [] := by
  unfold g_X8_markOwnWords at hf
  refine z_iconst (v := 0) X.1.1 dX8_markOwnWords_0 (by decide) ?_
  refine z_istore_n (lv' := [(1, .int 0), (0, .ref (ad y0))]) X.1.1 dX8_markOwnWords_1 rfl hl (by decide) rfl (fun ls hl => ?_)
  refine z_iconst (v := 0) X.1.1 dX8_markOwnWords_2 (by decide) ?_
  refine z_istore_n (lv' := [(2, .int 0), (1, .int 0), (0, .ref (ad y0))]) X.1.1 dX8_markOwnWords_3 rfl hl (by decide) rfl (fun ls hl => ?_)
  refine z_iconst (v := 0) X.1.1 dX8_markOwnWords_4 (by decide) ?_
  refine z_istore_n (lv' := [(3, .int 0), (2, .int 0), (1, .int 0), (0, .ref (ad y0))]) X.1.1 dX8_markOwnWords_5 rfl hl (by decide) rfl (fun ls hl => ?_)
  refine z_iconst (v := 0) X.1.1 dX8_markOwnWords_6 (by decide) ?_
  refine z_istore (lv' := [(4, .int 0), (3, .int 0), (2, .int 0), (1, .int 0), (0, .ref (ad y0))]) X.1.1 dX8_markOwnWords_7 hl (by decide) rfl (fun ls hl => ?_)
  exact w_X8_markOwnWords_9 Z hC hT FU y0 0 0 0 0 n c q K N G V L ad ls X ha hn0 hk0 hy0 (lv_sub hl [4, 3, 2, 1, 0] rfl) hf

theorem c_X8_markOwnWords (D : va_G) (cy : Nat → ClassId) (ad : Nat → Nat) {n : Nat} {K N : Nat → Nat} {G : zG} (hWF : zWF n K G) {y0 : Nat} {V : zI} {L : zL} (hy0 : y0 < n ∧ K y0 = 6) {r' : zS} {sa sb : Nat} (hf : f_X8_markOwnWords y0 n K N G V L = some r') : RTv sa sb D cy ad n K N G yX8_markOwnWords cX8_markOwnWords 6 4 90 [.ref (ad y0)] V L r' :=
  RTv.of (by decide) hWF (Nat.le_of_ble_eq_true rfl) (fun M X Z hC hnm hT ls hl => w_X8_markOwnWords Z hC hT y0 n 0 0 K N G V L ad ls X (fun _ _ => rfl) (Nat.le_refl _) (fun _ _ => rfl) hy0 hl hf)
def f_X8_split_112 (k5 : Nat × Nat × Int32 × Int32 × Int32 × zS → Option (zS)) (y0 : Nat) (y1 : Nat) (x2 : Int32) (x4 : Int32) (x6 : Int32) (n c q : Nat) (K N : Nat → Nat) (G : zG) (V : zI) (L : zL) : Option (zS) :=
  (f_X8_spoil N G y0 x4 V L).bind fun r1 => k5 (y0, y1, x2, x6, (x4 + 1), n, c, q, K, N, G, r1.1, r1.2)
def f_X8_split_78 (k5 : Nat × Nat × Int32 × Int32 × Int32 × zS → Option (zS)) (y0 : Nat) (y1 : Nat) (x2 : Int32) (x3 : Int32) (x4 : Int32) (x5 : Int32) (x6 : Int32) (x7 : Int32) (n c q : Nat) (K N : Nat → Nat) (G : zG) (V : zI) (L : zL) : Option (zS) :=
  (if x7 = 0 then (if x6 = 1 then (f_X8_add N G y0 1 x5 x4 V L).bind fun r1 => k5 (y0, y1, x2, x6, (x4 + 1), n, c, q, K, N, G, r1.1, r1.2) else k5 (y0, y1, x2, x6, (x4 + 1), n, c, q, K, N, G, V, L)) else (f_X8_add N G y0 x6 0 x4 V L).bind fun r2 => (f_X8_lengthen N G y0 x6 x5 x4 r2.1 r2.2).bind fun r3 => (if x3 = 3 then f_X8_split_112 k5 y0 y1 x2 x4 x6 n c q K N G r3.1 r3.2 else (if x3 = 2 then f_X8_split_112 k5 y0 y1 x2 x4 x6 n c q K N G r3.1 r3.2 else k5 (y0, y1, x2, x6, (x4 + 1), n, c, q, K, N, G, r3.1, r3.2))))
def f_X8_split_52 (k5 : Nat × Nat × Int32 × Int32 × Int32 × zS → Option (zS)) (y0 : Nat) (y1 : Nat) (x2 : Int32) (x3 : Int32) (x4 : Int32) (x5 : Int32) (x6 : Int32) (s0 : Int32) (n c q : Nat) (K N : Nat → Nat) (G : zG) (V : zI) (L : zL) : Option (zS) :=
  (if s0 = 0 then f_X8_split_78 k5 y0 y1 x2 x3 x4 x5 x6 s0 n c q K N G V L else (if x6 = x3 then (f_X8_lengthen N G y0 x6 x5 x4 V L).bind fun r1 => k5 (y0, y1, x2, x6, (x4 + 1), n, c, q, K, N, G, r1.1, r1.2) else f_X8_split_78 k5 y0 y1 x2 x3 x4 x5 x6 s0 n c q K N G V L))
def f_X8_split_47 (k5 : Nat × Nat × Int32 × Int32 × Int32 × zS → Option (zS)) (y0 : Nat) (y1 : Nat) (x2 : Int32) (x3 : Int32) (x4 : Int32) (x5 : Int32) (x6 : Int32) (n c q : Nat) (K N : Nat → Nat) (G : zG) (V : zI) (L : zL) : Option (zS) :=
  f_X8_split_52 k5 y0 y1 x2 x3 x4 x5 x6 1 n c q K N G V L
def f_X8_split_156 (n c q : Nat) (K N : Nat → Nat) (G : zG) (V : zI) (L : zL) : Option (zS) :=
  some (n, c, q, K, N, G, V, L)
def f_X8_split_145 (y0 : Nat) (x2 : Int32) (n c q : Nat) (K N : Nat → Nat) (G : zG) (V : zI) (L : zL) : Option (zS) :=
  (f_X8_add N G y0 0 0 x2 V L).bind fun r1 => (f_X8_markOwnWords y0 n K N G r1.1 r1.2).bind fun r2 => f_X8_split_156 r2.1 (c + r2.2.1) (q + r2.2.2.1) r2.2.2.2.1 r2.2.2.2.2.1 r2.2.2.2.2.2.1 r2.2.2.2.2.2.2.1 r2.2.2.2.2.2.2.2
def b_X8_split_5 (k5 : Nat × Nat × Int32 × Int32 × Int32 × zS → Option (zS)) : Nat × Nat × Int32 × Int32 × Int32 × zS → Option (zS) := fun ⟨y0, y1, x2, x3, x4, n, c, q, K, N, G, V, L⟩ =>
  (if x2 ≤ x4 then f_X8_split_145 y0 x2 n c q K N G V L else (if (Int32.ofNat (N y1)) ≤ x4 then f_X8_split_145 y0 x2 n c q K N G V L else if inB x4 (N y1) then (f_X8_kindOf ((V y1 x4.toNatClampNeg) &&& 255)).bind fun r2 => (if r2 = 3 then f_X8_split_47 k5 y0 y1 x2 x3 x4 ((V y1 x4.toNatClampNeg) &&& 255) r2 n c q K N G V L else (if r2 = 2 then f_X8_split_47 k5 y0 y1 x2 x3 x4 ((V y1 x4.toNatClampNeg) &&& 255) r2 n c q K N G V L else f_X8_split_52 k5 y0 y1 x2 x3 x4 ((V y1 x4.toNatClampNeg) &&& 255) r2 0 n c q K N G V L)) else none))
def g_X8_split (y0 : Nat) (y1 : Nat) (x2 : Int32) (n c q : Nat) (K N : Nat → Nat) (G : zG) (V : zI) (L : zL) : Option (zS) :=
  zfix (b_X8_split_5) FU (y0, y1, x2, 0, 0, n, c, q, K, N, G, V, L)
def f_X8_split (y0 : Nat) (y1 : Nat) (x2 : Int32) (n : Nat) (K N : Nat → Nat) (G : zG) (V : zI) (L : zL) : Option (zS) := g_X8_split y0 y1 x2 n 0 0 K N G V L
set_option maxHeartbeats 4000000 in
set_option maxRecDepth 100000 in
theorem m_X8_split_112 {k5 : Nat × Nat × Int32 × Int32 × Int32 × zS → Option (zS)} (hm5 : ∀ (y0 : Nat) (y1 : Nat) (x2 : Int32) (x3 : Int32) (x4 : Int32) (n c q : Nat) (K N : Nat → Nat) (G : zG) (V : zI) (L : zL) {r' : zS}, k5 (y0, y1, x2, x3, x4, n, c, q, K, N, G, V, L) = some r' → c ≤ r'.2.1 ∧ q ≤ r'.2.2.1) (y0 : Nat) (y1 : Nat) (x2 : Int32) (x4 : Int32) (x6 : Int32) (n c q : Nat) (K N : Nat → Nat) (G : zG) (V : zI) (L : zL) {r' : zS} (hf : f_X8_split_112 k5 y0 y1 x2 x4 x6 n c q K N G V L = some r') : c ≤ r'.2.1 ∧ q ≤ r'.2.2.1 := by
  unfold f_X8_split_112 at hf
  obtain ⟨r1, hc1, hf⟩ := z_bind hf
  exact hm5 y0 y1 x2 x6 (x4 + 1) n c q K N G r1.1 r1.2 hf

set_option maxHeartbeats 4000000 in
set_option maxRecDepth 100000 in
theorem m_X8_split_78 {k5 : Nat × Nat × Int32 × Int32 × Int32 × zS → Option (zS)} (hm5 : ∀ (y0 : Nat) (y1 : Nat) (x2 : Int32) (x3 : Int32) (x4 : Int32) (n c q : Nat) (K N : Nat → Nat) (G : zG) (V : zI) (L : zL) {r' : zS}, k5 (y0, y1, x2, x3, x4, n, c, q, K, N, G, V, L) = some r' → c ≤ r'.2.1 ∧ q ≤ r'.2.2.1) (y0 : Nat) (y1 : Nat) (x2 : Int32) (x3 : Int32) (x4 : Int32) (x5 : Int32) (x6 : Int32) (x7 : Int32) (n c q : Nat) (K N : Nat → Nat) (G : zG) (V : zI) (L : zL) {r' : zS} (hf : f_X8_split_78 k5 y0 y1 x2 x3 x4 x5 x6 x7 n c q K N G V L = some r') : c ≤ r'.2.1 ∧ q ≤ r'.2.2.1 := by
  unfold f_X8_split_78 at hf
  rcases z_iteE hf with hf | hf
  ·
    rcases z_iteE hf with hf | hf
    ·
      obtain ⟨r1, hc1, hf⟩ := z_bind hf
      exact hm5 y0 y1 x2 x6 (x4 + 1) n c q K N G r1.1 r1.2 hf
    ·
      exact hm5 y0 y1 x2 x6 (x4 + 1) n c q K N G V L hf
  ·
    obtain ⟨r2, hc2, hf⟩ := z_bind hf
    obtain ⟨r3, hc3, hf⟩ := z_bind hf
    rcases z_iteE hf with hf | hf
    ·
      exact m_X8_split_112 hm5 y0 y1 x2 x4 x6 n c q K N G r3.1 r3.2 hf
    ·
      rcases z_iteE hf with hf | hf
      ·
        exact m_X8_split_112 hm5 y0 y1 x2 x4 x6 n c q K N G r3.1 r3.2 hf
      ·
        exact hm5 y0 y1 x2 x6 (x4 + 1) n c q K N G r3.1 r3.2 hf

set_option maxHeartbeats 4000000 in
set_option maxRecDepth 100000 in
theorem m_X8_split_52 {k5 : Nat × Nat × Int32 × Int32 × Int32 × zS → Option (zS)} (hm5 : ∀ (y0 : Nat) (y1 : Nat) (x2 : Int32) (x3 : Int32) (x4 : Int32) (n c q : Nat) (K N : Nat → Nat) (G : zG) (V : zI) (L : zL) {r' : zS}, k5 (y0, y1, x2, x3, x4, n, c, q, K, N, G, V, L) = some r' → c ≤ r'.2.1 ∧ q ≤ r'.2.2.1) (y0 : Nat) (y1 : Nat) (x2 : Int32) (x3 : Int32) (x4 : Int32) (x5 : Int32) (x6 : Int32) (s0 : Int32) (n c q : Nat) (K N : Nat → Nat) (G : zG) (V : zI) (L : zL) {r' : zS} (hf : f_X8_split_52 k5 y0 y1 x2 x3 x4 x5 x6 s0 n c q K N G V L = some r') : c ≤ r'.2.1 ∧ q ≤ r'.2.2.1 := by
  unfold f_X8_split_52 at hf
  rcases z_iteE hf with hf | hf
  ·
    exact m_X8_split_78 hm5 y0 y1 x2 x3 x4 x5 x6 s0 n c q K N G V L hf
  ·
    rcases z_iteE hf with hf | hf
    ·
      obtain ⟨r1, hc1, hf⟩ := z_bind hf
      exact hm5 y0 y1 x2 x6 (x4 + 1) n c q K N G r1.1 r1.2 hf
    ·
      exact m_X8_split_78 hm5 y0 y1 x2 x3 x4 x5 x6 s0 n c q K N G V L hf

set_option maxHeartbeats 4000000 in
set_option maxRecDepth 100000 in
theorem m_X8_split_47 {k5 : Nat × Nat × Int32 × Int32 × Int32 × zS → Option (zS)} (hm5 : ∀ (y0 : Nat) (y1 : Nat) (x2 : Int32) (x3 : Int32) (x4 : Int32) (n c q : Nat) (K N : Nat → Nat) (G : zG) (V : zI) (L : zL) {r' : zS}, k5 (y0, y1, x2, x3, x4, n, c, q, K, N, G, V, L) = some r' → c ≤ r'.2.1 ∧ q ≤ r'.2.2.1) (y0 : Nat) (y1 : Nat) (x2 : Int32) (x3 : Int32) (x4 : Int32) (x5 : Int32) (x6 : Int32) (n c q : Nat) (K N : Nat → Nat) (G : zG) (V : zI) (L : zL) {r' : zS} (hf : f_X8_split_47 k5 y0 y1 x2 x3 x4 x5 x6 n c q K N G V L = some r') : c ≤ r'.2.1 ∧ q ≤ r'.2.2.1 := by
  unfold f_X8_split_47 at hf
  exact m_X8_split_52 hm5 y0 y1 x2 x3 x4 x5 x6 1 n c q K N G V L hf

set_option maxHeartbeats 4000000 in
set_option maxRecDepth 100000 in
theorem m_X8_split_156 (n c q : Nat) (K N : Nat → Nat) (G : zG) (V : zI) (L : zL) {r' : zS} (hf : f_X8_split_156 n c q K N G V L = some r') : c ≤ r'.2.1 ∧ q ≤ r'.2.2.1 := by
  unfold f_X8_split_156 at hf
  cases hf
  exact ⟨Nat.le_refl _, Nat.le_refl _⟩

set_option maxHeartbeats 4000000 in
set_option maxRecDepth 100000 in
theorem m_X8_split_145 (y0 : Nat) (x2 : Int32) (n c q : Nat) (K N : Nat → Nat) (G : zG) (V : zI) (L : zL) {r' : zS} (hf : f_X8_split_145 y0 x2 n c q K N G V L = some r') : c ≤ r'.2.1 ∧ q ≤ r'.2.2.1 := by
  unfold f_X8_split_145 at hf
  obtain ⟨r1, hc1, hf⟩ := z_bind hf
  obtain ⟨r2, hc2, hf⟩ := z_bind hf
  have hm := m_X8_split_156 r2.1 (c + r2.2.1) (q + r2.2.2.1) r2.2.2.2.1 r2.2.2.2.2.1 r2.2.2.2.2.2.1 r2.2.2.2.2.2.2.1 r2.2.2.2.2.2.2.2 hf
  exact ⟨by omega, by omega⟩

set_option maxHeartbeats 4000000 in
set_option maxRecDepth 100000 in
theorem m_X8_split_5 (nn : Nat) : ∀ (y0 : Nat) (y1 : Nat) (x2 : Int32) (x3 : Int32) (x4 : Int32) (n c q : Nat) (K N : Nat → Nat) (G : zG) (V : zI) (L : zL) {r' : zS}, zfix (b_X8_split_5) nn (y0, y1, x2, x3, x4, n, c, q, K, N, G, V, L) = some r' → c ≤ r'.2.1 ∧ q ≤ r'.2.2.1 := by
  induction nn with
  | zero => intro y0 y1 x2 x3 x4 n c q K N G V L r' hf; cases hf
  | succ nn ih =>
  intro y0 y1 x2 x3 x4 n c q K N G V L r' hf
  have hm5 : ∀ (y0 : Nat) (y1 : Nat) (x2 : Int32) (x3 : Int32) (x4 : Int32) (n c q : Nat) (K N : Nat → Nat) (G : zG) (V : zI) (L : zL) {r' : zS}, zfix (b_X8_split_5) nn (y0, y1, x2, x3, x4, n, c, q, K, N, G, V, L) = some r' → c ≤ r'.2.1 ∧ q ≤ r'.2.2.1 := ih
  have hf : b_X8_split_5 (zfix (b_X8_split_5) nn) (y0, y1, x2, x3, x4, n, c, q, K, N, G, V, L) = some r' := hf
  generalize zfix (b_X8_split_5) nn = k5 at hm5 hf
  clear ih
  unfold b_X8_split_5 at hf
  rcases z_iteE hf with hf | hf
  ·
    exact m_X8_split_145 y0 x2 n c q K N G V L hf
  ·
    rcases z_iteE hf with hf | hf
    ·
      exact m_X8_split_145 y0 x2 n c q K N G V L hf
    ·
      obtain ⟨hb1, hf⟩ := z_ite hf
      obtain ⟨r2, hc2, hf⟩ := z_bind hf
      rcases z_iteE hf with hf | hf
      ·
        exact m_X8_split_47 hm5 y0 y1 x2 x3 x4 ((V y1 x4.toNatClampNeg) &&& 255) r2 n c q K N G V L hf
      ·
        rcases z_iteE hf with hf | hf
        ·
          exact m_X8_split_47 hm5 y0 y1 x2 x3 x4 ((V y1 x4.toNatClampNeg) &&& 255) r2 n c q K N G V L hf
        ·
          exact m_X8_split_52 hm5 y0 y1 x2 x3 x4 ((V y1 x4.toNatClampNeg) &&& 255) r2 0 n c q K N G V L hf

set_option maxHeartbeats 4000000 in
set_option maxRecDepth 100000 in
theorem w_X8_split_112 {M : zM} {D : va_G} {cy : Nat → ClassId} {ad0 K0 : Nat → Nat} {n0 : Nat} {r' : zS} (Z : RZAv M D cy ad0 n0 K0 r') (hC : M.2.2.2.1.cells = r'.2.1 ∧ M.2.2.2.1.slots = r'.2.2.1) {sa sb : Nat} (hT : zTf M sa sb) {k5 : Nat × Nat × Int32 × Int32 × Int32 × zS → Option (zS)} (hk5 : ∀ (y0 : Nat) (y1 : Nat) (x2 : Int32) (x3 : Int32) (x4 : Int32) (n c q : Nat) (K N : Nat → Nat) (G : zG) (V : zI) (L : zL) (ad : Nat → Nat) (ls : Array Slot) (X : RXA M D cy ad n c q K N G cX8_split 8 RX8 5 115) (ha : ∀ w, w < n0 → ad w = ad0 w) (hn0 : n0 ≤ n) (hk0 : ∀ w, w < n0 → K w = K0 w) (hy0 : y0 < n ∧ K y0 = 6) (hy1 : y1 < n ∧ K y1 = 101) (hl : lv_has ls 8 [(0, .ref (ad y0)), (1, .ref (ad y1)), (2, .int x2), (3, .int x3), (4, .int x4)]) (hf : k5 (y0, y1, x2, x3, x4, n, c, q, K, N, G, V, L) = some r'), RG (zMb M c q) (zC D cy ad n K N G) V L 5 ls []) (hm5 : ∀ (y0 : Nat) (y1 : Nat) (x2 : Int32) (x3 : Int32) (x4 : Int32) (n c q : Nat) (K N : Nat → Nat) (G : zG) (V : zI) (L : zL) {r' : zS}, k5 (y0, y1, x2, x3, x4, n, c, q, K, N, G, V, L) = some r' → c ≤ r'.2.1 ∧ q ≤ r'.2.2.1) (y0 : Nat) (y1 : Nat) (x2 : Int32) (x4 : Int32) (x6 : Int32) (n c q : Nat) (K N : Nat → Nat) (G : zG) (V : zI) (L : zL) (ad : Nat → Nat) (ls : Array Slot) (X : RXA M D cy ad n c q K N G cX8_split 8 RX8 5 115) (ha : ∀ w, w < n0 → ad w = ad0 w) (hn0 : n0 ≤ n) (hk0 : ∀ w, w < n0 → K w = K0 w) (hy0 : y0 < n ∧ K y0 = 6) (hy1 : y1 < n ∧ K y1 = 101) (hl : lv_has ls 8 [(0, .ref (ad y0)), (1, .ref (ad y1)), (2, .int x2), (4, .int x4), (6, .int x6)]) (hf : f_X8_split_112 k5 y0 y1 x2 x4 x6 n c q K N G V L = some r') : RG (zMb M c q) (zC D cy ad n K N G) V L 112 ls [] := by
  unfold f_X8_split_112 at hf
  refine z_aload_n X.1.1 dX8_split_112 rfl (lv_at hl 0 rfl) ?_
  refine z_iload X.1.1 dX8_split_113 (lv_at hl 3 rfl) ?_
  obtain ⟨r1, hc1, hf⟩ := z_bind hf
  refine c_callVv [.int x4] X.1 hl.1 (c_X8_spoil D cy ad X.1.2.2 hy0 hc1) hy0 ⟨by decide, rfl⟩ cm_X8_40 cw_X8_spoil rfl cq_X8_spoil ⟨by decide, by decide⟩ (Nat.le_of_ble_eq_true rfl) rfl dX8_split_115 ?_
  refine z_goto (tgt := 136) X.1.1 dX8_split_118 (by decide) ?_
  refine z_iload X.1.1 dX8_split_136 (lv_at hl 4 rfl) ?_
  refine z_istore_n (lv' := [(3, .int x6), (0, .ref (ad y0)), (1, .ref (ad y1)), (2, .int x2), (4, .int x4), (6, .int x6)]) X.1.1 dX8_split_138 rfl hl (by decide) rfl (fun ls hl => ?_)
  refine z_iinc (v := x4 + 1) (k0 := 4) (lv' := [(4, .int (x4 + 1)), (3, .int x6), (0, .ref (ad y0)), (1, .ref (ad y1)), (2, .int x2), (6, .int x6)]) X.1.1 dX8_split_139 hl rfl rfl (by decide) rfl (fun ls hl => ?_)
  refine z_goto (tgt := 5) X.1.1 dX8_split_142 (by decide) ?_
  exact hk5 y0 y1 x2 x6 (x4 + 1) n c q K N G r1.1 r1.2 ad ls X ha hn0 hk0 hy0 hy1 (lv_sub hl [2, 3, 4, 1, 0] rfl) hf

set_option maxHeartbeats 4000000 in
set_option maxRecDepth 100000 in
theorem w_X8_split_78 {M : zM} {D : va_G} {cy : Nat → ClassId} {ad0 K0 : Nat → Nat} {n0 : Nat} {r' : zS} (Z : RZAv M D cy ad0 n0 K0 r') (hC : M.2.2.2.1.cells = r'.2.1 ∧ M.2.2.2.1.slots = r'.2.2.1) {sa sb : Nat} (hT : zTf M sa sb) {k5 : Nat × Nat × Int32 × Int32 × Int32 × zS → Option (zS)} (hk5 : ∀ (y0 : Nat) (y1 : Nat) (x2 : Int32) (x3 : Int32) (x4 : Int32) (n c q : Nat) (K N : Nat → Nat) (G : zG) (V : zI) (L : zL) (ad : Nat → Nat) (ls : Array Slot) (X : RXA M D cy ad n c q K N G cX8_split 8 RX8 5 115) (ha : ∀ w, w < n0 → ad w = ad0 w) (hn0 : n0 ≤ n) (hk0 : ∀ w, w < n0 → K w = K0 w) (hy0 : y0 < n ∧ K y0 = 6) (hy1 : y1 < n ∧ K y1 = 101) (hl : lv_has ls 8 [(0, .ref (ad y0)), (1, .ref (ad y1)), (2, .int x2), (3, .int x3), (4, .int x4)]) (hf : k5 (y0, y1, x2, x3, x4, n, c, q, K, N, G, V, L) = some r'), RG (zMb M c q) (zC D cy ad n K N G) V L 5 ls []) (hm5 : ∀ (y0 : Nat) (y1 : Nat) (x2 : Int32) (x3 : Int32) (x4 : Int32) (n c q : Nat) (K N : Nat → Nat) (G : zG) (V : zI) (L : zL) {r' : zS}, k5 (y0, y1, x2, x3, x4, n, c, q, K, N, G, V, L) = some r' → c ≤ r'.2.1 ∧ q ≤ r'.2.2.1) (y0 : Nat) (y1 : Nat) (x2 : Int32) (x3 : Int32) (x4 : Int32) (x5 : Int32) (x6 : Int32) (x7 : Int32) (n c q : Nat) (K N : Nat → Nat) (G : zG) (V : zI) (L : zL) (ad : Nat → Nat) (ls : Array Slot) (X : RXA M D cy ad n c q K N G cX8_split 8 RX8 5 115) (ha : ∀ w, w < n0 → ad w = ad0 w) (hn0 : n0 ≤ n) (hk0 : ∀ w, w < n0 → K w = K0 w) (hy0 : y0 < n ∧ K y0 = 6) (hy1 : y1 < n ∧ K y1 = 101) (hl : lv_has ls 8 [(0, .ref (ad y0)), (1, .ref (ad y1)), (2, .int x2), (3, .int x3), (4, .int x4), (5, .int x5), (6, .int x6), (7, .int x7)]) (hf : f_X8_split_78 k5 y0 y1 x2 x3 x4 x5 x6 x7 n c q K N G V L = some r') : RG (zMb M c q) (zC D cy ad n K N G) V L 78 ls [] := by
  unfold f_X8_split_78 at hf
  refine z_iload X.1.1 dX8_split_78 (lv_at hl 7 rfl) ?_
  refine z_if_eq (tgt := 121) X.1.1 dX8_split_80 (by decide) (fun c_ => ?_) (fun c_ => ?_)
  · have hf := (if_pos c_).symm.trans hf
    refine z_iload X.1.1 dX8_split_121 (lv_at hl 6 rfl) ?_
    refine z_iconst (v := 1) X.1.1 dX8_split_123 (by decide) ?_
    refine z_icmp_ne (tgt := 136) X.1.1 dX8_split_124 (by decide) (fun c_ => ?_) (fun c_ => ?_)
    · have hf := (if_neg c_).symm.trans hf
      refine z_iload X.1.1 dX8_split_136 (lv_at hl 6 rfl) ?_
      refine z_istore_n (lv' := [(3, .int x6), (0, .ref (ad y0)), (1, .ref (ad y1)), (2, .int x2), (4, .int x4), (5, .int x5), (6, .int x6), (7, .int x7)]) X.1.1 dX8_split_138 rfl hl (by decide) rfl (fun ls hl => ?_)
      refine z_iinc (v := x4 + 1) (k0 := 4) (lv' := [(4, .int (x4 + 1)), (3, .int x6), (0, .ref (ad y0)), (1, .ref (ad y1)), (2, .int x2), (5, .int x5), (6, .int x6), (7, .int x7)]) X.1.1 dX8_split_139 hl rfl rfl (by decide) rfl (fun ls hl => ?_)
      refine z_goto (tgt := 5) X.1.1 dX8_split_142 (by decide) ?_
      exact hk5 y0 y1 x2 x6 (x4 + 1) n c q K N G V L ad ls X ha hn0 hk0 hy0 hy1 (lv_sub hl [2, 3, 4, 1, 0] rfl) hf
    · have hf := (if_pos c_).symm.trans hf
      refine z_aload_n X.1.1 dX8_split_127 rfl (lv_at hl 0 rfl) ?_
      refine z_iconst (v := 1) X.1.1 dX8_split_128 (by decide) ?_
      refine z_iload X.1.1 dX8_split_129 (lv_at hl 5 rfl) ?_
      refine z_iload X.1.1 dX8_split_131 (lv_at hl 4 rfl) ?_
      obtain ⟨r1, hc1, hf⟩ := z_bind hf
      refine c_callVv [.int 1, .int x5, .int x4] X.1 hl.1 (c_X8_add D cy ad X.1.2.2 hy0 hc1) hy0 ⟨by decide, rfl⟩ cm_X8_37 cw_X8_add rfl cq_X8_add ⟨by decide, by decide⟩ (Nat.le_of_ble_eq_true rfl) rfl dX8_split_133 ?_
      refine z_iload X.1.1 dX8_split_136 (lv_at hl 6 rfl) ?_
      refine z_istore_n (lv' := [(3, .int x6), (0, .ref (ad y0)), (1, .ref (ad y1)), (2, .int x2), (4, .int x4), (5, .int x5), (6, .int x6), (7, .int x7)]) X.1.1 dX8_split_138 rfl hl (by decide) rfl (fun ls hl => ?_)
      refine z_iinc (v := x4 + 1) (k0 := 4) (lv' := [(4, .int (x4 + 1)), (3, .int x6), (0, .ref (ad y0)), (1, .ref (ad y1)), (2, .int x2), (5, .int x5), (6, .int x6), (7, .int x7)]) X.1.1 dX8_split_139 hl rfl rfl (by decide) rfl (fun ls hl => ?_)
      refine z_goto (tgt := 5) X.1.1 dX8_split_142 (by decide) ?_
      exact hk5 y0 y1 x2 x6 (x4 + 1) n c q K N G r1.1 r1.2 ad ls X ha hn0 hk0 hy0 hy1 (lv_sub hl [2, 3, 4, 1, 0] rfl) hf
  · have hf := (if_neg c_).symm.trans hf
    refine z_aload_n X.1.1 dX8_split_83 rfl (lv_at hl 0 rfl) ?_
    refine z_iload X.1.1 dX8_split_84 (lv_at hl 6 rfl) ?_
    refine z_iconst (v := 0) X.1.1 dX8_split_86 (by decide) ?_
    refine z_iload X.1.1 dX8_split_87 (lv_at hl 4 rfl) ?_
    obtain ⟨r2, hc2, hf⟩ := z_bind hf
    refine c_callVv [.int x6, .int 0, .int x4] X.1 hl.1 (c_X8_add D cy ad X.1.2.2 hy0 hc2) hy0 ⟨by decide, rfl⟩ cm_X8_37 cw_X8_add rfl cq_X8_add ⟨by decide, by decide⟩ (Nat.le_of_ble_eq_true rfl) rfl dX8_split_89 ?_
    refine z_aload_n X.1.1 dX8_split_92 rfl (lv_at hl 0 rfl) ?_
    refine z_iload X.1.1 dX8_split_93 (lv_at hl 6 rfl) ?_
    refine z_iload X.1.1 dX8_split_95 (lv_at hl 5 rfl) ?_
    refine z_iload X.1.1 dX8_split_97 (lv_at hl 4 rfl) ?_
    obtain ⟨r3, hc3, hf⟩ := z_bind hf
    refine c_callVv [.int x6, .int x5, .int x4] X.1 hl.1 (c_X8_lengthen D cy ad X.1.2.2 hy0 hc3) hy0 ⟨by decide, rfl⟩ cm_X8_33 cw_X8_lengthen rfl cq_X8_lengthen ⟨by decide, by decide⟩ (Nat.le_of_ble_eq_true rfl) rfl dX8_split_99 ?_
    refine z_iload_n X.1.1 dX8_split_102 rfl (lv_at hl 3 rfl) ?_
    refine z_iconst (v := 3) X.1.1 dX8_split_103 (by decide) ?_
    refine z_icmp_eq (tgt := 112) X.1.1 dX8_split_104 (by decide) (fun c_ => ?_) (fun c_ => ?_)
    · have hf := (if_pos c_).symm.trans hf
      exact w_X8_split_112 Z hC hT hk5 hm5 y0 y1 x2 x4 x6 n c q K N G r3.1 r3.2 ad ls X ha hn0 hk0 hy0 hy1 (lv_sub hl [0, 1, 2, 4, 6] rfl) hf
    · have hf := (if_neg c_).symm.trans hf
      refine z_iload_n X.1.1 dX8_split_107 rfl (lv_at hl 3 rfl) ?_
      refine z_iconst (v := 2) X.1.1 dX8_split_108 (by decide) ?_
      refine z_icmp_ne (tgt := 136) X.1.1 dX8_split_109 (by decide) (fun c_ => ?_) (fun c_ => ?_)
      · have hf := (if_neg c_).symm.trans hf
        refine z_iload X.1.1 dX8_split_136 (lv_at hl 6 rfl) ?_
        refine z_istore_n (lv' := [(3, .int x6), (0, .ref (ad y0)), (1, .ref (ad y1)), (2, .int x2), (4, .int x4), (5, .int x5), (6, .int x6), (7, .int x7)]) X.1.1 dX8_split_138 rfl hl (by decide) rfl (fun ls hl => ?_)
        refine z_iinc (v := x4 + 1) (k0 := 4) (lv' := [(4, .int (x4 + 1)), (3, .int x6), (0, .ref (ad y0)), (1, .ref (ad y1)), (2, .int x2), (5, .int x5), (6, .int x6), (7, .int x7)]) X.1.1 dX8_split_139 hl rfl rfl (by decide) rfl (fun ls hl => ?_)
        refine z_goto (tgt := 5) X.1.1 dX8_split_142 (by decide) ?_
        exact hk5 y0 y1 x2 x6 (x4 + 1) n c q K N G r3.1 r3.2 ad ls X ha hn0 hk0 hy0 hy1 (lv_sub hl [2, 3, 4, 1, 0] rfl) hf
      · have hf := (if_pos c_).symm.trans hf
        exact w_X8_split_112 Z hC hT hk5 hm5 y0 y1 x2 x4 x6 n c q K N G r3.1 r3.2 ad ls X ha hn0 hk0 hy0 hy1 (lv_sub hl [0, 1, 2, 4, 6] rfl) hf

set_option maxHeartbeats 4000000 in
set_option maxRecDepth 100000 in
theorem w_X8_split_52 {M : zM} {D : va_G} {cy : Nat → ClassId} {ad0 K0 : Nat → Nat} {n0 : Nat} {r' : zS} (Z : RZAv M D cy ad0 n0 K0 r') (hC : M.2.2.2.1.cells = r'.2.1 ∧ M.2.2.2.1.slots = r'.2.2.1) {sa sb : Nat} (hT : zTf M sa sb) {k5 : Nat × Nat × Int32 × Int32 × Int32 × zS → Option (zS)} (hk5 : ∀ (y0 : Nat) (y1 : Nat) (x2 : Int32) (x3 : Int32) (x4 : Int32) (n c q : Nat) (K N : Nat → Nat) (G : zG) (V : zI) (L : zL) (ad : Nat → Nat) (ls : Array Slot) (X : RXA M D cy ad n c q K N G cX8_split 8 RX8 5 115) (ha : ∀ w, w < n0 → ad w = ad0 w) (hn0 : n0 ≤ n) (hk0 : ∀ w, w < n0 → K w = K0 w) (hy0 : y0 < n ∧ K y0 = 6) (hy1 : y1 < n ∧ K y1 = 101) (hl : lv_has ls 8 [(0, .ref (ad y0)), (1, .ref (ad y1)), (2, .int x2), (3, .int x3), (4, .int x4)]) (hf : k5 (y0, y1, x2, x3, x4, n, c, q, K, N, G, V, L) = some r'), RG (zMb M c q) (zC D cy ad n K N G) V L 5 ls []) (hm5 : ∀ (y0 : Nat) (y1 : Nat) (x2 : Int32) (x3 : Int32) (x4 : Int32) (n c q : Nat) (K N : Nat → Nat) (G : zG) (V : zI) (L : zL) {r' : zS}, k5 (y0, y1, x2, x3, x4, n, c, q, K, N, G, V, L) = some r' → c ≤ r'.2.1 ∧ q ≤ r'.2.2.1) (y0 : Nat) (y1 : Nat) (x2 : Int32) (x3 : Int32) (x4 : Int32) (x5 : Int32) (x6 : Int32) (s0 : Int32) (n c q : Nat) (K N : Nat → Nat) (G : zG) (V : zI) (L : zL) (ad : Nat → Nat) (ls : Array Slot) (X : RXA M D cy ad n c q K N G cX8_split 8 RX8 5 115) (ha : ∀ w, w < n0 → ad w = ad0 w) (hn0 : n0 ≤ n) (hk0 : ∀ w, w < n0 → K w = K0 w) (hy0 : y0 < n ∧ K y0 = 6) (hy1 : y1 < n ∧ K y1 = 101) (hl : lv_has ls 8 [(0, .ref (ad y0)), (1, .ref (ad y1)), (2, .int x2), (3, .int x3), (4, .int x4), (5, .int x5), (6, .int x6)]) (hf : f_X8_split_52 k5 y0 y1 x2 x3 x4 x5 x6 s0 n c q K N G V L = some r') : RG (zMb M c q) (zC D cy ad n K N G) V L 52 ls [.int s0] := by
  unfold f_X8_split_52 at hf
  refine z_istore (lv' := [(7, .int s0), (0, .ref (ad y0)), (1, .ref (ad y1)), (2, .int x2), (3, .int x3), (4, .int x4), (5, .int x5), (6, .int x6)]) X.1.1 dX8_split_52 hl (by decide) rfl (fun ls hl => ?_)
  refine z_iload X.1.1 dX8_split_54 (lv_at hl 0 rfl) ?_
  refine z_if_eq (tgt := 78) X.1.1 dX8_split_56 (by decide) (fun c_ => ?_) (fun c_ => ?_)
  · have hf := (if_pos c_).symm.trans hf
    exact w_X8_split_78 Z hC hT hk5 hm5 y0 y1 x2 x3 x4 x5 x6 s0 n c q K N G V L ad ls X ha hn0 hk0 hy0 hy1 (lv_sub hl [1, 2, 3, 4, 5, 6, 7, 0] rfl) hf
  · have hf := (if_neg c_).symm.trans hf
    refine z_iload X.1.1 dX8_split_59 (lv_at hl 7 rfl) ?_
    refine z_iload_n X.1.1 dX8_split_61 rfl (lv_at hl 4 rfl) ?_
    refine z_icmp_ne (tgt := 78) X.1.1 dX8_split_62 (by decide) (fun c_ => ?_) (fun c_ => ?_)
    · have hf := (if_neg c_).symm.trans hf
      exact w_X8_split_78 Z hC hT hk5 hm5 y0 y1 x2 x3 x4 x5 x6 s0 n c q K N G V L ad ls X ha hn0 hk0 hy0 hy1 (lv_sub hl [1, 2, 3, 4, 5, 6, 7, 0] rfl) hf
    · have hf := (if_pos c_).symm.trans hf
      refine z_aload_n X.1.1 dX8_split_65 rfl (lv_at hl 1 rfl) ?_
      refine z_iload X.1.1 dX8_split_66 (lv_at hl 7 rfl) ?_
      refine z_iload X.1.1 dX8_split_68 (lv_at hl 6 rfl) ?_
      refine z_iload X.1.1 dX8_split_70 (lv_at hl 5 rfl) ?_
      obtain ⟨r1, hc1, hf⟩ := z_bind hf
      refine c_callVv [.int x6, .int x5, .int x4] X.1 hl.1 (c_X8_lengthen D cy ad X.1.2.2 hy0 hc1) hy0 ⟨by decide, rfl⟩ cm_X8_33 cw_X8_lengthen rfl cq_X8_lengthen ⟨by decide, by decide⟩ (Nat.le_of_ble_eq_true rfl) rfl dX8_split_72 ?_
      refine z_goto (tgt := 136) X.1.1 dX8_split_75 (by decide) ?_
      refine z_iload X.1.1 dX8_split_136 (lv_at hl 7 rfl) ?_
      refine z_istore_n (lv' := [(3, .int x6), (7, .int s0), (0, .ref (ad y0)), (1, .ref (ad y1)), (2, .int x2), (4, .int x4), (5, .int x5), (6, .int x6)]) X.1.1 dX8_split_138 rfl hl (by decide) rfl (fun ls hl => ?_)
      refine z_iinc (v := x4 + 1) (k0 := 5) (lv' := [(4, .int (x4 + 1)), (3, .int x6), (7, .int s0), (0, .ref (ad y0)), (1, .ref (ad y1)), (2, .int x2), (5, .int x5), (6, .int x6)]) X.1.1 dX8_split_139 hl rfl rfl (by decide) rfl (fun ls hl => ?_)
      refine z_goto (tgt := 5) X.1.1 dX8_split_142 (by decide) ?_
      exact hk5 y0 y1 x2 x6 (x4 + 1) n c q K N G r1.1 r1.2 ad ls X ha hn0 hk0 hy0 hy1 (lv_sub hl [3, 4, 5, 1, 0] rfl) hf

set_option maxHeartbeats 4000000 in
set_option maxRecDepth 100000 in
theorem w_X8_split_47 {M : zM} {D : va_G} {cy : Nat → ClassId} {ad0 K0 : Nat → Nat} {n0 : Nat} {r' : zS} (Z : RZAv M D cy ad0 n0 K0 r') (hC : M.2.2.2.1.cells = r'.2.1 ∧ M.2.2.2.1.slots = r'.2.2.1) {sa sb : Nat} (hT : zTf M sa sb) {k5 : Nat × Nat × Int32 × Int32 × Int32 × zS → Option (zS)} (hk5 : ∀ (y0 : Nat) (y1 : Nat) (x2 : Int32) (x3 : Int32) (x4 : Int32) (n c q : Nat) (K N : Nat → Nat) (G : zG) (V : zI) (L : zL) (ad : Nat → Nat) (ls : Array Slot) (X : RXA M D cy ad n c q K N G cX8_split 8 RX8 5 115) (ha : ∀ w, w < n0 → ad w = ad0 w) (hn0 : n0 ≤ n) (hk0 : ∀ w, w < n0 → K w = K0 w) (hy0 : y0 < n ∧ K y0 = 6) (hy1 : y1 < n ∧ K y1 = 101) (hl : lv_has ls 8 [(0, .ref (ad y0)), (1, .ref (ad y1)), (2, .int x2), (3, .int x3), (4, .int x4)]) (hf : k5 (y0, y1, x2, x3, x4, n, c, q, K, N, G, V, L) = some r'), RG (zMb M c q) (zC D cy ad n K N G) V L 5 ls []) (hm5 : ∀ (y0 : Nat) (y1 : Nat) (x2 : Int32) (x3 : Int32) (x4 : Int32) (n c q : Nat) (K N : Nat → Nat) (G : zG) (V : zI) (L : zL) {r' : zS}, k5 (y0, y1, x2, x3, x4, n, c, q, K, N, G, V, L) = some r' → c ≤ r'.2.1 ∧ q ≤ r'.2.2.1) (y0 : Nat) (y1 : Nat) (x2 : Int32) (x3 : Int32) (x4 : Int32) (x5 : Int32) (x6 : Int32) (n c q : Nat) (K N : Nat → Nat) (G : zG) (V : zI) (L : zL) (ad : Nat → Nat) (ls : Array Slot) (X : RXA M D cy ad n c q K N G cX8_split 8 RX8 5 115) (ha : ∀ w, w < n0 → ad w = ad0 w) (hn0 : n0 ≤ n) (hk0 : ∀ w, w < n0 → K w = K0 w) (hy0 : y0 < n ∧ K y0 = 6) (hy1 : y1 < n ∧ K y1 = 101) (hl : lv_has ls 8 [(0, .ref (ad y0)), (1, .ref (ad y1)), (2, .int x2), (3, .int x3), (4, .int x4), (5, .int x5), (6, .int x6)]) (hf : f_X8_split_47 k5 y0 y1 x2 x3 x4 x5 x6 n c q K N G V L = some r') : RG (zMb M c q) (zC D cy ad n K N G) V L 47 ls [] := by
  unfold f_X8_split_47 at hf
  refine z_iconst (v := 1) X.1.1 dX8_split_47 (by decide) ?_
  refine z_goto (tgt := 52) X.1.1 dX8_split_48 (by decide) ?_
  exact w_X8_split_52 Z hC hT hk5 hm5 y0 y1 x2 x3 x4 x5 x6 1 n c q K N G V L ad ls X ha hn0 hk0 hy0 hy1 (lv_sub hl [0, 1, 2, 3, 4, 5, 6] rfl) hf

set_option maxHeartbeats 4000000 in
set_option maxRecDepth 100000 in
theorem w_X8_split_156 {M : zM} {D : va_G} {cy : Nat → ClassId} {ad0 K0 : Nat → Nat} {n0 : Nat} {r' : zS} (Z : RZAv M D cy ad0 n0 K0 r') (hC : M.2.2.2.1.cells = r'.2.1 ∧ M.2.2.2.1.slots = r'.2.2.1) {sa sb : Nat} (hT : zTf M sa sb) (n c q : Nat) (K N : Nat → Nat) (G : zG) (V : zI) (L : zL) (ad : Nat → Nat) (ls : Array Slot) (X : RXA M D cy ad n c q K N G cX8_split 8 RX8 5 115) (ha : ∀ w, w < n0 → ad w = ad0 w) (hn0 : n0 ≤ n) (hk0 : ∀ w, w < n0 → K w = K0 w) (hl : lv_has ls 8 []) (hf : f_X8_split_156 n c q K N G V L = some r') : RG (zMb M c q) (zC D cy ad n K N G) V L 156 ls [] := by
  unfold f_X8_split_156 at hf
  exact a_vret X Z ha hn0 hk0 hf dX8_split_156

set_option maxHeartbeats 4000000 in
set_option maxRecDepth 100000 in
theorem w_X8_split_145 {M : zM} {D : va_G} {cy : Nat → ClassId} {ad0 K0 : Nat → Nat} {n0 : Nat} {r' : zS} (Z : RZAv M D cy ad0 n0 K0 r') (hC : M.2.2.2.1.cells = r'.2.1 ∧ M.2.2.2.1.slots = r'.2.2.1) {sa sb : Nat} (hT : zTf M sa sb) (y0 : Nat) (x2 : Int32) (n c q : Nat) (K N : Nat → Nat) (G : zG) (V : zI) (L : zL) (ad : Nat → Nat) (ls : Array Slot) (X : RXA M D cy ad n c q K N G cX8_split 8 RX8 5 115) (ha : ∀ w, w < n0 → ad w = ad0 w) (hn0 : n0 ≤ n) (hk0 : ∀ w, w < n0 → K w = K0 w) (hy0 : y0 < n ∧ K y0 = 6) (hl : lv_has ls 8 [(0, .ref (ad y0)), (2, .int x2)]) (hf : f_X8_split_145 y0 x2 n c q K N G V L = some r') : RG (zMb M c q) (zC D cy ad n K N G) V L 145 ls [] := by
  unfold f_X8_split_145 at hf
  refine z_aload_n X.1.1 dX8_split_145 rfl (lv_at hl 0 rfl) ?_
  refine z_iconst (v := 0) X.1.1 dX8_split_146 (by decide) ?_
  refine z_iconst (v := 0) X.1.1 dX8_split_147 (by decide) ?_
  refine z_iload_n X.1.1 dX8_split_148 rfl (lv_at hl 1 rfl) ?_
  obtain ⟨r1, hc1, hf⟩ := z_bind hf
  refine c_callVv [.int 0, .int 0, .int x2] X.1 hl.1 (c_X8_add D cy ad X.1.2.2 hy0 hc1) hy0 ⟨by decide, rfl⟩ cm_X8_37 cw_X8_add rfl cq_X8_add ⟨by decide, by decide⟩ (Nat.le_of_ble_eq_true rfl) rfl dX8_split_149 ?_
  refine z_aload_n X.1.1 dX8_split_152 rfl (lv_at hl 0 rfl) ?_
  obtain ⟨r2, hc2, hf⟩ := z_bind hf
  have hm := m_X8_split_156 r2.1 (c + r2.2.1) (q + r2.2.2.1) r2.2.2.2.1 r2.2.2.2.2.1 r2.2.2.2.2.2.1 r2.2.2.2.2.2.2.1 r2.2.2.2.2.2.2.2 hf
  refine t_callVv [] X hl.1 hT (c_X8_markOwnWords D cy ad X.1.2.2 hy0 hc2) hy0 ⟨by decide, rfl⟩ cm_X8_44 cw_X8_markOwnWords rfl cq_X8_markOwnWords ⟨by decide, by decide⟩ (Nat.le_of_ble_eq_true rfl) rfl ⟨by rw [hC.1]; exact hm.1, by rw [hC.2]; exact hm.2⟩ dX8_split_153 (fun ad' hag hnn hKg X => ?_)
  rw [← hag y0 hy0.1] at hl
  exact w_X8_split_156 Z hC hT r2.1 (c + r2.2.1) (q + r2.2.2.1) r2.2.2.2.1 r2.2.2.2.2.1 r2.2.2.2.2.2.1 r2.2.2.2.2.2.2.1 r2.2.2.2.2.2.2.2 ad' ls X (zag_up ha hn0 hag) (by omega) (zag_up hk0 hn0 hKg)  (lv_sub hl [] rfl) hf

set_option maxHeartbeats 4000000 in
set_option maxRecDepth 100000 in
theorem w_X8_split_5 {M : zM} {D : va_G} {cy : Nat → ClassId} {ad0 K0 : Nat → Nat} {n0 : Nat} {r' : zS} (Z : RZAv M D cy ad0 n0 K0 r') (hC : M.2.2.2.1.cells = r'.2.1 ∧ M.2.2.2.1.slots = r'.2.2.1) {sa sb : Nat} (hT : zTf M sa sb) (nn : Nat) : ∀ (y0 : Nat) (y1 : Nat) (x2 : Int32) (x3 : Int32) (x4 : Int32) (n c q : Nat) (K N : Nat → Nat) (G : zG) (V : zI) (L : zL) (ad : Nat → Nat) (ls : Array Slot) (X : RXA M D cy ad n c q K N G cX8_split 8 RX8 5 115) (ha : ∀ w, w < n0 → ad w = ad0 w) (hn0 : n0 ≤ n) (hk0 : ∀ w, w < n0 → K w = K0 w) (hy0 : y0 < n ∧ K y0 = 6) (hy1 : y1 < n ∧ K y1 = 101) (hl : lv_has ls 8 [(0, .ref (ad y0)), (1, .ref (ad y1)), (2, .int x2), (3, .int x3), (4, .int x4)]) (hf : zfix (b_X8_split_5) nn (y0, y1, x2, x3, x4, n, c, q, K, N, G, V, L) = some r'), RG (zMb M c q) (zC D cy ad n K N G) V L 5 ls [] := by
  induction nn with
  | zero => intro y0 y1 x2 x3 x4 n c q K N G V L ad ls X ha hn0 hk0 hy0 hy1 hl hf; cases hf
  | succ nn ih =>
  intro y0 y1 x2 x3 x4 n c q K N G V L ad ls X ha hn0 hk0 hy0 hy1 hl hf
  have hk5 : ∀ (y0 : Nat) (y1 : Nat) (x2 : Int32) (x3 : Int32) (x4 : Int32) (n c q : Nat) (K N : Nat → Nat) (G : zG) (V : zI) (L : zL) (ad : Nat → Nat) (ls : Array Slot) (X : RXA M D cy ad n c q K N G cX8_split 8 RX8 5 115) (ha : ∀ w, w < n0 → ad w = ad0 w) (hn0 : n0 ≤ n) (hk0 : ∀ w, w < n0 → K w = K0 w) (hy0 : y0 < n ∧ K y0 = 6) (hy1 : y1 < n ∧ K y1 = 101) (hl : lv_has ls 8 [(0, .ref (ad y0)), (1, .ref (ad y1)), (2, .int x2), (3, .int x3), (4, .int x4)]) (hf : zfix (b_X8_split_5) nn (y0, y1, x2, x3, x4, n, c, q, K, N, G, V, L) = some r'), RG (zMb M c q) (zC D cy ad n K N G) V L 5 ls [] := ih
  have hm5 : ∀ (y0 : Nat) (y1 : Nat) (x2 : Int32) (x3 : Int32) (x4 : Int32) (n c q : Nat) (K N : Nat → Nat) (G : zG) (V : zI) (L : zL) {r' : zS}, zfix (b_X8_split_5) nn (y0, y1, x2, x3, x4, n, c, q, K, N, G, V, L) = some r' → c ≤ r'.2.1 ∧ q ≤ r'.2.2.1 := m_X8_split_5 nn
  have hf : b_X8_split_5 (zfix (b_X8_split_5) nn) (y0, y1, x2, x3, x4, n, c, q, K, N, G, V, L) = some r' := hf
  generalize zfix (b_X8_split_5) nn = k5 at hk5 hm5 hf
  clear ih
  unfold b_X8_split_5 at hf
  refine z_iload X.1.1 dX8_split_5 (lv_at hl 4 rfl) ?_
  refine z_iload_n X.1.1 dX8_split_7 rfl (lv_at hl 2 rfl) ?_
  refine z_icmp_ge (tgt := 145) X.1.1 dX8_split_8 (by decide) (fun c_ => ?_) (fun c_ => ?_)
  · have hf := (if_pos c_).symm.trans hf
    exact w_X8_split_145 Z hC hT y0 x2 n c q K N G V L ad ls X ha hn0 hk0 hy0 (lv_sub hl [0, 2] rfl) hf
  · have hf := (if_neg c_).symm.trans hf
    refine z_iload X.1.1 dX8_split_11 (lv_at hl 4 rfl) ?_
    refine z_aload_n X.1.1 dX8_split_13 rfl (lv_at hl 1 rfl) ?_
    refine c_alen101 X.1 hy1 dX8_split_14 ?_
    refine z_icmp_ge (tgt := 145) X.1.1 dX8_split_15 (by decide) (fun c_ => ?_) (fun c_ => ?_)
    · have hf := (if_pos c_).symm.trans hf
      exact w_X8_split_145 Z hC hT y0 x2 n c q K N G V L ad ls X ha hn0 hk0 hy0 (lv_sub hl [0, 2] rfl) hf
    · have hf := (if_neg c_).symm.trans hf
      refine z_aload_n X.1.1 dX8_split_18 rfl (lv_at hl 1 rfl) ?_
      refine z_iload X.1.1 dX8_split_19 (lv_at hl 4 rfl) ?_
      obtain ⟨hb1, hf⟩ := z_ite hf
      refine c_bald X.1 hy1 hb1 dX8_split_21 ?_
      refine z_sipush (v := 255) X.1.1 dX8_split_22 (by decide) ?_
      refine z_iand X.1.1 dX8_split_25 ?_
      refine z_istore (lv' := [(5, .int ((V y1 x4.toNatClampNeg) &&& 255)), (0, .ref (ad y0)), (1, .ref (ad y1)), (2, .int x2), (3, .int x3), (4, .int x4)]) X.1.1 dX8_split_26 hl (by decide) rfl (fun ls hl => ?_)
      refine z_iload X.1.1 dX8_split_28 (lv_at hl 0 rfl) ?_
      obtain ⟨r2, hc2, hf⟩ := z_bind hf
      refine c_callSi [.int ((V y1 x4.toNatClampNeg) &&& 255)] X.1 hl.1 (c_X8_kindOf D cy ad X.1.2.2 hc2) cm_X8_29 cw_X8_kindOf rfl cq_X8_kindOf ⟨by decide, by decide⟩ (Nat.le_of_ble_eq_true rfl) rfl dX8_split_30 ?_
      refine z_istore (lv' := [(6, .int r2), (5, .int ((V y1 x4.toNatClampNeg) &&& 255)), (0, .ref (ad y0)), (1, .ref (ad y1)), (2, .int x2), (3, .int x3), (4, .int x4)]) X.1.1 dX8_split_33 hl (by decide) rfl (fun ls hl => ?_)
      refine z_iload X.1.1 dX8_split_35 (lv_at hl 0 rfl) ?_
      refine z_iconst (v := 3) X.1.1 dX8_split_37 (by decide) ?_
      refine z_icmp_eq (tgt := 47) X.1.1 dX8_split_38 (by decide) (fun c_ => ?_) (fun c_ => ?_)
      · have hf := (if_pos c_).symm.trans hf
        exact w_X8_split_47 Z hC hT hk5 hm5 y0 y1 x2 x3 x4 ((V y1 x4.toNatClampNeg) &&& 255) r2 n c q K N G V L ad ls X ha hn0 hk0 hy0 hy1 (lv_sub hl [2, 3, 4, 5, 6, 1, 0] rfl) hf
      · have hf := (if_neg c_).symm.trans hf
        refine z_iload X.1.1 dX8_split_41 (lv_at hl 0 rfl) ?_
        refine z_iconst (v := 2) X.1.1 dX8_split_43 (by decide) ?_
        refine z_icmp_ne (tgt := 51) X.1.1 dX8_split_44 (by decide) (fun c_ => ?_) (fun c_ => ?_)
        · have hf := (if_neg c_).symm.trans hf
          refine z_iconst (v := 0) X.1.1 dX8_split_51 (by decide) ?_
          exact w_X8_split_52 Z hC hT hk5 hm5 y0 y1 x2 x3 x4 ((V y1 x4.toNatClampNeg) &&& 255) r2 0 n c q K N G V L ad ls X ha hn0 hk0 hy0 hy1 (lv_sub hl [2, 3, 4, 5, 6, 1, 0] rfl) hf
        · have hf := (if_pos c_).symm.trans hf
          exact w_X8_split_47 Z hC hT hk5 hm5 y0 y1 x2 x3 x4 ((V y1 x4.toNatClampNeg) &&& 255) r2 n c q K N G V L ad ls X ha hn0 hk0 hy0 hy1 (lv_sub hl [2, 3, 4, 5, 6, 1, 0] rfl) hf

set_option maxHeartbeats 4000000 in
set_option maxRecDepth 100000 in
theorem w_X8_split {M : zM} {D : va_G} {cy : Nat → ClassId} {ad0 K0 : Nat → Nat} {n0 : Nat} {r' : zS} (Z : RZAv M D cy ad0 n0 K0 r') (hC : M.2.2.2.1.cells = r'.2.1 ∧ M.2.2.2.1.slots = r'.2.2.1) {sa sb : Nat} (hT : zTf M sa sb) (y0 : Nat) (y1 : Nat) (x2 : Int32) (n c q : Nat) (K N : Nat → Nat) (G : zG) (V : zI) (L : zL) (ad : Nat → Nat) (ls : Array Slot) (X : RXA M D cy ad n c q K N G cX8_split 8 RX8 5 115) (ha : ∀ w, w < n0 → ad w = ad0 w) (hn0 : n0 ≤ n) (hk0 : ∀ w, w < n0 → K w = K0 w) (hy0 : y0 < n ∧ K y0 = 6) (hy1 : y1 < n ∧ K y1 = 101) (hl : lv_has ls 8 [(0, .ref (ad y0)), (1, .ref (ad y1)), (2, .int x2)]) (hf : g_X8_split y0 y1 x2 n c q K N G V L = some r') : RG (zMb M c q) (zC D cy ad n K N G) V L 0 ls [] := by
  unfold g_X8_split at hf
  refine z_iconst (v := 0) X.1.1 dX8_split_0 (by decide) ?_
  refine z_istore_n (lv' := [(3, .int 0), (0, .ref (ad y0)), (1, .ref (ad y1)), (2, .int x2)]) X.1.1 dX8_split_1 rfl hl (by decide) rfl (fun ls hl => ?_)
  refine z_iconst (v := 0) X.1.1 dX8_split_2 (by decide) ?_
  refine z_istore (lv' := [(4, .int 0), (3, .int 0), (0, .ref (ad y0)), (1, .ref (ad y1)), (2, .int x2)]) X.1.1 dX8_split_3 hl (by decide) rfl (fun ls hl => ?_)
  exact w_X8_split_5 Z hC hT FU y0 y1 x2 0 0 n c q K N G V L ad ls X ha hn0 hk0 hy0 hy1 (lv_sub hl [2, 3, 4, 1, 0] rfl) hf

theorem c_X8_split (D : va_G) (cy : Nat → ClassId) (ad : Nat → Nat) {n : Nat} {K N : Nat → Nat} {G : zG} (hWF : zWF n K G) {y0 : Nat} {y1 : Nat} {x2 : Int32} {V : zI} {L : zL} (hy0 : y0 < n ∧ K y0 = 6) (hy1 : y1 < n ∧ K y1 = 101) {r' : zS} {sa sb : Nat} (hf : f_X8_split y0 y1 x2 n K N G V L = some r') : RTv sa sb D cy ad n K N G yX8_split cX8_split 8 5 115 [.ref (ad y0), .ref (ad y1), .int x2] V L r' :=
  RTv.of (by decide) hWF (Nat.le_of_ble_eq_true rfl) (fun M X Z hC hnm hT ls hl => w_X8_split Z hC hT y0 y1 x2 n 0 0 K N G V L ad ls X (fun _ _ => rfl) (Nat.le_refl _) (fun _ _ => rfl) hy0 hy1 hl hf)
def f_X5_init_89 (y0 : Nat) (t0 : Nat) (t1 : Nat) (n c q : Nat) (K N : Nat → Nat) (G : zG) (V : zI) (L : zL) : Option (zS) :=
  (f_X5_take N (gS G t0 6 (some t1)) y0 V L).bind fun r1 => some (n, c, q, K, N, gS G t0 6 (some t1), r1.1, r1.2)
def f_X5_init_81 (y0 : Nat) (x2 : Int32) (n c q : Nat) (K N : Nat → Nat) (G : zG) (V : zI) (L : zL) : Option (zS) :=
  if (¬ (if (0 : Int32) < x2 then x2 else (0 : Int32)) < 0 ∧ (if (0 : Int32) < x2 then x2 else (0 : Int32)).toNatClampNeg ≤ 100000) then f_X5_init_89 y0 y0 n (n + 1) (c + 1) (q + (if (0 : Int32) < x2 then x2 else (0 : Int32)).toNatClampNeg) (kU K n 100) (kU N n (if (0 : Int32) < x2 then x2 else (0 : Int32)).toNatClampNeg) (kU G n zn0) (kU V n (fun _ => 0)) (kU L n (fun _ => 0)) else none
def f_X5_init_69 (y0 : Nat) (y1 : Nat) (t0 : Nat) (t1 : Nat) (x2 : Int32) (n c q : Nat) (K N : Nat → Nat) (G : zG) (V : zI) (L : zL) : Option (zS) :=
  ((gS G t0 0 (some t1)) y0 0).bind fun v1 => (f_X8_split v1 y1 x2 n K N (gS G t0 0 (some t1)) V L).bind fun r2 => f_X5_init_81 y0 x2 r2.1 (c + r2.2.1) (q + r2.2.2.1) r2.2.2.2.1 r2.2.2.2.2.1 r2.2.2.2.2.2.1 r2.2.2.2.2.2.2.1 r2.2.2.2.2.2.2.2
def f_X5_init_64 (y0 : Nat) (y1 : Nat) (t0 : Nat) (t1 : Nat) (x2 : Int32) (n c q : Nat) (K N : Nat → Nat) (G : zG) (V : zI) (L : zL) : Option (zS) :=
  (f_X8_init t1 x2 n K N G V L).bind fun r1 => f_X5_init_69 y0 y1 t0 t1 x2 r1.1 (c + r1.2.1) (q + r1.2.2.1) r1.2.2.2.1 r1.2.2.2.2.1 r1.2.2.2.2.2.1 r1.2.2.2.2.2.2.1 r1.2.2.2.2.2.2.2
def f_X5_init_32 (y0 : Nat) (y1 : Nat) (t0 : Nat) (t1 : Nat) (x2 : Int32) (n c q : Nat) (K N : Nat → Nat) (G : zG) (V : zI) (L : zL) : Option (zS) :=
  f_X5_init_64 y0 y1 y0 n x2 (n + 1) (c + 1) (q + 4) (kU K n 6) N (kU (gS G t0 5 (some t1)) n zn0) (kU (z_uI (z_uI (z_uI (z_uI (z_uI V y0 7 0) y0 8 0) y0 9 0) y0 10 0) y0 11 (-1)) n (fun _ => 0)) (kU L n (fun _ => 0))
def f_X5_init_28 (y0 : Nat) (y1 : Nat) (t0 : Nat) (t1 : Nat) (x2 : Int32) (n c q : Nat) (K N : Nat → Nat) (G : zG) (V : zI) (L : zL) : Option (zS) :=
  (f_X9_init t1 n K N G V L).bind fun r1 => f_X5_init_32 y0 y1 t0 t1 x2 r1.1 (c + r1.2.1) (q + r1.2.2.1) r1.2.2.2.1 r1.2.2.2.2.1 r1.2.2.2.2.2.1 r1.2.2.2.2.2.2.1 r1.2.2.2.2.2.2.2
def g_X5_init (y0 : Nat) (y1 : Nat) (x2 : Int32) (n c q : Nat) (K N : Nat → Nat) (G : zG) (V : zI) (L : zL) : Option (zS) :=
  f_X5_init_28 y0 y1 y0 n x2 (n + 1) (c + 1) (q + 11) (kU K n 7) N (kU G n zn0) (kU (z_uI (z_uI (z_uI (z_uI V y0 1 (-1)) y0 2 0) y0 3 0) y0 4 0) n (fun _ => 0)) (kU L n (fun _ => 0))
def f_X5_init (y0 : Nat) (y1 : Nat) (x2 : Int32) (n : Nat) (K N : Nat → Nat) (G : zG) (V : zI) (L : zL) : Option (zS) := g_X5_init y0 y1 x2 n 0 0 K N G V L
set_option maxHeartbeats 4000000 in
set_option maxRecDepth 100000 in
theorem m_X5_init_89 (y0 : Nat) (t0 : Nat) (t1 : Nat) (n c q : Nat) (K N : Nat → Nat) (G : zG) (V : zI) (L : zL) {r' : zS} (hf : f_X5_init_89 y0 t0 t1 n c q K N G V L = some r') : c ≤ r'.2.1 ∧ q ≤ r'.2.2.1 := by
  unfold f_X5_init_89 at hf
  obtain ⟨r1, hc1, hf⟩ := z_bind hf
  cases hf
  exact ⟨Nat.le_refl _, Nat.le_refl _⟩

set_option maxHeartbeats 4000000 in
set_option maxRecDepth 100000 in
theorem m_X5_init_81 (y0 : Nat) (x2 : Int32) (n c q : Nat) (K N : Nat → Nat) (G : zG) (V : zI) (L : zL) {r' : zS} (hf : f_X5_init_81 y0 x2 n c q K N G V L = some r') : c ≤ r'.2.1 ∧ q ≤ r'.2.2.1 := by
  unfold f_X5_init_81 at hf
  obtain ⟨hb1, hf⟩ := z_ite hf
  have hm := m_X5_init_89 y0 y0 n (n + 1) (c + 1) (q + (if (0 : Int32) < x2 then x2 else (0 : Int32)).toNatClampNeg) (kU K n 100) (kU N n (if (0 : Int32) < x2 then x2 else (0 : Int32)).toNatClampNeg) (kU G n zn0) (kU V n (fun _ => 0)) (kU L n (fun _ => 0)) hf
  exact ⟨by omega, by omega⟩

set_option maxHeartbeats 4000000 in
set_option maxRecDepth 100000 in
theorem m_X5_init_69 (y0 : Nat) (y1 : Nat) (t0 : Nat) (t1 : Nat) (x2 : Int32) (n c q : Nat) (K N : Nat → Nat) (G : zG) (V : zI) (L : zL) {r' : zS} (hf : f_X5_init_69 y0 y1 t0 t1 x2 n c q K N G V L = some r') : c ≤ r'.2.1 ∧ q ≤ r'.2.2.1 := by
  unfold f_X5_init_69 at hf
  obtain ⟨v1, hG1, hf⟩ := z_bind hf
  obtain ⟨r2, hc2, hf⟩ := z_bind hf
  have hm := m_X5_init_81 y0 x2 r2.1 (c + r2.2.1) (q + r2.2.2.1) r2.2.2.2.1 r2.2.2.2.2.1 r2.2.2.2.2.2.1 r2.2.2.2.2.2.2.1 r2.2.2.2.2.2.2.2 hf
  exact ⟨by omega, by omega⟩

set_option maxHeartbeats 4000000 in
set_option maxRecDepth 100000 in
theorem m_X5_init_64 (y0 : Nat) (y1 : Nat) (t0 : Nat) (t1 : Nat) (x2 : Int32) (n c q : Nat) (K N : Nat → Nat) (G : zG) (V : zI) (L : zL) {r' : zS} (hf : f_X5_init_64 y0 y1 t0 t1 x2 n c q K N G V L = some r') : c ≤ r'.2.1 ∧ q ≤ r'.2.2.1 := by
  unfold f_X5_init_64 at hf
  obtain ⟨r1, hc1, hf⟩ := z_bind hf
  have hm := m_X5_init_69 y0 y1 t0 t1 x2 r1.1 (c + r1.2.1) (q + r1.2.2.1) r1.2.2.2.1 r1.2.2.2.2.1 r1.2.2.2.2.2.1 r1.2.2.2.2.2.2.1 r1.2.2.2.2.2.2.2 hf
  exact ⟨by omega, by omega⟩

set_option maxHeartbeats 4000000 in
set_option maxRecDepth 100000 in
theorem m_X5_init_32 (y0 : Nat) (y1 : Nat) (t0 : Nat) (t1 : Nat) (x2 : Int32) (n c q : Nat) (K N : Nat → Nat) (G : zG) (V : zI) (L : zL) {r' : zS} (hf : f_X5_init_32 y0 y1 t0 t1 x2 n c q K N G V L = some r') : c ≤ r'.2.1 ∧ q ≤ r'.2.2.1 := by
  unfold f_X5_init_32 at hf
  have hm := m_X5_init_64 y0 y1 y0 n x2 (n + 1) (c + 1) (q + 4) (kU K n 6) N (kU (gS G t0 5 (some t1)) n zn0) (kU (z_uI (z_uI (z_uI (z_uI (z_uI V y0 7 0) y0 8 0) y0 9 0) y0 10 0) y0 11 (-1)) n (fun _ => 0)) (kU L n (fun _ => 0)) hf
  exact ⟨by omega, by omega⟩

set_option maxHeartbeats 4000000 in
set_option maxRecDepth 100000 in
theorem m_X5_init_28 (y0 : Nat) (y1 : Nat) (t0 : Nat) (t1 : Nat) (x2 : Int32) (n c q : Nat) (K N : Nat → Nat) (G : zG) (V : zI) (L : zL) {r' : zS} (hf : f_X5_init_28 y0 y1 t0 t1 x2 n c q K N G V L = some r') : c ≤ r'.2.1 ∧ q ≤ r'.2.2.1 := by
  unfold f_X5_init_28 at hf
  obtain ⟨r1, hc1, hf⟩ := z_bind hf
  have hm := m_X5_init_32 y0 y1 t0 t1 x2 r1.1 (c + r1.2.1) (q + r1.2.2.1) r1.2.2.2.1 r1.2.2.2.2.1 r1.2.2.2.2.2.1 r1.2.2.2.2.2.2.1 r1.2.2.2.2.2.2.2 hf
  exact ⟨by omega, by omega⟩

set_option maxHeartbeats 4000000 in
set_option maxRecDepth 100000 in
theorem w_X5_init_89 {M : zM} {D : va_G} {cy : Nat → ClassId} {ad0 K0 : Nat → Nat} {n0 : Nat} {r' : zS} (Z : RZAv M D cy ad0 n0 K0 r') (hC : M.2.2.2.1.cells = r'.2.1 ∧ M.2.2.2.1.slots = r'.2.2.1) (hin : M.2.2.2.2.2.2.2.2.1.name = "<init>") {sa sb : Nat} (hT : zTf M sa sb) (y0 : Nat) (t0 : Nat) (t1 : Nat) (n c q : Nat) (K N : Nat → Nat) (G : zG) (V : zI) (L : zL) (ad : Nat → Nat) (ls : Array Slot) (X : RXA M D cy ad n c q K N G cX5_init 3 RX5 6 142) (ha : ∀ w, w < n0 → ad w = ad0 w) (hn0 : n0 ≤ n) (hk0 : ∀ w, w < n0 → K w = K0 w) (hy0 : y0 < n ∧ K y0 = 4) (ht0 : t0 < n ∧ K t0 = 4) (ht1 : t1 < n ∧ K t1 = 100) (hl : lv_has ls 3 [(0, .ref (ad y0))]) (hf : f_X5_init_89 y0 t0 t1 n c q K N G V L = some r') : RG (zMb M c q) (zC D cy ad n K N G) V L 89 ls [.ref (ad t1), .ref (ad t0)] := by
  unfold f_X5_init_89 at hf
  refine a_putF (o := (some t1)) X ht0 cz_X5_66 cg_X5 rfl hin rfl rfl (Or.inr ⟨_, rfl, ht1.1, ht1.2⟩) (ct_X5_6) rfl rfl dX5_init_89 (fun X => ?_)
  refine z_aload_n X.1.1 dX5_init_92 rfl (lv_at hl 0 rfl) ?_
  obtain ⟨r1, hc1, hf⟩ := z_bind hf
  refine c_callVv [] X.1 hl.1 (c_X5_take D cy ad X.1.2.2 hy0 hc1) hy0 ⟨by decide, rfl⟩ cm_X5_70 cw_X5_take rfl cq_X5_take ⟨by decide, by decide⟩ (Nat.le_of_ble_eq_true rfl) rfl dX5_init_93 ?_
  exact a_vret X Z ha hn0 hk0 hf dX5_init_96

set_option maxHeartbeats 4000000 in
set_option maxRecDepth 100000 in
theorem w_X5_init_81 {M : zM} {D : va_G} {cy : Nat → ClassId} {ad0 K0 : Nat → Nat} {n0 : Nat} {r' : zS} (Z : RZAv M D cy ad0 n0 K0 r') (hC : M.2.2.2.1.cells = r'.2.1 ∧ M.2.2.2.1.slots = r'.2.2.1) (hin : M.2.2.2.2.2.2.2.2.1.name = "<init>") {sa sb : Nat} (hT : zTf M sa sb) (y0 : Nat) (x2 : Int32) (n c q : Nat) (K N : Nat → Nat) (G : zG) (V : zI) (L : zL) (ad : Nat → Nat) (ls : Array Slot) (X : RXA M D cy ad n c q K N G cX5_init 3 RX5 6 142) (ha : ∀ w, w < n0 → ad w = ad0 w) (hn0 : n0 ≤ n) (hk0 : ∀ w, w < n0 → K w = K0 w) (hy0 : y0 < n ∧ K y0 = 4) (hl : lv_has ls 3 [(0, .ref (ad y0)), (2, .int x2)]) (hf : f_X5_init_81 y0 x2 n c q K N G V L = some r') : RG (zMb M c q) (zC D cy ad n K N G) V L 81 ls [] := by
  unfold f_X5_init_81 at hf
  refine z_aload_n X.1.1 dX5_init_81 rfl (lv_at hl 0 rfl) ?_
  refine z_iconst (v := 0) X.1.1 dX5_init_82 (by decide) ?_
  refine z_iload_n X.1.1 dX5_init_83 rfl (lv_at hl 1 rfl) ?_
  refine c_max X.1 hl.1 cj_X5_60 ⟨by decide, Nat.le_of_ble_eq_true rfl⟩ dX5_init_84 ?_
  obtain ⟨hb1, hf⟩ := z_ite hf
  have hm := m_X5_init_89 y0 y0 n (n + 1) (c + 1) (q + (if (0 : Int32) < x2 then x2 else (0 : Int32)).toNatClampNeg) (kU K n 100) (kU N n (if (0 : Int32) < x2 then x2 else (0 : Int32)).toNatClampNeg) (kU G n zn0) (kU V n (fun _ => 0)) (kU L n (fun _ => 0)) hf
  refine a_newi X hb1 ca_100 ⟨by rw [hC.1]; exact hm.1, by rw [hC.2]; exact hm.2⟩ dX5_init_87 (fun ad' hag X => ?_)
  rw [← hag y0 hy0.1] at hl ⊢
  exact w_X5_init_89 Z hC hin hT y0 y0 n (n + 1) (c + 1) (q + (if (0 : Int32) < x2 then x2 else (0 : Int32)).toNatClampNeg) (kU K n 100) (kU N n (if (0 : Int32) < x2 then x2 else (0 : Int32)).toNatClampNeg) (kU G n zn0) (kU V n (fun _ => 0)) (kU L n (fun _ => 0)) ad' ls X (zag_up ha hn0 hag) (by omega) (zag_up hk0 hn0 (fun w h => kU_ne (by omega))) (zh_up hy0) (zh_up hy0) zh_new (lv_sub hl [0] rfl) hf

set_option maxHeartbeats 4000000 in
set_option maxRecDepth 100000 in
theorem w_X5_init_69 {M : zM} {D : va_G} {cy : Nat → ClassId} {ad0 K0 : Nat → Nat} {n0 : Nat} {r' : zS} (Z : RZAv M D cy ad0 n0 K0 r') (hC : M.2.2.2.1.cells = r'.2.1 ∧ M.2.2.2.1.slots = r'.2.2.1) (hin : M.2.2.2.2.2.2.2.2.1.name = "<init>") {sa sb : Nat} (hT : zTf M sa sb) (y0 : Nat) (y1 : Nat) (t0 : Nat) (t1 : Nat) (x2 : Int32) (n c q : Nat) (K N : Nat → Nat) (G : zG) (V : zI) (L : zL) (ad : Nat → Nat) (ls : Array Slot) (X : RXA M D cy ad n c q K N G cX5_init 3 RX5 6 142) (ha : ∀ w, w < n0 → ad w = ad0 w) (hn0 : n0 ≤ n) (hk0 : ∀ w, w < n0 → K w = K0 w) (hy0 : y0 < n ∧ K y0 = 4) (hy1 : y1 < n ∧ K y1 = 101) (ht0 : t0 < n ∧ K t0 = 4) (ht1 : t1 < n ∧ K t1 = 6) (hl : lv_has ls 3 [(0, .ref (ad y0)), (1, .ref (ad y1)), (2, .int x2)]) (hf : f_X5_init_69 y0 y1 t0 t1 x2 n c q K N G V L = some r') : RG (zMb M c q) (zC D cy ad n K N G) V L 69 ls [.ref (ad t1), .ref (ad t0)] := by
  unfold f_X5_init_69 at hf
  refine a_putF (o := (some t1)) X ht0 cz_X5_52 cg_X5 rfl hin rfl rfl (Or.inr ⟨_, rfl, ht1.1, ht1.2⟩) (ct_X5_0) rfl rfl dX5_init_69 (fun X => ?_)
  refine z_aload_n X.1.1 dX5_init_72 rfl (lv_at hl 0 rfl) ?_
  obtain ⟨v1, hG1, hf⟩ := z_bind hf
  have hv1 := X.1.2.2.get hy0 (k := 0) (c := 6) rfl hG1
  refine c_geta X.1 hy0 cf_X5_52 hG1 dX5_init_73 ?_
  refine z_aload_n X.1.1 dX5_init_76 rfl (lv_at hl 1 rfl) ?_
  refine z_iload_n X.1.1 dX5_init_77 rfl (lv_at hl 2 rfl) ?_
  obtain ⟨r2, hc2, hf⟩ := z_bind hf
  have hm := m_X5_init_81 y0 x2 r2.1 (c + r2.2.1) (q + r2.2.2.1) r2.2.2.2.1 r2.2.2.2.2.1 r2.2.2.2.2.2.1 r2.2.2.2.2.2.2.1 r2.2.2.2.2.2.2.2 hf
  refine t_callVv [.ref (ad y1), .int x2] X hl.1 hT (c_X8_split D cy ad X.1.2.2 hv1 hy1 hc2) hv1 ⟨by decide, rfl⟩ cm_X5_56 cw_X8_split rfl cq_X8_split ⟨by decide, by decide⟩ (Nat.le_of_ble_eq_true rfl) rfl ⟨by rw [hC.1]; exact hm.1, by rw [hC.2]; exact hm.2⟩ dX5_init_78 (fun ad' hag hnn hKg X => ?_)
  rw [← hag y0 hy0.1] at hl
  rw [← hag y1 hy1.1] at hl
  exact w_X5_init_81 Z hC hin hT y0 x2 r2.1 (c + r2.2.1) (q + r2.2.2.1) r2.2.2.2.1 r2.2.2.2.2.1 r2.2.2.2.2.2.1 r2.2.2.2.2.2.2.1 r2.2.2.2.2.2.2.2 ad' ls X (zag_up ha hn0 hag) (by omega) (zag_up hk0 hn0 hKg) (zh_ext hy0 hnn hKg) (lv_sub hl [0, 2] rfl) hf

set_option maxHeartbeats 4000000 in
set_option maxRecDepth 100000 in
theorem w_X5_init_64 {M : zM} {D : va_G} {cy : Nat → ClassId} {ad0 K0 : Nat → Nat} {n0 : Nat} {r' : zS} (Z : RZAv M D cy ad0 n0 K0 r') (hC : M.2.2.2.1.cells = r'.2.1 ∧ M.2.2.2.1.slots = r'.2.2.1) (hin : M.2.2.2.2.2.2.2.2.1.name = "<init>") {sa sb : Nat} (hT : zTf M sa sb) (y0 : Nat) (y1 : Nat) (t0 : Nat) (t1 : Nat) (x2 : Int32) (n c q : Nat) (K N : Nat → Nat) (G : zG) (V : zI) (L : zL) (ad : Nat → Nat) (ls : Array Slot) (X : RXA M D cy ad n c q K N G cX5_init 3 RX5 6 142) (ha : ∀ w, w < n0 → ad w = ad0 w) (hn0 : n0 ≤ n) (hk0 : ∀ w, w < n0 → K w = K0 w) (hy0 : y0 < n ∧ K y0 = 4) (hy1 : y1 < n ∧ K y1 = 101) (ht0 : t0 < n ∧ K t0 = 4) (ht1 : t1 < n ∧ K t1 = 6) (hl : lv_has ls 3 [(0, .ref (ad y0)), (1, .ref (ad y1)), (2, .int x2)]) (hf : f_X5_init_64 y0 y1 t0 t1 x2 n c q K N G V L = some r') : RG (zMb M c q) (zC D cy ad n K N G) V L 64 ls [.ref (ad t1), .ref (ad t0)] := by
  unfold f_X5_init_64 at hf
  refine z_dup X.1.1 dX5_init_64 rfl ?_
  refine z_iload_n X.1.1 dX5_init_65 rfl (lv_at hl 2 rfl) ?_
  obtain ⟨r1, hc1, hf⟩ := z_bind hf
  have hm := m_X5_init_69 y0 y1 t0 t1 x2 r1.1 (c + r1.2.1) (q + r1.2.2.1) r1.2.2.2.1 r1.2.2.2.2.1 r1.2.2.2.2.2.1 r1.2.2.2.2.2.2.1 r1.2.2.2.2.2.2.2 hf
  refine a_callIv [.int x2] X hl.1 (c_X8_init D cy ad X.1.2.2 ht1 hc1) ht1 ⟨by decide, rfl⟩ cm_X5_49 cx_X8_init rfl cq_X8_init ⟨by decide, by decide⟩ (Nat.le_of_ble_eq_true rfl) rfl ⟨by rw [hC.1]; exact hm.1, by rw [hC.2]; exact hm.2⟩ dX5_init_66 (fun ad' hag hnn hKg X => ?_)
  rw [← hag y0 hy0.1] at hl
  rw [← hag y1 hy1.1] at hl
  rw [← hag t1 ht1.1]
  rw [← hag t0 ht0.1]
  exact w_X5_init_69 Z hC hin hT y0 y1 t0 t1 x2 r1.1 (c + r1.2.1) (q + r1.2.2.1) r1.2.2.2.1 r1.2.2.2.2.1 r1.2.2.2.2.2.1 r1.2.2.2.2.2.2.1 r1.2.2.2.2.2.2.2 ad' ls X (zag_up ha hn0 hag) (by omega) (zag_up hk0 hn0 hKg) (zh_ext hy0 hnn hKg) (zh_ext hy1 hnn hKg) (zh_ext ht0 hnn hKg) (zh_ext ht1 hnn hKg) (lv_sub hl [0, 1, 2] rfl) hf

set_option maxHeartbeats 4000000 in
set_option maxRecDepth 100000 in
theorem w_X5_init_32 {M : zM} {D : va_G} {cy : Nat → ClassId} {ad0 K0 : Nat → Nat} {n0 : Nat} {r' : zS} (Z : RZAv M D cy ad0 n0 K0 r') (hC : M.2.2.2.1.cells = r'.2.1 ∧ M.2.2.2.1.slots = r'.2.2.1) (hin : M.2.2.2.2.2.2.2.2.1.name = "<init>") {sa sb : Nat} (hT : zTf M sa sb) (y0 : Nat) (y1 : Nat) (t0 : Nat) (t1 : Nat) (x2 : Int32) (n c q : Nat) (K N : Nat → Nat) (G : zG) (V : zI) (L : zL) (ad : Nat → Nat) (ls : Array Slot) (X : RXA M D cy ad n c q K N G cX5_init 3 RX5 6 142) (ha : ∀ w, w < n0 → ad w = ad0 w) (hn0 : n0 ≤ n) (hk0 : ∀ w, w < n0 → K w = K0 w) (hy0 : y0 < n ∧ K y0 = 4) (hy1 : y1 < n ∧ K y1 = 101) (ht0 : t0 < n ∧ K t0 = 4) (ht1 : t1 < n ∧ K t1 = 7) (hl : lv_has ls 3 [(0, .ref (ad y0)), (1, .ref (ad y1)), (2, .int x2)]) (hf : f_X5_init_32 y0 y1 t0 t1 x2 n c q K N G V L = some r') : RG (zMb M c q) (zC D cy ad n K N G) V L 32 ls [.ref (ad t1), .ref (ad t0)] := by
  unfold f_X5_init_32 at hf
  refine a_putF (o := (some t1)) X ht0 cz_X5_29 cg_X5 rfl hin rfl rfl (Or.inr ⟨_, rfl, ht1.1, ht1.2⟩) (ct_X5_5) rfl rfl dX5_init_32 (fun X => ?_)
  refine z_aload_n X.1.1 dX5_init_35 rfl (lv_at hl 0 rfl) ?_
  refine z_iconst (v := 0) X.1.1 dX5_init_36 (by decide) ?_
  refine c_puti X.1 hy0 cf_X5_33 cg_X5 cp_X5_7 rfl rfl dX5_init_37 ?_
  refine z_aload_n X.1.1 dX5_init_40 rfl (lv_at hl 0 rfl) ?_
  refine z_iconst (v := 0) X.1.1 dX5_init_41 (by decide) ?_
  refine c_puti X.1 hy0 cf_X5_36 cg_X5 cp_X5_8 rfl rfl dX5_init_42 ?_
  refine z_aload_n X.1.1 dX5_init_45 rfl (lv_at hl 0 rfl) ?_
  refine z_iconst (v := 0) X.1.1 dX5_init_46 (by decide) ?_
  refine c_puti X.1 hy0 cf_X5_39 cg_X5 cp_X5_9 (zB_nar (show zB 0 by decide)) (zB_fit (show zB 0 by decide)) dX5_init_47 ?_
  refine z_aload_n X.1.1 dX5_init_50 rfl (lv_at hl 0 rfl) ?_
  refine z_iconst (v := 0) X.1.1 dX5_init_51 (by decide) ?_
  refine c_puti X.1 hy0 cf_X5_43 cg_X5 cp_X5_10 rfl rfl dX5_init_52 ?_
  refine z_aload_n X.1.1 dX5_init_55 rfl (lv_at hl 0 rfl) ?_
  refine z_iconst (v := -1) X.1.1 dX5_init_56 (by decide) ?_
  refine c_puti X.1 hy0 cf_X5_46 cg_X5 cp_X5_11 rfl rfl dX5_init_57 ?_
  refine z_aload_n X.1.1 dX5_init_60 rfl (lv_at hl 0 rfl) ?_
  have hm := m_X5_init_64 y0 y1 y0 n x2 (n + 1) (c + 1) (q + 4) (kU K n 6) N (kU (gS G t0 5 (some t1)) n zn0) (kU (z_uI (z_uI (z_uI (z_uI (z_uI V y0 7 0) y0 8 0) y0 9 0) y0 10 0) y0 11 (-1)) n (fun _ => 0)) (kU L n (fun _ => 0)) hf
  refine a_new (ci := 6) X ci_X8 cg_X8.1 dv_X8 cn_X5_15 ⟨by rw [hC.1]; exact hm.1, by rw [hC.2]; exact hm.2⟩ dX5_init_61 (fun ad' hag X => ?_)
  rw [← hag y0 hy0.1] at hl ⊢
  rw [← hag y1 hy1.1] at hl
  exact w_X5_init_64 Z hC hin hT y0 y1 y0 n x2 (n + 1) (c + 1) (q + 4) (kU K n 6) N (kU (gS G t0 5 (some t1)) n zn0) (kU (z_uI (z_uI (z_uI (z_uI (z_uI V y0 7 0) y0 8 0) y0 9 0) y0 10 0) y0 11 (-1)) n (fun _ => 0)) (kU L n (fun _ => 0)) ad' ls X (zag_up ha hn0 hag) (by omega) (zag_up hk0 hn0 (fun w h => kU_ne (by omega))) (zh_up hy0) (zh_up hy1) (zh_up hy0) zh_new (lv_sub hl [0, 1, 2] rfl) hf

set_option maxHeartbeats 4000000 in
set_option maxRecDepth 100000 in
theorem w_X5_init_28 {M : zM} {D : va_G} {cy : Nat → ClassId} {ad0 K0 : Nat → Nat} {n0 : Nat} {r' : zS} (Z : RZAv M D cy ad0 n0 K0 r') (hC : M.2.2.2.1.cells = r'.2.1 ∧ M.2.2.2.1.slots = r'.2.2.1) (hin : M.2.2.2.2.2.2.2.2.1.name = "<init>") {sa sb : Nat} (hT : zTf M sa sb) (y0 : Nat) (y1 : Nat) (t0 : Nat) (t1 : Nat) (x2 : Int32) (n c q : Nat) (K N : Nat → Nat) (G : zG) (V : zI) (L : zL) (ad : Nat → Nat) (ls : Array Slot) (X : RXA M D cy ad n c q K N G cX5_init 3 RX5 6 142) (ha : ∀ w, w < n0 → ad w = ad0 w) (hn0 : n0 ≤ n) (hk0 : ∀ w, w < n0 → K w = K0 w) (hy0 : y0 < n ∧ K y0 = 4) (hy1 : y1 < n ∧ K y1 = 101) (ht0 : t0 < n ∧ K t0 = 4) (ht1 : t1 < n ∧ K t1 = 7) (hl : lv_has ls 3 [(0, .ref (ad y0)), (1, .ref (ad y1)), (2, .int x2)]) (hf : f_X5_init_28 y0 y1 t0 t1 x2 n c q K N G V L = some r') : RG (zMb M c q) (zC D cy ad n K N G) V L 28 ls [.ref (ad t1), .ref (ad t0)] := by
  unfold f_X5_init_28 at hf
  refine z_dup X.1.1 dX5_init_28 rfl ?_
  obtain ⟨r1, hc1, hf⟩ := z_bind hf
  have hm := m_X5_init_32 y0 y1 t0 t1 x2 r1.1 (c + r1.2.1) (q + r1.2.2.1) r1.2.2.2.1 r1.2.2.2.2.1 r1.2.2.2.2.2.1 r1.2.2.2.2.2.2.1 r1.2.2.2.2.2.2.2 hf
  refine a_callIv [] X hl.1 (c_X9_init D cy ad X.1.2.2 ht1 hc1) ht1 ⟨by decide, rfl⟩ cm_X5_28 cx_X9_init rfl cq_X9_init ⟨by decide, by decide⟩ (Nat.le_of_ble_eq_true rfl) rfl ⟨by rw [hC.1]; exact hm.1, by rw [hC.2]; exact hm.2⟩ dX5_init_29 (fun ad' hag hnn hKg X => ?_)
  rw [← hag y0 hy0.1] at hl
  rw [← hag y1 hy1.1] at hl
  rw [← hag t1 ht1.1]
  rw [← hag t0 ht0.1]
  exact w_X5_init_32 Z hC hin hT y0 y1 t0 t1 x2 r1.1 (c + r1.2.1) (q + r1.2.2.1) r1.2.2.2.1 r1.2.2.2.2.1 r1.2.2.2.2.2.1 r1.2.2.2.2.2.2.1 r1.2.2.2.2.2.2.2 ad' ls X (zag_up ha hn0 hag) (by omega) (zag_up hk0 hn0 hKg) (zh_ext hy0 hnn hKg) (zh_ext hy1 hnn hKg) (zh_ext ht0 hnn hKg) (zh_ext ht1 hnn hKg) (lv_sub hl [0, 1, 2] rfl) hf

set_option maxHeartbeats 4000000 in
set_option maxRecDepth 100000 in
theorem w_X5_init {M : zM} {D : va_G} {cy : Nat → ClassId} {ad0 K0 : Nat → Nat} {n0 : Nat} {r' : zS} (Z : RZAv M D cy ad0 n0 K0 r') (hC : M.2.2.2.1.cells = r'.2.1 ∧ M.2.2.2.1.slots = r'.2.2.1) (hin : M.2.2.2.2.2.2.2.2.1.name = "<init>") {sa sb : Nat} (hT : zTf M sa sb) (y0 : Nat) (y1 : Nat) (x2 : Int32) (n c q : Nat) (K N : Nat → Nat) (G : zG) (V : zI) (L : zL) (ad : Nat → Nat) (ls : Array Slot) (X : RXA M D cy ad n c q K N G cX5_init 3 RX5 6 142) (ha : ∀ w, w < n0 → ad w = ad0 w) (hn0 : n0 ≤ n) (hk0 : ∀ w, w < n0 → K w = K0 w) (hy0 : y0 < n ∧ K y0 = 4) (hy1 : y1 < n ∧ K y1 = 101) (hl : lv_has ls 3 [(0, .ref (ad y0)), (1, .ref (ad y1)), (2, .int x2)]) (hf : g_X5_init y0 y1 x2 n c q K N G V L = some r') : RG (zMb M c q) (zC D cy ad n K N G) V L 0 ls [] := by
  unfold g_X5_init at hf
  refine z_aload_n X.1.1 dX5_init_0 rfl (lv_at hl 0 rfl) ?_
  refine a_obj X hl.1 co_X5_3 ⟨by decide, Nat.le_of_ble_eq_true rfl⟩ dX5_init_1 ?_
  refine z_aload_n X.1.1 dX5_init_4 rfl (lv_at hl 0 rfl) ?_
  refine z_iconst (v := -1) X.1.1 dX5_init_5 (by decide) ?_
  refine c_puti X.1 hy0 cf_X5_9 cg_X5 cp_X5_1 rfl rfl dX5_init_6 ?_
  refine z_aload_n X.1.1 dX5_init_9 rfl (lv_at hl 0 rfl) ?_
  refine z_iconst (v := 0) X.1.1 dX5_init_10 (by decide) ?_
  refine c_puti X.1 hy0 cf_X5_17 cg_X5 cp_X5_2 rfl rfl dX5_init_11 ?_
  refine z_aload_n X.1.1 dX5_init_14 rfl (lv_at hl 0 rfl) ?_
  refine z_iconst (v := 0) X.1.1 dX5_init_15 (by decide) ?_
  refine c_puti X.1 hy0 cf_X5_20 cg_X5 cp_X5_3 rfl rfl dX5_init_16 ?_
  refine z_aload_n X.1.1 dX5_init_19 rfl (lv_at hl 0 rfl) ?_
  refine z_iconst (v := 0) X.1.1 dX5_init_20 (by decide) ?_
  refine c_puti X.1 hy0 cf_X5_23 cg_X5 cp_X5_4 rfl rfl dX5_init_21 ?_
  refine z_aload_n X.1.1 dX5_init_24 rfl (lv_at hl 0 rfl) ?_
  have hm := m_X5_init_28 y0 y1 y0 n x2 (n + 1) (c + 1) (q + 11) (kU K n 7) N (kU G n zn0) (kU (z_uI (z_uI (z_uI (z_uI V y0 1 (-1)) y0 2 0) y0 3 0) y0 4 0) n (fun _ => 0)) (kU L n (fun _ => 0)) hf
  refine a_new (ci := 7) X ci_X9 cg_X9.1 dv_X9 cn_X5_26 ⟨by rw [hC.1]; exact hm.1, by rw [hC.2]; exact hm.2⟩ dX5_init_25 (fun ad' hag X => ?_)
  rw [← hag y0 hy0.1] at hl ⊢
  rw [← hag y1 hy1.1] at hl
  exact w_X5_init_28 Z hC hin hT y0 y1 y0 n x2 (n + 1) (c + 1) (q + 11) (kU K n 7) N (kU G n zn0) (kU (z_uI (z_uI (z_uI (z_uI V y0 1 (-1)) y0 2 0) y0 3 0) y0 4 0) n (fun _ => 0)) (kU L n (fun _ => 0)) ad' ls X (zag_up ha hn0 hag) (by omega) (zag_up hk0 hn0 (fun w h => kU_ne (by omega))) (zh_up hy0) (zh_up hy1) (zh_up hy0) zh_new (lv_sub hl [0, 1, 2] rfl) hf

theorem c_X5_init (D : va_G) (cy : Nat → ClassId) (ad : Nat → Nat) {n : Nat} {K N : Nat → Nat} {G : zG} (hWF : zWF n K G) {y0 : Nat} {y1 : Nat} {x2 : Int32} {V : zI} {L : zL} (hy0 : y0 < n ∧ K y0 = 4) (hy1 : y1 < n ∧ K y1 = 101) {r' : zS} {sa sb : Nat} (hf : f_X5_init y0 y1 x2 n K N G V L = some r') : RTv sa sb D cy ad n K N G yX5_init cX5_init 3 6 142 [.ref (ad y0), .ref (ad y1), .int x2] V L r' :=
  RTv.of (by decide) hWF (Nat.le_of_ble_eq_true rfl) (fun M X Z hC hnm hT ls hl => w_X5_init Z hC hnm hT y0 y1 x2 n 0 0 K N G V L ad ls X (fun _ _ => rfl) (Nat.le_refl _) (fun _ _ => rfl) hy0 hy1 hl hf)
def f_X10_union_25 (y0 : Nat) (y1 : Nat) (n c q : Nat) (K N : Nat → Nat) (G : zG) (V : zI) (L : zL) : Option (Int32 × zS) :=
  (if ((z_uI (z_uI V y0 3 (V y1 10)) y0 4 ((z_uI V y0 3 (V y1 10)) y1 11)) y0 3) = 0 then (G y1 5).bind fun v1 => ((gS G y0 2 (some v1)) y0 2).bind fun v2 => (f_X9_findWays N (gS G y0 2 (some v1)) v2 (z_uI (z_uI V y0 3 (V y1 10)) y0 4 ((z_uI V y0 3 (V y1 10)) y1 11)) L).bind fun r3 => ((gS G y0 2 (some v1)) y0 5).bind fun v4 => ((gS G y0 2 (some v1)) y0 2).bind fun v5 => ((gS G y0 2 (some v1)) v5 6).bind fun v6 => (f_X7_begin N (gS G y0 2 (some v1)) v4 v6 r3.1 r3.2).bind fun r7 => ((gS G y0 2 (some v1)) y0 2).bind fun v8 => some ((z_uI (z_uI r7.1 y0 10 0) y0 13 0) v8 2, n, c, q, K, N, gS G y0 2 (some v1), z_uI (z_uI r7.1 y0 10 0) y0 13 0, r7.2) else (f_X10_refuse N G y0 1 (z_uI (z_uI V y0 3 (V y1 10)) y0 4 ((z_uI V y0 3 (V y1 10)) y1 11)) L).bind fun r9 => some (r9.1, n, c, q, K, N, G, r9.2.1, r9.2.2))
def f_X10_union_15 (y0 : Nat) (t0 : Nat) (n c q : Nat) (K N : Nat → Nat) (G : zG) (V : zI) (L : zL) : Option (Int32 × zS) :=
  (f_X5_readUnion t0 n K N G (z_uI V y0 1 0) L).bind fun r1 => f_X10_union_25 y0 t0 r1.1 (c + r1.2.1) (q + r1.2.2.1) r1.2.2.2.1 r1.2.2.2.2.1 r1.2.2.2.2.2.1 r1.2.2.2.2.2.2.1 r1.2.2.2.2.2.2.2
def f_X10_union_3 (y0 : Nat) (t0 : Nat) (n c q : Nat) (K N : Nat → Nat) (G : zG) (V : zI) (L : zL) : Option (Int32 × zS) :=
  (G y0 0).bind fun v1 => (f_X5_init t0 v1 (V y0 1) n K N G V L).bind fun r2 => f_X10_union_15 y0 t0 r2.1 (c + r2.2.1) (q + r2.2.2.1) r2.2.2.2.1 r2.2.2.2.2.1 r2.2.2.2.2.2.1 r2.2.2.2.2.2.2.1 r2.2.2.2.2.2.2.2
def g_X10_union (y0 : Nat) (n c q : Nat) (K N : Nat → Nat) (G : zG) (V : zI) (L : zL) : Option (Int32 × zS) :=
  f_X10_union_3 y0 n (n + 1) (c + 1) (q + 12) (kU K n 4) N (kU G n zn0) (kU V n (fun _ => 0)) (kU L n (fun _ => 0))
def f_X10_union (y0 : Nat) (n : Nat) (K N : Nat → Nat) (G : zG) (V : zI) (L : zL) : Option (Int32 × zS) := g_X10_union y0 n 0 0 K N G V L
set_option maxHeartbeats 4000000 in
set_option maxRecDepth 100000 in
theorem m_X10_union_25 (y0 : Nat) (y1 : Nat) (n c q : Nat) (K N : Nat → Nat) (G : zG) (V : zI) (L : zL) {r' : Int32 × zS} (hf : f_X10_union_25 y0 y1 n c q K N G V L = some r') : c ≤ r'.2.2.1 ∧ q ≤ r'.2.2.2.1 := by
  unfold f_X10_union_25 at hf
  rcases z_iteE hf with hf | hf
  ·
    obtain ⟨v1, hG1, hf⟩ := z_bind hf
    obtain ⟨v2, hG2, hf⟩ := z_bind hf
    obtain ⟨r3, hc3, hf⟩ := z_bind hf
    obtain ⟨v4, hG4, hf⟩ := z_bind hf
    obtain ⟨v5, hG5, hf⟩ := z_bind hf
    obtain ⟨v6, hG6, hf⟩ := z_bind hf
    obtain ⟨r7, hc7, hf⟩ := z_bind hf
    obtain ⟨v8, hG8, hf⟩ := z_bind hf
    cases hf
    exact ⟨Nat.le_refl _, Nat.le_refl _⟩
  ·
    obtain ⟨r9, hc9, hf⟩ := z_bind hf
    cases hf
    exact ⟨Nat.le_refl _, Nat.le_refl _⟩

set_option maxHeartbeats 4000000 in
set_option maxRecDepth 100000 in
theorem m_X10_union_15 (y0 : Nat) (t0 : Nat) (n c q : Nat) (K N : Nat → Nat) (G : zG) (V : zI) (L : zL) {r' : Int32 × zS} (hf : f_X10_union_15 y0 t0 n c q K N G V L = some r') : c ≤ r'.2.2.1 ∧ q ≤ r'.2.2.2.1 := by
  unfold f_X10_union_15 at hf
  obtain ⟨r1, hc1, hf⟩ := z_bind hf
  have hm := m_X10_union_25 y0 t0 r1.1 (c + r1.2.1) (q + r1.2.2.1) r1.2.2.2.1 r1.2.2.2.2.1 r1.2.2.2.2.2.1 r1.2.2.2.2.2.2.1 r1.2.2.2.2.2.2.2 hf
  exact ⟨by omega, by omega⟩

set_option maxHeartbeats 4000000 in
set_option maxRecDepth 100000 in
theorem m_X10_union_3 (y0 : Nat) (t0 : Nat) (n c q : Nat) (K N : Nat → Nat) (G : zG) (V : zI) (L : zL) {r' : Int32 × zS} (hf : f_X10_union_3 y0 t0 n c q K N G V L = some r') : c ≤ r'.2.2.1 ∧ q ≤ r'.2.2.2.1 := by
  unfold f_X10_union_3 at hf
  obtain ⟨v1, hG1, hf⟩ := z_bind hf
  obtain ⟨r2, hc2, hf⟩ := z_bind hf
  have hm := m_X10_union_15 y0 t0 r2.1 (c + r2.2.1) (q + r2.2.2.1) r2.2.2.2.1 r2.2.2.2.2.1 r2.2.2.2.2.2.1 r2.2.2.2.2.2.2.1 r2.2.2.2.2.2.2.2 hf
  exact ⟨by omega, by omega⟩

set_option maxHeartbeats 4000000 in
set_option maxRecDepth 100000 in
theorem w_X10_union_25 {M : zM} {D : va_G} {cy : Nat → ClassId} {ad0 K0 : Nat → Nat} {n0 : Nat} {r' : Int32 × zS} (Z : RZAi M D cy ad0 n0 K0 .int r'.1 r'.2) (hC : M.2.2.2.1.cells = r'.2.2.1 ∧ M.2.2.2.1.slots = r'.2.2.2.1) {sa sb : Nat} (hT : zTf M sa sb) (y0 : Nat) (y1 : Nat) (n c q : Nat) (K N : Nat → Nat) (G : zG) (V : zI) (L : zL) (ad : Nat → Nat) (ls : Array Slot) (X : RXA M D cy ad n c q K N G cX10_union 2 RX10 107 2350) (ha : ∀ w, w < n0 → ad w = ad0 w) (hn0 : n0 ≤ n) (hk0 : ∀ w, w < n0 → K w = K0 w) (hy0 : y0 < n ∧ K y0 = 8) (hy1 : y1 < n ∧ K y1 = 4) (hl : lv_has ls 2 [(0, .ref (ad y0)), (1, .ref (ad y1))]) (hf : f_X10_union_25 y0 y1 n c q K N G V L = some r') : RG (zMb M c q) (zC D cy ad n K N G) V L 25 ls [] := by
  unfold f_X10_union_25 at hf
  refine z_aload_n X.1.1 dX10_union_25 rfl (lv_at hl 0 rfl) ?_
  refine z_aload_n X.1.1 dX10_union_26 rfl (lv_at hl 1 rfl) ?_
  refine c_geti X.1 hy1 cf_X10_96 dX10_union_27 ?_
  refine c_puti X.1 hy0 cf_X10_24 cg_X10 cp_X10_3 rfl rfl dX10_union_30 ?_
  refine z_aload_n X.1.1 dX10_union_33 rfl (lv_at hl 0 rfl) ?_
  refine z_aload_n X.1.1 dX10_union_34 rfl (lv_at hl 1 rfl) ?_
  refine c_geti X.1 hy1 cf_X10_99 dX10_union_35 ?_
  refine c_puti X.1 hy0 cf_X10_27 cg_X10 cp_X10_4 rfl rfl dX10_union_38 ?_
  refine z_aload_n X.1.1 dX10_union_41 rfl (lv_at hl 0 rfl) ?_
  refine c_geti X.1 hy0 cf_X10_24 dX10_union_42 ?_
  refine z_if_eq (tgt := 54) X.1.1 dX10_union_45 (by decide) (fun c_ => ?_) (fun c_ => ?_)
  · have hf := (if_pos c_).symm.trans hf
    refine z_aload_n X.1.1 dX10_union_54 rfl (lv_at hl 0 rfl) ?_
    refine z_aload_n X.1.1 dX10_union_55 rfl (lv_at hl 1 rfl) ?_
    obtain ⟨v1, hG1, hf⟩ := z_bind hf
    have hv1 := X.1.2.2.get hy1 (k := 5) (c := 7) rfl hG1
    refine c_geta X.1 hy1 cf_X10_102 hG1 dX10_union_56 ?_
    refine a_put (o := (some v1)) X hy0 cf_X10_20 cg_X10 rfl rfl (Or.inr ⟨_, rfl, hv1.1, hv1.2⟩) (ct_X10_2) rfl rfl dX10_union_59 (fun X => ?_)
    refine z_aload_n X.1.1 dX10_union_62 rfl (lv_at hl 0 rfl) ?_
    obtain ⟨v2, hG2, hf⟩ := z_bind hf
    have hv2 := X.1.2.2.get hy0 (k := 2) (c := 7) rfl hG2
    refine c_geta X.1 hy0 cf_X10_20 hG2 dX10_union_63 ?_
    obtain ⟨r3, hc3, hf⟩ := z_bind hf
    refine c_callVv [] X.1 hl.1 (c_X9_findWays D cy ad X.1.2.2 hv2 hc3) hv2 ⟨by decide, rfl⟩ cm_X10_105 cw_X9_findWays rfl cq_X9_findWays ⟨by decide, by decide⟩ (Nat.le_of_ble_eq_true rfl) rfl dX10_union_66 ?_
    refine z_aload_n X.1.1 dX10_union_69 rfl (lv_at hl 0 rfl) ?_
    obtain ⟨v4, hG4, hf⟩ := z_bind hf
    have hv4 := X.1.2.2.get hy0 (k := 5) (c := 5) rfl hG4
    refine c_geta X.1 hy0 cf_X10_33 hG4 dX10_union_70 ?_
    refine z_aload_n X.1.1 dX10_union_73 rfl (lv_at hl 0 rfl) ?_
    obtain ⟨v5, hG5, hf⟩ := z_bind hf
    have hv5 := X.1.2.2.get hy0 (k := 2) (c := 7) rfl hG5
    refine c_geta X.1 hy0 cf_X10_20 hG5 dX10_union_74 ?_
    obtain ⟨v6, hG6, hf⟩ := z_bind hf
    have hv6 := X.1.2.2.get hv5 (k := 6) (c := 100) rfl hG6
    refine c_geta X.1 hv5 cf_X10_108 hG6 dX10_union_77 ?_
    obtain ⟨r7, hc7, hf⟩ := z_bind hf
    refine c_callVv [.ref (ad v6)] X.1 hl.1 (c_X7_begin D cy ad X.1.2.2 hv4 hv6 hc7) hv4 ⟨by decide, rfl⟩ cm_X10_111 cw_X7_begin rfl cq_X7_begin ⟨by decide, by decide⟩ (Nat.le_of_ble_eq_true rfl) rfl dX10_union_80 ?_
    refine z_aload_n X.1.1 dX10_union_83 rfl (lv_at hl 0 rfl) ?_
    refine z_iconst (v := 0) X.1.1 dX10_union_84 (by decide) ?_
    refine c_puti X.1 hy0 cf_X10_58 cg_X10 cp_X10_10 rfl rfl dX10_union_85 ?_
    refine z_aload_n X.1.1 dX10_union_88 rfl (lv_at hl 0 rfl) ?_
    refine z_iconst (v := 0) X.1.1 dX10_union_89 (by decide) ?_
    refine c_puti X.1 hy0 cf_X10_68 cg_X10 cp_X10_13 rfl rfl dX10_union_90 ?_
    refine z_aload_n X.1.1 dX10_union_93 rfl (lv_at hl 0 rfl) ?_
    obtain ⟨v8, hG8, hf⟩ := z_bind hf
    have hv8 := X.1.2.2.get hy0 (k := 2) (c := 7) rfl hG8
    refine c_geta X.1 hy0 cf_X10_20 hG8 dX10_union_94 ?_
    refine c_geti X.1 hv8 cf_X10_115 dX10_union_97 ?_
    exact a_iret X Z ha hn0 hk0 hf rfl dX10_union_100
  · have hf := (if_neg c_).symm.trans hf
    refine z_aload_n X.1.1 dX10_union_48 rfl (lv_at hl 0 rfl) ?_
    refine z_iconst (v := 1) X.1.1 dX10_union_49 (by decide) ?_
    obtain ⟨r9, hc9, hf⟩ := z_bind hf
    refine c_callVi [.int 1] X.1 hl.1 (c_X10_refuse D cy ad X.1.2.2 hy0 hc9) hy0 ⟨by decide, rfl⟩ cm_X10_80 cw_X10_refuse rfl cq_X10_refuse ⟨by decide, by decide⟩ (Nat.le_of_ble_eq_true rfl) rfl dX10_union_50 ?_
    exact a_iret X Z ha hn0 hk0 hf rfl dX10_union_53

set_option maxHeartbeats 4000000 in
set_option maxRecDepth 100000 in
theorem w_X10_union_15 {M : zM} {D : va_G} {cy : Nat → ClassId} {ad0 K0 : Nat → Nat} {n0 : Nat} {r' : Int32 × zS} (Z : RZAi M D cy ad0 n0 K0 .int r'.1 r'.2) (hC : M.2.2.2.1.cells = r'.2.2.1 ∧ M.2.2.2.1.slots = r'.2.2.2.1) {sa sb : Nat} (hT : zTf M sa sb) (y0 : Nat) (t0 : Nat) (n c q : Nat) (K N : Nat → Nat) (G : zG) (V : zI) (L : zL) (ad : Nat → Nat) (ls : Array Slot) (X : RXA M D cy ad n c q K N G cX10_union 2 RX10 107 2350) (ha : ∀ w, w < n0 → ad w = ad0 w) (hn0 : n0 ≤ n) (hk0 : ∀ w, w < n0 → K w = K0 w) (hy0 : y0 < n ∧ K y0 = 8) (ht0 : t0 < n ∧ K t0 = 4) (hl : lv_has ls 2 [(0, .ref (ad y0))]) (hf : f_X10_union_15 y0 t0 n c q K N G V L = some r') : RG (zMb M c q) (zC D cy ad n K N G) V L 15 ls [.ref (ad t0)] := by
  unfold f_X10_union_15 at hf
  refine c_astore_n (lv' := [(1, .ref (ad t0)), (0, .ref (ad y0))]) X.1 dX10_union_15 rfl hl (by decide) rfl (fun ls hl => ?_)
  refine z_aload_n X.1.1 dX10_union_16 rfl (lv_at hl 1 rfl) ?_
  refine z_iconst (v := 0) X.1.1 dX10_union_17 (by decide) ?_
  refine c_puti X.1 hy0 cf_X10_13 cg_X10 cp_X10_1 rfl rfl dX10_union_18 ?_
  refine z_aload_n X.1.1 dX10_union_21 rfl (lv_at hl 0 rfl) ?_
  obtain ⟨r1, hc1, hf⟩ := z_bind hf
  have hm := m_X10_union_25 y0 t0 r1.1 (c + r1.2.1) (q + r1.2.2.1) r1.2.2.2.1 r1.2.2.2.2.1 r1.2.2.2.2.2.1 r1.2.2.2.2.2.2.1 r1.2.2.2.2.2.2.2 hf
  refine a_callVv [] X hl.1 (c_X5_readUnion D cy ad X.1.2.2 ht0 hc1) ht0 ⟨by decide, rfl⟩ cm_X10_93 cw_X5_readUnion rfl cq_X5_readUnion ⟨by decide, by decide⟩ (Nat.le_of_ble_eq_true rfl) rfl ⟨by rw [hC.1]; exact hm.1, by rw [hC.2]; exact hm.2⟩ dX10_union_22 (fun ad' hag hnn hKg X => ?_)
  rw [← hag t0 ht0.1] at hl
  rw [← hag y0 hy0.1] at hl
  exact w_X10_union_25 Z hC hT y0 t0 r1.1 (c + r1.2.1) (q + r1.2.2.1) r1.2.2.2.1 r1.2.2.2.2.1 r1.2.2.2.2.2.1 r1.2.2.2.2.2.2.1 r1.2.2.2.2.2.2.2 ad' ls X (zag_up ha hn0 hag) (by omega) (zag_up hk0 hn0 hKg) (zh_ext hy0 hnn hKg) (zh_ext ht0 hnn hKg) (lv_sub hl [1, 0] rfl) hf

set_option maxHeartbeats 4000000 in
set_option maxRecDepth 100000 in
theorem w_X10_union_3 {M : zM} {D : va_G} {cy : Nat → ClassId} {ad0 K0 : Nat → Nat} {n0 : Nat} {r' : Int32 × zS} (Z : RZAi M D cy ad0 n0 K0 .int r'.1 r'.2) (hC : M.2.2.2.1.cells = r'.2.2.1 ∧ M.2.2.2.1.slots = r'.2.2.2.1) {sa sb : Nat} (hT : zTf M sa sb) (y0 : Nat) (t0 : Nat) (n c q : Nat) (K N : Nat → Nat) (G : zG) (V : zI) (L : zL) (ad : Nat → Nat) (ls : Array Slot) (X : RXA M D cy ad n c q K N G cX10_union 2 RX10 107 2350) (ha : ∀ w, w < n0 → ad w = ad0 w) (hn0 : n0 ≤ n) (hk0 : ∀ w, w < n0 → K w = K0 w) (hy0 : y0 < n ∧ K y0 = 8) (ht0 : t0 < n ∧ K t0 = 4) (hl : lv_has ls 2 [(0, .ref (ad y0))]) (hf : f_X10_union_3 y0 t0 n c q K N G V L = some r') : RG (zMb M c q) (zC D cy ad n K N G) V L 3 ls [.ref (ad t0)] := by
  unfold f_X10_union_3 at hf
  refine z_dup X.1.1 dX10_union_3 rfl ?_
  refine z_aload_n X.1.1 dX10_union_4 rfl (lv_at hl 0 rfl) ?_
  obtain ⟨v1, hG1, hf⟩ := z_bind hf
  have hv1 := X.1.2.2.get hy0 (k := 0) (c := 101) rfl hG1
  refine c_geta X.1 hy0 cf_X10_9 hG1 dX10_union_5 ?_
  refine z_aload_n X.1.1 dX10_union_8 rfl (lv_at hl 0 rfl) ?_
  refine c_geti X.1 hy0 cf_X10_13 dX10_union_9 ?_
  obtain ⟨r2, hc2, hf⟩ := z_bind hf
  have hm := m_X10_union_15 y0 t0 r2.1 (c + r2.2.1) (q + r2.2.2.1) r2.2.2.2.1 r2.2.2.2.2.1 r2.2.2.2.2.2.1 r2.2.2.2.2.2.2.1 r2.2.2.2.2.2.2.2 hf
  refine t_callIv [.ref (ad v1), .int (V y0 1)] X hl.1 hT (c_X5_init D cy ad X.1.2.2 ht0 hv1 hc2) ht0 ⟨by decide, rfl⟩ cm_X10_90 cx_X5_init rfl cq_X5_init ⟨by decide, by decide⟩ (Nat.le_of_ble_eq_true rfl) rfl ⟨by rw [hC.1]; exact hm.1, by rw [hC.2]; exact hm.2⟩ dX10_union_12 (fun ad' hag hnn hKg X => ?_)
  rw [← hag y0 hy0.1] at hl
  rw [← hag t0 ht0.1]
  exact w_X10_union_15 Z hC hT y0 t0 r2.1 (c + r2.2.1) (q + r2.2.2.1) r2.2.2.2.1 r2.2.2.2.2.1 r2.2.2.2.2.2.1 r2.2.2.2.2.2.2.1 r2.2.2.2.2.2.2.2 ad' ls X (zag_up ha hn0 hag) (by omega) (zag_up hk0 hn0 hKg) (zh_ext hy0 hnn hKg) (zh_ext ht0 hnn hKg) (lv_sub hl [0] rfl) hf

set_option maxHeartbeats 4000000 in
set_option maxRecDepth 100000 in
theorem w_X10_union {M : zM} {D : va_G} {cy : Nat → ClassId} {ad0 K0 : Nat → Nat} {n0 : Nat} {r' : Int32 × zS} (Z : RZAi M D cy ad0 n0 K0 .int r'.1 r'.2) (hC : M.2.2.2.1.cells = r'.2.2.1 ∧ M.2.2.2.1.slots = r'.2.2.2.1) {sa sb : Nat} (hT : zTf M sa sb) (y0 : Nat) (n c q : Nat) (K N : Nat → Nat) (G : zG) (V : zI) (L : zL) (ad : Nat → Nat) (ls : Array Slot) (X : RXA M D cy ad n c q K N G cX10_union 2 RX10 107 2350) (ha : ∀ w, w < n0 → ad w = ad0 w) (hn0 : n0 ≤ n) (hk0 : ∀ w, w < n0 → K w = K0 w) (hy0 : y0 < n ∧ K y0 = 8) (hl : lv_has ls 2 [(0, .ref (ad y0))]) (hf : g_X10_union y0 n c q K N G V L = some r') : RG (zMb M c q) (zC D cy ad n K N G) V L 0 ls [] := by
  unfold g_X10_union at hf
  have hm := m_X10_union_3 y0 n (n + 1) (c + 1) (q + 12) (kU K n 4) N (kU G n zn0) (kU V n (fun _ => 0)) (kU L n (fun _ => 0)) hf
  refine a_new (ci := 4) X ci_X5 cg_X5.1 dv_X5 cn_X10_88 ⟨by rw [hC.1]; exact hm.1, by rw [hC.2]; exact hm.2⟩ dX10_union_0 (fun ad' hag X => ?_)
  rw [← hag y0 hy0.1] at hl
  exact w_X10_union_3 Z hC hT y0 n (n + 1) (c + 1) (q + 12) (kU K n 4) N (kU G n zn0) (kU V n (fun _ => 0)) (kU L n (fun _ => 0)) ad' ls X (zag_up ha hn0 hag) (by omega) (zag_up hk0 hn0 (fun w h => kU_ne (by omega))) (zh_up hy0) zh_new (lv_sub hl [0] rfl) hf

theorem c_X10_union (D : va_G) (cy : Nat → ClassId) (ad : Nat → Nat) {n : Nat} {K N : Nat → Nat} {G : zG} (hWF : zWF n K G) {y0 : Nat} {V : zI} {L : zL} (hy0 : y0 < n ∧ K y0 = 8) {r' : Int32 × zS} {sa sb : Nat} (hf : f_X10_union y0 n K N G V L = some r') : RTi sa sb D cy ad n K N G yX10_union cX10_union 2 .int 107 2350 [.ref (ad y0)] V L r'.1 r'.2 :=
  RTi.of (by decide) hWF (Nat.le_of_ble_eq_true rfl) (fun M X Z hC hnm hT ls hl => w_X10_union Z hC hT y0 n 0 0 K N G V L ad ls X (fun _ _ => rfl) (Nat.le_refl _) (fun _ _ => rfl) hy0 hl hf)
