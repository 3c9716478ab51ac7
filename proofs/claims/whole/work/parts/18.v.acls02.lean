def f_X5_readUnion_45 (k2 : Nat × Int32 × zS → Option (zS)) (y0 : Nat) (x1 : Int32) (n c q : Nat) (K N : Nat → Nat) (G : zG) (V : zI) (L : zL) : Option (zS) :=
  (f_X5_skipSign N G y0 59 V L).bind fun r1 => (G y0 5).bind fun v2 => k2 (y0, (x1 + 1), n, c, q, K, N, G, z_uI r1.1 v2 2 ((r1.1 v2 2) + 1), r1.2)
def b_X5_readUnion_2 (k2 : Nat × Int32 × zS → Option (zS)) : Nat × Int32 × zS → Option (zS) := fun ⟨y0, x1, n, c, q, K, N, G, V, L⟩ =>
  (if 80 < x1 then some (n, c, q, K, N, G, V, L) else (if (V y0 10) = 0 then (if (V y0 2) = 0 then some (n, c, q, K, N, G, V, L) else (if x1 = 80 then (f_X5_fail N G y0 6 (V y0 4) V L).bind fun r2 => k2 (y0, (x1 + 1), n, c, q, K, N, G, r2.1, r2.2) else (f_X5_readStatement y0 n K N G V L).bind fun r1 => f_X5_readUnion_45 k2 y0 x1 r1.1 (c + r1.2.1) (q + r1.2.2.1) r1.2.2.2.1 r1.2.2.2.2.1 r1.2.2.2.2.2.1 r1.2.2.2.2.2.2.1 r1.2.2.2.2.2.2.2)) else some (n, c, q, K, N, G, V, L)))
def g_X5_readUnion (y0 : Nat) (n c q : Nat) (K N : Nat → Nat) (G : zG) (V : zI) (L : zL) : Option (zS) :=
  zfix (b_X5_readUnion_2) FU (y0, 0, n, c, q, K, N, G, V, L)
def f_X5_readUnion (y0 : Nat) (n : Nat) (K N : Nat → Nat) (G : zG) (V : zI) (L : zL) : Option (zS) := g_X5_readUnion y0 n 0 0 K N G V L
set_option maxHeartbeats 4000000 in
set_option maxRecDepth 100000 in
theorem m_X5_readUnion_45 {k2 : Nat × Int32 × zS → Option (zS)} (hm2 : ∀ (y0 : Nat) (x1 : Int32) (n c q : Nat) (K N : Nat → Nat) (G : zG) (V : zI) (L : zL) {r' : zS}, k2 (y0, x1, n, c, q, K, N, G, V, L) = some r' → c ≤ r'.2.1 ∧ q ≤ r'.2.2.1) (y0 : Nat) (x1 : Int32) (n c q : Nat) (K N : Nat → Nat) (G : zG) (V : zI) (L : zL) {r' : zS} (hf : f_X5_readUnion_45 k2 y0 x1 n c q K N G V L = some r') : c ≤ r'.2.1 ∧ q ≤ r'.2.2.1 := by
  unfold f_X5_readUnion_45 at hf
  obtain ⟨r1, hc1, hf⟩ := z_bind hf
  obtain ⟨v2, hG2, hf⟩ := z_bind hf
  exact hm2 y0 (x1 + 1) n c q K N G (z_uI r1.1 v2 2 ((r1.1 v2 2) + 1)) r1.2 hf

set_option maxHeartbeats 4000000 in
set_option maxRecDepth 100000 in
theorem m_X5_readUnion_2 (nn : Nat) : ∀ (y0 : Nat) (x1 : Int32) (n c q : Nat) (K N : Nat → Nat) (G : zG) (V : zI) (L : zL) {r' : zS}, zfix (b_X5_readUnion_2) nn (y0, x1, n, c, q, K, N, G, V, L) = some r' → c ≤ r'.2.1 ∧ q ≤ r'.2.2.1 := by
  induction nn with
  | zero => intro y0 x1 n c q K N G V L r' hf; cases hf
  | succ nn ih =>
  intro y0 x1 n c q K N G V L r' hf
  have hm2 : ∀ (y0 : Nat) (x1 : Int32) (n c q : Nat) (K N : Nat → Nat) (G : zG) (V : zI) (L : zL) {r' : zS}, zfix (b_X5_readUnion_2) nn (y0, x1, n, c, q, K, N, G, V, L) = some r' → c ≤ r'.2.1 ∧ q ≤ r'.2.2.1 := ih
  have hf : b_X5_readUnion_2 (zfix (b_X5_readUnion_2) nn) (y0, x1, n, c, q, K, N, G, V, L) = some r' := hf
  generalize zfix (b_X5_readUnion_2) nn = k2 at hm2 hf
  clear ih
  unfold b_X5_readUnion_2 at hf
  rcases z_iteE hf with hf | hf
  ·
    cases hf
    exact ⟨Nat.le_refl _, Nat.le_refl _⟩
  ·
    rcases z_iteE hf with hf | hf
    ·
      rcases z_iteE hf with hf | hf
      ·
        cases hf
        exact ⟨Nat.le_refl _, Nat.le_refl _⟩
      ·
        rcases z_iteE hf with hf | hf
        ·
          obtain ⟨r2, hc2, hf⟩ := z_bind hf
          exact hm2 y0 (x1 + 1) n c q K N G r2.1 r2.2 hf
        ·
          obtain ⟨r1, hc1, hf⟩ := z_bind hf
          have hm := m_X5_readUnion_45 hm2 y0 x1 r1.1 (c + r1.2.1) (q + r1.2.2.1) r1.2.2.2.1 r1.2.2.2.2.1 r1.2.2.2.2.2.1 r1.2.2.2.2.2.2.1 r1.2.2.2.2.2.2.2 hf
          exact ⟨by omega, by omega⟩
    ·
      cases hf
      exact ⟨Nat.le_refl _, Nat.le_refl _⟩

set_option maxHeartbeats 4000000 in
set_option maxRecDepth 100000 in
theorem w_X5_readUnion_45 {M : zM} {D : va_G} {cy : Nat → ClassId} {ad0 K0 : Nat → Nat} {n0 : Nat} {r' : zS} (Z : RZAv M D cy ad0 n0 K0 r') (hC : M.2.2.2.1.cells = r'.2.1 ∧ M.2.2.2.1.slots = r'.2.2.1) {k2 : Nat × Int32 × zS → Option (zS)} (hk2 : ∀ (y0 : Nat) (x1 : Int32) (n c q : Nat) (K N : Nat → Nat) (G : zG) (V : zI) (L : zL) (ad : Nat → Nat) (ls : Array Slot) (X : RXA M D cy ad n c q K N G cX5_readUnion 2 RX5 106 2329) (ha : ∀ w, w < n0 → ad w = ad0 w) (hn0 : n0 ≤ n) (hk0 : ∀ w, w < n0 → K w = K0 w) (hy0 : y0 < n ∧ K y0 = 4) (hl : lv_has ls 2 [(0, .ref (ad y0)), (1, .int x1)]) (hf : k2 (y0, x1, n, c, q, K, N, G, V, L) = some r'), RG (zMb M c q) (zC D cy ad n K N G) V L 2 ls []) (hm2 : ∀ (y0 : Nat) (x1 : Int32) (n c q : Nat) (K N : Nat → Nat) (G : zG) (V : zI) (L : zL) {r' : zS}, k2 (y0, x1, n, c, q, K, N, G, V, L) = some r' → c ≤ r'.2.1 ∧ q ≤ r'.2.2.1) (y0 : Nat) (x1 : Int32) (n c q : Nat) (K N : Nat → Nat) (G : zG) (V : zI) (L : zL) (ad : Nat → Nat) (ls : Array Slot) (X : RXA M D cy ad n c q K N G cX5_readUnion 2 RX5 106 2329) (ha : ∀ w, w < n0 → ad w = ad0 w) (hn0 : n0 ≤ n) (hk0 : ∀ w, w < n0 → K w = K0 w) (hy0 : y0 < n ∧ K y0 = 4) (hl : lv_has ls 2 [(0, .ref (ad y0)), (1, .int x1)]) (hf : f_X5_readUnion_45 k2 y0 x1 n c q K N G V L = some r') : RG (zMb M c q) (zC D cy ad n K N G) V L 45 ls [] := by
  unfold f_X5_readUnion_45 at hf
  refine z_aload_n X.1.1 dX5_readUnion_45 rfl (lv_at hl 0 rfl) ?_
  refine z_bipush (v := 59) X.1.1 dX5_readUnion_46 (by decide) ?_
  obtain ⟨r1, hc1, hf⟩ := z_bind hf
  refine c_callVv [.int 59] X.1 hl.1 (c_X5_skipSign D cy ad X.1.2.2 hy0 hc1) hy0 ⟨by decide, rfl⟩ cm_X5_80 cw_X5_skipSign rfl cq_X5_skipSign ⟨by decide, by decide⟩ (Nat.le_of_ble_eq_true rfl) rfl dX5_readUnion_48 ?_
  refine z_aload_n X.1.1 dX5_readUnion_51 rfl (lv_at hl 0 rfl) ?_
  obtain ⟨v2, hG2, hf⟩ := z_bind hf
  have hv2 := X.1.2.2.get hy0 (k := 5) (c := 7) rfl hG2
  refine c_geta X.1 hy0 cf_X5_29 hG2 dX5_readUnion_52 ?_
  refine z_dup X.1.1 dX5_readUnion_55 rfl ?_
  refine c_geti X.1 hv2 cf_X5_83 dX5_readUnion_56 ?_
  refine z_iconst (v := 1) X.1.1 dX5_readUnion_59 (by decide) ?_
  refine z_iadd X.1.1 dX5_readUnion_60 ?_
  refine c_puti X.1 hv2 cf_X5_83 cg_X9 cp_X9_2 rfl rfl dX5_readUnion_61 ?_
  refine z_iinc (v := x1 + 1) (k0 := 1) (lv' := [(1, .int (x1 + 1)), (0, .ref (ad y0))]) X.1.1 dX5_readUnion_64 hl rfl rfl (by decide) rfl (fun ls hl => ?_)
  refine z_goto (tgt := 2) X.1.1 dX5_readUnion_67 (by decide) ?_
  exact hk2 y0 (x1 + 1) n c q K N G (z_uI r1.1 v2 2 ((r1.1 v2 2) + 1)) r1.2 ad ls X ha hn0 hk0 hy0 (lv_sub hl [1, 0] rfl) hf

set_option maxHeartbeats 4000000 in
set_option maxRecDepth 100000 in
theorem w_X5_readUnion_2 {M : zM} {D : va_G} {cy : Nat → ClassId} {ad0 K0 : Nat → Nat} {n0 : Nat} {r' : zS} (Z : RZAv M D cy ad0 n0 K0 r') (hC : M.2.2.2.1.cells = r'.2.1 ∧ M.2.2.2.1.slots = r'.2.2.1) (nn : Nat) : ∀ (y0 : Nat) (x1 : Int32) (n c q : Nat) (K N : Nat → Nat) (G : zG) (V : zI) (L : zL) (ad : Nat → Nat) (ls : Array Slot) (X : RXA M D cy ad n c q K N G cX5_readUnion 2 RX5 106 2329) (ha : ∀ w, w < n0 → ad w = ad0 w) (hn0 : n0 ≤ n) (hk0 : ∀ w, w < n0 → K w = K0 w) (hy0 : y0 < n ∧ K y0 = 4) (hl : lv_has ls 2 [(0, .ref (ad y0)), (1, .int x1)]) (hf : zfix (b_X5_readUnion_2) nn (y0, x1, n, c, q, K, N, G, V, L) = some r'), RG (zMb M c q) (zC D cy ad n K N G) V L 2 ls [] := by
  induction nn with
  | zero => intro y0 x1 n c q K N G V L ad ls X ha hn0 hk0 hy0 hl hf; cases hf
  | succ nn ih =>
  intro y0 x1 n c q K N G V L ad ls X ha hn0 hk0 hy0 hl hf
  have hk2 : ∀ (y0 : Nat) (x1 : Int32) (n c q : Nat) (K N : Nat → Nat) (G : zG) (V : zI) (L : zL) (ad : Nat → Nat) (ls : Array Slot) (X : RXA M D cy ad n c q K N G cX5_readUnion 2 RX5 106 2329) (ha : ∀ w, w < n0 → ad w = ad0 w) (hn0 : n0 ≤ n) (hk0 : ∀ w, w < n0 → K w = K0 w) (hy0 : y0 < n ∧ K y0 = 4) (hl : lv_has ls 2 [(0, .ref (ad y0)), (1, .int x1)]) (hf : zfix (b_X5_readUnion_2) nn (y0, x1, n, c, q, K, N, G, V, L) = some r'), RG (zMb M c q) (zC D cy ad n K N G) V L 2 ls [] := ih
  have hm2 : ∀ (y0 : Nat) (x1 : Int32) (n c q : Nat) (K N : Nat → Nat) (G : zG) (V : zI) (L : zL) {r' : zS}, zfix (b_X5_readUnion_2) nn (y0, x1, n, c, q, K, N, G, V, L) = some r' → c ≤ r'.2.1 ∧ q ≤ r'.2.2.1 := m_X5_readUnion_2 nn
  have hf : b_X5_readUnion_2 (zfix (b_X5_readUnion_2) nn) (y0, x1, n, c, q, K, N, G, V, L) = some r' := hf
  generalize zfix (b_X5_readUnion_2) nn = k2 at hk2 hm2 hf
  clear ih
  unfold b_X5_readUnion_2 at hf
  refine z_iload_n X.1.1 dX5_readUnion_2 rfl (lv_at hl 1 rfl) ?_
  refine z_bipush (v := 80) X.1.1 dX5_readUnion_3 (by decide) ?_
  refine z_icmp_gt (tgt := 70) X.1.1 dX5_readUnion_5 (by decide) (fun c_ => ?_) (fun c_ => ?_)
  · have hf := (if_pos c_).symm.trans hf
    exact a_vret X Z ha hn0 hk0 hf dX5_readUnion_70
  · have hf := (if_neg c_).symm.trans hf
    refine z_aload_n X.1.1 dX5_readUnion_8 rfl (lv_at hl 0 rfl) ?_
    refine c_geti X.1 hy0 cf_X5_43 dX5_readUnion_9 ?_
    refine z_if_ne (tgt := 70) X.1.1 dX5_readUnion_12 (by decide) (fun c_ => ?_) (fun c_ => ?_)
    · have hf := (if_neg c_).symm.trans hf
      exact a_vret X Z ha hn0 hk0 hf dX5_readUnion_70
    · have hf := (if_pos c_).symm.trans hf
      refine z_aload_n X.1.1 dX5_readUnion_15 rfl (lv_at hl 0 rfl) ?_
      refine c_geti X.1 hy0 cf_X5_17 dX5_readUnion_16 ?_
      refine z_if_eq (tgt := 70) X.1.1 dX5_readUnion_19 (by decide) (fun c_ => ?_) (fun c_ => ?_)
      · have hf := (if_pos c_).symm.trans hf
        exact a_vret X Z ha hn0 hk0 hf dX5_readUnion_70
      · have hf := (if_neg c_).symm.trans hf
        refine z_iload_n X.1.1 dX5_readUnion_22 rfl (lv_at hl 1 rfl) ?_
        refine z_bipush (v := 80) X.1.1 dX5_readUnion_23 (by decide) ?_
        refine z_icmp_ne (tgt := 41) X.1.1 dX5_readUnion_25 (by decide) (fun c_ => ?_) (fun c_ => ?_)
        · have hf := (if_neg c_).symm.trans hf
          refine z_aload_n X.1.1 dX5_readUnion_41 rfl (lv_at hl 0 rfl) ?_
          obtain ⟨r1, hc1, hf⟩ := z_bind hf
          have hm := m_X5_readUnion_45 hm2 y0 x1 r1.1 (c + r1.2.1) (q + r1.2.2.1) r1.2.2.2.1 r1.2.2.2.2.1 r1.2.2.2.2.2.1 r1.2.2.2.2.2.2.1 r1.2.2.2.2.2.2.2 hf
          refine a_callVv [] X hl.1 (c_X5_readStatement D cy ad X.1.2.2 hy0 hc1) hy0 ⟨by decide, rfl⟩ cm_X5_77 cw_X5_readStatement rfl cq_X5_readStatement ⟨by decide, by decide⟩ (Nat.le_of_ble_eq_true rfl) rfl ⟨by rw [hC.1]; exact hm.1, by rw [hC.2]; exact hm.2⟩ dX5_readUnion_42 (fun ad' hag hnn hKg X => ?_)
          rw [← hag y0 hy0.1] at hl
          exact w_X5_readUnion_45 Z hC hk2 hm2 y0 x1 r1.1 (c + r1.2.1) (q + r1.2.2.1) r1.2.2.2.1 r1.2.2.2.2.1 r1.2.2.2.2.2.1 r1.2.2.2.2.2.2.1 r1.2.2.2.2.2.2.2 ad' ls X (zag_up ha hn0 hag) (by omega) (zag_up hk0 hn0 hKg) (zh_ext hy0 hnn hKg) (lv_sub hl [0, 1] rfl) hf
        · have hf := (if_pos c_).symm.trans hf
          refine z_aload_n X.1.1 dX5_readUnion_28 rfl (lv_at hl 0 rfl) ?_
          refine z_bipush (v := 6) X.1.1 dX5_readUnion_29 (by decide) ?_
          refine z_aload_n X.1.1 dX5_readUnion_31 rfl (lv_at hl 0 rfl) ?_
          refine c_geti X.1 hy0 cf_X5_23 dX5_readUnion_32 ?_
          obtain ⟨r2, hc2, hf⟩ := z_bind hf
          refine c_callVv [.int 6, .int (V y0 4)] X.1 hl.1 (c_X5_fail D cy ad X.1.2.2 hy0 hc2) hy0 ⟨by decide, rfl⟩ cm_X5_73 cw_X5_fail rfl cq_X5_fail ⟨by decide, by decide⟩ (Nat.le_of_ble_eq_true rfl) rfl dX5_readUnion_35 ?_
          refine z_goto (tgt := 64) X.1.1 dX5_readUnion_38 (by decide) ?_
          refine z_iinc (v := x1 + 1) (k0 := 1) (lv' := [(1, .int (x1 + 1)), (0, .ref (ad y0))]) X.1.1 dX5_readUnion_64 hl rfl rfl (by decide) rfl (fun ls hl => ?_)
          refine z_goto (tgt := 2) X.1.1 dX5_readUnion_67 (by decide) ?_
          exact hk2 y0 (x1 + 1) n c q K N G r2.1 r2.2 ad ls X ha hn0 hk0 hy0 (lv_sub hl [1, 0] rfl) hf

set_option maxHeartbeats 4000000 in
set_option maxRecDepth 100000 in
theorem w_X5_readUnion {M : zM} {D : va_G} {cy : Nat → ClassId} {ad0 K0 : Nat → Nat} {n0 : Nat} {r' : zS} (Z : RZAv M D cy ad0 n0 K0 r') (hC : M.2.2.2.1.cells = r'.2.1 ∧ M.2.2.2.1.slots = r'.2.2.1) (y0 : Nat) (n c q : Nat) (K N : Nat → Nat) (G : zG) (V : zI) (L : zL) (ad : Nat → Nat) (ls : Array Slot) (X : RXA M D cy ad n c q K N G cX5_readUnion 2 RX5 106 2329) (ha : ∀ w, w < n0 → ad w = ad0 w) (hn0 : n0 ≤ n) (hk0 : ∀ w, w < n0 → K w = K0 w) (hy0 : y0 < n ∧ K y0 = 4) (hl : lv_has ls 2 [(0, .ref (ad y0))]) (hf : g_X5_readUnion y0 n c q K N G V L = some r') : RG (zMb M c q) (zC D cy ad n K N G) V L 0 ls [] := by
  unfold g_X5_readUnion at hf
  refine z_iconst (v := 0) X.1.1 dX5_readUnion_0 (by decide) ?_
  refine z_istore_n (lv' := [(1, .int 0), (0, .ref (ad y0))]) X.1.1 dX5_readUnion_1 rfl hl (by decide) rfl (fun ls hl => ?_)
  exact w_X5_readUnion_2 Z hC FU y0 0 n c q K N G V L ad ls X ha hn0 hk0 hy0 (lv_sub hl [1, 0] rfl) hf

theorem c_X5_readUnion (D : va_G) (cy : Nat → ClassId) (ad : Nat → Nat) {n : Nat} {K N : Nat → Nat} {G : zG} (hWF : zWF n K G) {y0 : Nat} {V : zI} {L : zL} (hy0 : y0 < n ∧ K y0 = 4) {r' : zS} (hf : f_X5_readUnion y0 n K N G V L = some r') : RAv D cy ad n K N G yX5_readUnion cX5_readUnion 2 106 2329 [.ref (ad y0)] V L r' :=
  RAv.of (by decide) hWF (Nat.le_of_ble_eq_true rfl) (fun M X Z hC hnm ls hl => w_X5_readUnion Z hC y0 n 0 0 K N G V L ad ls X (fun _ _ => rfl) (Nat.le_refl _) (fun _ _ => rfl) hy0 hl hf)
def f_X10_init_137 (t0 : Nat) (t1 : Nat) (n c q : Nat) (K N : Nat → Nat) (G : zG) (V : zI) (L : zL) : Option (zS) :=
  some (n, c, q, K, N, gS G t0 16 (some t1), V, L)
def f_X10_init_124 (y0 : Nat) (t0 : Nat) (t1 : Nat) (n c q : Nat) (K N : Nat → Nat) (G : zG) (V : zI) (L : zL) : Option (zS) :=
  if (¬ (6 : Int32) < 0 ∧ (6 : Int32).toNatClampNeg ≤ 100000) then f_X10_init_137 y0 n (n + 1) (c + 1) (q + (6 : Int32).toNatClampNeg) (kU K n 100) (kU N n (6 : Int32).toNatClampNeg) (kU (gS G t0 14 (some t1)) n zn0) (kU (z_uI V y0 15 0) n (fun _ => 0)) (kU L n (fun _ => 0)) else none
def f_X10_init_110 (y0 : Nat) (t0 : Nat) (t1 : Nat) (n c q : Nat) (K N : Nat → Nat) (G : zG) (V : zI) (L : zL) : Option (zS) :=
  if (¬ (512 : Int32) < 0 ∧ (512 : Int32).toNatClampNeg ≤ 100000) then f_X10_init_124 y0 y0 n (n + 1) (c + 1) (q + (512 : Int32).toNatClampNeg) (kU K n 100) (kU N n (512 : Int32).toNatClampNeg) (kU (gS G t0 12 (some t1)) n zn0) (kU (z_uI V y0 13 0) n (fun _ => 0)) (kU L n (fun _ => 0)) else none
def f_X10_init_102 (y0 : Nat) (t0 : Nat) (t1 : Nat) (n c q : Nat) (K N : Nat → Nat) (G : zG) (V : zI) (L : zL) : Option (zS) :=
  if (¬ (16 : Int32) < 0 ∧ (16 : Int32).toNatClampNeg ≤ 100000) then f_X10_init_110 y0 y0 n (n + 1) (c + 1) (q + (16 : Int32).toNatClampNeg) (kU K n 100) (kU N n (16 : Int32).toNatClampNeg) (kU (gS G t0 11 (some t1)) n zn0) (kU V n (fun _ => 0)) (kU L n (fun _ => 0)) else none
def f_X10_init_89 (y0 : Nat) (t0 : Nat) (t1 : Nat) (n c q : Nat) (K N : Nat → Nat) (G : zG) (V : zI) (L : zL) : Option (zS) :=
  if (¬ (16 : Int32) < 0 ∧ (16 : Int32).toNatClampNeg ≤ 100000) then f_X10_init_102 y0 y0 n (n + 1) (c + 1) (q + (16 : Int32).toNatClampNeg) (kU K n 100) (kU N n (16 : Int32).toNatClampNeg) (kU (gS G t0 9 (some t1)) n zn0) (kU (z_uI V y0 10 0) n (fun _ => 0)) (kU L n (fun _ => 0)) else none
def f_X10_init_80 (y0 : Nat) (t0 : Nat) (t1 : Nat) (n c q : Nat) (K N : Nat → Nat) (G : zG) (V : zI) (L : zL) : Option (zS) :=
  if (¬ (20 : Int32) < 0 ∧ (20 : Int32).toNatClampNeg ≤ 100000) then f_X10_init_89 y0 y0 n (n + 1) (c + 1) (q + (20 : Int32).toNatClampNeg) (kU K n 104) (kU N n (20 : Int32).toNatClampNeg) (kU (gS G t0 8 (some t1)) n zn0) (kU V n (fun _ => 0)) (kU L n (fun _ => 0)) else none
def f_X10_init_76 (y0 : Nat) (t0 : Nat) (t1 : Nat) (n c q : Nat) (K N : Nat → Nat) (G : zG) (V : zI) (L : zL) : Option (zS) :=
  (f_X1_init t1 n K N G V L).bind fun r1 => f_X10_init_80 y0 t0 t1 r1.1 (c + r1.2.1) (q + r1.2.2.1) r1.2.2.2.1 r1.2.2.2.2.1 r1.2.2.2.2.2.1 r1.2.2.2.2.2.2.1 r1.2.2.2.2.2.2.2
def f_X10_init_69 (y0 : Nat) (t0 : Nat) (t1 : Nat) (n c q : Nat) (K N : Nat → Nat) (G : zG) (V : zI) (L : zL) : Option (zS) :=
  f_X10_init_76 y0 y0 n (n + 1) (c + 1) (q + 1) (kU K n 1) N (kU (gS G t0 7 (some t1)) n zn0) (kU V n (fun _ => 0)) (kU L n (fun _ => 0))
def f_X10_init_65 (y0 : Nat) (t0 : Nat) (t1 : Nat) (n c q : Nat) (K N : Nat → Nat) (G : zG) (V : zI) (L : zL) : Option (zS) :=
  (f_X4_init t1 n K N G V L).bind fun r1 => f_X10_init_69 y0 t0 t1 r1.1 (c + r1.2.1) (q + r1.2.2.1) r1.2.2.2.1 r1.2.2.2.2.1 r1.2.2.2.2.2.1 r1.2.2.2.2.2.2.1 r1.2.2.2.2.2.2.2
def f_X10_init_58 (y0 : Nat) (t0 : Nat) (t1 : Nat) (n c q : Nat) (K N : Nat → Nat) (G : zG) (V : zI) (L : zL) : Option (zS) :=
  f_X10_init_65 y0 y0 n (n + 1) (c + 1) (q + 1) (kU K n 3) N (kU (gS G t0 6 (some t1)) n zn0) (kU V n (fun _ => 0)) (kU L n (fun _ => 0))
def f_X10_init_54 (y0 : Nat) (t0 : Nat) (t1 : Nat) (n c q : Nat) (K N : Nat → Nat) (G : zG) (V : zI) (L : zL) : Option (zS) :=
  (f_X7_init t1 n K N G V L).bind fun r1 => f_X10_init_58 y0 t0 t1 r1.1 (c + r1.2.1) (q + r1.2.2.1) r1.2.2.2.1 r1.2.2.2.2.1 r1.2.2.2.2.2.1 r1.2.2.2.2.2.2.1 r1.2.2.2.2.2.2.2
def f_X10_init_47 (y0 : Nat) (t0 : Nat) (t1 : Nat) (n c q : Nat) (K N : Nat → Nat) (G : zG) (V : zI) (L : zL) : Option (zS) :=
  f_X10_init_54 y0 y0 n (n + 1) (c + 1) (q + 12) (kU K n 5) N (kU (gS G t0 5 (some t1)) n zn0) (kU V n (fun _ => 0)) (kU L n (fun _ => 0))
def f_X10_init_43 (y0 : Nat) (t0 : Nat) (t1 : Nat) (n c q : Nat) (K N : Nat → Nat) (G : zG) (V : zI) (L : zL) : Option (zS) :=
  (f_X7_init t1 n K N G V L).bind fun r1 => f_X10_init_47 y0 t0 t1 r1.1 (c + r1.2.1) (q + r1.2.2.1) r1.2.2.2.1 r1.2.2.2.2.1 r1.2.2.2.2.2.1 r1.2.2.2.2.2.2.1 r1.2.2.2.2.2.2.2
def f_X10_init_26 (y0 : Nat) (t0 : Nat) (t1 : Nat) (n c q : Nat) (K N : Nat → Nat) (G : zG) (V : zI) (L : zL) : Option (zS) :=
  f_X10_init_43 y0 y0 n (n + 1) (c + 1) (q + 12) (kU K n 5) N (kU (gS G t0 2 (some t1)) n zn0) (kU (z_uI (z_uI V y0 3 0) y0 4 (-1)) n (fun _ => 0)) (kU L n (fun _ => 0))
def f_X10_init_22 (y0 : Nat) (t0 : Nat) (t1 : Nat) (n c q : Nat) (K N : Nat → Nat) (G : zG) (V : zI) (L : zL) : Option (zS) :=
  (f_X9_init t1 n K N G V L).bind fun r1 => f_X10_init_26 y0 t0 t1 r1.1 (c + r1.2.1) (q + r1.2.2.1) r1.2.2.2.1 r1.2.2.2.2.1 r1.2.2.2.2.2.1 r1.2.2.2.2.2.2.1 r1.2.2.2.2.2.2.2
def f_X10_init_10 (y0 : Nat) (t0 : Nat) (t1 : Nat) (n c q : Nat) (K N : Nat → Nat) (G : zG) (V : zI) (L : zL) : Option (zS) :=
  f_X10_init_22 y0 y0 n (n + 1) (c + 1) (q + 11) (kU K n 7) N (kU (gS G t0 0 (some t1)) n zn0) (kU (z_uI V y0 1 0) n (fun _ => 0)) (kU L n (fun _ => 0))
def g_X10_init (y0 : Nat) (n c q : Nat) (K N : Nat → Nat) (G : zG) (V : zI) (L : zL) : Option (zS) :=
  if (¬ (1600 : Int32) < 0 ∧ (1600 : Int32).toNatClampNeg ≤ 100000) then f_X10_init_10 y0 y0 n (n + 1) (c + 1) (q + (1600 : Int32).toNatClampNeg) (kU K n 101) (kU N n (1600 : Int32).toNatClampNeg) (kU G n zn0) (kU V n (fun _ => 0)) (kU L n (fun _ => 0)) else none
def f_X10_init (y0 : Nat) (n : Nat) (K N : Nat → Nat) (G : zG) (V : zI) (L : zL) : Option (zS) := g_X10_init y0 n 0 0 K N G V L
set_option maxHeartbeats 4000000 in
set_option maxRecDepth 100000 in
theorem m_X10_init_137 (t0 : Nat) (t1 : Nat) (n c q : Nat) (K N : Nat → Nat) (G : zG) (V : zI) (L : zL) {r' : zS} (hf : f_X10_init_137 t0 t1 n c q K N G V L = some r') : c ≤ r'.2.1 ∧ q ≤ r'.2.2.1 := by
  unfold f_X10_init_137 at hf
  cases hf
  exact ⟨Nat.le_refl _, Nat.le_refl _⟩

set_option maxHeartbeats 4000000 in
set_option maxRecDepth 100000 in
theorem m_X10_init_124 (y0 : Nat) (t0 : Nat) (t1 : Nat) (n c q : Nat) (K N : Nat → Nat) (G : zG) (V : zI) (L : zL) {r' : zS} (hf : f_X10_init_124 y0 t0 t1 n c q K N G V L = some r') : c ≤ r'.2.1 ∧ q ≤ r'.2.2.1 := by
  unfold f_X10_init_124 at hf
  obtain ⟨hb1, hf⟩ := z_ite hf
  have hm := m_X10_init_137 y0 n (n + 1) (c + 1) (q + (6 : Int32).toNatClampNeg) (kU K n 100) (kU N n (6 : Int32).toNatClampNeg) (kU (gS G t0 14 (some t1)) n zn0) (kU (z_uI V y0 15 0) n (fun _ => 0)) (kU L n (fun _ => 0)) hf
  exact ⟨by omega, by omega⟩

set_option maxHeartbeats 4000000 in
set_option maxRecDepth 100000 in
theorem m_X10_init_110 (y0 : Nat) (t0 : Nat) (t1 : Nat) (n c q : Nat) (K N : Nat → Nat) (G : zG) (V : zI) (L : zL) {r' : zS} (hf : f_X10_init_110 y0 t0 t1 n c q K N G V L = some r') : c ≤ r'.2.1 ∧ q ≤ r'.2.2.1 := by
  unfold f_X10_init_110 at hf
  obtain ⟨hb1, hf⟩ := z_ite hf
  have hm := m_X10_init_124 y0 y0 n (n + 1) (c + 1) (q + (512 : Int32).toNatClampNeg) (kU K n 100) (kU N n (512 : Int32).toNatClampNeg) (kU (gS G t0 12 (some t1)) n zn0) (kU (z_uI V y0 13 0) n (fun _ => 0)) (kU L n (fun _ => 0)) hf
  exact ⟨by omega, by omega⟩

set_option maxHeartbeats 4000000 in
set_option maxRecDepth 100000 in
theorem m_X10_init_102 (y0 : Nat) (t0 : Nat) (t1 : Nat) (n c q : Nat) (K N : Nat → Nat) (G : zG) (V : zI) (L : zL) {r' : zS} (hf : f_X10_init_102 y0 t0 t1 n c q K N G V L = some r') : c ≤ r'.2.1 ∧ q ≤ r'.2.2.1 := by
  unfold f_X10_init_102 at hf
  obtain ⟨hb1, hf⟩ := z_ite hf
  have hm := m_X10_init_110 y0 y0 n (n + 1) (c + 1) (q + (16 : Int32).toNatClampNeg) (kU K n 100) (kU N n (16 : Int32).toNatClampNeg) (kU (gS G t0 11 (some t1)) n zn0) (kU V n (fun _ => 0)) (kU L n (fun _ => 0)) hf
  exact ⟨by omega, by omega⟩

set_option maxHeartbeats 4000000 in
set_option maxRecDepth 100000 in
theorem m_X10_init_89 (y0 : Nat) (t0 : Nat) (t1 : Nat) (n c q : Nat) (K N : Nat → Nat) (G : zG) (V : zI) (L : zL) {r' : zS} (hf : f_X10_init_89 y0 t0 t1 n c q K N G V L = some r') : c ≤ r'.2.1 ∧ q ≤ r'.2.2.1 := by
  unfold f_X10_init_89 at hf
  obtain ⟨hb1, hf⟩ := z_ite hf
  have hm := m_X10_init_102 y0 y0 n (n + 1) (c + 1) (q + (16 : Int32).toNatClampNeg) (kU K n 100) (kU N n (16 : Int32).toNatClampNeg) (kU (gS G t0 9 (some t1)) n zn0) (kU (z_uI V y0 10 0) n (fun _ => 0)) (kU L n (fun _ => 0)) hf
  exact ⟨by omega, by omega⟩

set_option maxHeartbeats 4000000 in
set_option maxRecDepth 100000 in
theorem m_X10_init_80 (y0 : Nat) (t0 : Nat) (t1 : Nat) (n c q : Nat) (K N : Nat → Nat) (G : zG) (V : zI) (L : zL) {r' : zS} (hf : f_X10_init_80 y0 t0 t1 n c q K N G V L = some r') : c ≤ r'.2.1 ∧ q ≤ r'.2.2.1 := by
  unfold f_X10_init_80 at hf
  obtain ⟨hb1, hf⟩ := z_ite hf
  have hm := m_X10_init_89 y0 y0 n (n + 1) (c + 1) (q + (20 : Int32).toNatClampNeg) (kU K n 104) (kU N n (20 : Int32).toNatClampNeg) (kU (gS G t0 8 (some t1)) n zn0) (kU V n (fun _ => 0)) (kU L n (fun _ => 0)) hf
  exact ⟨by omega, by omega⟩

set_option maxHeartbeats 4000000 in
set_option maxRecDepth 100000 in
theorem m_X10_init_76 (y0 : Nat) (t0 : Nat) (t1 : Nat) (n c q : Nat) (K N : Nat → Nat) (G : zG) (V : zI) (L : zL) {r' : zS} (hf : f_X10_init_76 y0 t0 t1 n c q K N G V L = some r') : c ≤ r'.2.1 ∧ q ≤ r'.2.2.1 := by
  unfold f_X10_init_76 at hf
  obtain ⟨r1, hc1, hf⟩ := z_bind hf
  have hm := m_X10_init_80 y0 t0 t1 r1.1 (c + r1.2.1) (q + r1.2.2.1) r1.2.2.2.1 r1.2.2.2.2.1 r1.2.2.2.2.2.1 r1.2.2.2.2.2.2.1 r1.2.2.2.2.2.2.2 hf
  exact ⟨by omega, by omega⟩

set_option maxHeartbeats 4000000 in
set_option maxRecDepth 100000 in
theorem m_X10_init_69 (y0 : Nat) (t0 : Nat) (t1 : Nat) (n c q : Nat) (K N : Nat → Nat) (G : zG) (V : zI) (L : zL) {r' : zS} (hf : f_X10_init_69 y0 t0 t1 n c q K N G V L = some r') : c ≤ r'.2.1 ∧ q ≤ r'.2.2.1 := by
  unfold f_X10_init_69 at hf
  have hm := m_X10_init_76 y0 y0 n (n + 1) (c + 1) (q + 1) (kU K n 1) N (kU (gS G t0 7 (some t1)) n zn0) (kU V n (fun _ => 0)) (kU L n (fun _ => 0)) hf
  exact ⟨by omega, by omega⟩

set_option maxHeartbeats 4000000 in
set_option maxRecDepth 100000 in
theorem m_X10_init_65 (y0 : Nat) (t0 : Nat) (t1 : Nat) (n c q : Nat) (K N : Nat → Nat) (G : zG) (V : zI) (L : zL) {r' : zS} (hf : f_X10_init_65 y0 t0 t1 n c q K N G V L = some r') : c ≤ r'.2.1 ∧ q ≤ r'.2.2.1 := by
  unfold f_X10_init_65 at hf
  obtain ⟨r1, hc1, hf⟩ := z_bind hf
  have hm := m_X10_init_69 y0 t0 t1 r1.1 (c + r1.2.1) (q + r1.2.2.1) r1.2.2.2.1 r1.2.2.2.2.1 r1.2.2.2.2.2.1 r1.2.2.2.2.2.2.1 r1.2.2.2.2.2.2.2 hf
  exact ⟨by omega, by omega⟩

set_option maxHeartbeats 4000000 in
set_option maxRecDepth 100000 in
theorem m_X10_init_58 (y0 : Nat) (t0 : Nat) (t1 : Nat) (n c q : Nat) (K N : Nat → Nat) (G : zG) (V : zI) (L : zL) {r' : zS} (hf : f_X10_init_58 y0 t0 t1 n c q K N G V L = some r') : c ≤ r'.2.1 ∧ q ≤ r'.2.2.1 := by
  unfold f_X10_init_58 at hf
  have hm := m_X10_init_65 y0 y0 n (n + 1) (c + 1) (q + 1) (kU K n 3) N (kU (gS G t0 6 (some t1)) n zn0) (kU V n (fun _ => 0)) (kU L n (fun _ => 0)) hf
  exact ⟨by omega, by omega⟩

set_option maxHeartbeats 4000000 in
set_option maxRecDepth 100000 in
theorem m_X10_init_54 (y0 : Nat) (t0 : Nat) (t1 : Nat) (n c q : Nat) (K N : Nat → Nat) (G : zG) (V : zI) (L : zL) {r' : zS} (hf : f_X10_init_54 y0 t0 t1 n c q K N G V L = some r') : c ≤ r'.2.1 ∧ q ≤ r'.2.2.1 := by
  unfold f_X10_init_54 at hf
  obtain ⟨r1, hc1, hf⟩ := z_bind hf
  have hm := m_X10_init_58 y0 t0 t1 r1.1 (c + r1.2.1) (q + r1.2.2.1) r1.2.2.2.1 r1.2.2.2.2.1 r1.2.2.2.2.2.1 r1.2.2.2.2.2.2.1 r1.2.2.2.2.2.2.2 hf
  exact ⟨by omega, by omega⟩

set_option maxHeartbeats 4000000 in
set_option maxRecDepth 100000 in
theorem m_X10_init_47 (y0 : Nat) (t0 : Nat) (t1 : Nat) (n c q : Nat) (K N : Nat → Nat) (G : zG) (V : zI) (L : zL) {r' : zS} (hf : f_X10_init_47 y0 t0 t1 n c q K N G V L = some r') : c ≤ r'.2.1 ∧ q ≤ r'.2.2.1 := by
  unfold f_X10_init_47 at hf
  have hm := m_X10_init_54 y0 y0 n (n + 1) (c + 1) (q + 12) (kU K n 5) N (kU (gS G t0 5 (some t1)) n zn0) (kU V n (fun _ => 0)) (kU L n (fun _ => 0)) hf
  exact ⟨by omega, by omega⟩

set_option maxHeartbeats 4000000 in
set_option maxRecDepth 100000 in
theorem m_X10_init_43 (y0 : Nat) (t0 : Nat) (t1 : Nat) (n c q : Nat) (K N : Nat → Nat) (G : zG) (V : zI) (L : zL) {r' : zS} (hf : f_X10_init_43 y0 t0 t1 n c q K N G V L = some r') : c ≤ r'.2.1 ∧ q ≤ r'.2.2.1 := by
  unfold f_X10_init_43 at hf
  obtain ⟨r1, hc1, hf⟩ := z_bind hf
  have hm := m_X10_init_47 y0 t0 t1 r1.1 (c + r1.2.1) (q + r1.2.2.1) r1.2.2.2.1 r1.2.2.2.2.1 r1.2.2.2.2.2.1 r1.2.2.2.2.2.2.1 r1.2.2.2.2.2.2.2 hf
  exact ⟨by omega, by omega⟩

set_option maxHeartbeats 4000000 in
set_option maxRecDepth 100000 in
theorem m_X10_init_26 (y0 : Nat) (t0 : Nat) (t1 : Nat) (n c q : Nat) (K N : Nat → Nat) (G : zG) (V : zI) (L : zL) {r' : zS} (hf : f_X10_init_26 y0 t0 t1 n c q K N G V L = some r') : c ≤ r'.2.1 ∧ q ≤ r'.2.2.1 := by
  unfold f_X10_init_26 at hf
  have hm := m_X10_init_43 y0 y0 n (n + 1) (c + 1) (q + 12) (kU K n 5) N (kU (gS G t0 2 (some t1)) n zn0) (kU (z_uI (z_uI V y0 3 0) y0 4 (-1)) n (fun _ => 0)) (kU L n (fun _ => 0)) hf
  exact ⟨by omega, by omega⟩

set_option maxHeartbeats 4000000 in
set_option maxRecDepth 100000 in
theorem m_X10_init_22 (y0 : Nat) (t0 : Nat) (t1 : Nat) (n c q : Nat) (K N : Nat → Nat) (G : zG) (V : zI) (L : zL) {r' : zS} (hf : f_X10_init_22 y0 t0 t1 n c q K N G V L = some r') : c ≤ r'.2.1 ∧ q ≤ r'.2.2.1 := by
  unfold f_X10_init_22 at hf
  obtain ⟨r1, hc1, hf⟩ := z_bind hf
  have hm := m_X10_init_26 y0 t0 t1 r1.1 (c + r1.2.1) (q + r1.2.2.1) r1.2.2.2.1 r1.2.2.2.2.1 r1.2.2.2.2.2.1 r1.2.2.2.2.2.2.1 r1.2.2.2.2.2.2.2 hf
  exact ⟨by omega, by omega⟩

set_option maxHeartbeats 4000000 in
set_option maxRecDepth 100000 in
theorem m_X10_init_10 (y0 : Nat) (t0 : Nat) (t1 : Nat) (n c q : Nat) (K N : Nat → Nat) (G : zG) (V : zI) (L : zL) {r' : zS} (hf : f_X10_init_10 y0 t0 t1 n c q K N G V L = some r') : c ≤ r'.2.1 ∧ q ≤ r'.2.2.1 := by
  unfold f_X10_init_10 at hf
  have hm := m_X10_init_22 y0 y0 n (n + 1) (c + 1) (q + 11) (kU K n 7) N (kU (gS G t0 0 (some t1)) n zn0) (kU (z_uI V y0 1 0) n (fun _ => 0)) (kU L n (fun _ => 0)) hf
  exact ⟨by omega, by omega⟩

set_option maxHeartbeats 4000000 in
set_option maxRecDepth 100000 in
theorem w_X10_init_137 {M : zM} {D : va_G} {cy : Nat → ClassId} {ad0 K0 : Nat → Nat} {n0 : Nat} {r' : zS} (Z : RZAv M D cy ad0 n0 K0 r') (hC : M.2.2.2.1.cells = r'.2.1 ∧ M.2.2.2.1.slots = r'.2.2.1) (hin : M.2.2.2.2.2.2.2.2.1.name = "<init>") (t0 : Nat) (t1 : Nat) (n c q : Nat) (K N : Nat → Nat) (G : zG) (V : zI) (L : zL) (ad : Nat → Nat) (ls : Array Slot) (X : RXA M D cy ad n c q K N G cX10_init 1 RX10 2 44) (ha : ∀ w, w < n0 → ad w = ad0 w) (hn0 : n0 ≤ n) (hk0 : ∀ w, w < n0 → K w = K0 w) (ht0 : t0 < n ∧ K t0 = 8) (ht1 : t1 < n ∧ K t1 = 100) (hl : lv_has ls 1 []) (hf : f_X10_init_137 t0 t1 n c q K N G V L = some r') : RG (zMb M c q) (zC D cy ad n K N G) V L 137 ls [.ref (ad t1), .ref (ad t0)] := by
  unfold f_X10_init_137 at hf
  refine a_putF (o := (some t1)) X ht0 cz_X10_77 cg_X10 rfl hin rfl rfl (Or.inr ⟨_, rfl, ht1.1, ht1.2⟩) (ct_X10_16) rfl rfl dX10_init_137 (fun X => ?_)
  exact a_vret X Z ha hn0 hk0 hf dX10_init_140

set_option maxHeartbeats 4000000 in
set_option maxRecDepth 100000 in
theorem w_X10_init_124 {M : zM} {D : va_G} {cy : Nat → ClassId} {ad0 K0 : Nat → Nat} {n0 : Nat} {r' : zS} (Z : RZAv M D cy ad0 n0 K0 r') (hC : M.2.2.2.1.cells = r'.2.1 ∧ M.2.2.2.1.slots = r'.2.2.1) (hin : M.2.2.2.2.2.2.2.2.1.name = "<init>") (y0 : Nat) (t0 : Nat) (t1 : Nat) (n c q : Nat) (K N : Nat → Nat) (G : zG) (V : zI) (L : zL) (ad : Nat → Nat) (ls : Array Slot) (X : RXA M D cy ad n c q K N G cX10_init 1 RX10 2 44) (ha : ∀ w, w < n0 → ad w = ad0 w) (hn0 : n0 ≤ n) (hk0 : ∀ w, w < n0 → K w = K0 w) (hy0 : y0 < n ∧ K y0 = 8) (ht0 : t0 < n ∧ K t0 = 8) (ht1 : t1 < n ∧ K t1 = 100) (hl : lv_has ls 1 [(0, .ref (ad y0))]) (hf : f_X10_init_124 y0 t0 t1 n c q K N G V L = some r') : RG (zMb M c q) (zC D cy ad n K N G) V L 124 ls [.ref (ad t1), .ref (ad t0)] := by
  unfold f_X10_init_124 at hf
  refine a_putF (o := (some t1)) X ht0 cz_X10_71 cg_X10 rfl hin rfl rfl (Or.inr ⟨_, rfl, ht1.1, ht1.2⟩) (ct_X10_14) rfl rfl dX10_init_124 (fun X => ?_)
  refine z_aload_n X.1.1 dX10_init_127 rfl (lv_at hl 0 rfl) ?_
  refine z_iconst (v := 0) X.1.1 dX10_init_128 (by decide) ?_
  refine c_puti X.1 hy0 cf_X10_74 cg_X10 cp_X10_15 rfl rfl dX10_init_129 ?_
  refine z_aload_n X.1.1 dX10_init_132 rfl (lv_at hl 0 rfl) ?_
  refine z_bipush (v := 6) X.1.1 dX10_init_133 (by decide) ?_
  obtain ⟨hb1, hf⟩ := z_ite hf
  have hm := m_X10_init_137 y0 n (n + 1) (c + 1) (q + (6 : Int32).toNatClampNeg) (kU K n 100) (kU N n (6 : Int32).toNatClampNeg) (kU (gS G t0 14 (some t1)) n zn0) (kU (z_uI V y0 15 0) n (fun _ => 0)) (kU L n (fun _ => 0)) hf
  refine a_newi X hb1 ca_100 ⟨by rw [hC.1]; exact hm.1, by rw [hC.2]; exact hm.2⟩ dX10_init_135 (fun ad' hag X => ?_)
  rw [← hag y0 hy0.1] at hl ⊢
  exact w_X10_init_137 Z hC hin y0 n (n + 1) (c + 1) (q + (6 : Int32).toNatClampNeg) (kU K n 100) (kU N n (6 : Int32).toNatClampNeg) (kU (gS G t0 14 (some t1)) n zn0) (kU (z_uI V y0 15 0) n (fun _ => 0)) (kU L n (fun _ => 0)) ad' ls X (zag_up ha hn0 hag) (by omega) (zag_up hk0 hn0 (fun w h => kU_ne (by omega))) (zh_up hy0) zh_new (lv_sub hl [] rfl) hf

set_option maxHeartbeats 4000000 in
set_option maxRecDepth 100000 in
theorem w_X10_init_110 {M : zM} {D : va_G} {cy : Nat → ClassId} {ad0 K0 : Nat → Nat} {n0 : Nat} {r' : zS} (Z : RZAv M D cy ad0 n0 K0 r') (hC : M.2.2.2.1.cells = r'.2.1 ∧ M.2.2.2.1.slots = r'.2.2.1) (hin : M.2.2.2.2.2.2.2.2.1.name = "<init>") (y0 : Nat) (t0 : Nat) (t1 : Nat) (n c q : Nat) (K N : Nat → Nat) (G : zG) (V : zI) (L : zL) (ad : Nat → Nat) (ls : Array Slot) (X : RXA M D cy ad n c q K N G cX10_init 1 RX10 2 44) (ha : ∀ w, w < n0 → ad w = ad0 w) (hn0 : n0 ≤ n) (hk0 : ∀ w, w < n0 → K w = K0 w) (hy0 : y0 < n ∧ K y0 = 8) (ht0 : t0 < n ∧ K t0 = 8) (ht1 : t1 < n ∧ K t1 = 100) (hl : lv_has ls 1 [(0, .ref (ad y0))]) (hf : f_X10_init_110 y0 t0 t1 n c q K N G V L = some r') : RG (zMb M c q) (zC D cy ad n K N G) V L 110 ls [.ref (ad t1), .ref (ad t0)] := by
  unfold f_X10_init_110 at hf
  refine a_putF (o := (some t1)) X ht0 cz_X10_65 cg_X10 rfl hin rfl rfl (Or.inr ⟨_, rfl, ht1.1, ht1.2⟩) (ct_X10_12) rfl rfl dX10_init_110 (fun X => ?_)
  refine z_aload_n X.1.1 dX10_init_113 rfl (lv_at hl 0 rfl) ?_
  refine z_iconst (v := 0) X.1.1 dX10_init_114 (by decide) ?_
  refine c_puti X.1 hy0 cf_X10_68 cg_X10 cp_X10_13 rfl rfl dX10_init_115 ?_
  refine z_aload_n X.1.1 dX10_init_118 rfl (lv_at hl 0 rfl) ?_
  refine z_sipush (v := 512) X.1.1 dX10_init_119 (by decide) ?_
  obtain ⟨hb1, hf⟩ := z_ite hf
  have hm := m_X10_init_124 y0 y0 n (n + 1) (c + 1) (q + (512 : Int32).toNatClampNeg) (kU K n 100) (kU N n (512 : Int32).toNatClampNeg) (kU (gS G t0 12 (some t1)) n zn0) (kU (z_uI V y0 13 0) n (fun _ => 0)) (kU L n (fun _ => 0)) hf
  refine a_newi X hb1 ca_100 ⟨by rw [hC.1]; exact hm.1, by rw [hC.2]; exact hm.2⟩ dX10_init_122 (fun ad' hag X => ?_)
  rw [← hag y0 hy0.1] at hl ⊢
  exact w_X10_init_124 Z hC hin y0 y0 n (n + 1) (c + 1) (q + (512 : Int32).toNatClampNeg) (kU K n 100) (kU N n (512 : Int32).toNatClampNeg) (kU (gS G t0 12 (some t1)) n zn0) (kU (z_uI V y0 13 0) n (fun _ => 0)) (kU L n (fun _ => 0)) ad' ls X (zag_up ha hn0 hag) (by omega) (zag_up hk0 hn0 (fun w h => kU_ne (by omega))) (zh_up hy0) (zh_up hy0) zh_new (lv_sub hl [0] rfl) hf

set_option maxHeartbeats 4000000 in
set_option maxRecDepth 100000 in
theorem w_X10_init_102 {M : zM} {D : va_G} {cy : Nat → ClassId} {ad0 K0 : Nat → Nat} {n0 : Nat} {r' : zS} (Z : RZAv M D cy ad0 n0 K0 r') (hC : M.2.2.2.1.cells = r'.2.1 ∧ M.2.2.2.1.slots = r'.2.2.1) (hin : M.2.2.2.2.2.2.2.2.1.name = "<init>") (y0 : Nat) (t0 : Nat) (t1 : Nat) (n c q : Nat) (K N : Nat → Nat) (G : zG) (V : zI) (L : zL) (ad : Nat → Nat) (ls : Array Slot) (X : RXA M D cy ad n c q K N G cX10_init 1 RX10 2 44) (ha : ∀ w, w < n0 → ad w = ad0 w) (hn0 : n0 ≤ n) (hk0 : ∀ w, w < n0 → K w = K0 w) (hy0 : y0 < n ∧ K y0 = 8) (ht0 : t0 < n ∧ K t0 = 8) (ht1 : t1 < n ∧ K t1 = 100) (hl : lv_has ls 1 [(0, .ref (ad y0))]) (hf : f_X10_init_102 y0 t0 t1 n c q K N G V L = some r') : RG (zMb M c q) (zC D cy ad n K N G) V L 102 ls [.ref (ad t1), .ref (ad t0)] := by
  unfold f_X10_init_102 at hf
  refine a_putF (o := (some t1)) X ht0 cz_X10_61 cg_X10 rfl hin rfl rfl (Or.inr ⟨_, rfl, ht1.1, ht1.2⟩) (ct_X10_11) rfl rfl dX10_init_102 (fun X => ?_)
  refine z_aload_n X.1.1 dX10_init_105 rfl (lv_at hl 0 rfl) ?_
  refine z_bipush (v := 16) X.1.1 dX10_init_106 (by decide) ?_
  obtain ⟨hb1, hf⟩ := z_ite hf
  have hm := m_X10_init_110 y0 y0 n (n + 1) (c + 1) (q + (16 : Int32).toNatClampNeg) (kU K n 100) (kU N n (16 : Int32).toNatClampNeg) (kU (gS G t0 11 (some t1)) n zn0) (kU V n (fun _ => 0)) (kU L n (fun _ => 0)) hf
  refine a_newi X hb1 ca_100 ⟨by rw [hC.1]; exact hm.1, by rw [hC.2]; exact hm.2⟩ dX10_init_108 (fun ad' hag X => ?_)
  rw [← hag y0 hy0.1] at hl ⊢
  exact w_X10_init_110 Z hC hin y0 y0 n (n + 1) (c + 1) (q + (16 : Int32).toNatClampNeg) (kU K n 100) (kU N n (16 : Int32).toNatClampNeg) (kU (gS G t0 11 (some t1)) n zn0) (kU V n (fun _ => 0)) (kU L n (fun _ => 0)) ad' ls X (zag_up ha hn0 hag) (by omega) (zag_up hk0 hn0 (fun w h => kU_ne (by omega))) (zh_up hy0) (zh_up hy0) zh_new (lv_sub hl [0] rfl) hf

set_option maxHeartbeats 4000000 in
set_option maxRecDepth 100000 in
theorem w_X10_init_89 {M : zM} {D : va_G} {cy : Nat → ClassId} {ad0 K0 : Nat → Nat} {n0 : Nat} {r' : zS} (Z : RZAv M D cy ad0 n0 K0 r') (hC : M.2.2.2.1.cells = r'.2.1 ∧ M.2.2.2.1.slots = r'.2.2.1) (hin : M.2.2.2.2.2.2.2.2.1.name = "<init>") (y0 : Nat) (t0 : Nat) (t1 : Nat) (n c q : Nat) (K N : Nat → Nat) (G : zG) (V : zI) (L : zL) (ad : Nat → Nat) (ls : Array Slot) (X : RXA M D cy ad n c q K N G cX10_init 1 RX10 2 44) (ha : ∀ w, w < n0 → ad w = ad0 w) (hn0 : n0 ≤ n) (hk0 : ∀ w, w < n0 → K w = K0 w) (hy0 : y0 < n ∧ K y0 = 8) (ht0 : t0 < n ∧ K t0 = 8) (ht1 : t1 < n ∧ K t1 = 104) (hl : lv_has ls 1 [(0, .ref (ad y0))]) (hf : f_X10_init_89 y0 t0 t1 n c q K N G V L = some r') : RG (zMb M c q) (zC D cy ad n K N G) V L 89 ls [.ref (ad t1), .ref (ad t0)] := by
  unfold f_X10_init_89 at hf
  refine a_putF (o := (some t1)) X ht0 cz_X10_54 cg_X10 rfl hin rfl rfl (Or.inr ⟨_, rfl, ht1.1, ht1.2⟩) (ct_X10_9) rfl rfl dX10_init_89 (fun X => ?_)
  refine z_aload_n X.1.1 dX10_init_92 rfl (lv_at hl 0 rfl) ?_
  refine z_iconst (v := 0) X.1.1 dX10_init_93 (by decide) ?_
  refine c_puti X.1 hy0 cf_X10_58 cg_X10 cp_X10_10 rfl rfl dX10_init_94 ?_
  refine z_aload_n X.1.1 dX10_init_97 rfl (lv_at hl 0 rfl) ?_
  refine z_bipush (v := 16) X.1.1 dX10_init_98 (by decide) ?_
  obtain ⟨hb1, hf⟩ := z_ite hf
  have hm := m_X10_init_102 y0 y0 n (n + 1) (c + 1) (q + (16 : Int32).toNatClampNeg) (kU K n 100) (kU N n (16 : Int32).toNatClampNeg) (kU (gS G t0 9 (some t1)) n zn0) (kU (z_uI V y0 10 0) n (fun _ => 0)) (kU L n (fun _ => 0)) hf
  refine a_newi X hb1 ca_100 ⟨by rw [hC.1]; exact hm.1, by rw [hC.2]; exact hm.2⟩ dX10_init_100 (fun ad' hag X => ?_)
  rw [← hag y0 hy0.1] at hl ⊢
  exact w_X10_init_102 Z hC hin y0 y0 n (n + 1) (c + 1) (q + (16 : Int32).toNatClampNeg) (kU K n 100) (kU N n (16 : Int32).toNatClampNeg) (kU (gS G t0 9 (some t1)) n zn0) (kU (z_uI V y0 10 0) n (fun _ => 0)) (kU L n (fun _ => 0)) ad' ls X (zag_up ha hn0 hag) (by omega) (zag_up hk0 hn0 (fun w h => kU_ne (by omega))) (zh_up hy0) (zh_up hy0) zh_new (lv_sub hl [0] rfl) hf

set_option maxHeartbeats 4000000 in
set_option maxRecDepth 100000 in
theorem w_X10_init_80 {M : zM} {D : va_G} {cy : Nat → ClassId} {ad0 K0 : Nat → Nat} {n0 : Nat} {r' : zS} (Z : RZAv M D cy ad0 n0 K0 r') (hC : M.2.2.2.1.cells = r'.2.1 ∧ M.2.2.2.1.slots = r'.2.2.1) (hin : M.2.2.2.2.2.2.2.2.1.name = "<init>") (y0 : Nat) (t0 : Nat) (t1 : Nat) (n c q : Nat) (K N : Nat → Nat) (G : zG) (V : zI) (L : zL) (ad : Nat → Nat) (ls : Array Slot) (X : RXA M D cy ad n c q K N G cX10_init 1 RX10 2 44) (ha : ∀ w, w < n0 → ad w = ad0 w) (hn0 : n0 ≤ n) (hk0 : ∀ w, w < n0 → K w = K0 w) (hy0 : y0 < n ∧ K y0 = 8) (ht0 : t0 < n ∧ K t0 = 8) (ht1 : t1 < n ∧ K t1 = 1) (hl : lv_has ls 1 [(0, .ref (ad y0))]) (hf : f_X10_init_80 y0 t0 t1 n c q K N G V L = some r') : RG (zMb M c q) (zC D cy ad n K N G) V L 80 ls [.ref (ad t1), .ref (ad t0)] := by
  unfold f_X10_init_80 at hf
  refine a_putF (o := (some t1)) X ht0 cz_X10_50 cg_X10 rfl hin rfl rfl (Or.inr ⟨_, rfl, ht1.1, ht1.2⟩) (ct_X10_8) rfl rfl dX10_init_80 (fun X => ?_)
  refine z_aload_n X.1.1 dX10_init_83 rfl (lv_at hl 0 rfl) ?_
  refine z_bipush (v := 20) X.1.1 dX10_init_84 (by decide) ?_
  obtain ⟨hb1, hf⟩ := z_ite hf
  have hm := m_X10_init_89 y0 y0 n (n + 1) (c + 1) (q + (20 : Int32).toNatClampNeg) (kU K n 104) (kU N n (20 : Int32).toNatClampNeg) (kU (gS G t0 8 (some t1)) n zn0) (kU V n (fun _ => 0)) (kU L n (fun _ => 0)) hf
  refine a_newq X hb1 cl_X10_30 ⟨by rw [hC.1]; exact hm.1, by rw [hC.2]; exact hm.2⟩ dX10_init_86 (fun ad' hag X => ?_)
  rw [← hag y0 hy0.1] at hl ⊢
  exact w_X10_init_89 Z hC hin y0 y0 n (n + 1) (c + 1) (q + (20 : Int32).toNatClampNeg) (kU K n 104) (kU N n (20 : Int32).toNatClampNeg) (kU (gS G t0 8 (some t1)) n zn0) (kU V n (fun _ => 0)) (kU L n (fun _ => 0)) ad' ls X (zag_up ha hn0 hag) (by omega) (zag_up hk0 hn0 (fun w h => kU_ne (by omega))) (zh_up hy0) (zh_up hy0) zh_new (lv_sub hl [0] rfl) hf

set_option maxHeartbeats 4000000 in
set_option maxRecDepth 100000 in
theorem w_X10_init_76 {M : zM} {D : va_G} {cy : Nat → ClassId} {ad0 K0 : Nat → Nat} {n0 : Nat} {r' : zS} (Z : RZAv M D cy ad0 n0 K0 r') (hC : M.2.2.2.1.cells = r'.2.1 ∧ M.2.2.2.1.slots = r'.2.2.1) (hin : M.2.2.2.2.2.2.2.2.1.name = "<init>") (y0 : Nat) (t0 : Nat) (t1 : Nat) (n c q : Nat) (K N : Nat → Nat) (G : zG) (V : zI) (L : zL) (ad : Nat → Nat) (ls : Array Slot) (X : RXA M D cy ad n c q K N G cX10_init 1 RX10 2 44) (ha : ∀ w, w < n0 → ad w = ad0 w) (hn0 : n0 ≤ n) (hk0 : ∀ w, w < n0 → K w = K0 w) (hy0 : y0 < n ∧ K y0 = 8) (ht0 : t0 < n ∧ K t0 = 8) (ht1 : t1 < n ∧ K t1 = 1) (hl : lv_has ls 1 [(0, .ref (ad y0))]) (hf : f_X10_init_76 y0 t0 t1 n c q K N G V L = some r') : RG (zMb M c q) (zC D cy ad n K N G) V L 76 ls [.ref (ad t1), .ref (ad t0)] := by
  unfold f_X10_init_76 at hf
  refine z_dup X.1.1 dX10_init_76 rfl ?_
  obtain ⟨r1, hc1, hf⟩ := z_bind hf
  have hm := m_X10_init_80 y0 t0 t1 r1.1 (c + r1.2.1) (q + r1.2.2.1) r1.2.2.2.1 r1.2.2.2.2.1 r1.2.2.2.2.2.1 r1.2.2.2.2.2.2.1 r1.2.2.2.2.2.2.2 hf
  refine a_callIv [] X hl.1 (c_X1_init D cy ad X.1.2.2 ht1 hc1) ht1 ⟨by decide, rfl⟩ cm_X10_49 cx_X1_init rfl cq_X1_init ⟨by decide, by decide⟩ (Nat.le_of_ble_eq_true rfl) rfl ⟨by rw [hC.1]; exact hm.1, by rw [hC.2]; exact hm.2⟩ dX10_init_77 (fun ad' hag hnn hKg X => ?_)
  rw [← hag y0 hy0.1] at hl
  rw [← hag t1 ht1.1]
  rw [← hag t0 ht0.1]
  exact w_X10_init_80 Z hC hin y0 t0 t1 r1.1 (c + r1.2.1) (q + r1.2.2.1) r1.2.2.2.1 r1.2.2.2.2.1 r1.2.2.2.2.2.1 r1.2.2.2.2.2.2.1 r1.2.2.2.2.2.2.2 ad' ls X (zag_up ha hn0 hag) (by omega) (zag_up hk0 hn0 hKg) (zh_ext hy0 hnn hKg) (zh_ext ht0 hnn hKg) (zh_ext ht1 hnn hKg) (lv_sub hl [0] rfl) hf

set_option maxHeartbeats 4000000 in
set_option maxRecDepth 100000 in
theorem w_X10_init_69 {M : zM} {D : va_G} {cy : Nat → ClassId} {ad0 K0 : Nat → Nat} {n0 : Nat} {r' : zS} (Z : RZAv M D cy ad0 n0 K0 r') (hC : M.2.2.2.1.cells = r'.2.1 ∧ M.2.2.2.1.slots = r'.2.2.1) (hin : M.2.2.2.2.2.2.2.2.1.name = "<init>") (y0 : Nat) (t0 : Nat) (t1 : Nat) (n c q : Nat) (K N : Nat → Nat) (G : zG) (V : zI) (L : zL) (ad : Nat → Nat) (ls : Array Slot) (X : RXA M D cy ad n c q K N G cX10_init 1 RX10 2 44) (ha : ∀ w, w < n0 → ad w = ad0 w) (hn0 : n0 ≤ n) (hk0 : ∀ w, w < n0 → K w = K0 w) (hy0 : y0 < n ∧ K y0 = 8) (ht0 : t0 < n ∧ K t0 = 8) (ht1 : t1 < n ∧ K t1 = 3) (hl : lv_has ls 1 [(0, .ref (ad y0))]) (hf : f_X10_init_69 y0 t0 t1 n c q K N G V L = some r') : RG (zMb M c q) (zC D cy ad n K N G) V L 69 ls [.ref (ad t1), .ref (ad t0)] := by
  unfold f_X10_init_69 at hf
  refine a_putF (o := (some t1)) X ht0 cz_X10_43 cg_X10 rfl hin rfl rfl (Or.inr ⟨_, rfl, ht1.1, ht1.2⟩) (ct_X10_7) rfl rfl dX10_init_69 (fun X => ?_)
  refine z_aload_n X.1.1 dX10_init_72 rfl (lv_at hl 0 rfl) ?_
  have hm := m_X10_init_76 y0 y0 n (n + 1) (c + 1) (q + 1) (kU K n 1) N (kU (gS G t0 7 (some t1)) n zn0) (kU V n (fun _ => 0)) (kU L n (fun _ => 0)) hf
  refine a_new (ci := 1) X ci_X1 cg_X1.1 dv_X1 cn_X10_47 ⟨by rw [hC.1]; exact hm.1, by rw [hC.2]; exact hm.2⟩ dX10_init_73 (fun ad' hag X => ?_)
  rw [← hag y0 hy0.1] at hl ⊢
  exact w_X10_init_76 Z hC hin y0 y0 n (n + 1) (c + 1) (q + 1) (kU K n 1) N (kU (gS G t0 7 (some t1)) n zn0) (kU V n (fun _ => 0)) (kU L n (fun _ => 0)) ad' ls X (zag_up ha hn0 hag) (by omega) (zag_up hk0 hn0 (fun w h => kU_ne (by omega))) (zh_up hy0) (zh_up hy0) zh_new (lv_sub hl [0] rfl) hf

set_option maxHeartbeats 4000000 in
set_option maxRecDepth 100000 in
theorem w_X10_init_65 {M : zM} {D : va_G} {cy : Nat → ClassId} {ad0 K0 : Nat → Nat} {n0 : Nat} {r' : zS} (Z : RZAv M D cy ad0 n0 K0 r') (hC : M.2.2.2.1.cells = r'.2.1 ∧ M.2.2.2.1.slots = r'.2.2.1) (hin : M.2.2.2.2.2.2.2.2.1.name = "<init>") (y0 : Nat) (t0 : Nat) (t1 : Nat) (n c q : Nat) (K N : Nat → Nat) (G : zG) (V : zI) (L : zL) (ad : Nat → Nat) (ls : Array Slot) (X : RXA M D cy ad n c q K N G cX10_init 1 RX10 2 44) (ha : ∀ w, w < n0 → ad w = ad0 w) (hn0 : n0 ≤ n) (hk0 : ∀ w, w < n0 → K w = K0 w) (hy0 : y0 < n ∧ K y0 = 8) (ht0 : t0 < n ∧ K t0 = 8) (ht1 : t1 < n ∧ K t1 = 3) (hl : lv_has ls 1 [(0, .ref (ad y0))]) (hf : f_X10_init_65 y0 t0 t1 n c q K N G V L = some r') : RG (zMb M c q) (zC D cy ad n K N G) V L 65 ls [.ref (ad t1), .ref (ad t0)] := by
  unfold f_X10_init_65 at hf
  refine z_dup X.1.1 dX10_init_65 rfl ?_
  obtain ⟨r1, hc1, hf⟩ := z_bind hf
  have hm := m_X10_init_69 y0 t0 t1 r1.1 (c + r1.2.1) (q + r1.2.2.1) r1.2.2.2.1 r1.2.2.2.2.1 r1.2.2.2.2.2.1 r1.2.2.2.2.2.2.1 r1.2.2.2.2.2.2.2 hf
  refine a_callIv [] X hl.1 (c_X4_init D cy ad X.1.2.2 ht1 hc1) ht1 ⟨by decide, rfl⟩ cm_X10_42 cx_X4_init rfl cq_X4_init ⟨by decide, by decide⟩ (Nat.le_of_ble_eq_true rfl) rfl ⟨by rw [hC.1]; exact hm.1, by rw [hC.2]; exact hm.2⟩ dX10_init_66 (fun ad' hag hnn hKg X => ?_)
  rw [← hag y0 hy0.1] at hl
  rw [← hag t1 ht1.1]
  rw [← hag t0 ht0.1]
  exact w_X10_init_69 Z hC hin y0 t0 t1 r1.1 (c + r1.2.1) (q + r1.2.2.1) r1.2.2.2.1 r1.2.2.2.2.1 r1.2.2.2.2.2.1 r1.2.2.2.2.2.2.1 r1.2.2.2.2.2.2.2 ad' ls X (zag_up ha hn0 hag) (by omega) (zag_up hk0 hn0 hKg) (zh_ext hy0 hnn hKg) (zh_ext ht0 hnn hKg) (zh_ext ht1 hnn hKg) (lv_sub hl [0] rfl) hf

set_option maxHeartbeats 4000000 in
set_option maxRecDepth 100000 in
theorem w_X10_init_58 {M : zM} {D : va_G} {cy : Nat → ClassId} {ad0 K0 : Nat → Nat} {n0 : Nat} {r' : zS} (Z : RZAv M D cy ad0 n0 K0 r') (hC : M.2.2.2.1.cells = r'.2.1 ∧ M.2.2.2.1.slots = r'.2.2.1) (hin : M.2.2.2.2.2.2.2.2.1.name = "<init>") (y0 : Nat) (t0 : Nat) (t1 : Nat) (n c q : Nat) (K N : Nat → Nat) (G : zG) (V : zI) (L : zL) (ad : Nat → Nat) (ls : Array Slot) (X : RXA M D cy ad n c q K N G cX10_init 1 RX10 2 44) (ha : ∀ w, w < n0 → ad w = ad0 w) (hn0 : n0 ≤ n) (hk0 : ∀ w, w < n0 → K w = K0 w) (hy0 : y0 < n ∧ K y0 = 8) (ht0 : t0 < n ∧ K t0 = 8) (ht1 : t1 < n ∧ K t1 = 5) (hl : lv_has ls 1 [(0, .ref (ad y0))]) (hf : f_X10_init_58 y0 t0 t1 n c q K N G V L = some r') : RG (zMb M c q) (zC D cy ad n K N G) V L 58 ls [.ref (ad t1), .ref (ad t0)] := by
  unfold f_X10_init_58 at hf
  refine a_putF (o := (some t1)) X ht0 cz_X10_37 cg_X10 rfl hin rfl rfl (Or.inr ⟨_, rfl, ht1.1, ht1.2⟩) (ct_X10_6) rfl rfl dX10_init_58 (fun X => ?_)
  refine z_aload_n X.1.1 dX10_init_61 rfl (lv_at hl 0 rfl) ?_
  have hm := m_X10_init_65 y0 y0 n (n + 1) (c + 1) (q + 1) (kU K n 3) N (kU (gS G t0 6 (some t1)) n zn0) (kU V n (fun _ => 0)) (kU L n (fun _ => 0)) hf
  refine a_new (ci := 3) X ci_X4 cg_X4.1 dv_X4 cn_X10_40 ⟨by rw [hC.1]; exact hm.1, by rw [hC.2]; exact hm.2⟩ dX10_init_62 (fun ad' hag X => ?_)
  rw [← hag y0 hy0.1] at hl ⊢
  exact w_X10_init_65 Z hC hin y0 y0 n (n + 1) (c + 1) (q + 1) (kU K n 3) N (kU (gS G t0 6 (some t1)) n zn0) (kU V n (fun _ => 0)) (kU L n (fun _ => 0)) ad' ls X (zag_up ha hn0 hag) (by omega) (zag_up hk0 hn0 (fun w h => kU_ne (by omega))) (zh_up hy0) (zh_up hy0) zh_new (lv_sub hl [0] rfl) hf

set_option maxHeartbeats 4000000 in
set_option maxRecDepth 100000 in
theorem w_X10_init_54 {M : zM} {D : va_G} {cy : Nat → ClassId} {ad0 K0 : Nat → Nat} {n0 : Nat} {r' : zS} (Z : RZAv M D cy ad0 n0 K0 r') (hC : M.2.2.2.1.cells = r'.2.1 ∧ M.2.2.2.1.slots = r'.2.2.1) (hin : M.2.2.2.2.2.2.2.2.1.name = "<init>") (y0 : Nat) (t0 : Nat) (t1 : Nat) (n c q : Nat) (K N : Nat → Nat) (G : zG) (V : zI) (L : zL) (ad : Nat → Nat) (ls : Array Slot) (X : RXA M D cy ad n c q K N G cX10_init 1 RX10 2 44) (ha : ∀ w, w < n0 → ad w = ad0 w) (hn0 : n0 ≤ n) (hk0 : ∀ w, w < n0 → K w = K0 w) (hy0 : y0 < n ∧ K y0 = 8) (ht0 : t0 < n ∧ K t0 = 8) (ht1 : t1 < n ∧ K t1 = 5) (hl : lv_has ls 1 [(0, .ref (ad y0))]) (hf : f_X10_init_54 y0 t0 t1 n c q K N G V L = some r') : RG (zMb M c q) (zC D cy ad n K N G) V L 54 ls [.ref (ad t1), .ref (ad t0)] := by
  unfold f_X10_init_54 at hf
  refine z_dup X.1.1 dX10_init_54 rfl ?_
  obtain ⟨r1, hc1, hf⟩ := z_bind hf
  have hm := m_X10_init_58 y0 t0 t1 r1.1 (c + r1.2.1) (q + r1.2.2.1) r1.2.2.2.1 r1.2.2.2.2.1 r1.2.2.2.2.2.1 r1.2.2.2.2.2.2.1 r1.2.2.2.2.2.2.2 hf
  refine a_callIv [] X hl.1 (c_X7_init D cy ad X.1.2.2 ht1 hc1) ht1 ⟨by decide, rfl⟩ cm_X10_32 cx_X7_init rfl cq_X7_init ⟨by decide, by decide⟩ (Nat.le_of_ble_eq_true rfl) rfl ⟨by rw [hC.1]; exact hm.1, by rw [hC.2]; exact hm.2⟩ dX10_init_55 (fun ad' hag hnn hKg X => ?_)
  rw [← hag y0 hy0.1] at hl
  rw [← hag t1 ht1.1]
  rw [← hag t0 ht0.1]
  exact w_X10_init_58 Z hC hin y0 t0 t1 r1.1 (c + r1.2.1) (q + r1.2.2.1) r1.2.2.2.1 r1.2.2.2.2.1 r1.2.2.2.2.2.1 r1.2.2.2.2.2.2.1 r1.2.2.2.2.2.2.2 ad' ls X (zag_up ha hn0 hag) (by omega) (zag_up hk0 hn0 hKg) (zh_ext hy0 hnn hKg) (zh_ext ht0 hnn hKg) (zh_ext ht1 hnn hKg) (lv_sub hl [0] rfl) hf

set_option maxHeartbeats 4000000 in
set_option maxRecDepth 100000 in
theorem w_X10_init_47 {M : zM} {D : va_G} {cy : Nat → ClassId} {ad0 K0 : Nat → Nat} {n0 : Nat} {r' : zS} (Z : RZAv M D cy ad0 n0 K0 r') (hC : M.2.2.2.1.cells = r'.2.1 ∧ M.2.2.2.1.slots = r'.2.2.1) (hin : M.2.2.2.2.2.2.2.2.1.name = "<init>") (y0 : Nat) (t0 : Nat) (t1 : Nat) (n c q : Nat) (K N : Nat → Nat) (G : zG) (V : zI) (L : zL) (ad : Nat → Nat) (ls : Array Slot) (X : RXA M D cy ad n c q K N G cX10_init 1 RX10 2 44) (ha : ∀ w, w < n0 → ad w = ad0 w) (hn0 : n0 ≤ n) (hk0 : ∀ w, w < n0 → K w = K0 w) (hy0 : y0 < n ∧ K y0 = 8) (ht0 : t0 < n ∧ K t0 = 8) (ht1 : t1 < n ∧ K t1 = 5) (hl : lv_has ls 1 [(0, .ref (ad y0))]) (hf : f_X10_init_47 y0 t0 t1 n c q K N G V L = some r') : RG (zMb M c q) (zC D cy ad n K N G) V L 47 ls [.ref (ad t1), .ref (ad t0)] := by
  unfold f_X10_init_47 at hf
  refine a_putF (o := (some t1)) X ht0 cz_X10_33 cg_X10 rfl hin rfl rfl (Or.inr ⟨_, rfl, ht1.1, ht1.2⟩) (ct_X10_5) rfl rfl dX10_init_47 (fun X => ?_)
  refine z_aload_n X.1.1 dX10_init_50 rfl (lv_at hl 0 rfl) ?_
  have hm := m_X10_init_54 y0 y0 n (n + 1) (c + 1) (q + 12) (kU K n 5) N (kU (gS G t0 5 (some t1)) n zn0) (kU V n (fun _ => 0)) (kU L n (fun _ => 0)) hf
  refine a_new (ci := 5) X ci_X7 cg_X7.1 dv_X7 cn_X10_30 ⟨by rw [hC.1]; exact hm.1, by rw [hC.2]; exact hm.2⟩ dX10_init_51 (fun ad' hag X => ?_)
  rw [← hag y0 hy0.1] at hl ⊢
  exact w_X10_init_54 Z hC hin y0 y0 n (n + 1) (c + 1) (q + 12) (kU K n 5) N (kU (gS G t0 5 (some t1)) n zn0) (kU V n (fun _ => 0)) (kU L n (fun _ => 0)) ad' ls X (zag_up ha hn0 hag) (by omega) (zag_up hk0 hn0 (fun w h => kU_ne (by omega))) (zh_up hy0) (zh_up hy0) zh_new (lv_sub hl [0] rfl) hf

set_option maxHeartbeats 4000000 in
set_option maxRecDepth 100000 in
theorem w_X10_init_43 {M : zM} {D : va_G} {cy : Nat → ClassId} {ad0 K0 : Nat → Nat} {n0 : Nat} {r' : zS} (Z : RZAv M D cy ad0 n0 K0 r') (hC : M.2.2.2.1.cells = r'.2.1 ∧ M.2.2.2.1.slots = r'.2.2.1) (hin : M.2.2.2.2.2.2.2.2.1.name = "<init>") (y0 : Nat) (t0 : Nat) (t1 : Nat) (n c q : Nat) (K N : Nat → Nat) (G : zG) (V : zI) (L : zL) (ad : Nat → Nat) (ls : Array Slot) (X : RXA M D cy ad n c q K N G cX10_init 1 RX10 2 44) (ha : ∀ w, w < n0 → ad w = ad0 w) (hn0 : n0 ≤ n) (hk0 : ∀ w, w < n0 → K w = K0 w) (hy0 : y0 < n ∧ K y0 = 8) (ht0 : t0 < n ∧ K t0 = 8) (ht1 : t1 < n ∧ K t1 = 5) (hl : lv_has ls 1 [(0, .ref (ad y0))]) (hf : f_X10_init_43 y0 t0 t1 n c q K N G V L = some r') : RG (zMb M c q) (zC D cy ad n K N G) V L 43 ls [.ref (ad t1), .ref (ad t0)] := by
  unfold f_X10_init_43 at hf
  refine z_dup X.1.1 dX10_init_43 rfl ?_
  obtain ⟨r1, hc1, hf⟩ := z_bind hf
  have hm := m_X10_init_47 y0 t0 t1 r1.1 (c + r1.2.1) (q + r1.2.2.1) r1.2.2.2.1 r1.2.2.2.2.1 r1.2.2.2.2.2.1 r1.2.2.2.2.2.2.1 r1.2.2.2.2.2.2.2 hf
  refine a_callIv [] X hl.1 (c_X7_init D cy ad X.1.2.2 ht1 hc1) ht1 ⟨by decide, rfl⟩ cm_X10_32 cx_X7_init rfl cq_X7_init ⟨by decide, by decide⟩ (Nat.le_of_ble_eq_true rfl) rfl ⟨by rw [hC.1]; exact hm.1, by rw [hC.2]; exact hm.2⟩ dX10_init_44 (fun ad' hag hnn hKg X => ?_)
  rw [← hag y0 hy0.1] at hl
  rw [← hag t1 ht1.1]
  rw [← hag t0 ht0.1]
  exact w_X10_init_47 Z hC hin y0 t0 t1 r1.1 (c + r1.2.1) (q + r1.2.2.1) r1.2.2.2.1 r1.2.2.2.2.1 r1.2.2.2.2.2.1 r1.2.2.2.2.2.2.1 r1.2.2.2.2.2.2.2 ad' ls X (zag_up ha hn0 hag) (by omega) (zag_up hk0 hn0 hKg) (zh_ext hy0 hnn hKg) (zh_ext ht0 hnn hKg) (zh_ext ht1 hnn hKg) (lv_sub hl [0] rfl) hf

set_option maxHeartbeats 4000000 in
set_option maxRecDepth 100000 in
theorem w_X10_init_26 {M : zM} {D : va_G} {cy : Nat → ClassId} {ad0 K0 : Nat → Nat} {n0 : Nat} {r' : zS} (Z : RZAv M D cy ad0 n0 K0 r') (hC : M.2.2.2.1.cells = r'.2.1 ∧ M.2.2.2.1.slots = r'.2.2.1) (hin : M.2.2.2.2.2.2.2.2.1.name = "<init>") (y0 : Nat) (t0 : Nat) (t1 : Nat) (n c q : Nat) (K N : Nat → Nat) (G : zG) (V : zI) (L : zL) (ad : Nat → Nat) (ls : Array Slot) (X : RXA M D cy ad n c q K N G cX10_init 1 RX10 2 44) (ha : ∀ w, w < n0 → ad w = ad0 w) (hn0 : n0 ≤ n) (hk0 : ∀ w, w < n0 → K w = K0 w) (hy0 : y0 < n ∧ K y0 = 8) (ht0 : t0 < n ∧ K t0 = 8) (ht1 : t1 < n ∧ K t1 = 7) (hl : lv_has ls 1 [(0, .ref (ad y0))]) (hf : f_X10_init_26 y0 t0 t1 n c q K N G V L = some r') : RG (zMb M c q) (zC D cy ad n K N G) V L 26 ls [.ref (ad t1), .ref (ad t0)] := by
  unfold f_X10_init_26 at hf
  refine a_put (o := (some t1)) X ht0 cf_X10_20 cg_X10 rfl rfl (Or.inr ⟨_, rfl, ht1.1, ht1.2⟩) (ct_X10_2) rfl rfl dX10_init_26 (fun X => ?_)
  refine z_aload_n X.1.1 dX10_init_29 rfl (lv_at hl 0 rfl) ?_
  refine z_iconst (v := 0) X.1.1 dX10_init_30 (by decide) ?_
  refine c_puti X.1 hy0 cf_X10_24 cg_X10 cp_X10_3 rfl rfl dX10_init_31 ?_
  refine z_aload_n X.1.1 dX10_init_34 rfl (lv_at hl 0 rfl) ?_
  refine z_iconst (v := -1) X.1.1 dX10_init_35 (by decide) ?_
  refine c_puti X.1 hy0 cf_X10_27 cg_X10 cp_X10_4 rfl rfl dX10_init_36 ?_
  refine z_aload_n X.1.1 dX10_init_39 rfl (lv_at hl 0 rfl) ?_
  have hm := m_X10_init_43 y0 y0 n (n + 1) (c + 1) (q + 12) (kU K n 5) N (kU (gS G t0 2 (some t1)) n zn0) (kU (z_uI (z_uI V y0 3 0) y0 4 (-1)) n (fun _ => 0)) (kU L n (fun _ => 0)) hf
  refine a_new (ci := 5) X ci_X7 cg_X7.1 dv_X7 cn_X10_30 ⟨by rw [hC.1]; exact hm.1, by rw [hC.2]; exact hm.2⟩ dX10_init_40 (fun ad' hag X => ?_)
  rw [← hag y0 hy0.1] at hl ⊢
  exact w_X10_init_43 Z hC hin y0 y0 n (n + 1) (c + 1) (q + 12) (kU K n 5) N (kU (gS G t0 2 (some t1)) n zn0) (kU (z_uI (z_uI V y0 3 0) y0 4 (-1)) n (fun _ => 0)) (kU L n (fun _ => 0)) ad' ls X (zag_up ha hn0 hag) (by omega) (zag_up hk0 hn0 (fun w h => kU_ne (by omega))) (zh_up hy0) (zh_up hy0) zh_new (lv_sub hl [0] rfl) hf

set_option maxHeartbeats 4000000 in
set_option maxRecDepth 100000 in
theorem w_X10_init_22 {M : zM} {D : va_G} {cy : Nat → ClassId} {ad0 K0 : Nat → Nat} {n0 : Nat} {r' : zS} (Z : RZAv M D cy ad0 n0 K0 r') (hC : M.2.2.2.1.cells = r'.2.1 ∧ M.2.2.2.1.slots = r'.2.2.1) (hin : M.2.2.2.2.2.2.2.2.1.name = "<init>") (y0 : Nat) (t0 : Nat) (t1 : Nat) (n c q : Nat) (K N : Nat → Nat) (G : zG) (V : zI) (L : zL) (ad : Nat → Nat) (ls : Array Slot) (X : RXA M D cy ad n c q K N G cX10_init 1 RX10 2 44) (ha : ∀ w, w < n0 → ad w = ad0 w) (hn0 : n0 ≤ n) (hk0 : ∀ w, w < n0 → K w = K0 w) (hy0 : y0 < n ∧ K y0 = 8) (ht0 : t0 < n ∧ K t0 = 8) (ht1 : t1 < n ∧ K t1 = 7) (hl : lv_has ls 1 [(0, .ref (ad y0))]) (hf : f_X10_init_22 y0 t0 t1 n c q K N G V L = some r') : RG (zMb M c q) (zC D cy ad n K N G) V L 22 ls [.ref (ad t1), .ref (ad t0)] := by
  unfold f_X10_init_22 at hf
  refine z_dup X.1.1 dX10_init_22 rfl ?_
  obtain ⟨r1, hc1, hf⟩ := z_bind hf
  have hm := m_X10_init_26 y0 t0 t1 r1.1 (c + r1.2.1) (q + r1.2.2.1) r1.2.2.2.1 r1.2.2.2.2.1 r1.2.2.2.2.2.1 r1.2.2.2.2.2.2.1 r1.2.2.2.2.2.2.2 hf
  refine a_callIv [] X hl.1 (c_X9_init D cy ad X.1.2.2 ht1 hc1) ht1 ⟨by decide, rfl⟩ cm_X10_19 cx_X9_init rfl cq_X9_init ⟨by decide, by decide⟩ (Nat.le_of_ble_eq_true rfl) rfl ⟨by rw [hC.1]; exact hm.1, by rw [hC.2]; exact hm.2⟩ dX10_init_23 (fun ad' hag hnn hKg X => ?_)
  rw [← hag y0 hy0.1] at hl
  rw [← hag t1 ht1.1]
  rw [← hag t0 ht0.1]
  exact w_X10_init_26 Z hC hin y0 t0 t1 r1.1 (c + r1.2.1) (q + r1.2.2.1) r1.2.2.2.1 r1.2.2.2.2.1 r1.2.2.2.2.2.1 r1.2.2.2.2.2.2.1 r1.2.2.2.2.2.2.2 ad' ls X (zag_up ha hn0 hag) (by omega) (zag_up hk0 hn0 hKg) (zh_ext hy0 hnn hKg) (zh_ext ht0 hnn hKg) (zh_ext ht1 hnn hKg) (lv_sub hl [0] rfl) hf

set_option maxHeartbeats 4000000 in
set_option maxRecDepth 100000 in
theorem w_X10_init_10 {M : zM} {D : va_G} {cy : Nat → ClassId} {ad0 K0 : Nat → Nat} {n0 : Nat} {r' : zS} (Z : RZAv M D cy ad0 n0 K0 r') (hC : M.2.2.2.1.cells = r'.2.1 ∧ M.2.2.2.1.slots = r'.2.2.1) (hin : M.2.2.2.2.2.2.2.2.1.name = "<init>") (y0 : Nat) (t0 : Nat) (t1 : Nat) (n c q : Nat) (K N : Nat → Nat) (G : zG) (V : zI) (L : zL) (ad : Nat → Nat) (ls : Array Slot) (X : RXA M D cy ad n c q K N G cX10_init 1 RX10 2 44) (ha : ∀ w, w < n0 → ad w = ad0 w) (hn0 : n0 ≤ n) (hk0 : ∀ w, w < n0 → K w = K0 w) (hy0 : y0 < n ∧ K y0 = 8) (ht0 : t0 < n ∧ K t0 = 8) (ht1 : t1 < n ∧ K t1 = 101) (hl : lv_has ls 1 [(0, .ref (ad y0))]) (hf : f_X10_init_10 y0 t0 t1 n c q K N G V L = some r') : RG (zMb M c q) (zC D cy ad n K N G) V L 10 ls [.ref (ad t1), .ref (ad t0)] := by
  unfold f_X10_init_10 at hf
  refine a_putF (o := (some t1)) X ht0 cz_X10_9 cg_X10 rfl hin rfl rfl (Or.inr ⟨_, rfl, ht1.1, ht1.2⟩) (ct_X10_0) rfl rfl dX10_init_10 (fun X => ?_)
  refine z_aload_n X.1.1 dX10_init_13 rfl (lv_at hl 0 rfl) ?_
  refine z_iconst (v := 0) X.1.1 dX10_init_14 (by decide) ?_
  refine c_puti X.1 hy0 cf_X10_13 cg_X10 cp_X10_1 rfl rfl dX10_init_15 ?_
  refine z_aload_n X.1.1 dX10_init_18 rfl (lv_at hl 0 rfl) ?_
  have hm := m_X10_init_22 y0 y0 n (n + 1) (c + 1) (q + 11) (kU K n 7) N (kU (gS G t0 0 (some t1)) n zn0) (kU (z_uI V y0 1 0) n (fun _ => 0)) (kU L n (fun _ => 0)) hf
  refine a_new (ci := 7) X ci_X9 cg_X9.1 dv_X9 cn_X10_17 ⟨by rw [hC.1]; exact hm.1, by rw [hC.2]; exact hm.2⟩ dX10_init_19 (fun ad' hag X => ?_)
  rw [← hag y0 hy0.1] at hl ⊢
  exact w_X10_init_22 Z hC hin y0 y0 n (n + 1) (c + 1) (q + 11) (kU K n 7) N (kU (gS G t0 0 (some t1)) n zn0) (kU (z_uI V y0 1 0) n (fun _ => 0)) (kU L n (fun _ => 0)) ad' ls X (zag_up ha hn0 hag) (by omega) (zag_up hk0 hn0 (fun w h => kU_ne (by omega))) (zh_up hy0) (zh_up hy0) zh_new (lv_sub hl [0] rfl) hf

set_option maxHeartbeats 4000000 in
set_option maxRecDepth 100000 in
theorem w_X10_init {M : zM} {D : va_G} {cy : Nat → ClassId} {ad0 K0 : Nat → Nat} {n0 : Nat} {r' : zS} (Z : RZAv M D cy ad0 n0 K0 r') (hC : M.2.2.2.1.cells = r'.2.1 ∧ M.2.2.2.1.slots = r'.2.2.1) (hin : M.2.2.2.2.2.2.2.2.1.name = "<init>") (y0 : Nat) (n c q : Nat) (K N : Nat → Nat) (G : zG) (V : zI) (L : zL) (ad : Nat → Nat) (ls : Array Slot) (X : RXA M D cy ad n c q K N G cX10_init 1 RX10 2 44) (ha : ∀ w, w < n0 → ad w = ad0 w) (hn0 : n0 ≤ n) (hk0 : ∀ w, w < n0 → K w = K0 w) (hy0 : y0 < n ∧ K y0 = 8) (hl : lv_has ls 1 [(0, .ref (ad y0))]) (hf : g_X10_init y0 n c q K N G V L = some r') : RG (zMb M c q) (zC D cy ad n K N G) V L 0 ls [] := by
  unfold g_X10_init at hf
  refine z_aload_n X.1.1 dX10_init_0 rfl (lv_at hl 0 rfl) ?_
  refine a_obj X hl.1 co_X10_3 ⟨by decide, Nat.le_of_ble_eq_true rfl⟩ dX10_init_1 ?_
  refine z_aload_n X.1.1 dX10_init_4 rfl (lv_at hl 0 rfl) ?_
  refine z_sipush (v := 1600) X.1.1 dX10_init_5 (by decide) ?_
  obtain ⟨hb1, hf⟩ := z_ite hf
  have hm := m_X10_init_10 y0 y0 n (n + 1) (c + 1) (q + (1600 : Int32).toNatClampNeg) (kU K n 101) (kU N n (1600 : Int32).toNatClampNeg) (kU G n zn0) (kU V n (fun _ => 0)) (kU L n (fun _ => 0)) hf
  refine a_newb X hb1 ca_101 ⟨by rw [hC.1]; exact hm.1, by rw [hC.2]; exact hm.2⟩ dX10_init_8 (fun ad' hag X => ?_)
  rw [← hag y0 hy0.1] at hl ⊢
  exact w_X10_init_10 Z hC hin y0 y0 n (n + 1) (c + 1) (q + (1600 : Int32).toNatClampNeg) (kU K n 101) (kU N n (1600 : Int32).toNatClampNeg) (kU G n zn0) (kU V n (fun _ => 0)) (kU L n (fun _ => 0)) ad' ls X (zag_up ha hn0 hag) (by omega) (zag_up hk0 hn0 (fun w h => kU_ne (by omega))) (zh_up hy0) (zh_up hy0) zh_new (lv_sub hl [0] rfl) hf

theorem c_X10_init (D : va_G) (cy : Nat → ClassId) (ad : Nat → Nat) {n : Nat} {K N : Nat → Nat} {G : zG} (hWF : zWF n K G) {y0 : Nat} {V : zI} {L : zL} (hy0 : y0 < n ∧ K y0 = 8) {r' : zS} (hf : f_X10_init y0 n K N G V L = some r') : RAv D cy ad n K N G yX10_init cX10_init 1 2 44 [.ref (ad y0)] V L r' :=
  RAv.of (by decide) hWF (Nat.le_of_ble_eq_true rfl) (fun M X Z hC hnm ls hl => w_X10_init Z hC hnm y0 n 0 0 K N G V L ad ls X (fun _ _ => rfl) (Nat.le_refl _) (fun _ _ => rfl) hy0 hl hf)
def f_X10_undo_31 (y0 : Nat) (t0 : Nat) (n c q : Nat) (K N : Nat → Nat) (G : zG) (V : zI) (L : zL) : Option (Int32 × zS) :=
  (G y0 5).bind fun v1 => (f_X7_copyFrom N G v1 t0 V L).bind fun r2 => some (1, n, c, q, K, N, G, z_uI r2.1 y0 10 ((r2.1 y0 10) - 1), r2.2)
def f_X10_undo_102400031 (y0 : Nat) (n c q : Nat) (K N : Nat → Nat) (G : zG) (V : zI) (L : zL) : Option (Int32 × zS) :=
  (f_X10_refuse N G y0 4 V L).bind fun r1 => some (0, n, c, q, K, N, G, r1.2.1, r1.2.2)
def f_X10_undo_30 (y0 : Nat) (n c q : Nat) (K N : Nat → Nat) (G : zG) (V : zI) (L : zL) : Option (Int32 × zS) :=
  f_X10_undo_102400031 y0 n c q K N G V L
def g_X10_undo (y0 : Nat) (n c q : Nat) (K N : Nat → Nat) (G : zG) (V : zI) (L : zL) : Option (Int32 × zS) :=
  (if (V y0 10) ≤ 0 then f_X10_undo_30 y0 n c q K N G V L else (if 20 < (V y0 10) then f_X10_undo_30 y0 n c q K N G V L else (G y0 9).bind fun v1 => if inB ((V y0 10) - 1) (N v1) then (zopt (G v1 ((V y0 10) - 1).toNatClampNeg) (f_X10_undo_102400031 y0 n c q K N G V L) (fun v3 => f_X10_undo_31 y0 v3 n c q K N G V L)) else none))
def f_X10_undo (y0 : Nat) (n : Nat) (K N : Nat → Nat) (G : zG) (V : zI) (L : zL) : Option (Int32 × zS) := g_X10_undo y0 n 0 0 K N G V L
set_option maxHeartbeats 4000000 in
set_option maxRecDepth 100000 in
theorem m_X10_undo_31 (y0 : Nat) (t0 : Nat) (n c q : Nat) (K N : Nat → Nat) (G : zG) (V : zI) (L : zL) {r' : Int32 × zS} (hf : f_X10_undo_31 y0 t0 n c q K N G V L = some r') : c ≤ r'.2.2.1 ∧ q ≤ r'.2.2.2.1 := by
  unfold f_X10_undo_31 at hf
  obtain ⟨v1, hG1, hf⟩ := z_bind hf
  obtain ⟨r2, hc2, hf⟩ := z_bind hf
  cases hf
  exact ⟨Nat.le_refl _, Nat.le_refl _⟩

set_option maxHeartbeats 4000000 in
set_option maxRecDepth 100000 in
theorem m_X10_undo_102400031 (y0 : Nat) (n c q : Nat) (K N : Nat → Nat) (G : zG) (V : zI) (L : zL) {r' : Int32 × zS} (hf : f_X10_undo_102400031 y0 n c q K N G V L = some r') : c ≤ r'.2.2.1 ∧ q ≤ r'.2.2.2.1 := by
  unfold f_X10_undo_102400031 at hf
  obtain ⟨r1, hc1, hf⟩ := z_bind hf
  cases hf
  exact ⟨Nat.le_refl _, Nat.le_refl _⟩

set_option maxHeartbeats 4000000 in
set_option maxRecDepth 100000 in
theorem m_X10_undo_30 (y0 : Nat) (n c q : Nat) (K N : Nat → Nat) (G : zG) (V : zI) (L : zL) {r' : Int32 × zS} (hf : f_X10_undo_30 y0 n c q K N G V L = some r') : c ≤ r'.2.2.1 ∧ q ≤ r'.2.2.2.1 := by
  unfold f_X10_undo_30 at hf
  exact m_X10_undo_102400031 y0 n c q K N G V L hf

set_option maxHeartbeats 4000000 in
set_option maxRecDepth 100000 in
theorem w_X10_undo_31 {M : zM} {D : va_G} {cy : Nat → ClassId} {ad0 K0 : Nat → Nat} {n0 : Nat} {r' : Int32 × zS} (Z : RZAi M D cy ad0 n0 K0 .boolean r'.1 r'.2) (hC : M.2.2.2.1.cells = r'.2.2.1 ∧ M.2.2.2.1.slots = r'.2.2.2.1) (y0 : Nat) (t0 : Nat) (n c q : Nat) (K N : Nat → Nat) (G : zG) (V : zI) (L : zL) (ad : Nat → Nat) (ls : Array Slot) (X : RXA M D cy ad n c q K N G cX10_undo 2 RX10 2 81) (ha : ∀ w, w < n0 → ad w = ad0 w) (hn0 : n0 ≤ n) (hk0 : ∀ w, w < n0 → K w = K0 w) (hy0 : y0 < n ∧ K y0 = 8) (ht0 : t0 < n ∧ K t0 = 5) (hl : lv_has ls 2 [(0, .ref (ad y0))]) (hf : f_X10_undo_31 y0 t0 n c q K N G V L = some r') : RG (zMb M c q) (zC D cy ad n K N G) V L 31 ls [.ref (ad t0)] := by
  unfold f_X10_undo_31 at hf
  refine c_astore_n (lv' := [(1, .ref (ad t0)), (0, .ref (ad y0))]) X.1 dX10_undo_31 rfl hl (by decide) rfl (fun ls hl => ?_)
  refine z_aload_n X.1.1 dX10_undo_32 rfl (lv_at hl 0 rfl) ?_
  refine c_ifnonnull (tgt := 44) X.1 dX10_undo_33 (by decide) ?_
  refine z_aload_n X.1.1 dX10_undo_44 rfl (lv_at hl 1 rfl) ?_
  obtain ⟨v1, hG1, hf⟩ := z_bind hf
  have hv1 := X.1.2.2.get hy0 (k := 5) (c := 5) rfl hG1
  refine c_geta X.1 hy0 cf_X10_33 hG1 dX10_undo_45 ?_
  refine z_aload_n X.1.1 dX10_undo_48 rfl (lv_at hl 0 rfl) ?_
  obtain ⟨r2, hc2, hf⟩ := z_bind hf
  refine c_callVv [.ref (ad t0)] X.1 hl.1 (c_X7_copyFrom D cy ad X.1.2.2 hv1 ht0 hc2) hv1 ⟨by decide, rfl⟩ cm_X10_186 cw_X7_copyFrom rfl cq_X7_copyFrom ⟨by decide, by decide⟩ (Nat.le_of_ble_eq_true rfl) rfl dX10_undo_49 ?_
  refine z_aload_n X.1.1 dX10_undo_52 rfl (lv_at hl 1 rfl) ?_
  refine z_dup X.1.1 dX10_undo_53 rfl ?_
  refine c_geti X.1 hy0 cf_X10_58 dX10_undo_54 ?_
  refine z_iconst (v := 1) X.1.1 dX10_undo_57 (by decide) ?_
  refine z_isub X.1.1 dX10_undo_58 ?_
  refine c_puti X.1 hy0 cf_X10_58 cg_X10 cp_X10_10 rfl rfl dX10_undo_59 ?_
  refine z_iconst (v := 1) X.1.1 dX10_undo_62 (by decide) ?_
  exact a_iret X Z ha hn0 hk0 hf (by decide) dX10_undo_63

set_option maxHeartbeats 4000000 in
set_option maxRecDepth 100000 in
theorem w_X10_undo_102400031 {M : zM} {D : va_G} {cy : Nat → ClassId} {ad0 K0 : Nat → Nat} {n0 : Nat} {r' : Int32 × zS} (Z : RZAi M D cy ad0 n0 K0 .boolean r'.1 r'.2) (hC : M.2.2.2.1.cells = r'.2.2.1 ∧ M.2.2.2.1.slots = r'.2.2.2.1) (y0 : Nat) (n c q : Nat) (K N : Nat → Nat) (G : zG) (V : zI) (L : zL) (ad : Nat → Nat) (ls : Array Slot) (X : RXA M D cy ad n c q K N G cX10_undo 2 RX10 2 81) (ha : ∀ w, w < n0 → ad w = ad0 w) (hn0 : n0 ≤ n) (hk0 : ∀ w, w < n0 → K w = K0 w) (hy0 : y0 < n ∧ K y0 = 8) (hl : lv_has ls 2 [(0, .ref (ad y0))]) (hf : f_X10_undo_102400031 y0 n c q K N G V L = some r') : RG (zMb M c q) (zC D cy ad n K N G) V L 31 ls [.null] := by
  unfold f_X10_undo_102400031 at hf
  refine c_astore_nN (lv' := [(1, .null), (0, .ref (ad y0))]) X dX10_undo_31 rfl hl (by decide) rfl (fun ls hl => ?_)
  refine c_aload_nN X.1 dX10_undo_32 rfl (lv_at hl 0 rfl) ?_
  refine c_ifnonnullN X.1 dX10_undo_33 ?_
  refine z_aload_n X.1.1 dX10_undo_36 rfl (lv_at hl 1 rfl) ?_
  refine z_iconst (v := 4) X.1.1 dX10_undo_37 (by decide) ?_
  obtain ⟨r1, hc1, hf⟩ := z_bind hf
  refine c_callVi [.int 4] X.1 hl.1 (c_X10_refuse D cy ad X.1.2.2 hy0 hc1) hy0 ⟨by decide, rfl⟩ cm_X10_80 cw_X10_refuse rfl cq_X10_refuse ⟨by decide, by decide⟩ (Nat.le_of_ble_eq_true rfl) rfl dX10_undo_38 ?_
  refine z_pop X.1.1 dX10_undo_41 rfl ?_
  refine z_iconst (v := 0) X.1.1 dX10_undo_42 (by decide) ?_
  exact a_iret X Z ha hn0 hk0 hf (by decide) dX10_undo_43

set_option maxHeartbeats 4000000 in
set_option maxRecDepth 100000 in
theorem w_X10_undo_30 {M : zM} {D : va_G} {cy : Nat → ClassId} {ad0 K0 : Nat → Nat} {n0 : Nat} {r' : Int32 × zS} (Z : RZAi M D cy ad0 n0 K0 .boolean r'.1 r'.2) (hC : M.2.2.2.1.cells = r'.2.2.1 ∧ M.2.2.2.1.slots = r'.2.2.2.1) (y0 : Nat) (n c q : Nat) (K N : Nat → Nat) (G : zG) (V : zI) (L : zL) (ad : Nat → Nat) (ls : Array Slot) (X : RXA M D cy ad n c q K N G cX10_undo 2 RX10 2 81) (ha : ∀ w, w < n0 → ad w = ad0 w) (hn0 : n0 ≤ n) (hk0 : ∀ w, w < n0 → K w = K0 w) (hy0 : y0 < n ∧ K y0 = 8) (hl : lv_has ls 2 [(0, .ref (ad y0))]) (hf : f_X10_undo_30 y0 n c q K N G V L = some r') : RG (zMb M c q) (zC D cy ad n K N G) V L 30 ls [] := by
  unfold f_X10_undo_30 at hf
  refine c_null X.1 dX10_undo_30 ?_
  exact w_X10_undo_102400031 Z hC y0 n c q K N G V L ad ls X ha hn0 hk0 hy0 (lv_sub hl [0] rfl) hf

set_option maxHeartbeats 4000000 in
set_option maxRecDepth 100000 in
theorem w_X10_undo {M : zM} {D : va_G} {cy : Nat → ClassId} {ad0 K0 : Nat → Nat} {n0 : Nat} {r' : Int32 × zS} (Z : RZAi M D cy ad0 n0 K0 .boolean r'.1 r'.2) (hC : M.2.2.2.1.cells = r'.2.2.1 ∧ M.2.2.2.1.slots = r'.2.2.2.1) (y0 : Nat) (n c q : Nat) (K N : Nat → Nat) (G : zG) (V : zI) (L : zL) (ad : Nat → Nat) (ls : Array Slot) (X : RXA M D cy ad n c q K N G cX10_undo 2 RX10 2 81) (ha : ∀ w, w < n0 → ad w = ad0 w) (hn0 : n0 ≤ n) (hk0 : ∀ w, w < n0 → K w = K0 w) (hy0 : y0 < n ∧ K y0 = 8) (hl : lv_has ls 2 [(0, .ref (ad y0))]) (hf : g_X10_undo y0 n c q K N G V L = some r') : RG (zMb M c q) (zC D cy ad n K N G) V L 0 ls [] := by
  unfold g_X10_undo at hf
  refine z_aload_n X.1.1 dX10_undo_0 rfl (lv_at hl 0 rfl) ?_
  refine c_geti X.1 hy0 cf_X10_58 dX10_undo_1 ?_
  refine z_if_le (tgt := 30) X.1.1 dX10_undo_4 (by decide) (fun c_ => ?_) (fun c_ => ?_)
  · have hf := (if_pos c_).symm.trans hf
    exact w_X10_undo_30 Z hC y0 n c q K N G V L ad ls X ha hn0 hk0 hy0 (lv_sub hl [0] rfl) hf
  · have hf := (if_neg c_).symm.trans hf
    refine z_aload_n X.1.1 dX10_undo_7 rfl (lv_at hl 0 rfl) ?_
    refine c_geti X.1 hy0 cf_X10_58 dX10_undo_8 ?_
    refine z_bipush (v := 20) X.1.1 dX10_undo_11 (by decide) ?_
    refine z_icmp_gt (tgt := 30) X.1.1 dX10_undo_13 (by decide) (fun c_ => ?_) (fun c_ => ?_)
    · have hf := (if_pos c_).symm.trans hf
      exact w_X10_undo_30 Z hC y0 n c q K N G V L ad ls X ha hn0 hk0 hy0 (lv_sub hl [0] rfl) hf
    · have hf := (if_neg c_).symm.trans hf
      refine z_aload_n X.1.1 dX10_undo_16 rfl (lv_at hl 0 rfl) ?_
      obtain ⟨v1, hG1, hf⟩ := z_bind hf
      have hv1 := X.1.2.2.get hy0 (k := 9) (c := 104) rfl hG1
      refine c_geta X.1 hy0 cf_X10_54 hG1 dX10_undo_17 ?_
      refine z_aload_n X.1.1 dX10_undo_20 rfl (lv_at hl 0 rfl) ?_
      refine c_geti X.1 hy0 cf_X10_58 dX10_undo_21 ?_
      refine z_iconst (v := 1) X.1.1 dX10_undo_24 (by decide) ?_
      refine z_isub X.1.1 dX10_undo_25 ?_
      obtain ⟨hb2, hf⟩ := z_ite hf
      rcases z_optE hf with ⟨hG3, hf⟩ | ⟨v3, hG3, hf⟩
      · refine a_aaldN X hv1 hb2 hG3 dX10_undo_26 ?_
        refine z_goto (tgt := 31) X.1.1 dX10_undo_27 (by decide) ?_
        exact w_X10_undo_102400031 Z hC y0 n c q K N G V L ad ls X ha hn0 hk0 hy0 (lv_sub hl [0] rfl) hf
      · have hv3 := X.1.2.2.get104 hv1 hG3
        refine a_aaldS X hv1 hb2 hG3 dX10_undo_26 ?_
        refine z_goto (tgt := 31) X.1.1 dX10_undo_27 (by decide) ?_
        exact w_X10_undo_31 Z hC y0 v3 n c q K N G V L ad ls X ha hn0 hk0 hy0 hv3 (lv_sub hl [0] rfl) hf

theorem c_X10_undo (D : va_G) (cy : Nat → ClassId) (ad : Nat → Nat) {n : Nat} {K N : Nat → Nat} {G : zG} (hWF : zWF n K G) {y0 : Nat} {V : zI} {L : zL} (hy0 : y0 < n ∧ K y0 = 8) {r' : Int32 × zS} (hf : f_X10_undo y0 n K N G V L = some r') : RAi D cy ad n K N G yX10_undo cX10_undo 2 .boolean 2 81 [.ref (ad y0)] V L r'.1 r'.2 :=
  RAi.of (by decide) hWF (Nat.le_of_ble_eq_true rfl) (fun M X Z hC hnm ls hl => w_X10_undo Z hC y0 n 0 0 K N G V L ad ls X (fun _ _ => rfl) (Nat.le_refl _) (fun _ _ => rfl) hy0 hl hf)
def f_X10_remember_73 (y0 : Nat) (y2 : Nat) (x1 : Int32) (n c q : Nat) (K N : Nat → Nat) (G : zG) (V : zI) (L : zL) : Option (zS) :=
  (G y0 5).bind fun v1 => (f_X7_copyFrom N G y2 v1 V L).bind fun r2 => (G y0 9).bind fun v3 => if inB x1 (N v3) then some (n, c, q, K, N, gS G v3 x1.toNatClampNeg (some y2), z_uI r2.1 y0 10 (x1 + 1), r2.2) else none
def f_X10_remember_72 (y0 : Nat) (t0 : Nat) (x1 : Int32) (n c q : Nat) (K N : Nat → Nat) (G : zG) (V : zI) (L : zL) : Option (zS) :=
  f_X10_remember_73 y0 t0 x1 n c q K N G V L
def f_X10_remember_68 (y0 : Nat) (t0 : Nat) (x1 : Int32) (n c q : Nat) (K N : Nat → Nat) (G : zG) (V : zI) (L : zL) : Option (zS) :=
  (f_X7_init t0 n K N G V L).bind fun r1 => f_X10_remember_72 y0 t0 x1 r1.1 (c + r1.2.1) (q + r1.2.2.1) r1.2.2.2.1 r1.2.2.2.2.1 r1.2.2.2.2.2.1 r1.2.2.2.2.2.2.1 r1.2.2.2.2.2.2.2
def f_X10_remember_61 (y0 : Nat) (y2 : Nat) (x1 : Int32) (n c q : Nat) (K N : Nat → Nat) (G : zG) (V : zI) (L : zL) : Option (zS) :=
  f_X10_remember_73 y0 y2 x1 n c q K N G V L
def f_X10_remember_400061 (y0 : Nat) (x1 : Int32) (n c q : Nat) (K N : Nat → Nat) (G : zG) (V : zI) (L : zL) : Option (zS) :=
  f_X10_remember_68 y0 n x1 (n + 1) (c + 1) (q + 12) (kU K n 5) N (kU G n zn0) (kU V n (fun _ => 0)) (kU L n (fun _ => 0))
def b_X10_remember_35 (k35 : Nat × Nat × Int32 × Int32 × zS → Option (zS)) : Nat × Nat × Int32 × Int32 × zS → Option (zS) := fun ⟨y0, y2, x1, x3, n, c, q, K, N, G, V, L⟩ =>
  (if 20 ≤ x3 then f_X10_remember_61 y0 y2 x1 n c q K N G V L else (G y0 9).bind fun v1 => (G y0 9).bind fun v2 => if inB x3 (N v2) then (zopt (G v2 x3.toNatClampNeg) (none) (fun v4 => if inB (x3 - 1) (N v1) then k35 (y0, y2, x1, (x3 + 1), n, c, q, K, N, gS G v1 (x3 - 1).toNatClampNeg (some v4), V, L) else none)) else none)
def g_X10_remember (y0 : Nat) (n c q : Nat) (K N : Nat → Nat) (G : zG) (V : zI) (L : zL) : Option (zS) :=
  (G y0 9).bind fun v1 => if inB (if (19 : Int32) < (V y0 10) then 19 else (V y0 10)) (N v1) then (zopt (G v1 (if (19 : Int32) < (V y0 10) then 19 else (V y0 10)).toNatClampNeg) ((if (V y0 10) = 20 then (G y0 9).bind fun v4 => if inB (0 : Int32) (N v4) then (zopt (G v4 (0 : Int32).toNatClampNeg) (none) (fun v6 => zfix (b_X10_remember_35) FU (y0, v6, (if (19 : Int32) < (V y0 10) then 19 else (V y0 10)), 1, n, c, q, K, N, G, V, L))) else none else f_X10_remember_400061 y0 (if (19 : Int32) < (V y0 10) then 19 else (V y0 10)) n c q K N G V L)) (fun v3 => (if (V y0 10) = 20 then (G y0 9).bind fun v7 => if inB (0 : Int32) (N v7) then (zopt (G v7 (0 : Int32).toNatClampNeg) (none) (fun v9 => zfix (b_X10_remember_35) FU (y0, v9, (if (19 : Int32) < (V y0 10) then 19 else (V y0 10)), 1, n, c, q, K, N, G, V, L))) else none else f_X10_remember_61 y0 v3 (if (19 : Int32) < (V y0 10) then 19 else (V y0 10)) n c q K N G V L))) else none
def f_X10_remember (y0 : Nat) (n : Nat) (K N : Nat → Nat) (G : zG) (V : zI) (L : zL) : Option (zS) := g_X10_remember y0 n 0 0 K N G V L
set_option maxHeartbeats 4000000 in
set_option maxRecDepth 100000 in
theorem m_X10_remember_73 (y0 : Nat) (y2 : Nat) (x1 : Int32) (n c q : Nat) (K N : Nat → Nat) (G : zG) (V : zI) (L : zL) {r' : zS} (hf : f_X10_remember_73 y0 y2 x1 n c q K N G V L = some r') : c ≤ r'.2.1 ∧ q ≤ r'.2.2.1 := by
  unfold f_X10_remember_73 at hf
  obtain ⟨v1, hG1, hf⟩ := z_bind hf
  obtain ⟨r2, hc2, hf⟩ := z_bind hf
  obtain ⟨v3, hG3, hf⟩ := z_bind hf
  obtain ⟨hb4, hf⟩ := z_ite hf
  cases hf
  exact ⟨Nat.le_refl _, Nat.le_refl _⟩

set_option maxHeartbeats 4000000 in
set_option maxRecDepth 100000 in
theorem m_X10_remember_72 (y0 : Nat) (t0 : Nat) (x1 : Int32) (n c q : Nat) (K N : Nat → Nat) (G : zG) (V : zI) (L : zL) {r' : zS} (hf : f_X10_remember_72 y0 t0 x1 n c q K N G V L = some r') : c ≤ r'.2.1 ∧ q ≤ r'.2.2.1 := by
  unfold f_X10_remember_72 at hf
  exact m_X10_remember_73 y0 t0 x1 n c q K N G V L hf

set_option maxHeartbeats 4000000 in
set_option maxRecDepth 100000 in
theorem m_X10_remember_68 (y0 : Nat) (t0 : Nat) (x1 : Int32) (n c q : Nat) (K N : Nat → Nat) (G : zG) (V : zI) (L : zL) {r' : zS} (hf : f_X10_remember_68 y0 t0 x1 n c q K N G V L = some r') : c ≤ r'.2.1 ∧ q ≤ r'.2.2.1 := by
  unfold f_X10_remember_68 at hf
  obtain ⟨r1, hc1, hf⟩ := z_bind hf
  have hm := m_X10_remember_72 y0 t0 x1 r1.1 (c + r1.2.1) (q + r1.2.2.1) r1.2.2.2.1 r1.2.2.2.2.1 r1.2.2.2.2.2.1 r1.2.2.2.2.2.2.1 r1.2.2.2.2.2.2.2 hf
  exact ⟨by omega, by omega⟩

set_option maxHeartbeats 4000000 in
set_option maxRecDepth 100000 in
theorem m_X10_remember_61 (y0 : Nat) (y2 : Nat) (x1 : Int32) (n c q : Nat) (K N : Nat → Nat) (G : zG) (V : zI) (L : zL) {r' : zS} (hf : f_X10_remember_61 y0 y2 x1 n c q K N G V L = some r') : c ≤ r'.2.1 ∧ q ≤ r'.2.2.1 := by
  unfold f_X10_remember_61 at hf
  exact m_X10_remember_73 y0 y2 x1 n c q K N G V L hf

set_option maxHeartbeats 4000000 in
set_option maxRecDepth 100000 in
theorem m_X10_remember_400061 (y0 : Nat) (x1 : Int32) (n c q : Nat) (K N : Nat → Nat) (G : zG) (V : zI) (L : zL) {r' : zS} (hf : f_X10_remember_400061 y0 x1 n c q K N G V L = some r') : c ≤ r'.2.1 ∧ q ≤ r'.2.2.1 := by
  unfold f_X10_remember_400061 at hf
  have hm := m_X10_remember_68 y0 n x1 (n + 1) (c + 1) (q + 12) (kU K n 5) N (kU G n zn0) (kU V n (fun _ => 0)) (kU L n (fun _ => 0)) hf
  exact ⟨by omega, by omega⟩

set_option maxHeartbeats 4000000 in
set_option maxRecDepth 100000 in
theorem m_X10_remember_35 (nn : Nat) : ∀ (y0 : Nat) (y2 : Nat) (x1 : Int32) (x3 : Int32) (n c q : Nat) (K N : Nat → Nat) (G : zG) (V : zI) (L : zL) {r' : zS}, zfix (b_X10_remember_35) nn (y0, y2, x1, x3, n, c, q, K, N, G, V, L) = some r' → c ≤ r'.2.1 ∧ q ≤ r'.2.2.1 := by
  induction nn with
  | zero => intro y0 y2 x1 x3 n c q K N G V L r' hf; cases hf
  | succ nn ih =>
  intro y0 y2 x1 x3 n c q K N G V L r' hf
  have hm35 : ∀ (y0 : Nat) (y2 : Nat) (x1 : Int32) (x3 : Int32) (n c q : Nat) (K N : Nat → Nat) (G : zG) (V : zI) (L : zL) {r' : zS}, zfix (b_X10_remember_35) nn (y0, y2, x1, x3, n, c, q, K, N, G, V, L) = some r' → c ≤ r'.2.1 ∧ q ≤ r'.2.2.1 := ih
  have hf : b_X10_remember_35 (zfix (b_X10_remember_35) nn) (y0, y2, x1, x3, n, c, q, K, N, G, V, L) = some r' := hf
  generalize zfix (b_X10_remember_35) nn = k35 at hm35 hf
  clear ih
  unfold b_X10_remember_35 at hf
  rcases z_iteE hf with hf | hf
  ·
    exact m_X10_remember_61 y0 y2 x1 n c q K N G V L hf
  ·
    obtain ⟨v1, hG1, hf⟩ := z_bind hf
    obtain ⟨v2, hG2, hf⟩ := z_bind hf
    obtain ⟨hb3, hf⟩ := z_ite hf
    rcases z_optE hf with ⟨hG4, hf⟩ | ⟨v4, hG4, hf⟩
    ·
      cases hf
    ·
      obtain ⟨hb5, hf⟩ := z_ite hf
      exact hm35 y0 y2 x1 (x3 + 1) n c q K N (gS G v1 (x3 - 1).toNatClampNeg (some v4)) V L hf

set_option maxHeartbeats 4000000 in
set_option maxRecDepth 100000 in
theorem w_X10_remember_73 {M : zM} {D : va_G} {cy : Nat → ClassId} {ad0 K0 : Nat → Nat} {n0 : Nat} {r' : zS} (Z : RZAv M D cy ad0 n0 K0 r') (hC : M.2.2.2.1.cells = r'.2.1 ∧ M.2.2.2.1.slots = r'.2.2.1) (y0 : Nat) (y2 : Nat) (x1 : Int32) (n c q : Nat) (K N : Nat → Nat) (G : zG) (V : zI) (L : zL) (ad : Nat → Nat) (ls : Array Slot) (X : RXA M D cy ad n c q K N G cX10_remember 4 RX10 2 81) (ha : ∀ w, w < n0 → ad w = ad0 w) (hn0 : n0 ≤ n) (hk0 : ∀ w, w < n0 → K w = K0 w) (hy0 : y0 < n ∧ K y0 = 8) (hy2 : y2 < n ∧ K y2 = 5) (hl : lv_has ls 4 [(0, .ref (ad y0)), (1, .int x1), (2, .ref (ad y2))]) (hf : f_X10_remember_73 y0 y2 x1 n c q K N G V L = some r') : RG (zMb M c q) (zC D cy ad n K N G) V L 73 ls [] := by
  unfold f_X10_remember_73 at hf
  refine z_aload_n X.1.1 dX10_remember_73 rfl (lv_at hl 2 rfl) ?_
  refine z_aload_n X.1.1 dX10_remember_74 rfl (lv_at hl 0 rfl) ?_
  obtain ⟨v1, hG1, hf⟩ := z_bind hf
  have hv1 := X.1.2.2.get hy0 (k := 5) (c := 5) rfl hG1
  refine c_geta X.1 hy0 cf_X10_33 hG1 dX10_remember_75 ?_
  obtain ⟨r2, hc2, hf⟩ := z_bind hf
  refine c_callVv [.ref (ad v1)] X.1 hl.1 (c_X7_copyFrom D cy ad X.1.2.2 hy2 hv1 hc2) hy2 ⟨by decide, rfl⟩ cm_X10_186 cw_X7_copyFrom rfl cq_X7_copyFrom ⟨by decide, by decide⟩ (Nat.le_of_ble_eq_true rfl) rfl dX10_remember_78 ?_
  refine z_aload_n X.1.1 dX10_remember_81 rfl (lv_at hl 0 rfl) ?_
  obtain ⟨v3, hG3, hf⟩ := z_bind hf
  have hv3 := X.1.2.2.get hy0 (k := 9) (c := 104) rfl hG3
  refine c_geta X.1 hy0 cf_X10_54 hG3 dX10_remember_82 ?_
  refine z_iload_n X.1.1 dX10_remember_85 rfl (lv_at hl 1 rfl) ?_
  refine z_aload_n X.1.1 dX10_remember_86 rfl (lv_at hl 2 rfl) ?_
  obtain ⟨hb4, hf⟩ := z_ite hf
  refine a_aast X hv3 hy2 hb4 dX10_remember_87 (fun X => ?_)
  refine z_aload_n X.1.1 dX10_remember_88 rfl (lv_at hl 0 rfl) ?_
  refine z_iload_n X.1.1 dX10_remember_89 rfl (lv_at hl 1 rfl) ?_
  refine z_iconst (v := 1) X.1.1 dX10_remember_90 (by decide) ?_
  refine z_iadd X.1.1 dX10_remember_91 ?_
  refine c_puti X.1 hy0 cf_X10_58 cg_X10 cp_X10_10 rfl rfl dX10_remember_92 ?_
  exact a_vret X Z ha hn0 hk0 hf dX10_remember_95

set_option maxHeartbeats 4000000 in
set_option maxRecDepth 100000 in
theorem w_X10_remember_72 {M : zM} {D : va_G} {cy : Nat → ClassId} {ad0 K0 : Nat → Nat} {n0 : Nat} {r' : zS} (Z : RZAv M D cy ad0 n0 K0 r') (hC : M.2.2.2.1.cells = r'.2.1 ∧ M.2.2.2.1.slots = r'.2.2.1) (y0 : Nat) (t0 : Nat) (x1 : Int32) (n c q : Nat) (K N : Nat → Nat) (G : zG) (V : zI) (L : zL) (ad : Nat → Nat) (ls : Array Slot) (X : RXA M D cy ad n c q K N G cX10_remember 4 RX10 2 81) (ha : ∀ w, w < n0 → ad w = ad0 w) (hn0 : n0 ≤ n) (hk0 : ∀ w, w < n0 → K w = K0 w) (hy0 : y0 < n ∧ K y0 = 8) (ht0 : t0 < n ∧ K t0 = 5) (hl : lv_has ls 4 [(0, .ref (ad y0)), (1, .int x1)]) (hf : f_X10_remember_72 y0 t0 x1 n c q K N G V L = some r') : RG (zMb M c q) (zC D cy ad n K N G) V L 72 ls [.ref (ad t0)] := by
  unfold f_X10_remember_72 at hf
  refine c_astore_n (lv' := [(2, .ref (ad t0)), (0, .ref (ad y0)), (1, .int x1)]) X.1 dX10_remember_72 rfl hl (by decide) rfl (fun ls hl => ?_)
  exact w_X10_remember_73 Z hC y0 t0 x1 n c q K N G V L ad ls X ha hn0 hk0 hy0 ht0 (lv_sub hl [1, 2, 0] rfl) hf

set_option maxHeartbeats 4000000 in
set_option maxRecDepth 100000 in
theorem w_X10_remember_68 {M : zM} {D : va_G} {cy : Nat → ClassId} {ad0 K0 : Nat → Nat} {n0 : Nat} {r' : zS} (Z : RZAv M D cy ad0 n0 K0 r') (hC : M.2.2.2.1.cells = r'.2.1 ∧ M.2.2.2.1.slots = r'.2.2.1) (y0 : Nat) (t0 : Nat) (x1 : Int32) (n c q : Nat) (K N : Nat → Nat) (G : zG) (V : zI) (L : zL) (ad : Nat → Nat) (ls : Array Slot) (X : RXA M D cy ad n c q K N G cX10_remember 4 RX10 2 81) (ha : ∀ w, w < n0 → ad w = ad0 w) (hn0 : n0 ≤ n) (hk0 : ∀ w, w < n0 → K w = K0 w) (hy0 : y0 < n ∧ K y0 = 8) (ht0 : t0 < n ∧ K t0 = 5) (hl : lv_has ls 4 [(0, .ref (ad y0)), (1, .int x1)]) (hf : f_X10_remember_68 y0 t0 x1 n c q K N G V L = some r') : RG (zMb M c q) (zC D cy ad n K N G) V L 68 ls [.ref (ad t0)] := by
  unfold f_X10_remember_68 at hf
  refine z_dup X.1.1 dX10_remember_68 rfl ?_
  obtain ⟨r1, hc1, hf⟩ := z_bind hf
  have hm := m_X10_remember_72 y0 t0 x1 r1.1 (c + r1.2.1) (q + r1.2.2.1) r1.2.2.2.1 r1.2.2.2.2.1 r1.2.2.2.2.2.1 r1.2.2.2.2.2.2.1 r1.2.2.2.2.2.2.2 hf
  refine a_callIv [] X hl.1 (c_X7_init D cy ad X.1.2.2 ht0 hc1) ht0 ⟨by decide, rfl⟩ cm_X10_32 cx_X7_init rfl cq_X7_init ⟨by decide, by decide⟩ (Nat.le_of_ble_eq_true rfl) rfl ⟨by rw [hC.1]; exact hm.1, by rw [hC.2]; exact hm.2⟩ dX10_remember_69 (fun ad' hag hnn hKg X => ?_)
  rw [← hag y0 hy0.1] at hl
  rw [← hag t0 ht0.1]
  exact w_X10_remember_72 Z hC y0 t0 x1 r1.1 (c + r1.2.1) (q + r1.2.2.1) r1.2.2.2.1 r1.2.2.2.2.1 r1.2.2.2.2.2.1 r1.2.2.2.2.2.2.1 r1.2.2.2.2.2.2.2 ad' ls X (zag_up ha hn0 hag) (by omega) (zag_up hk0 hn0 hKg) (zh_ext hy0 hnn hKg) (zh_ext ht0 hnn hKg) (lv_sub hl [0, 1] rfl) hf

set_option maxHeartbeats 4000000 in
set_option maxRecDepth 100000 in
theorem w_X10_remember_61 {M : zM} {D : va_G} {cy : Nat → ClassId} {ad0 K0 : Nat → Nat} {n0 : Nat} {r' : zS} (Z : RZAv M D cy ad0 n0 K0 r') (hC : M.2.2.2.1.cells = r'.2.1 ∧ M.2.2.2.1.slots = r'.2.2.1) (y0 : Nat) (y2 : Nat) (x1 : Int32) (n c q : Nat) (K N : Nat → Nat) (G : zG) (V : zI) (L : zL) (ad : Nat → Nat) (ls : Array Slot) (X : RXA M D cy ad n c q K N G cX10_remember 4 RX10 2 81) (ha : ∀ w, w < n0 → ad w = ad0 w) (hn0 : n0 ≤ n) (hk0 : ∀ w, w < n0 → K w = K0 w) (hy0 : y0 < n ∧ K y0 = 8) (hy2 : y2 < n ∧ K y2 = 5) (hl : lv_has ls 4 [(0, .ref (ad y0)), (1, .int x1), (2, .ref (ad y2))]) (hf : f_X10_remember_61 y0 y2 x1 n c q K N G V L = some r') : RG (zMb M c q) (zC D cy ad n K N G) V L 61 ls [] := by
  unfold f_X10_remember_61 at hf
  refine z_aload_n X.1.1 dX10_remember_61 rfl (lv_at hl 2 rfl) ?_
  refine c_ifnonnull (tgt := 73) X.1 dX10_remember_62 (by decide) ?_
  exact w_X10_remember_73 Z hC y0 y2 x1 n c q K N G V L ad ls X ha hn0 hk0 hy0 hy2 (lv_sub hl [0, 1, 2] rfl) hf

set_option maxHeartbeats 4000000 in
set_option maxRecDepth 100000 in
theorem w_X10_remember_400061 {M : zM} {D : va_G} {cy : Nat → ClassId} {ad0 K0 : Nat → Nat} {n0 : Nat} {r' : zS} (Z : RZAv M D cy ad0 n0 K0 r') (hC : M.2.2.2.1.cells = r'.2.1 ∧ M.2.2.2.1.slots = r'.2.2.1) (y0 : Nat) (x1 : Int32) (n c q : Nat) (K N : Nat → Nat) (G : zG) (V : zI) (L : zL) (ad : Nat → Nat) (ls : Array Slot) (X : RXA M D cy ad n c q K N G cX10_remember 4 RX10 2 81) (ha : ∀ w, w < n0 → ad w = ad0 w) (hn0 : n0 ≤ n) (hk0 : ∀ w, w < n0 → K w = K0 w) (hy0 : y0 < n ∧ K y0 = 8) (hl : lv_has ls 4 [(0, .ref (ad y0)), (1, .int x1), (2, .null)]) (hf : f_X10_remember_400061 y0 x1 n c q K N G V L = some r') : RG (zMb M c q) (zC D cy ad n K N G) V L 61 ls [] := by
  unfold f_X10_remember_400061 at hf
  refine c_aload_nN X.1 dX10_remember_61 rfl (lv_at hl 2 rfl) ?_
  refine c_ifnonnullN X.1 dX10_remember_62 ?_
  have hm := m_X10_remember_68 y0 n x1 (n + 1) (c + 1) (q + 12) (kU K n 5) N (kU G n zn0) (kU V n (fun _ => 0)) (kU L n (fun _ => 0)) hf
  refine a_new (ci := 5) X ci_X7 cg_X7.1 dv_X7 cn_X10_30 ⟨by rw [hC.1]; exact hm.1, by rw [hC.2]; exact hm.2⟩ dX10_remember_65 (fun ad' hag X => ?_)
  rw [← hag y0 hy0.1] at hl
  exact w_X10_remember_68 Z hC y0 n x1 (n + 1) (c + 1) (q + 12) (kU K n 5) N (kU G n zn0) (kU V n (fun _ => 0)) (kU L n (fun _ => 0)) ad' ls X (zag_up ha hn0 hag) (by omega) (zag_up hk0 hn0 (fun w h => kU_ne (by omega))) (zh_up hy0) zh_new (lv_sub hl [0, 1] rfl) hf

set_option maxHeartbeats 4000000 in
set_option maxRecDepth 100000 in
theorem w_X10_remember_35 {M : zM} {D : va_G} {cy : Nat → ClassId} {ad0 K0 : Nat → Nat} {n0 : Nat} {r' : zS} (Z : RZAv M D cy ad0 n0 K0 r') (hC : M.2.2.2.1.cells = r'.2.1 ∧ M.2.2.2.1.slots = r'.2.2.1) (nn : Nat) : ∀ (y0 : Nat) (y2 : Nat) (x1 : Int32) (x3 : Int32) (n c q : Nat) (K N : Nat → Nat) (G : zG) (V : zI) (L : zL) (ad : Nat → Nat) (ls : Array Slot) (X : RXA M D cy ad n c q K N G cX10_remember 4 RX10 2 81) (ha : ∀ w, w < n0 → ad w = ad0 w) (hn0 : n0 ≤ n) (hk0 : ∀ w, w < n0 → K w = K0 w) (hy0 : y0 < n ∧ K y0 = 8) (hy2 : y2 < n ∧ K y2 = 5) (hl : lv_has ls 4 [(0, .ref (ad y0)), (1, .int x1), (2, .ref (ad y2)), (3, .int x3)]) (hf : zfix (b_X10_remember_35) nn (y0, y2, x1, x3, n, c, q, K, N, G, V, L) = some r'), RG (zMb M c q) (zC D cy ad n K N G) V L 35 ls [] := by
  induction nn with
  | zero => intro y0 y2 x1 x3 n c q K N G V L ad ls X ha hn0 hk0 hy0 hy2 hl hf; cases hf
  | succ nn ih =>
  intro y0 y2 x1 x3 n c q K N G V L ad ls X ha hn0 hk0 hy0 hy2 hl hf
  have hk35 : ∀ (y0 : Nat) (y2 : Nat) (x1 : Int32) (x3 : Int32) (n c q : Nat) (K N : Nat → Nat) (G : zG) (V : zI) (L : zL) (ad : Nat → Nat) (ls : Array Slot) (X : RXA M D cy ad n c q K N G cX10_remember 4 RX10 2 81) (ha : ∀ w, w < n0 → ad w = ad0 w) (hn0 : n0 ≤ n) (hk0 : ∀ w, w < n0 → K w = K0 w) (hy0 : y0 < n ∧ K y0 = 8) (hy2 : y2 < n ∧ K y2 = 5) (hl : lv_has ls 4 [(0, .ref (ad y0)), (1, .int x1), (2, .ref (ad y2)), (3, .int x3)]) (hf : zfix (b_X10_remember_35) nn (y0, y2, x1, x3, n, c, q, K, N, G, V, L) = some r'), RG (zMb M c q) (zC D cy ad n K N G) V L 35 ls [] := ih
  have hm35 : ∀ (y0 : Nat) (y2 : Nat) (x1 : Int32) (x3 : Int32) (n c q : Nat) (K N : Nat → Nat) (G : zG) (V : zI) (L : zL) {r' : zS}, zfix (b_X10_remember_35) nn (y0, y2, x1, x3, n, c, q, K, N, G, V, L) = some r' → c ≤ r'.2.1 ∧ q ≤ r'.2.2.1 := m_X10_remember_35 nn
  have hf : b_X10_remember_35 (zfix (b_X10_remember_35) nn) (y0, y2, x1, x3, n, c, q, K, N, G, V, L) = some r' := hf
  generalize zfix (b_X10_remember_35) nn = k35 at hk35 hm35 hf
  clear ih
  unfold b_X10_remember_35 at hf
  refine z_iload_n X.1.1 dX10_remember_35 rfl (lv_at hl 3 rfl) ?_
  refine z_bipush (v := 20) X.1.1 dX10_remember_36 (by decide) ?_
  refine z_icmp_ge (tgt := 61) X.1.1 dX10_remember_38 (by decide) (fun c_ => ?_) (fun c_ => ?_)
  · have hf := (if_pos c_).symm.trans hf
    exact w_X10_remember_61 Z hC y0 y2 x1 n c q K N G V L ad ls X ha hn0 hk0 hy0 hy2 (lv_sub hl [0, 1, 2] rfl) hf
  · have hf := (if_neg c_).symm.trans hf
    refine z_aload_n X.1.1 dX10_remember_41 rfl (lv_at hl 0 rfl) ?_
    obtain ⟨v1, hG1, hf⟩ := z_bind hf
    have hv1 := X.1.2.2.get hy0 (k := 9) (c := 104) rfl hG1
    refine c_geta X.1 hy0 cf_X10_54 hG1 dX10_remember_42 ?_
    refine z_iload_n X.1.1 dX10_remember_45 rfl (lv_at hl 3 rfl) ?_
    refine z_iconst (v := 1) X.1.1 dX10_remember_46 (by decide) ?_
    refine z_isub X.1.1 dX10_remember_47 ?_
    refine z_aload_n X.1.1 dX10_remember_48 rfl (lv_at hl 0 rfl) ?_
    obtain ⟨v2, hG2, hf⟩ := z_bind hf
    have hv2 := X.1.2.2.get hy0 (k := 9) (c := 104) rfl hG2
    refine c_geta X.1 hy0 cf_X10_54 hG2 dX10_remember_49 ?_
    refine z_iload_n X.1.1 dX10_remember_52 rfl (lv_at hl 3 rfl) ?_
    obtain ⟨hb3, hf⟩ := z_ite hf
    rcases z_optE hf with ⟨hG4, hf⟩ | ⟨v4, hG4, hf⟩
    · refine a_aaldN X hv2 hb3 hG4 dX10_remember_53 ?_
      cases hf
    · have hv4 := X.1.2.2.get104 hv2 hG4
      refine a_aaldS X hv2 hb3 hG4 dX10_remember_53 ?_
      obtain ⟨hb5, hf⟩ := z_ite hf
      refine a_aast X hv1 hv4 hb5 dX10_remember_54 (fun X => ?_)
      refine z_iinc (v := x3 + 1) (k0 := 3) (lv' := [(3, .int (x3 + 1)), (0, .ref (ad y0)), (1, .int x1), (2, .ref (ad y2))]) X.1.1 dX10_remember_55 hl rfl rfl (by decide) rfl (fun ls hl => ?_)
      refine z_goto (tgt := 35) X.1.1 dX10_remember_58 (by decide) ?_
      exact hk35 y0 y2 x1 (x3 + 1) n c q K N (gS G v1 (x3 - 1).toNatClampNeg (some v4)) V L ad ls X ha hn0 hk0 hy0 hy2 (lv_sub hl [1, 2, 3, 0] rfl) hf

set_option maxHeartbeats 4000000 in
set_option maxRecDepth 100000 in
theorem w_X10_remember {M : zM} {D : va_G} {cy : Nat → ClassId} {ad0 K0 : Nat → Nat} {n0 : Nat} {r' : zS} (Z : RZAv M D cy ad0 n0 K0 r') (hC : M.2.2.2.1.cells = r'.2.1 ∧ M.2.2.2.1.slots = r'.2.2.1) (y0 : Nat) (n c q : Nat) (K N : Nat → Nat) (G : zG) (V : zI) (L : zL) (ad : Nat → Nat) (ls : Array Slot) (X : RXA M D cy ad n c q K N G cX10_remember 4 RX10 2 81) (ha : ∀ w, w < n0 → ad w = ad0 w) (hn0 : n0 ≤ n) (hk0 : ∀ w, w < n0 → K w = K0 w) (hy0 : y0 < n ∧ K y0 = 8) (hl : lv_has ls 4 [(0, .ref (ad y0))]) (hf : g_X10_remember y0 n c q K N G V L = some r') : RG (zMb M c q) (zC D cy ad n K N G) V L 0 ls [] := by
  unfold g_X10_remember at hf
  refine z_aload_n X.1.1 dX10_remember_0 rfl (lv_at hl 0 rfl) ?_
  refine c_geti X.1 hy0 cf_X10_58 dX10_remember_1 ?_
  refine z_bipush (v := 19) X.1.1 dX10_remember_4 (by decide) ?_
  refine c_min X.1 hl.1 cj_X10_202 ⟨by decide, Nat.le_of_ble_eq_true rfl⟩ dX10_remember_6 ?_
  refine z_istore_n (lv' := [(1, .int (if (19 : Int32) < (V y0 10) then 19 else (V y0 10))), (0, .ref (ad y0))]) X.1.1 dX10_remember_9 rfl hl (by decide) rfl (fun ls hl => ?_)
  refine z_aload_n X.1.1 dX10_remember_10 rfl (lv_at hl 1 rfl) ?_
  obtain ⟨v1, hG1, hf⟩ := z_bind hf
  have hv1 := X.1.2.2.get hy0 (k := 9) (c := 104) rfl hG1
  refine c_geta X.1 hy0 cf_X10_54 hG1 dX10_remember_11 ?_
  refine z_iload_n X.1.1 dX10_remember_14 rfl (lv_at hl 0 rfl) ?_
  obtain ⟨hb2, hf⟩ := z_ite hf
  rcases z_optE hf with ⟨hG3, hf⟩ | ⟨v3, hG3, hf⟩
  · refine a_aaldN X hv1 hb2 hG3 dX10_remember_15 ?_
    refine c_astore_nN (lv' := [(2, .null), (1, .int (if (19 : Int32) < (V y0 10) then 19 else (V y0 10))), (0, .ref (ad y0))]) X dX10_remember_16 rfl hl (by decide) rfl (fun ls hl => ?_)
    refine z_aload_n X.1.1 dX10_remember_17 rfl (lv_at hl 2 rfl) ?_
    refine c_geti X.1 hy0 cf_X10_58 dX10_remember_18 ?_
    refine z_bipush (v := 20) X.1.1 dX10_remember_21 (by decide) ?_
    refine z_icmp_ne (tgt := 61) X.1.1 dX10_remember_23 (by decide) (fun c_ => ?_) (fun c_ => ?_)
    · have hf := (if_neg c_).symm.trans hf
      exact w_X10_remember_400061 Z hC y0 (if (19 : Int32) < (V y0 10) then 19 else (V y0 10)) n c q K N G V L ad ls X ha hn0 hk0 hy0 (lv_sub hl [2, 1, 0] rfl) hf
    · have hf := (if_pos c_).symm.trans hf
      refine z_aload_n X.1.1 dX10_remember_26 rfl (lv_at hl 2 rfl) ?_
      obtain ⟨v4, hG4, hf⟩ := z_bind hf
      have hv4 := X.1.2.2.get hy0 (k := 9) (c := 104) rfl hG4
      refine c_geta X.1 hy0 cf_X10_54 hG4 dX10_remember_27 ?_
      refine z_iconst (v := 0) X.1.1 dX10_remember_30 (by decide) ?_
      obtain ⟨hb5, hf⟩ := z_ite hf
      rcases z_optE hf with ⟨hG6, hf⟩ | ⟨v6, hG6, hf⟩
      ·
        cases hf
      · have hv6 := X.1.2.2.get104 hv4 hG6
        refine a_aaldS X hv4 hb5 hG6 dX10_remember_31 ?_
        refine c_astore_n (lv' := [(2, .ref (ad v6)), (1, .int (if (19 : Int32) < (V y0 10) then 19 else (V y0 10))), (0, .ref (ad y0))]) X.1 dX10_remember_32 rfl hl (by decide) rfl (fun ls hl => ?_)
        refine z_iconst (v := 1) X.1.1 dX10_remember_33 (by decide) ?_
        refine z_istore_n (lv' := [(3, .int 1), (2, .ref (ad v6)), (1, .int (if (19 : Int32) < (V y0 10) then 19 else (V y0 10))), (0, .ref (ad y0))]) X.1.1 dX10_remember_34 rfl hl (by decide) rfl (fun ls hl => ?_)
        exact w_X10_remember_35 Z hC FU y0 v6 (if (19 : Int32) < (V y0 10) then 19 else (V y0 10)) 1 n c q K N G V L ad ls X ha hn0 hk0 hy0 hv6 (lv_sub hl [3, 2, 1, 0] rfl) hf
  · have hv3 := X.1.2.2.get104 hv1 hG3
    refine a_aaldS X hv1 hb2 hG3 dX10_remember_15 ?_
    refine c_astore_n (lv' := [(2, .ref (ad v3)), (1, .int (if (19 : Int32) < (V y0 10) then 19 else (V y0 10))), (0, .ref (ad y0))]) X.1 dX10_remember_16 rfl hl (by decide) rfl (fun ls hl => ?_)
    refine z_aload_n X.1.1 dX10_remember_17 rfl (lv_at hl 2 rfl) ?_
    refine c_geti X.1 hy0 cf_X10_58 dX10_remember_18 ?_
    refine z_bipush (v := 20) X.1.1 dX10_remember_21 (by decide) ?_
    refine z_icmp_ne (tgt := 61) X.1.1 dX10_remember_23 (by decide) (fun c_ => ?_) (fun c_ => ?_)
    · have hf := (if_neg c_).symm.trans hf
      exact w_X10_remember_61 Z hC y0 v3 (if (19 : Int32) < (V y0 10) then 19 else (V y0 10)) n c q K N G V L ad ls X ha hn0 hk0 hy0 hv3 (lv_sub hl [2, 1, 0] rfl) hf
    · have hf := (if_pos c_).symm.trans hf
      refine z_aload_n X.1.1 dX10_remember_26 rfl (lv_at hl 2 rfl) ?_
      obtain ⟨v7, hG7, hf⟩ := z_bind hf
      have hv7 := X.1.2.2.get hy0 (k := 9) (c := 104) rfl hG7
      refine c_geta X.1 hy0 cf_X10_54 hG7 dX10_remember_27 ?_
      refine z_iconst (v := 0) X.1.1 dX10_remember_30 (by decide) ?_
      obtain ⟨hb8, hf⟩ := z_ite hf
      rcases z_optE hf with ⟨hG9, hf⟩ | ⟨v9, hG9, hf⟩
      ·
        cases hf
      · have hv9 := X.1.2.2.get104 hv7 hG9
        refine a_aaldS X hv7 hb8 hG9 dX10_remember_31 ?_
        refine c_astore_n (lv' := [(2, .ref (ad v9)), (1, .int (if (19 : Int32) < (V y0 10) then 19 else (V y0 10))), (0, .ref (ad y0))]) X.1 dX10_remember_32 rfl hl (by decide) rfl (fun ls hl => ?_)
        refine z_iconst (v := 1) X.1.1 dX10_remember_33 (by decide) ?_
        refine z_istore_n (lv' := [(3, .int 1), (2, .ref (ad v9)), (1, .int (if (19 : Int32) < (V y0 10) then 19 else (V y0 10))), (0, .ref (ad y0))]) X.1.1 dX10_remember_34 rfl hl (by decide) rfl (fun ls hl => ?_)
        exact w_X10_remember_35 Z hC FU y0 v9 (if (19 : Int32) < (V y0 10) then 19 else (V y0 10)) 1 n c q K N G V L ad ls X ha hn0 hk0 hy0 hv9 (lv_sub hl [3, 2, 1, 0] rfl) hf

theorem c_X10_remember (D : va_G) (cy : Nat → ClassId) (ad : Nat → Nat) {n : Nat} {K N : Nat → Nat} {G : zG} (hWF : zWF n K G) {y0 : Nat} {V : zI} {L : zL} (hy0 : y0 < n ∧ K y0 = 8) {r' : zS} (hf : f_X10_remember y0 n K N G V L = some r') : RAv D cy ad n K N G yX10_remember cX10_remember 4 2 81 [.ref (ad y0)] V L r' :=
  RAv.of (by decide) hWF (Nat.le_of_ble_eq_true rfl) (fun M X Z hC hnm ls hl => w_X10_remember Z hC y0 n 0 0 K N G V L ad ls X (fun _ _ => rfl) (Nat.le_refl _) (fun _ _ => rfl) hy0 hl hf)
def f_X10_burn_24 (y0 : Nat) (n c q : Nat) (K N : Nat → Nat) (G : zG) (V : zI) (L : zL) : Option (Int32 × zS) :=
  (f_X10_refuse N G y0 3 V L).bind fun r1 => some (r1.1, n, c, q, K, N, G, r1.2.1, r1.2.2)
def f_X10_burn_34 (y0 : Nat) (x1 : Int32) (x2 : Int32) (n c q : Nat) (K N : Nat → Nat) (G : zG) (V : zI) (L : zL) : Option (Int32 × zS) :=
  (G y0 5).bind fun v1 => (f_X7_heldBy N G v1 x1 x2 V L).bind fun r2 => (G y0 5).bind fun v3 => (G v3 1).bind fun v4 => if inB ((x1 * 6) + x2) (N v4) then some (r2, n, c, q, K, N, G, z_uI V v4 ((x1 * 6) + x2).toNatClampNeg 0, L) else none
def g_X10_burn (y0 : Nat) (x1 : Int32) (x2 : Int32) (n c q : Nat) (K N : Nat → Nat) (G : zG) (V : zI) (L : zL) : Option (Int32 × zS) :=
  (G y0 2).bind fun v1 => (f_X9_isPair N G v1 x1 x2 V L).bind fun r2 => (if r2 = 0 then f_X10_burn_24 y0 n c q K N G V L else (G y0 5).bind fun v3 => (f_X7_heldBy N G v3 x1 x2 V L).bind fun r4 => (if r4 = 0 then f_X10_burn_24 y0 n c q K N G V L else (f_X10_remember y0 n K N G V L).bind fun r5 => f_X10_burn_34 y0 x1 x2 r5.1 (c + r5.2.1) (q + r5.2.2.1) r5.2.2.2.1 r5.2.2.2.2.1 r5.2.2.2.2.2.1 r5.2.2.2.2.2.2.1 r5.2.2.2.2.2.2.2))
def f_X10_burn (y0 : Nat) (x1 : Int32) (x2 : Int32) (n : Nat) (K N : Nat → Nat) (G : zG) (V : zI) (L : zL) : Option (Int32 × zS) := g_X10_burn y0 x1 x2 n 0 0 K N G V L
set_option maxHeartbeats 4000000 in
set_option maxRecDepth 100000 in
theorem m_X10_burn_24 (y0 : Nat) (n c q : Nat) (K N : Nat → Nat) (G : zG) (V : zI) (L : zL) {r' : Int32 × zS} (hf : f_X10_burn_24 y0 n c q K N G V L = some r') : c ≤ r'.2.2.1 ∧ q ≤ r'.2.2.2.1 := by
  unfold f_X10_burn_24 at hf
  obtain ⟨r1, hc1, hf⟩ := z_bind hf
  cases hf
  exact ⟨Nat.le_refl _, Nat.le_refl _⟩

set_option maxHeartbeats 4000000 in
set_option maxRecDepth 100000 in
theorem m_X10_burn_34 (y0 : Nat) (x1 : Int32) (x2 : Int32) (n c q : Nat) (K N : Nat → Nat) (G : zG) (V : zI) (L : zL) {r' : Int32 × zS} (hf : f_X10_burn_34 y0 x1 x2 n c q K N G V L = some r') : c ≤ r'.2.2.1 ∧ q ≤ r'.2.2.2.1 := by
  unfold f_X10_burn_34 at hf
  obtain ⟨v1, hG1, hf⟩ := z_bind hf
  obtain ⟨r2, hc2, hf⟩ := z_bind hf
  obtain ⟨v3, hG3, hf⟩ := z_bind hf
  obtain ⟨v4, hG4, hf⟩ := z_bind hf
  obtain ⟨hb5, hf⟩ := z_ite hf
  cases hf
  exact ⟨Nat.le_refl _, Nat.le_refl _⟩

set_option maxHeartbeats 4000000 in
set_option maxRecDepth 100000 in
theorem w_X10_burn_24 {M : zM} {D : va_G} {cy : Nat → ClassId} {ad0 K0 : Nat → Nat} {n0 : Nat} {r' : Int32 × zS} (Z : RZAi M D cy ad0 n0 K0 .int r'.1 r'.2) (hC : M.2.2.2.1.cells = r'.2.2.1 ∧ M.2.2.2.1.slots = r'.2.2.2.1) (y0 : Nat) (n c q : Nat) (K N : Nat → Nat) (G : zG) (V : zI) (L : zL) (ad : Nat → Nat) (ls : Array Slot) (X : RXA M D cy ad n c q K N G cX10_burn 4 RX10 3 104) (ha : ∀ w, w < n0 → ad w = ad0 w) (hn0 : n0 ≤ n) (hk0 : ∀ w, w < n0 → K w = K0 w) (hy0 : y0 < n ∧ K y0 = 8) (hl : lv_has ls 4 [(0, .ref (ad y0))]) (hf : f_X10_burn_24 y0 n c q K N G V L = some r') : RG (zMb M c q) (zC D cy ad n K N G) V L 24 ls [] := by
  unfold f_X10_burn_24 at hf
  refine z_aload_n X.1.1 dX10_burn_24 rfl (lv_at hl 0 rfl) ?_
  refine z_iconst (v := 3) X.1.1 dX10_burn_25 (by decide) ?_
  obtain ⟨r1, hc1, hf⟩ := z_bind hf
  refine c_callVi [.int 3] X.1 hl.1 (c_X10_refuse D cy ad X.1.2.2 hy0 hc1) hy0 ⟨by decide, rfl⟩ cm_X10_80 cw_X10_refuse rfl cq_X10_refuse ⟨by decide, by decide⟩ (Nat.le_of_ble_eq_true rfl) rfl dX10_burn_26 ?_
  exact a_iret X Z ha hn0 hk0 hf rfl dX10_burn_29

set_option maxHeartbeats 4000000 in
set_option maxRecDepth 100000 in
theorem w_X10_burn_34 {M : zM} {D : va_G} {cy : Nat → ClassId} {ad0 K0 : Nat → Nat} {n0 : Nat} {r' : Int32 × zS} (Z : RZAi M D cy ad0 n0 K0 .int r'.1 r'.2) (hC : M.2.2.2.1.cells = r'.2.2.1 ∧ M.2.2.2.1.slots = r'.2.2.2.1) (y0 : Nat) (x1 : Int32) (x2 : Int32) (n c q : Nat) (K N : Nat → Nat) (G : zG) (V : zI) (L : zL) (ad : Nat → Nat) (ls : Array Slot) (X : RXA M D cy ad n c q K N G cX10_burn 4 RX10 3 104) (ha : ∀ w, w < n0 → ad w = ad0 w) (hn0 : n0 ≤ n) (hk0 : ∀ w, w < n0 → K w = K0 w) (hy0 : y0 < n ∧ K y0 = 8) (hl : lv_has ls 4 [(0, .ref (ad y0)), (1, .int x1), (2, .int x2)]) (hf : f_X10_burn_34 y0 x1 x2 n c q K N G V L = some r') : RG (zMb M c q) (zC D cy ad n K N G) V L 34 ls [] := by
  unfold f_X10_burn_34 at hf
  refine z_aload_n X.1.1 dX10_burn_34 rfl (lv_at hl 0 rfl) ?_
  obtain ⟨v1, hG1, hf⟩ := z_bind hf
  have hv1 := X.1.2.2.get hy0 (k := 5) (c := 5) rfl hG1
  refine c_geta X.1 hy0 cf_X10_33 hG1 dX10_burn_35 ?_
  refine z_iload_n X.1.1 dX10_burn_38 rfl (lv_at hl 1 rfl) ?_
  refine z_iload_n X.1.1 dX10_burn_39 rfl (lv_at hl 2 rfl) ?_
  obtain ⟨r2, hc2, hf⟩ := z_bind hf
  refine c_callVi [.int x1, .int x2] X.1 hl.1 (c_X7_heldBy D cy ad X.1.2.2 hv1 hc2) hv1 ⟨by decide, rfl⟩ cm_X10_257 cw_X7_heldBy rfl cq_X7_heldBy ⟨by decide, by decide⟩ (Nat.le_of_ble_eq_true rfl) rfl dX10_burn_40 ?_
  refine z_istore_n (lv' := [(3, .int r2), (0, .ref (ad y0)), (1, .int x1), (2, .int x2)]) X.1.1 dX10_burn_43 rfl hl (by decide) rfl (fun ls hl => ?_)
  refine z_aload_n X.1.1 dX10_burn_44 rfl (lv_at hl 1 rfl) ?_
  obtain ⟨v3, hG3, hf⟩ := z_bind hf
  have hv3 := X.1.2.2.get hy0 (k := 5) (c := 5) rfl hG3
  refine c_geta X.1 hy0 cf_X10_33 hG3 dX10_burn_45 ?_
  obtain ⟨v4, hG4, hf⟩ := z_bind hf
  have hv4 := X.1.2.2.get hv3 (k := 1) (c := 100) rfl hG4
  refine c_geta X.1 hv3 cf_X10_127 hG4 dX10_burn_48 ?_
  refine z_iload_n X.1.1 dX10_burn_51 rfl (lv_at hl 2 rfl) ?_
  refine z_bipush (v := 6) X.1.1 dX10_burn_52 (by decide) ?_
  refine z_imul X.1.1 dX10_burn_54 ?_
  refine z_iload_n X.1.1 dX10_burn_55 rfl (lv_at hl 3 rfl) ?_
  refine z_iadd X.1.1 dX10_burn_56 ?_
  refine z_iconst (v := 0) X.1.1 dX10_burn_57 (by decide) ?_
  obtain ⟨hb5, hf⟩ := z_ite hf
  refine c_iast X.1 hv4 hb5 dX10_burn_58 ?_
  refine z_iload_n X.1.1 dX10_burn_59 rfl (lv_at hl 0 rfl) ?_
  exact a_iret X Z ha hn0 hk0 hf rfl dX10_burn_60

set_option maxHeartbeats 4000000 in
set_option maxRecDepth 100000 in
theorem w_X10_burn {M : zM} {D : va_G} {cy : Nat → ClassId} {ad0 K0 : Nat → Nat} {n0 : Nat} {r' : Int32 × zS} (Z : RZAi M D cy ad0 n0 K0 .int r'.1 r'.2) (hC : M.2.2.2.1.cells = r'.2.2.1 ∧ M.2.2.2.1.slots = r'.2.2.2.1) (y0 : Nat) (x1 : Int32) (x2 : Int32) (n c q : Nat) (K N : Nat → Nat) (G : zG) (V : zI) (L : zL) (ad : Nat → Nat) (ls : Array Slot) (X : RXA M D cy ad n c q K N G cX10_burn 4 RX10 3 104) (ha : ∀ w, w < n0 → ad w = ad0 w) (hn0 : n0 ≤ n) (hk0 : ∀ w, w < n0 → K w = K0 w) (hy0 : y0 < n ∧ K y0 = 8) (hl : lv_has ls 4 [(0, .ref (ad y0)), (1, .int x1), (2, .int x2)]) (hf : g_X10_burn y0 x1 x2 n c q K N G V L = some r') : RG (zMb M c q) (zC D cy ad n K N G) V L 0 ls [] := by
  unfold g_X10_burn at hf
  refine z_aload_n X.1.1 dX10_burn_0 rfl (lv_at hl 0 rfl) ?_
  obtain ⟨v1, hG1, hf⟩ := z_bind hf
  have hv1 := X.1.2.2.get hy0 (k := 2) (c := 7) rfl hG1
  refine c_geta X.1 hy0 cf_X10_20 hG1 dX10_burn_1 ?_
  refine z_iload_n X.1.1 dX10_burn_4 rfl (lv_at hl 1 rfl) ?_
  refine z_iload_n X.1.1 dX10_burn_5 rfl (lv_at hl 2 rfl) ?_
  obtain ⟨r2, hc2, hf⟩ := z_bind hf
  refine c_callVi [.int x1, .int x2] X.1 hl.1 (c_X9_isPair D cy ad X.1.2.2 hv1 hc2) hv1 ⟨by decide, rfl⟩ cm_X10_162 cw_X9_isPair rfl cq_X9_isPair ⟨by decide, by decide⟩ (Nat.le_of_ble_eq_true rfl) rfl dX10_burn_6 ?_
  refine z_if_eq (tgt := 24) X.1.1 dX10_burn_9 (by decide) (fun c_ => ?_) (fun c_ => ?_)
  · have hf := (if_pos c_).symm.trans hf
    exact w_X10_burn_24 Z hC y0 n c q K N G V L ad ls X ha hn0 hk0 hy0 (lv_sub hl [0] rfl) hf
  · have hf := (if_neg c_).symm.trans hf
    refine z_aload_n X.1.1 dX10_burn_12 rfl (lv_at hl 0 rfl) ?_
    obtain ⟨v3, hG3, hf⟩ := z_bind hf
    have hv3 := X.1.2.2.get hy0 (k := 5) (c := 5) rfl hG3
    refine c_geta X.1 hy0 cf_X10_33 hG3 dX10_burn_13 ?_
    refine z_iload_n X.1.1 dX10_burn_16 rfl (lv_at hl 1 rfl) ?_
    refine z_iload_n X.1.1 dX10_burn_17 rfl (lv_at hl 2 rfl) ?_
    obtain ⟨r4, hc4, hf⟩ := z_bind hf
    refine c_callVi [.int x1, .int x2] X.1 hl.1 (c_X7_heldBy D cy ad X.1.2.2 hv3 hc4) hv3 ⟨by decide, rfl⟩ cm_X10_257 cw_X7_heldBy rfl cq_X7_heldBy ⟨by decide, by decide⟩ (Nat.le_of_ble_eq_true rfl) rfl dX10_burn_18 ?_
    refine z_if_ne (tgt := 30) X.1.1 dX10_burn_21 (by decide) (fun c_ => ?_) (fun c_ => ?_)
    · have hf := (if_neg c_).symm.trans hf
      refine z_aload_n X.1.1 dX10_burn_30 rfl (lv_at hl 0 rfl) ?_
      obtain ⟨r5, hc5, hf⟩ := z_bind hf
      have hm := m_X10_burn_34 y0 x1 x2 r5.1 (c + r5.2.1) (q + r5.2.2.1) r5.2.2.2.1 r5.2.2.2.2.1 r5.2.2.2.2.2.1 r5.2.2.2.2.2.2.1 r5.2.2.2.2.2.2.2 hf
      refine a_callVv [] X hl.1 (c_X10_remember D cy ad X.1.2.2 hy0 hc5) hy0 ⟨by decide, rfl⟩ cm_X10_266 cw_X10_remember rfl cq_X10_remember ⟨by decide, by decide⟩ (Nat.le_of_ble_eq_true rfl) rfl ⟨by rw [hC.1]; exact hm.1, by rw [hC.2]; exact hm.2⟩ dX10_burn_31 (fun ad' hag hnn hKg X => ?_)
      rw [← hag y0 hy0.1] at hl
      exact w_X10_burn_34 Z hC y0 x1 x2 r5.1 (c + r5.2.1) (q + r5.2.2.1) r5.2.2.2.1 r5.2.2.2.2.1 r5.2.2.2.2.2.1 r5.2.2.2.2.2.2.1 r5.2.2.2.2.2.2.2 ad' ls X (zag_up ha hn0 hag) (by omega) (zag_up hk0 hn0 hKg) (zh_ext hy0 hnn hKg) (lv_sub hl [0, 1, 2] rfl) hf
    · have hf := (if_pos c_).symm.trans hf
      exact w_X10_burn_24 Z hC y0 n c q K N G V L ad ls X ha hn0 hk0 hy0 (lv_sub hl [0] rfl) hf

theorem c_X10_burn (D : va_G) (cy : Nat → ClassId) (ad : Nat → Nat) {n : Nat} {K N : Nat → Nat} {G : zG} (hWF : zWF n K G) {y0 : Nat} {x1 : Int32} {x2 : Int32} {V : zI} {L : zL} (hy0 : y0 < n ∧ K y0 = 8) {r' : Int32 × zS} (hf : f_X10_burn y0 x1 x2 n K N G V L = some r') : RAi D cy ad n K N G yX10_burn cX10_burn 4 .int 3 104 [.ref (ad y0), .int x1, .int x2] V L r'.1 r'.2 :=
  RAi.of (by decide) hWF (Nat.le_of_ble_eq_true rfl) (fun M X Z hC hnm ls hl => w_X10_burn Z hC y0 x1 x2 n 0 0 K N G V L ad ls X (fun _ _ => rfl) (Nat.le_refl _) (fun _ _ => rfl) hy0 hl hf)
def f_X10_find_26 (y0 : Nat) (n c q : Nat) (K N : Nat → Nat) (G : zG) (V : zI) (L : zL) : Option (Int32 × zS) :=
  (f_X10_refuse N G y0 3 V L).bind fun r1 => some (0, n, c, q, K, N, G, r1.2.1, r1.2.2)
def f_X10_find_38 (y0 : Nat) (x1 : Int32) (x2 : Int32) (n c q : Nat) (K N : Nat → Nat) (G : zG) (V : zI) (L : zL) : Option (Int32 × zS) :=
  (G y0 5).bind fun v1 => (G v1 1).bind fun v2 => if inB ((x1 * 6) + x2) (N v2) then if inB ((x1 * 6) + x2) (N v2) then some (1, n, c, q, K, N, G, z_uI V v2 ((x1 * 6) + x2).toNatClampNeg ((V v2 ((x1 * 6) + x2).toNatClampNeg) + 1), L) else none else none
def g_X10_find (y0 : Nat) (x1 : Int32) (x2 : Int32) (n c q : Nat) (K N : Nat → Nat) (G : zG) (V : zI) (L : zL) : Option (Int32 × zS) :=
  (G y0 2).bind fun v1 => (f_X9_isPair N G v1 x1 x2 V L).bind fun r2 => (if r2 = 0 then f_X10_find_26 y0 n c q K N G V L else (G y0 5).bind fun v3 => (f_X7_heldBy N G v3 x1 x2 V L).bind fun r4 => (if r4 < 99 then (f_X10_remember y0 n K N G V L).bind fun r5 => f_X10_find_38 y0 x1 x2 r5.1 (c + r5.2.1) (q + r5.2.2.1) r5.2.2.2.1 r5.2.2.2.2.1 r5.2.2.2.2.2.1 r5.2.2.2.2.2.2.1 r5.2.2.2.2.2.2.2 else f_X10_find_26 y0 n c q K N G V L))
def f_X10_find (y0 : Nat) (x1 : Int32) (x2 : Int32) (n : Nat) (K N : Nat → Nat) (G : zG) (V : zI) (L : zL) : Option (Int32 × zS) := g_X10_find y0 x1 x2 n 0 0 K N G V L
set_option maxHeartbeats 4000000 in
set_option maxRecDepth 100000 in
theorem m_X10_find_26 (y0 : Nat) (n c q : Nat) (K N : Nat → Nat) (G : zG) (V : zI) (L : zL) {r' : Int32 × zS} (hf : f_X10_find_26 y0 n c q K N G V L = some r') : c ≤ r'.2.2.1 ∧ q ≤ r'.2.2.2.1 := by
  unfold f_X10_find_26 at hf
  obtain ⟨r1, hc1, hf⟩ := z_bind hf
  cases hf
  exact ⟨Nat.le_refl _, Nat.le_refl _⟩

set_option maxHeartbeats 4000000 in
set_option maxRecDepth 100000 in
theorem m_X10_find_38 (y0 : Nat) (x1 : Int32) (x2 : Int32) (n c q : Nat) (K N : Nat → Nat) (G : zG) (V : zI) (L : zL) {r' : Int32 × zS} (hf : f_X10_find_38 y0 x1 x2 n c q K N G V L = some r') : c ≤ r'.2.2.1 ∧ q ≤ r'.2.2.2.1 := by
  unfold f_X10_find_38 at hf
  obtain ⟨v1, hG1, hf⟩ := z_bind hf
  obtain ⟨v2, hG2, hf⟩ := z_bind hf
  obtain ⟨hb3, hf⟩ := z_ite hf
  obtain ⟨hb4, hf⟩ := z_ite hf
  cases hf
  exact ⟨Nat.le_refl _, Nat.le_refl _⟩

set_option maxHeartbeats 4000000 in
set_option maxRecDepth 100000 in
theorem w_X10_find_26 {M : zM} {D : va_G} {cy : Nat → ClassId} {ad0 K0 : Nat → Nat} {n0 : Nat} {r' : Int32 × zS} (Z : RZAi M D cy ad0 n0 K0 .boolean r'.1 r'.2) (hC : M.2.2.2.1.cells = r'.2.2.1 ∧ M.2.2.2.1.slots = r'.2.2.2.1) (y0 : Nat) (n c q : Nat) (K N : Nat → Nat) (G : zG) (V : zI) (L : zL) (ad : Nat → Nat) (ls : Array Slot) (X : RXA M D cy ad n c q K N G cX10_find 3 RX10 3 104) (ha : ∀ w, w < n0 → ad w = ad0 w) (hn0 : n0 ≤ n) (hk0 : ∀ w, w < n0 → K w = K0 w) (hy0 : y0 < n ∧ K y0 = 8) (hl : lv_has ls 3 [(0, .ref (ad y0))]) (hf : f_X10_find_26 y0 n c q K N G V L = some r') : RG (zMb M c q) (zC D cy ad n K N G) V L 26 ls [] := by
  unfold f_X10_find_26 at hf
  refine z_aload_n X.1.1 dX10_find_26 rfl (lv_at hl 0 rfl) ?_
  refine z_iconst (v := 3) X.1.1 dX10_find_27 (by decide) ?_
  obtain ⟨r1, hc1, hf⟩ := z_bind hf
  refine c_callVi [.int 3] X.1 hl.1 (c_X10_refuse D cy ad X.1.2.2 hy0 hc1) hy0 ⟨by decide, rfl⟩ cm_X10_80 cw_X10_refuse rfl cq_X10_refuse ⟨by decide, by decide⟩ (Nat.le_of_ble_eq_true rfl) rfl dX10_find_28 ?_
  refine z_pop X.1.1 dX10_find_31 rfl ?_
  refine z_iconst (v := 0) X.1.1 dX10_find_32 (by decide) ?_
  exact a_iret X Z ha hn0 hk0 hf (by decide) dX10_find_33

set_option maxHeartbeats 4000000 in
set_option maxRecDepth 100000 in
theorem w_X10_find_38 {M : zM} {D : va_G} {cy : Nat → ClassId} {ad0 K0 : Nat → Nat} {n0 : Nat} {r' : Int32 × zS} (Z : RZAi M D cy ad0 n0 K0 .boolean r'.1 r'.2) (hC : M.2.2.2.1.cells = r'.2.2.1 ∧ M.2.2.2.1.slots = r'.2.2.2.1) (y0 : Nat) (x1 : Int32) (x2 : Int32) (n c q : Nat) (K N : Nat → Nat) (G : zG) (V : zI) (L : zL) (ad : Nat → Nat) (ls : Array Slot) (X : RXA M D cy ad n c q K N G cX10_find 3 RX10 3 104) (ha : ∀ w, w < n0 → ad w = ad0 w) (hn0 : n0 ≤ n) (hk0 : ∀ w, w < n0 → K w = K0 w) (hy0 : y0 < n ∧ K y0 = 8) (hl : lv_has ls 3 [(0, .ref (ad y0)), (1, .int x1), (2, .int x2)]) (hf : f_X10_find_38 y0 x1 x2 n c q K N G V L = some r') : RG (zMb M c q) (zC D cy ad n K N G) V L 38 ls [] := by
  unfold f_X10_find_38 at hf
  refine z_aload_n X.1.1 dX10_find_38 rfl (lv_at hl 0 rfl) ?_
  obtain ⟨v1, hG1, hf⟩ := z_bind hf
  have hv1 := X.1.2.2.get hy0 (k := 5) (c := 5) rfl hG1
  refine c_geta X.1 hy0 cf_X10_33 hG1 dX10_find_39 ?_
  obtain ⟨v2, hG2, hf⟩ := z_bind hf
  have hv2 := X.1.2.2.get hv1 (k := 1) (c := 100) rfl hG2
  refine c_geta X.1 hv1 cf_X10_127 hG2 dX10_find_42 ?_
  refine z_iload_n X.1.1 dX10_find_45 rfl (lv_at hl 1 rfl) ?_
  refine z_bipush (v := 6) X.1.1 dX10_find_46 (by decide) ?_
  refine z_imul X.1.1 dX10_find_48 ?_
  refine z_iload_n X.1.1 dX10_find_49 rfl (lv_at hl 2 rfl) ?_
  refine z_iadd X.1.1 dX10_find_50 ?_
  refine z_dup2 X.1.1 dX10_find_51 rfl rfl ?_
  obtain ⟨hb3, hf⟩ := z_ite hf
  refine c_iald X.1 hv2 hb3 dX10_find_52 ?_
  refine z_iconst (v := 1) X.1.1 dX10_find_53 (by decide) ?_
  refine z_iadd X.1.1 dX10_find_54 ?_
  obtain ⟨hb4, hf⟩ := z_ite hf
  refine c_iast X.1 hv2 hb4 dX10_find_55 ?_
  refine z_iconst (v := 1) X.1.1 dX10_find_56 (by decide) ?_
  exact a_iret X Z ha hn0 hk0 hf (by decide) dX10_find_57

set_option maxHeartbeats 4000000 in
set_option maxRecDepth 100000 in
theorem w_X10_find {M : zM} {D : va_G} {cy : Nat → ClassId} {ad0 K0 : Nat → Nat} {n0 : Nat} {r' : Int32 × zS} (Z : RZAi M D cy ad0 n0 K0 .boolean r'.1 r'.2) (hC : M.2.2.2.1.cells = r'.2.2.1 ∧ M.2.2.2.1.slots = r'.2.2.2.1) (y0 : Nat) (x1 : Int32) (x2 : Int32) (n c q : Nat) (K N : Nat → Nat) (G : zG) (V : zI) (L : zL) (ad : Nat → Nat) (ls : Array Slot) (X : RXA M D cy ad n c q K N G cX10_find 3 RX10 3 104) (ha : ∀ w, w < n0 → ad w = ad0 w) (hn0 : n0 ≤ n) (hk0 : ∀ w, w < n0 → K w = K0 w) (hy0 : y0 < n ∧ K y0 = 8) (hl : lv_has ls 3 [(0, .ref (ad y0)), (1, .int x1), (2, .int x2)]) (hf : g_X10_find y0 x1 x2 n c q K N G V L = some r') : RG (zMb M c q) (zC D cy ad n K N G) V L 0 ls [] := by
  unfold g_X10_find at hf
  refine z_aload_n X.1.1 dX10_find_0 rfl (lv_at hl 0 rfl) ?_
  obtain ⟨v1, hG1, hf⟩ := z_bind hf
  have hv1 := X.1.2.2.get hy0 (k := 2) (c := 7) rfl hG1
  refine c_geta X.1 hy0 cf_X10_20 hG1 dX10_find_1 ?_
  refine z_iload_n X.1.1 dX10_find_4 rfl (lv_at hl 1 rfl) ?_
  refine z_iload_n X.1.1 dX10_find_5 rfl (lv_at hl 2 rfl) ?_
  obtain ⟨r2, hc2, hf⟩ := z_bind hf
  refine c_callVi [.int x1, .int x2] X.1 hl.1 (c_X9_isPair D cy ad X.1.2.2 hv1 hc2) hv1 ⟨by decide, rfl⟩ cm_X10_162 cw_X9_isPair rfl cq_X9_isPair ⟨by decide, by decide⟩ (Nat.le_of_ble_eq_true rfl) rfl dX10_find_6 ?_
  refine z_if_eq (tgt := 26) X.1.1 dX10_find_9 (by decide) (fun c_ => ?_) (fun c_ => ?_)
  · have hf := (if_pos c_).symm.trans hf
    exact w_X10_find_26 Z hC y0 n c q K N G V L ad ls X ha hn0 hk0 hy0 (lv_sub hl [0] rfl) hf
  · have hf := (if_neg c_).symm.trans hf
    refine z_aload_n X.1.1 dX10_find_12 rfl (lv_at hl 0 rfl) ?_
    obtain ⟨v3, hG3, hf⟩ := z_bind hf
    have hv3 := X.1.2.2.get hy0 (k := 5) (c := 5) rfl hG3
    refine c_geta X.1 hy0 cf_X10_33 hG3 dX10_find_13 ?_
    refine z_iload_n X.1.1 dX10_find_16 rfl (lv_at hl 1 rfl) ?_
    refine z_iload_n X.1.1 dX10_find_17 rfl (lv_at hl 2 rfl) ?_
    obtain ⟨r4, hc4, hf⟩ := z_bind hf
    refine c_callVi [.int x1, .int x2] X.1 hl.1 (c_X7_heldBy D cy ad X.1.2.2 hv3 hc4) hv3 ⟨by decide, rfl⟩ cm_X10_257 cw_X7_heldBy rfl cq_X7_heldBy ⟨by decide, by decide⟩ (Nat.le_of_ble_eq_true rfl) rfl dX10_find_18 ?_
    refine z_bipush (v := 99) X.1.1 dX10_find_21 (by decide) ?_
    refine z_icmp_lt (tgt := 34) X.1.1 dX10_find_23 (by decide) (fun c_ => ?_) (fun c_ => ?_)
    · have hf := (if_pos c_).symm.trans hf
      refine z_aload_n X.1.1 dX10_find_34 rfl (lv_at hl 0 rfl) ?_
      obtain ⟨r5, hc5, hf⟩ := z_bind hf
      have hm := m_X10_find_38 y0 x1 x2 r5.1 (c + r5.2.1) (q + r5.2.2.1) r5.2.2.2.1 r5.2.2.2.2.1 r5.2.2.2.2.2.1 r5.2.2.2.2.2.2.1 r5.2.2.2.2.2.2.2 hf
      refine a_callVv [] X hl.1 (c_X10_remember D cy ad X.1.2.2 hy0 hc5) hy0 ⟨by decide, rfl⟩ cm_X10_266 cw_X10_remember rfl cq_X10_remember ⟨by decide, by decide⟩ (Nat.le_of_ble_eq_true rfl) rfl ⟨by rw [hC.1]; exact hm.1, by rw [hC.2]; exact hm.2⟩ dX10_find_35 (fun ad' hag hnn hKg X => ?_)
      rw [← hag y0 hy0.1] at hl
      exact w_X10_find_38 Z hC y0 x1 x2 r5.1 (c + r5.2.1) (q + r5.2.2.1) r5.2.2.2.1 r5.2.2.2.2.1 r5.2.2.2.2.2.1 r5.2.2.2.2.2.2.1 r5.2.2.2.2.2.2.2 ad' ls X (zag_up ha hn0 hag) (by omega) (zag_up hk0 hn0 hKg) (zh_ext hy0 hnn hKg) (lv_sub hl [0, 1, 2] rfl) hf
    · have hf := (if_neg c_).symm.trans hf
      exact w_X10_find_26 Z hC y0 n c q K N G V L ad ls X ha hn0 hk0 hy0 (lv_sub hl [0] rfl) hf

theorem c_X10_find (D : va_G) (cy : Nat → ClassId) (ad : Nat → Nat) {n : Nat} {K N : Nat → Nat} {G : zG} (hWF : zWF n K G) {y0 : Nat} {x1 : Int32} {x2 : Int32} {V : zI} {L : zL} (hy0 : y0 < n ∧ K y0 = 8) {r' : Int32 × zS} (hf : f_X10_find y0 x1 x2 n K N G V L = some r') : RAi D cy ad n K N G yX10_find cX10_find 3 .boolean 3 104 [.ref (ad y0), .int x1, .int x2] V L r'.1 r'.2 :=
  RAi.of (by decide) hWF (Nat.le_of_ble_eq_true rfl) (fun M X Z hC hnm ls hl => w_X10_find Z hC y0 x1 x2 n 0 0 K N G V L ad ls X (fun _ _ => rfl) (Nat.le_refl _) (fun _ _ => rfl) hy0 hl hf)
