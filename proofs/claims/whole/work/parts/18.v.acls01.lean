def f_X10_wide_7 (y0 : Nat) (t0 : Nat) (x1 : Int32) (n c q : Nat) (K N : Nat → Nat) (G : zG) (V : zI) (L : zL) : Option (Int32 × zS) :=
  (G y0 2).bind fun v1 => (G y0 2).bind fun v2 => (G y0 5).bind fun v3 => (f_X6_open N G v2 v3 V L).bind fun r4 => (f_X2_seekWide N G t0 v1 r4 V L).bind fun r5 => (f_X2_tell N G t0 x1 r5.1 r5.2).bind fun r6 => some (r6, n, c, q, K, N, G, r5.1, r5.2)
def f_X10_wide_3 (y0 : Nat) (t0 : Nat) (x1 : Int32) (n c q : Nat) (K N : Nat → Nat) (G : zG) (V : zI) (L : zL) : Option (Int32 × zS) :=
  (f_X2_init t0 n K N G V L).bind fun r1 => f_X10_wide_7 y0 t0 x1 r1.1 (c + r1.2.1) (q + r1.2.2.1) r1.2.2.2.1 r1.2.2.2.2.1 r1.2.2.2.2.2.1 r1.2.2.2.2.2.2.1 r1.2.2.2.2.2.2.2
def g_X10_wide (y0 : Nat) (x1 : Int32) (n c q : Nat) (K N : Nat → Nat) (G : zG) (V : zI) (L : zL) : Option (Int32 × zS) :=
  f_X10_wide_3 y0 n x1 (n + 1) (c + 1) (q + 8) (kU K n 2) N (kU G n zn0) (kU V n (fun _ => 0)) (kU L n (fun _ => 0))
def f_X10_wide (y0 : Nat) (x1 : Int32) (n : Nat) (K N : Nat → Nat) (G : zG) (V : zI) (L : zL) : Option (Int32 × zS) := g_X10_wide y0 x1 n 0 0 K N G V L
set_option maxHeartbeats 4000000 in
set_option maxRecDepth 100000 in
theorem m_X10_wide_7 (y0 : Nat) (t0 : Nat) (x1 : Int32) (n c q : Nat) (K N : Nat → Nat) (G : zG) (V : zI) (L : zL) {r' : Int32 × zS} (hf : f_X10_wide_7 y0 t0 x1 n c q K N G V L = some r') : c ≤ r'.2.2.1 ∧ q ≤ r'.2.2.2.1 := by
  unfold f_X10_wide_7 at hf
  obtain ⟨v1, hG1, hf⟩ := z_bind hf
  obtain ⟨v2, hG2, hf⟩ := z_bind hf
  obtain ⟨v3, hG3, hf⟩ := z_bind hf
  obtain ⟨r4, hc4, hf⟩ := z_bind hf
  obtain ⟨r5, hc5, hf⟩ := z_bind hf
  obtain ⟨r6, hc6, hf⟩ := z_bind hf
  cases hf
  exact ⟨Nat.le_refl _, Nat.le_refl _⟩

set_option maxHeartbeats 4000000 in
set_option maxRecDepth 100000 in
theorem m_X10_wide_3 (y0 : Nat) (t0 : Nat) (x1 : Int32) (n c q : Nat) (K N : Nat → Nat) (G : zG) (V : zI) (L : zL) {r' : Int32 × zS} (hf : f_X10_wide_3 y0 t0 x1 n c q K N G V L = some r') : c ≤ r'.2.2.1 ∧ q ≤ r'.2.2.2.1 := by
  unfold f_X10_wide_3 at hf
  obtain ⟨r1, hc1, hf⟩ := z_bind hf
  have hm := m_X10_wide_7 y0 t0 x1 r1.1 (c + r1.2.1) (q + r1.2.2.1) r1.2.2.2.1 r1.2.2.2.2.1 r1.2.2.2.2.2.1 r1.2.2.2.2.2.2.1 r1.2.2.2.2.2.2.2 hf
  exact ⟨by omega, by omega⟩

set_option maxHeartbeats 4000000 in
set_option maxRecDepth 100000 in
theorem w_X10_wide_7 {M : zM} {D : va_G} {cy : Nat → ClassId} {ad0 K0 : Nat → Nat} {n0 : Nat} {r' : Int32 × zS} (Z : RZAi M D cy ad0 n0 K0 .int r'.1 r'.2) (hC : M.2.2.2.1.cells = r'.2.2.1 ∧ M.2.2.2.1.slots = r'.2.2.2.1) (y0 : Nat) (t0 : Nat) (x1 : Int32) (n c q : Nat) (K N : Nat → Nat) (G : zG) (V : zI) (L : zL) (ad : Nat → Nat) (ls : Array Slot) (X : RXA M D cy ad n c q K N G cX10_wide 3 RX10 15 375) (ha : ∀ w, w < n0 → ad w = ad0 w) (hn0 : n0 ≤ n) (hk0 : ∀ w, w < n0 → K w = K0 w) (hy0 : y0 < n ∧ K y0 = 8) (ht0 : t0 < n ∧ K t0 = 2) (hl : lv_has ls 3 [(0, .ref (ad y0)), (1, .int x1)]) (hf : f_X10_wide_7 y0 t0 x1 n c q K N G V L = some r') : RG (zMb M c q) (zC D cy ad n K N G) V L 7 ls [.ref (ad t0)] := by
  unfold f_X10_wide_7 at hf
  refine c_astore_n (lv' := [(2, .ref (ad t0)), (0, .ref (ad y0)), (1, .int x1)]) X.1 dX10_wide_7 rfl hl (by decide) rfl (fun ls hl => ?_)
  refine z_aload_n X.1.1 dX10_wide_8 rfl (lv_at hl 0 rfl) ?_
  refine z_aload_n X.1.1 dX10_wide_9 rfl (lv_at hl 1 rfl) ?_
  obtain ⟨v1, hG1, hf⟩ := z_bind hf
  have hv1 := X.1.2.2.get hy0 (k := 2) (c := 7) rfl hG1
  refine c_geta X.1 hy0 cf_X10_20 hG1 dX10_wide_10 ?_
  refine z_aload_n X.1.1 dX10_wide_13 rfl (lv_at hl 1 rfl) ?_
  obtain ⟨v2, hG2, hf⟩ := z_bind hf
  have hv2 := X.1.2.2.get hy0 (k := 2) (c := 7) rfl hG2
  refine c_geta X.1 hy0 cf_X10_20 hG2 dX10_wide_14 ?_
  refine z_aload_n X.1.1 dX10_wide_17 rfl (lv_at hl 1 rfl) ?_
  obtain ⟨v3, hG3, hf⟩ := z_bind hf
  have hv3 := X.1.2.2.get hy0 (k := 5) (c := 5) rfl hG3
  refine c_geta X.1 hy0 cf_X10_33 hG3 dX10_wide_18 ?_
  obtain ⟨r4, hc4, hf⟩ := z_bind hf
  refine c_callSl [.ref (ad v2), .ref (ad v3)] X.1 hl.1 (c_X6_open D cy ad X.1.2.2 hv2 hv3 hc4) cm_X10_207 cw_X6_open rfl cq_X6_open ⟨by decide, by decide⟩ (Nat.le_of_ble_eq_true rfl) rfl dX10_wide_21 ?_
  obtain ⟨r5, hc5, hf⟩ := z_bind hf
  refine c_callVv [.ref (ad v1), .long r4] X.1 hl.1 (c_X2_seekWide D cy ad X.1.2.2 ht0 hv1 hc5) ht0 ⟨by decide, rfl⟩ cm_X10_220 cw_X2_seekWide rfl cq_X2_seekWide ⟨by decide, by decide⟩ (Nat.le_of_ble_eq_true rfl) rfl dX10_wide_24 ?_
  refine z_aload_n X.1.1 dX10_wide_27 rfl (lv_at hl 0 rfl) ?_
  refine z_iload_n X.1.1 dX10_wide_28 rfl (lv_at hl 2 rfl) ?_
  obtain ⟨r6, hc6, hf⟩ := z_bind hf
  refine c_callVi [.int x1] X.1 hl.1 (c_X2_tell D cy ad X.1.2.2 ht0 hc6) ht0 ⟨by decide, rfl⟩ cm_X10_224 cw_X2_tell rfl cq_X2_tell ⟨by decide, by decide⟩ (Nat.le_of_ble_eq_true rfl) rfl dX10_wide_29 ?_
  exact a_iret X Z ha hn0 hk0 hf rfl dX10_wide_32

set_option maxHeartbeats 4000000 in
set_option maxRecDepth 100000 in
theorem w_X10_wide_3 {M : zM} {D : va_G} {cy : Nat → ClassId} {ad0 K0 : Nat → Nat} {n0 : Nat} {r' : Int32 × zS} (Z : RZAi M D cy ad0 n0 K0 .int r'.1 r'.2) (hC : M.2.2.2.1.cells = r'.2.2.1 ∧ M.2.2.2.1.slots = r'.2.2.2.1) (y0 : Nat) (t0 : Nat) (x1 : Int32) (n c q : Nat) (K N : Nat → Nat) (G : zG) (V : zI) (L : zL) (ad : Nat → Nat) (ls : Array Slot) (X : RXA M D cy ad n c q K N G cX10_wide 3 RX10 15 375) (ha : ∀ w, w < n0 → ad w = ad0 w) (hn0 : n0 ≤ n) (hk0 : ∀ w, w < n0 → K w = K0 w) (hy0 : y0 < n ∧ K y0 = 8) (ht0 : t0 < n ∧ K t0 = 2) (hl : lv_has ls 3 [(0, .ref (ad y0)), (1, .int x1)]) (hf : f_X10_wide_3 y0 t0 x1 n c q K N G V L = some r') : RG (zMb M c q) (zC D cy ad n K N G) V L 3 ls [.ref (ad t0)] := by
  unfold f_X10_wide_3 at hf
  refine z_dup X.1.1 dX10_wide_3 rfl ?_
  obtain ⟨r1, hc1, hf⟩ := z_bind hf
  have hm := m_X10_wide_7 y0 t0 x1 r1.1 (c + r1.2.1) (q + r1.2.2.1) r1.2.2.2.1 r1.2.2.2.2.1 r1.2.2.2.2.2.1 r1.2.2.2.2.2.2.1 r1.2.2.2.2.2.2.2 hf
  refine a_callIv [] X hl.1 (c_X2_init D cy ad X.1.2.2 ht0 hc1) ht0 ⟨by decide, rfl⟩ cm_X10_219 cx_X2_init rfl cq_X2_init ⟨by decide, by decide⟩ (Nat.le_of_ble_eq_true rfl) rfl ⟨by rw [hC.1]; exact hm.1, by rw [hC.2]; exact hm.2⟩ dX10_wide_4 (fun ad' hag hnn hKg X => ?_)
  rw [← hag y0 hy0.1] at hl
  rw [← hag t0 ht0.1]
  exact w_X10_wide_7 Z hC y0 t0 x1 r1.1 (c + r1.2.1) (q + r1.2.2.1) r1.2.2.2.1 r1.2.2.2.2.1 r1.2.2.2.2.2.1 r1.2.2.2.2.2.2.1 r1.2.2.2.2.2.2.2 ad' ls X (zag_up ha hn0 hag) (by omega) (zag_up hk0 hn0 hKg) (zh_ext hy0 hnn hKg) (zh_ext ht0 hnn hKg) (lv_sub hl [0, 1] rfl) hf

set_option maxHeartbeats 4000000 in
set_option maxRecDepth 100000 in
theorem w_X10_wide {M : zM} {D : va_G} {cy : Nat → ClassId} {ad0 K0 : Nat → Nat} {n0 : Nat} {r' : Int32 × zS} (Z : RZAi M D cy ad0 n0 K0 .int r'.1 r'.2) (hC : M.2.2.2.1.cells = r'.2.2.1 ∧ M.2.2.2.1.slots = r'.2.2.2.1) (y0 : Nat) (x1 : Int32) (n c q : Nat) (K N : Nat → Nat) (G : zG) (V : zI) (L : zL) (ad : Nat → Nat) (ls : Array Slot) (X : RXA M D cy ad n c q K N G cX10_wide 3 RX10 15 375) (ha : ∀ w, w < n0 → ad w = ad0 w) (hn0 : n0 ≤ n) (hk0 : ∀ w, w < n0 → K w = K0 w) (hy0 : y0 < n ∧ K y0 = 8) (hl : lv_has ls 3 [(0, .ref (ad y0)), (1, .int x1)]) (hf : g_X10_wide y0 x1 n c q K N G V L = some r') : RG (zMb M c q) (zC D cy ad n K N G) V L 0 ls [] := by
  unfold g_X10_wide at hf
  have hm := m_X10_wide_3 y0 n x1 (n + 1) (c + 1) (q + 8) (kU K n 2) N (kU G n zn0) (kU V n (fun _ => 0)) (kU L n (fun _ => 0)) hf
  refine a_new (ci := 2) X ci_X2 cg_X2.1 dv_X2 cn_X10_217 ⟨by rw [hC.1]; exact hm.1, by rw [hC.2]; exact hm.2⟩ dX10_wide_0 (fun ad' hag X => ?_)
  rw [← hag y0 hy0.1] at hl
  exact w_X10_wide_3 Z hC y0 n x1 (n + 1) (c + 1) (q + 8) (kU K n 2) N (kU G n zn0) (kU V n (fun _ => 0)) (kU L n (fun _ => 0)) ad' ls X (zag_up ha hn0 hag) (by omega) (zag_up hk0 hn0 (fun w h => kU_ne (by omega))) (zh_up hy0) zh_new (lv_sub hl [0, 1] rfl) hf

theorem c_X10_wide (D : va_G) (cy : Nat → ClassId) (ad : Nat → Nat) {n : Nat} {K N : Nat → Nat} {G : zG} (hWF : zWF n K G) {y0 : Nat} {x1 : Int32} {V : zI} {L : zL} (hy0 : y0 < n ∧ K y0 = 8) {r' : Int32 × zS} (hf : f_X10_wide y0 x1 n K N G V L = some r') : RAi D cy ad n K N G yX10_wide cX10_wide 3 .int 15 375 [.ref (ad y0), .int x1] V L r'.1 r'.2 :=
  RAi.of (by decide) hWF (Nat.le_of_ble_eq_true rfl) (fun M X Z hC hnm ls hl => w_X10_wide Z hC y0 x1 n 0 0 K N G V L ad ls X (fun _ _ => rfl) (Nat.le_refl _) (fun _ _ => rfl) hy0 hl hf)
def f_X10_cut_21 (y0 : Nat) (t0 : Nat) (x1 : Int32) (x2 : Int32) (x3 : Int32) (n c q : Nat) (K N : Nat → Nat) (G : zG) (V : zI) (L : zL) : Option (Int32 × zS) :=
  (G y0 2).bind fun v1 => (G y0 5).bind fun v2 => (f_X6_open N G v1 v2 V L).bind fun r3 => (f_X2_seekCut N G t0 x1 x2 r3 V L).bind fun r4 => (f_X2_tell N G t0 x3 r4.1 r4.2).bind fun r5 => some (r5, n, c, q, K, N, G, r4.1, r4.2)
def f_X10_cut_17 (y0 : Nat) (t0 : Nat) (x1 : Int32) (x2 : Int32) (x3 : Int32) (n c q : Nat) (K N : Nat → Nat) (G : zG) (V : zI) (L : zL) : Option (Int32 × zS) :=
  (f_X2_init t0 n K N G V L).bind fun r1 => f_X10_cut_21 y0 t0 x1 x2 x3 r1.1 (c + r1.2.1) (q + r1.2.2.1) r1.2.2.2.1 r1.2.2.2.2.1 r1.2.2.2.2.2.1 r1.2.2.2.2.2.2.1 r1.2.2.2.2.2.2.2
def g_X10_cut (y0 : Nat) (x1 : Int32) (x2 : Int32) (x3 : Int32) (n c q : Nat) (K N : Nat → Nat) (G : zG) (V : zI) (L : zL) : Option (Int32 × zS) :=
  (G y0 2).bind fun v1 => (f_X9_isPair N G v1 x1 x2 V L).bind fun r2 => (if r2 = 0 then some ((-1), n, c, q, K, N, G, V, L) else f_X10_cut_17 y0 n x1 x2 x3 (n + 1) (c + 1) (q + 8) (kU K n 2) N (kU G n zn0) (kU V n (fun _ => 0)) (kU L n (fun _ => 0)))
def f_X10_cut (y0 : Nat) (x1 : Int32) (x2 : Int32) (x3 : Int32) (n : Nat) (K N : Nat → Nat) (G : zG) (V : zI) (L : zL) : Option (Int32 × zS) := g_X10_cut y0 x1 x2 x3 n 0 0 K N G V L
set_option maxHeartbeats 4000000 in
set_option maxRecDepth 100000 in
theorem m_X10_cut_21 (y0 : Nat) (t0 : Nat) (x1 : Int32) (x2 : Int32) (x3 : Int32) (n c q : Nat) (K N : Nat → Nat) (G : zG) (V : zI) (L : zL) {r' : Int32 × zS} (hf : f_X10_cut_21 y0 t0 x1 x2 x3 n c q K N G V L = some r') : c ≤ r'.2.2.1 ∧ q ≤ r'.2.2.2.1 := by
  unfold f_X10_cut_21 at hf
  obtain ⟨v1, hG1, hf⟩ := z_bind hf
  obtain ⟨v2, hG2, hf⟩ := z_bind hf
  obtain ⟨r3, hc3, hf⟩ := z_bind hf
  obtain ⟨r4, hc4, hf⟩ := z_bind hf
  obtain ⟨r5, hc5, hf⟩ := z_bind hf
  cases hf
  exact ⟨Nat.le_refl _, Nat.le_refl _⟩

set_option maxHeartbeats 4000000 in
set_option maxRecDepth 100000 in
theorem m_X10_cut_17 (y0 : Nat) (t0 : Nat) (x1 : Int32) (x2 : Int32) (x3 : Int32) (n c q : Nat) (K N : Nat → Nat) (G : zG) (V : zI) (L : zL) {r' : Int32 × zS} (hf : f_X10_cut_17 y0 t0 x1 x2 x3 n c q K N G V L = some r') : c ≤ r'.2.2.1 ∧ q ≤ r'.2.2.2.1 := by
  unfold f_X10_cut_17 at hf
  obtain ⟨r1, hc1, hf⟩ := z_bind hf
  have hm := m_X10_cut_21 y0 t0 x1 x2 x3 r1.1 (c + r1.2.1) (q + r1.2.2.1) r1.2.2.2.1 r1.2.2.2.2.1 r1.2.2.2.2.2.1 r1.2.2.2.2.2.2.1 r1.2.2.2.2.2.2.2 hf
  exact ⟨by omega, by omega⟩

set_option maxHeartbeats 4000000 in
set_option maxRecDepth 100000 in
theorem w_X10_cut_21 {M : zM} {D : va_G} {cy : Nat → ClassId} {ad0 K0 : Nat → Nat} {n0 : Nat} {r' : Int32 × zS} (Z : RZAi M D cy ad0 n0 K0 .int r'.1 r'.2) (hC : M.2.2.2.1.cells = r'.2.2.1 ∧ M.2.2.2.1.slots = r'.2.2.2.1) (y0 : Nat) (t0 : Nat) (x1 : Int32) (x2 : Int32) (x3 : Int32) (n c q : Nat) (K N : Nat → Nat) (G : zG) (V : zI) (L : zL) (ad : Nat → Nat) (ls : Array Slot) (X : RXA M D cy ad n c q K N G cX10_cut 5 RX10 15 376) (ha : ∀ w, w < n0 → ad w = ad0 w) (hn0 : n0 ≤ n) (hk0 : ∀ w, w < n0 → K w = K0 w) (hy0 : y0 < n ∧ K y0 = 8) (ht0 : t0 < n ∧ K t0 = 2) (hl : lv_has ls 5 [(0, .ref (ad y0)), (1, .int x1), (2, .int x2), (3, .int x3)]) (hf : f_X10_cut_21 y0 t0 x1 x2 x3 n c q K N G V L = some r') : RG (zMb M c q) (zC D cy ad n K N G) V L 21 ls [.ref (ad t0)] := by
  unfold f_X10_cut_21 at hf
  refine c_astore (lv' := [(4, .ref (ad t0)), (0, .ref (ad y0)), (1, .int x1), (2, .int x2), (3, .int x3)]) X.1 dX10_cut_21 hl (by decide) rfl (fun ls hl => ?_)
  refine z_aload X.1.1 dX10_cut_23 (lv_at hl 0 rfl) ?_
  refine z_iload_n X.1.1 dX10_cut_25 rfl (lv_at hl 2 rfl) ?_
  refine z_iload_n X.1.1 dX10_cut_26 rfl (lv_at hl 3 rfl) ?_
  refine z_aload_n X.1.1 dX10_cut_27 rfl (lv_at hl 1 rfl) ?_
  obtain ⟨v1, hG1, hf⟩ := z_bind hf
  have hv1 := X.1.2.2.get hy0 (k := 2) (c := 7) rfl hG1
  refine c_geta X.1 hy0 cf_X10_20 hG1 dX10_cut_28 ?_
  refine z_aload_n X.1.1 dX10_cut_31 rfl (lv_at hl 1 rfl) ?_
  obtain ⟨v2, hG2, hf⟩ := z_bind hf
  have hv2 := X.1.2.2.get hy0 (k := 5) (c := 5) rfl hG2
  refine c_geta X.1 hy0 cf_X10_33 hG2 dX10_cut_32 ?_
  obtain ⟨r3, hc3, hf⟩ := z_bind hf
  refine c_callSl [.ref (ad v1), .ref (ad v2)] X.1 hl.1 (c_X6_open D cy ad X.1.2.2 hv1 hv2 hc3) cm_X10_207 cw_X6_open rfl cq_X6_open ⟨by decide, by decide⟩ (Nat.le_of_ble_eq_true rfl) rfl dX10_cut_35 ?_
  obtain ⟨r4, hc4, hf⟩ := z_bind hf
  refine c_callVv [.int x1, .int x2, .long r3] X.1 hl.1 (c_X2_seekCut D cy ad X.1.2.2 ht0 hc4) ht0 ⟨by decide, rfl⟩ cm_X10_227 cw_X2_seekCut rfl cq_X2_seekCut ⟨by decide, by decide⟩ (Nat.le_of_ble_eq_true rfl) rfl dX10_cut_38 ?_
  refine z_aload X.1.1 dX10_cut_41 (lv_at hl 0 rfl) ?_
  refine z_iload_n X.1.1 dX10_cut_43 rfl (lv_at hl 4 rfl) ?_
  obtain ⟨r5, hc5, hf⟩ := z_bind hf
  refine c_callVi [.int x3] X.1 hl.1 (c_X2_tell D cy ad X.1.2.2 ht0 hc5) ht0 ⟨by decide, rfl⟩ cm_X10_224 cw_X2_tell rfl cq_X2_tell ⟨by decide, by decide⟩ (Nat.le_of_ble_eq_true rfl) rfl dX10_cut_44 ?_
  exact a_iret X Z ha hn0 hk0 hf rfl dX10_cut_47

set_option maxHeartbeats 4000000 in
set_option maxRecDepth 100000 in
theorem w_X10_cut_17 {M : zM} {D : va_G} {cy : Nat → ClassId} {ad0 K0 : Nat → Nat} {n0 : Nat} {r' : Int32 × zS} (Z : RZAi M D cy ad0 n0 K0 .int r'.1 r'.2) (hC : M.2.2.2.1.cells = r'.2.2.1 ∧ M.2.2.2.1.slots = r'.2.2.2.1) (y0 : Nat) (t0 : Nat) (x1 : Int32) (x2 : Int32) (x3 : Int32) (n c q : Nat) (K N : Nat → Nat) (G : zG) (V : zI) (L : zL) (ad : Nat → Nat) (ls : Array Slot) (X : RXA M D cy ad n c q K N G cX10_cut 5 RX10 15 376) (ha : ∀ w, w < n0 → ad w = ad0 w) (hn0 : n0 ≤ n) (hk0 : ∀ w, w < n0 → K w = K0 w) (hy0 : y0 < n ∧ K y0 = 8) (ht0 : t0 < n ∧ K t0 = 2) (hl : lv_has ls 5 [(0, .ref (ad y0)), (1, .int x1), (2, .int x2), (3, .int x3)]) (hf : f_X10_cut_17 y0 t0 x1 x2 x3 n c q K N G V L = some r') : RG (zMb M c q) (zC D cy ad n K N G) V L 17 ls [.ref (ad t0)] := by
  unfold f_X10_cut_17 at hf
  refine z_dup X.1.1 dX10_cut_17 rfl ?_
  obtain ⟨r1, hc1, hf⟩ := z_bind hf
  have hm := m_X10_cut_21 y0 t0 x1 x2 x3 r1.1 (c + r1.2.1) (q + r1.2.2.1) r1.2.2.2.1 r1.2.2.2.2.1 r1.2.2.2.2.2.1 r1.2.2.2.2.2.2.1 r1.2.2.2.2.2.2.2 hf
  refine a_callIv [] X hl.1 (c_X2_init D cy ad X.1.2.2 ht0 hc1) ht0 ⟨by decide, rfl⟩ cm_X10_219 cx_X2_init rfl cq_X2_init ⟨by decide, by decide⟩ (Nat.le_of_ble_eq_true rfl) rfl ⟨by rw [hC.1]; exact hm.1, by rw [hC.2]; exact hm.2⟩ dX10_cut_18 (fun ad' hag hnn hKg X => ?_)
  rw [← hag y0 hy0.1] at hl
  rw [← hag t0 ht0.1]
  exact w_X10_cut_21 Z hC y0 t0 x1 x2 x3 r1.1 (c + r1.2.1) (q + r1.2.2.1) r1.2.2.2.1 r1.2.2.2.2.1 r1.2.2.2.2.2.1 r1.2.2.2.2.2.2.1 r1.2.2.2.2.2.2.2 ad' ls X (zag_up ha hn0 hag) (by omega) (zag_up hk0 hn0 hKg) (zh_ext hy0 hnn hKg) (zh_ext ht0 hnn hKg) (lv_sub hl [0, 1, 2, 3] rfl) hf

set_option maxHeartbeats 4000000 in
set_option maxRecDepth 100000 in
theorem w_X10_cut {M : zM} {D : va_G} {cy : Nat → ClassId} {ad0 K0 : Nat → Nat} {n0 : Nat} {r' : Int32 × zS} (Z : RZAi M D cy ad0 n0 K0 .int r'.1 r'.2) (hC : M.2.2.2.1.cells = r'.2.2.1 ∧ M.2.2.2.1.slots = r'.2.2.2.1) (y0 : Nat) (x1 : Int32) (x2 : Int32) (x3 : Int32) (n c q : Nat) (K N : Nat → Nat) (G : zG) (V : zI) (L : zL) (ad : Nat → Nat) (ls : Array Slot) (X : RXA M D cy ad n c q K N G cX10_cut 5 RX10 15 376) (ha : ∀ w, w < n0 → ad w = ad0 w) (hn0 : n0 ≤ n) (hk0 : ∀ w, w < n0 → K w = K0 w) (hy0 : y0 < n ∧ K y0 = 8) (hl : lv_has ls 5 [(0, .ref (ad y0)), (1, .int x1), (2, .int x2), (3, .int x3)]) (hf : g_X10_cut y0 x1 x2 x3 n c q K N G V L = some r') : RG (zMb M c q) (zC D cy ad n K N G) V L 0 ls [] := by
  unfold g_X10_cut at hf
  refine z_aload_n X.1.1 dX10_cut_0 rfl (lv_at hl 0 rfl) ?_
  obtain ⟨v1, hG1, hf⟩ := z_bind hf
  have hv1 := X.1.2.2.get hy0 (k := 2) (c := 7) rfl hG1
  refine c_geta X.1 hy0 cf_X10_20 hG1 dX10_cut_1 ?_
  refine z_iload_n X.1.1 dX10_cut_4 rfl (lv_at hl 1 rfl) ?_
  refine z_iload_n X.1.1 dX10_cut_5 rfl (lv_at hl 2 rfl) ?_
  obtain ⟨r2, hc2, hf⟩ := z_bind hf
  refine c_callVi [.int x1, .int x2] X.1 hl.1 (c_X9_isPair D cy ad X.1.2.2 hv1 hc2) hv1 ⟨by decide, rfl⟩ cm_X10_162 cw_X9_isPair rfl cq_X9_isPair ⟨by decide, by decide⟩ (Nat.le_of_ble_eq_true rfl) rfl dX10_cut_6 ?_
  refine z_if_ne (tgt := 14) X.1.1 dX10_cut_9 (by decide) (fun c_ => ?_) (fun c_ => ?_)
  · have hf := (if_neg c_).symm.trans hf
    have hm := m_X10_cut_17 y0 n x1 x2 x3 (n + 1) (c + 1) (q + 8) (kU K n 2) N (kU G n zn0) (kU V n (fun _ => 0)) (kU L n (fun _ => 0)) hf
    refine a_new (ci := 2) X ci_X2 cg_X2.1 dv_X2 cn_X10_217 ⟨by rw [hC.1]; exact hm.1, by rw [hC.2]; exact hm.2⟩ dX10_cut_14 (fun ad' hag X => ?_)
    rw [← hag y0 hy0.1] at hl
    exact w_X10_cut_17 Z hC y0 n x1 x2 x3 (n + 1) (c + 1) (q + 8) (kU K n 2) N (kU G n zn0) (kU V n (fun _ => 0)) (kU L n (fun _ => 0)) ad' ls X (zag_up ha hn0 hag) (by omega) (zag_up hk0 hn0 (fun w h => kU_ne (by omega))) (zh_up hy0) zh_new (lv_sub hl [0, 1, 2, 3] rfl) hf
  · have hf := (if_pos c_).symm.trans hf
    refine z_iconst (v := -1) X.1.1 dX10_cut_12 (by decide) ?_
    exact a_iret X Z ha hn0 hk0 hf rfl dX10_cut_13

theorem c_X10_cut (D : va_G) (cy : Nat → ClassId) (ad : Nat → Nat) {n : Nat} {K N : Nat → Nat} {G : zG} (hWF : zWF n K G) {y0 : Nat} {x1 : Int32} {x2 : Int32} {x3 : Int32} {V : zI} {L : zL} (hy0 : y0 < n ∧ K y0 = 8) {r' : Int32 × zS} (hf : f_X10_cut y0 x1 x2 x3 n K N G V L = some r') : RAi D cy ad n K N G yX10_cut cX10_cut 5 .int 15 376 [.ref (ad y0), .int x1, .int x2, .int x3] V L r'.1 r'.2 :=
  RAi.of (by decide) hWF (Nat.le_of_ble_eq_true rfl) (fun M X Z hC hnm ls hl => w_X10_cut Z hC y0 x1 x2 x3 n 0 0 K N G V L ad ls X (fun _ _ => rfl) (Nat.le_refl _) (fun _ _ => rfl) hy0 hl hf)
def f_X10_swap_18 (y0 : Nat) (t0 : Nat) (x1 : Int32) (n c q : Nat) (K N : Nat → Nat) (G : zG) (V : zI) (L : zL) : Option (Int32 × zS) :=
  (G y0 2).bind fun v1 => (G y0 5).bind fun v2 => (G y0 7).bind fun v3 => (f_X0_weigh N G t0 v1 v2 v3 V L).bind fun r4 => (G y0 2).bind fun v5 => (f_X0_seekBest N G t0 (r4.1 v5 0) r4.1 r4.2).bind fun r6 => (G t0 4).bind fun v7 => if inB (4 : Int32) (N v7) then (if (r6.1 v7 (4 : Int32).toNatClampNeg) ≤ 0 then some ((-1), n, c, q, K, N, G, r6.1, r6.2) else (G t0 4).bind fun v9 => if inB x1 (N v9) then some (r6.1 v9 x1.toNatClampNeg, n, c, q, K, N, G, r6.1, r6.2) else none) else none
def f_X10_swap_14 (y0 : Nat) (t0 : Nat) (x1 : Int32) (n c q : Nat) (K N : Nat → Nat) (G : zG) (V : zI) (L : zL) : Option (Int32 × zS) :=
  (f_X0_init t0 n K N G V L).bind fun r1 => f_X10_swap_18 y0 t0 x1 r1.1 (c + r1.2.1) (q + r1.2.2.1) r1.2.2.2.1 r1.2.2.2.2.1 r1.2.2.2.2.2.1 r1.2.2.2.2.2.2.1 r1.2.2.2.2.2.2.2
def g_X10_swap (y0 : Nat) (x1 : Int32) (n c q : Nat) (K N : Nat → Nat) (G : zG) (V : zI) (L : zL) : Option (Int32 × zS) :=
  (if x1 < 0 then some ((-1), n, c, q, K, N, G, V, L) else (if x1 < 5 then f_X10_swap_14 y0 n x1 (n + 1) (c + 1) (q + 6) (kU K n 0) N (kU G n zn0) (kU V n (fun _ => 0)) (kU L n (fun _ => 0)) else some ((-1), n, c, q, K, N, G, V, L)))
def f_X10_swap (y0 : Nat) (x1 : Int32) (n : Nat) (K N : Nat → Nat) (G : zG) (V : zI) (L : zL) : Option (Int32 × zS) := g_X10_swap y0 x1 n 0 0 K N G V L
set_option maxHeartbeats 4000000 in
set_option maxRecDepth 100000 in
theorem m_X10_swap_18 (y0 : Nat) (t0 : Nat) (x1 : Int32) (n c q : Nat) (K N : Nat → Nat) (G : zG) (V : zI) (L : zL) {r' : Int32 × zS} (hf : f_X10_swap_18 y0 t0 x1 n c q K N G V L = some r') : c ≤ r'.2.2.1 ∧ q ≤ r'.2.2.2.1 := by
  unfold f_X10_swap_18 at hf
  obtain ⟨v1, hG1, hf⟩ := z_bind hf
  obtain ⟨v2, hG2, hf⟩ := z_bind hf
  obtain ⟨v3, hG3, hf⟩ := z_bind hf
  obtain ⟨r4, hc4, hf⟩ := z_bind hf
  obtain ⟨v5, hG5, hf⟩ := z_bind hf
  obtain ⟨r6, hc6, hf⟩ := z_bind hf
  obtain ⟨v7, hG7, hf⟩ := z_bind hf
  obtain ⟨hb8, hf⟩ := z_ite hf
  rcases z_iteE hf with hf | hf
  ·
    cases hf
    exact ⟨Nat.le_refl _, Nat.le_refl _⟩
  ·
    obtain ⟨v9, hG9, hf⟩ := z_bind hf
    obtain ⟨hb10, hf⟩ := z_ite hf
    cases hf
    exact ⟨Nat.le_refl _, Nat.le_refl _⟩

set_option maxHeartbeats 4000000 in
set_option maxRecDepth 100000 in
theorem m_X10_swap_14 (y0 : Nat) (t0 : Nat) (x1 : Int32) (n c q : Nat) (K N : Nat → Nat) (G : zG) (V : zI) (L : zL) {r' : Int32 × zS} (hf : f_X10_swap_14 y0 t0 x1 n c q K N G V L = some r') : c ≤ r'.2.2.1 ∧ q ≤ r'.2.2.2.1 := by
  unfold f_X10_swap_14 at hf
  obtain ⟨r1, hc1, hf⟩ := z_bind hf
  have hm := m_X10_swap_18 y0 t0 x1 r1.1 (c + r1.2.1) (q + r1.2.2.1) r1.2.2.2.1 r1.2.2.2.2.1 r1.2.2.2.2.2.1 r1.2.2.2.2.2.2.1 r1.2.2.2.2.2.2.2 hf
  exact ⟨by omega, by omega⟩

set_option maxHeartbeats 4000000 in
set_option maxRecDepth 100000 in
theorem w_X10_swap_18 {M : zM} {D : va_G} {cy : Nat → ClassId} {ad0 K0 : Nat → Nat} {n0 : Nat} {r' : Int32 × zS} (Z : RZAi M D cy ad0 n0 K0 .int r'.1 r'.2) (hC : M.2.2.2.1.cells = r'.2.2.1 ∧ M.2.2.2.1.slots = r'.2.2.2.1) (y0 : Nat) (t0 : Nat) (x1 : Int32) (n c q : Nat) (K N : Nat → Nat) (G : zG) (V : zI) (L : zL) (ad : Nat → Nat) (ls : Array Slot) (X : RXA M D cy ad n c q K N G cX10_swap 3 RX10 6 148) (ha : ∀ w, w < n0 → ad w = ad0 w) (hn0 : n0 ≤ n) (hk0 : ∀ w, w < n0 → K w = K0 w) (hy0 : y0 < n ∧ K y0 = 8) (ht0 : t0 < n ∧ K t0 = 0) (hl : lv_has ls 3 [(0, .ref (ad y0)), (1, .int x1)]) (hf : f_X10_swap_18 y0 t0 x1 n c q K N G V L = some r') : RG (zMb M c q) (zC D cy ad n K N G) V L 18 ls [.ref (ad t0)] := by
  unfold f_X10_swap_18 at hf
  refine c_astore_n (lv' := [(2, .ref (ad t0)), (0, .ref (ad y0)), (1, .int x1)]) X.1 dX10_swap_18 rfl hl (by decide) rfl (fun ls hl => ?_)
  refine z_aload_n X.1.1 dX10_swap_19 rfl (lv_at hl 0 rfl) ?_
  refine z_aload_n X.1.1 dX10_swap_20 rfl (lv_at hl 1 rfl) ?_
  obtain ⟨v1, hG1, hf⟩ := z_bind hf
  have hv1 := X.1.2.2.get hy0 (k := 2) (c := 7) rfl hG1
  refine c_geta X.1 hy0 cf_X10_20 hG1 dX10_swap_21 ?_
  refine z_aload_n X.1.1 dX10_swap_24 rfl (lv_at hl 1 rfl) ?_
  obtain ⟨v2, hG2, hf⟩ := z_bind hf
  have hv2 := X.1.2.2.get hy0 (k := 5) (c := 5) rfl hG2
  refine c_geta X.1 hy0 cf_X10_33 hG2 dX10_swap_25 ?_
  refine z_aload_n X.1.1 dX10_swap_28 rfl (lv_at hl 1 rfl) ?_
  obtain ⟨v3, hG3, hf⟩ := z_bind hf
  have hv3 := X.1.2.2.get hy0 (k := 7) (c := 3) rfl hG3
  refine c_geta X.1 hy0 cf_X10_43 hG3 dX10_swap_29 ?_
  obtain ⟨r4, hc4, hf⟩ := z_bind hf
  refine c_callVv [.ref (ad v1), .ref (ad v2), .ref (ad v3)] X.1 hl.1 (c_X0_weigh D cy ad X.1.2.2 ht0 hv1 hv2 hv3 hc4) ht0 ⟨by decide, rfl⟩ cm_X10_238 cw_X0_weigh rfl cq_X0_weigh ⟨by decide, by decide⟩ (Nat.le_of_ble_eq_true rfl) rfl dX10_swap_32 ?_
  refine z_aload_n X.1.1 dX10_swap_35 rfl (lv_at hl 0 rfl) ?_
  refine z_aload_n X.1.1 dX10_swap_36 rfl (lv_at hl 1 rfl) ?_
  obtain ⟨v5, hG5, hf⟩ := z_bind hf
  have hv5 := X.1.2.2.get hy0 (k := 2) (c := 7) rfl hG5
  refine c_geta X.1 hy0 cf_X10_20 hG5 dX10_swap_37 ?_
  refine c_geti X.1 hv5 cf_X10_118 dX10_swap_40 ?_
  obtain ⟨r6, hc6, hf⟩ := z_bind hf
  refine c_callVv [.int (r4.1 v5 0)] X.1 hl.1 (c_X0_seekBest D cy ad X.1.2.2 ht0 hc6) ht0 ⟨by decide, rfl⟩ cm_X10_242 cw_X0_seekBest rfl cq_X0_seekBest ⟨by decide, by decide⟩ (Nat.le_of_ble_eq_true rfl) rfl dX10_swap_43 ?_
  refine z_aload_n X.1.1 dX10_swap_46 rfl (lv_at hl 0 rfl) ?_
  obtain ⟨v7, hG7, hf⟩ := z_bind hf
  have hv7 := X.1.2.2.get ht0 (k := 4) (c := 100) rfl hG7
  refine c_geta X.1 ht0 cf_X10_245 hG7 dX10_swap_47 ?_
  refine z_iconst (v := 4) X.1.1 dX10_swap_50 (by decide) ?_
  obtain ⟨hb8, hf⟩ := z_ite hf
  refine c_iald X.1 hv7 hb8 dX10_swap_51 ?_
  refine z_if_le (tgt := 64) X.1.1 dX10_swap_52 (by decide) (fun c_ => ?_) (fun c_ => ?_)
  · have hf := (if_pos c_).symm.trans hf
    refine z_iconst (v := -1) X.1.1 dX10_swap_64 (by decide) ?_
    exact a_iret X Z ha hn0 hk0 hf rfl dX10_swap_65
  · have hf := (if_neg c_).symm.trans hf
    refine z_aload_n X.1.1 dX10_swap_55 rfl (lv_at hl 0 rfl) ?_
    obtain ⟨v9, hG9, hf⟩ := z_bind hf
    have hv9 := X.1.2.2.get ht0 (k := 4) (c := 100) rfl hG9
    refine c_geta X.1 ht0 cf_X10_245 hG9 dX10_swap_56 ?_
    refine z_iload_n X.1.1 dX10_swap_59 rfl (lv_at hl 2 rfl) ?_
    obtain ⟨hb10, hf⟩ := z_ite hf
    refine c_iald X.1 hv9 hb10 dX10_swap_60 ?_
    refine z_goto (tgt := 65) X.1.1 dX10_swap_61 (by decide) ?_
    exact a_iret X Z ha hn0 hk0 hf rfl dX10_swap_65

set_option maxHeartbeats 4000000 in
set_option maxRecDepth 100000 in
theorem w_X10_swap_14 {M : zM} {D : va_G} {cy : Nat → ClassId} {ad0 K0 : Nat → Nat} {n0 : Nat} {r' : Int32 × zS} (Z : RZAi M D cy ad0 n0 K0 .int r'.1 r'.2) (hC : M.2.2.2.1.cells = r'.2.2.1 ∧ M.2.2.2.1.slots = r'.2.2.2.1) (y0 : Nat) (t0 : Nat) (x1 : Int32) (n c q : Nat) (K N : Nat → Nat) (G : zG) (V : zI) (L : zL) (ad : Nat → Nat) (ls : Array Slot) (X : RXA M D cy ad n c q K N G cX10_swap 3 RX10 6 148) (ha : ∀ w, w < n0 → ad w = ad0 w) (hn0 : n0 ≤ n) (hk0 : ∀ w, w < n0 → K w = K0 w) (hy0 : y0 < n ∧ K y0 = 8) (ht0 : t0 < n ∧ K t0 = 0) (hl : lv_has ls 3 [(0, .ref (ad y0)), (1, .int x1)]) (hf : f_X10_swap_14 y0 t0 x1 n c q K N G V L = some r') : RG (zMb M c q) (zC D cy ad n K N G) V L 14 ls [.ref (ad t0)] := by
  unfold f_X10_swap_14 at hf
  refine z_dup X.1.1 dX10_swap_14 rfl ?_
  obtain ⟨r1, hc1, hf⟩ := z_bind hf
  have hm := m_X10_swap_18 y0 t0 x1 r1.1 (c + r1.2.1) (q + r1.2.2.1) r1.2.2.2.1 r1.2.2.2.2.1 r1.2.2.2.2.2.1 r1.2.2.2.2.2.2.1 r1.2.2.2.2.2.2.2 hf
  refine a_callIv [] X hl.1 (c_X0_init D cy ad X.1.2.2 ht0 hc1) ht0 ⟨by decide, rfl⟩ cm_X10_237 cx_X0_init rfl cq_X0_init ⟨by decide, by decide⟩ (Nat.le_of_ble_eq_true rfl) rfl ⟨by rw [hC.1]; exact hm.1, by rw [hC.2]; exact hm.2⟩ dX10_swap_15 (fun ad' hag hnn hKg X => ?_)
  rw [← hag y0 hy0.1] at hl
  rw [← hag t0 ht0.1]
  exact w_X10_swap_18 Z hC y0 t0 x1 r1.1 (c + r1.2.1) (q + r1.2.2.1) r1.2.2.2.1 r1.2.2.2.2.1 r1.2.2.2.2.2.1 r1.2.2.2.2.2.2.1 r1.2.2.2.2.2.2.2 ad' ls X (zag_up ha hn0 hag) (by omega) (zag_up hk0 hn0 hKg) (zh_ext hy0 hnn hKg) (zh_ext ht0 hnn hKg) (lv_sub hl [0, 1] rfl) hf

set_option maxHeartbeats 4000000 in
set_option maxRecDepth 100000 in
theorem w_X10_swap {M : zM} {D : va_G} {cy : Nat → ClassId} {ad0 K0 : Nat → Nat} {n0 : Nat} {r' : Int32 × zS} (Z : RZAi M D cy ad0 n0 K0 .int r'.1 r'.2) (hC : M.2.2.2.1.cells = r'.2.2.1 ∧ M.2.2.2.1.slots = r'.2.2.2.1) (y0 : Nat) (x1 : Int32) (n c q : Nat) (K N : Nat → Nat) (G : zG) (V : zI) (L : zL) (ad : Nat → Nat) (ls : Array Slot) (X : RXA M D cy ad n c q K N G cX10_swap 3 RX10 6 148) (ha : ∀ w, w < n0 → ad w = ad0 w) (hn0 : n0 ≤ n) (hk0 : ∀ w, w < n0 → K w = K0 w) (hy0 : y0 < n ∧ K y0 = 8) (hl : lv_has ls 3 [(0, .ref (ad y0)), (1, .int x1)]) (hf : g_X10_swap y0 x1 n c q K N G V L = some r') : RG (zMb M c q) (zC D cy ad n K N G) V L 0 ls [] := by
  unfold g_X10_swap at hf
  refine z_iload_n X.1.1 dX10_swap_0 rfl (lv_at hl 1 rfl) ?_
  refine z_if_lt (tgt := 9) X.1.1 dX10_swap_1 (by decide) (fun c_ => ?_) (fun c_ => ?_)
  · have hf := (if_pos c_).symm.trans hf
    refine z_iconst (v := -1) X.1.1 dX10_swap_9 (by decide) ?_
    exact a_iret X Z ha hn0 hk0 hf rfl dX10_swap_10
  · have hf := (if_neg c_).symm.trans hf
    refine z_iload_n X.1.1 dX10_swap_4 rfl (lv_at hl 1 rfl) ?_
    refine z_iconst (v := 5) X.1.1 dX10_swap_5 (by decide) ?_
    refine z_icmp_lt (tgt := 11) X.1.1 dX10_swap_6 (by decide) (fun c_ => ?_) (fun c_ => ?_)
    · have hf := (if_pos c_).symm.trans hf
      have hm := m_X10_swap_14 y0 n x1 (n + 1) (c + 1) (q + 6) (kU K n 0) N (kU G n zn0) (kU V n (fun _ => 0)) (kU L n (fun _ => 0)) hf
      refine a_new (ci := 0) X ci_X0 cg_X0.1 dv_X0 cn_X10_235 ⟨by rw [hC.1]; exact hm.1, by rw [hC.2]; exact hm.2⟩ dX10_swap_11 (fun ad' hag X => ?_)
      rw [← hag y0 hy0.1] at hl
      exact w_X10_swap_14 Z hC y0 n x1 (n + 1) (c + 1) (q + 6) (kU K n 0) N (kU G n zn0) (kU V n (fun _ => 0)) (kU L n (fun _ => 0)) ad' ls X (zag_up ha hn0 hag) (by omega) (zag_up hk0 hn0 (fun w h => kU_ne (by omega))) (zh_up hy0) zh_new (lv_sub hl [0, 1] rfl) hf
    · have hf := (if_neg c_).symm.trans hf
      refine z_iconst (v := -1) X.1.1 dX10_swap_9 (by decide) ?_
      exact a_iret X Z ha hn0 hk0 hf rfl dX10_swap_10

theorem c_X10_swap (D : va_G) (cy : Nat → ClassId) (ad : Nat → Nat) {n : Nat} {K N : Nat → Nat} {G : zG} (hWF : zWF n K G) {y0 : Nat} {x1 : Int32} {V : zI} {L : zL} (hy0 : y0 < n ∧ K y0 = 8) {r' : Int32 × zS} (hf : f_X10_swap y0 x1 n K N G V L = some r') : RAi D cy ad n K N G yX10_swap cX10_swap 3 .int 6 148 [.ref (ad y0), .int x1] V L r'.1 r'.2 :=
  RAi.of (by decide) hWF (Nat.le_of_ble_eq_true rfl) (fun M X Z hC hnm ls hl => w_X10_swap Z hC y0 x1 n 0 0 K N G V L ad ls X (fun _ _ => rfl) (Nat.le_refl _) (fun _ _ => rfl) hy0 hl hf)
def f_X10_ring_34 (y3 : Nat) (x2 : Int32) (s0 : Int32) (n c q : Nat) (K N : Nat → Nat) (G : zG) (V : zI) (L : zL) : Option (Int32 × zS) :=
  (if x2 = (-1) then (if s0 ≤ 0 then some ((-1), n, c, q, K, N, G, V, L) else some (s0, n, c, q, K, N, G, V, L)) else (if x2 < 0 then some ((-1), n, c, q, K, N, G, V, L) else (if s0 ≤ x2 then some ((-1), n, c, q, K, N, G, V, L) else (if (Int32.ofNat (N y3)) ≤ x2 then some ((-1), n, c, q, K, N, G, V, L) else if inB x2 (N y3) then some (V y3 x2.toNatClampNeg, n, c, q, K, N, G, V, L) else none))))
def f_X10_ring_17 (y0 : Nat) (t0 : Nat) (x1 : Int32) (x2 : Int32) (n c q : Nat) (K N : Nat → Nat) (G : zG) (V : zI) (L : zL) : Option (Int32 × zS) :=
  (G y0 2).bind fun v1 => (G y0 5).bind fun v2 => (f_X6_open N G v1 v2 V L).bind fun r3 => (f_X6_shortestRing t0 r3 x1 n K N G V L).bind fun r4 => f_X10_ring_34 t0 x2 r4.1 r4.2.1 (c + r4.2.2.1) (q + r4.2.2.2.1) r4.2.2.2.2.1 r4.2.2.2.2.2.1 r4.2.2.2.2.2.2.1 r4.2.2.2.2.2.2.2.1 r4.2.2.2.2.2.2.2.2
def g_X10_ring (y0 : Nat) (x1 : Int32) (x2 : Int32) (n c q : Nat) (K N : Nat → Nat) (G : zG) (V : zI) (L : zL) : Option (Int32 × zS) :=
  (G y0 2).bind fun v1 => (f_X9_isTown N G v1 x1 V L).bind fun r2 => (if r2 = 0 then some ((-1), n, c, q, K, N, G, V, L) else if (¬ (6 : Int32) < 0 ∧ (6 : Int32).toNatClampNeg ≤ 100000) then f_X10_ring_17 y0 n x1 x2 (n + 1) (c + 1) (q + (6 : Int32).toNatClampNeg) (kU K n 100) (kU N n (6 : Int32).toNatClampNeg) (kU G n zn0) (kU V n (fun _ => 0)) (kU L n (fun _ => 0)) else none)
def f_X10_ring (y0 : Nat) (x1 : Int32) (x2 : Int32) (n : Nat) (K N : Nat → Nat) (G : zG) (V : zI) (L : zL) : Option (Int32 × zS) := g_X10_ring y0 x1 x2 n 0 0 K N G V L
set_option maxHeartbeats 4000000 in
set_option maxRecDepth 100000 in
theorem m_X10_ring_34 (y3 : Nat) (x2 : Int32) (s0 : Int32) (n c q : Nat) (K N : Nat → Nat) (G : zG) (V : zI) (L : zL) {r' : Int32 × zS} (hf : f_X10_ring_34 y3 x2 s0 n c q K N G V L = some r') : c ≤ r'.2.2.1 ∧ q ≤ r'.2.2.2.1 := by
  unfold f_X10_ring_34 at hf
  rcases z_iteE hf with hf | hf
  ·
    rcases z_iteE hf with hf | hf
    ·
      cases hf
      exact ⟨Nat.le_refl _, Nat.le_refl _⟩
    ·
      cases hf
      exact ⟨Nat.le_refl _, Nat.le_refl _⟩
  ·
    rcases z_iteE hf with hf | hf
    ·
      cases hf
      exact ⟨Nat.le_refl _, Nat.le_refl _⟩
    ·
      rcases z_iteE hf with hf | hf
      ·
        cases hf
        exact ⟨Nat.le_refl _, Nat.le_refl _⟩
      ·
        rcases z_iteE hf with hf | hf
        ·
          cases hf
          exact ⟨Nat.le_refl _, Nat.le_refl _⟩
        ·
          obtain ⟨hb1, hf⟩ := z_ite hf
          cases hf
          exact ⟨Nat.le_refl _, Nat.le_refl _⟩

set_option maxHeartbeats 4000000 in
set_option maxRecDepth 100000 in
theorem m_X10_ring_17 (y0 : Nat) (t0 : Nat) (x1 : Int32) (x2 : Int32) (n c q : Nat) (K N : Nat → Nat) (G : zG) (V : zI) (L : zL) {r' : Int32 × zS} (hf : f_X10_ring_17 y0 t0 x1 x2 n c q K N G V L = some r') : c ≤ r'.2.2.1 ∧ q ≤ r'.2.2.2.1 := by
  unfold f_X10_ring_17 at hf
  obtain ⟨v1, hG1, hf⟩ := z_bind hf
  obtain ⟨v2, hG2, hf⟩ := z_bind hf
  obtain ⟨r3, hc3, hf⟩ := z_bind hf
  obtain ⟨r4, hc4, hf⟩ := z_bind hf
  have hm := m_X10_ring_34 t0 x2 r4.1 r4.2.1 (c + r4.2.2.1) (q + r4.2.2.2.1) r4.2.2.2.2.1 r4.2.2.2.2.2.1 r4.2.2.2.2.2.2.1 r4.2.2.2.2.2.2.2.1 r4.2.2.2.2.2.2.2.2 hf
  exact ⟨by omega, by omega⟩

set_option maxHeartbeats 4000000 in
set_option maxRecDepth 100000 in
theorem w_X10_ring_34 {M : zM} {D : va_G} {cy : Nat → ClassId} {ad0 K0 : Nat → Nat} {n0 : Nat} {r' : Int32 × zS} (Z : RZAi M D cy ad0 n0 K0 .int r'.1 r'.2) (hC : M.2.2.2.1.cells = r'.2.2.1 ∧ M.2.2.2.1.slots = r'.2.2.2.1) (y3 : Nat) (x2 : Int32) (s0 : Int32) (n c q : Nat) (K N : Nat → Nat) (G : zG) (V : zI) (L : zL) (ad : Nat → Nat) (ls : Array Slot) (X : RXA M D cy ad n c q K N G cX10_ring 5 RX10 4 102) (ha : ∀ w, w < n0 → ad w = ad0 w) (hn0 : n0 ≤ n) (hk0 : ∀ w, w < n0 → K w = K0 w) (hy3 : y3 < n ∧ K y3 = 100) (hl : lv_has ls 5 [(2, .int x2), (3, .ref (ad y3))]) (hf : f_X10_ring_34 y3 x2 s0 n c q K N G V L = some r') : RG (zMb M c q) (zC D cy ad n K N G) V L 34 ls [.int s0] := by
  unfold f_X10_ring_34 at hf
  refine z_istore (lv' := [(4, .int s0), (2, .int x2), (3, .ref (ad y3))]) X.1.1 dX10_ring_34 hl (by decide) rfl (fun ls hl => ?_)
  refine z_iload_n X.1.1 dX10_ring_36 rfl (lv_at hl 1 rfl) ?_
  refine z_iconst (v := -1) X.1.1 dX10_ring_37 (by decide) ?_
  refine z_icmp_ne (tgt := 53) X.1.1 dX10_ring_38 (by decide) (fun c_ => ?_) (fun c_ => ?_)
  · have hf := (if_neg c_).symm.trans hf
    refine z_iload_n X.1.1 dX10_ring_53 rfl (lv_at hl 1 rfl) ?_
    refine z_if_lt (tgt := 75) X.1.1 dX10_ring_54 (by decide) (fun c_ => ?_) (fun c_ => ?_)
    · have hf := (if_pos c_).symm.trans hf
      refine z_iconst (v := -1) X.1.1 dX10_ring_75 (by decide) ?_
      exact a_iret X Z ha hn0 hk0 hf rfl dX10_ring_76
    · have hf := (if_neg c_).symm.trans hf
      refine z_iload_n X.1.1 dX10_ring_57 rfl (lv_at hl 1 rfl) ?_
      refine z_iload X.1.1 dX10_ring_58 (lv_at hl 0 rfl) ?_
      refine z_icmp_ge (tgt := 75) X.1.1 dX10_ring_60 (by decide) (fun c_ => ?_) (fun c_ => ?_)
      · have hf := (if_pos c_).symm.trans hf
        refine z_iconst (v := -1) X.1.1 dX10_ring_75 (by decide) ?_
        exact a_iret X Z ha hn0 hk0 hf rfl dX10_ring_76
      · have hf := (if_neg c_).symm.trans hf
        refine z_iload_n X.1.1 dX10_ring_63 rfl (lv_at hl 1 rfl) ?_
        refine z_aload_n X.1.1 dX10_ring_64 rfl (lv_at hl 2 rfl) ?_
        refine c_alen100 X.1 hy3 dX10_ring_65 ?_
        refine z_icmp_ge (tgt := 75) X.1.1 dX10_ring_66 (by decide) (fun c_ => ?_) (fun c_ => ?_)
        · have hf := (if_pos c_).symm.trans hf
          refine z_iconst (v := -1) X.1.1 dX10_ring_75 (by decide) ?_
          exact a_iret X Z ha hn0 hk0 hf rfl dX10_ring_76
        · have hf := (if_neg c_).symm.trans hf
          refine z_aload_n X.1.1 dX10_ring_69 rfl (lv_at hl 2 rfl) ?_
          refine z_iload_n X.1.1 dX10_ring_70 rfl (lv_at hl 1 rfl) ?_
          obtain ⟨hb1, hf⟩ := z_ite hf
          refine c_iald X.1 hy3 hb1 dX10_ring_71 ?_
          refine z_goto (tgt := 76) X.1.1 dX10_ring_72 (by decide) ?_
          exact a_iret X Z ha hn0 hk0 hf rfl dX10_ring_76
  · have hf := (if_pos c_).symm.trans hf
    refine z_iload X.1.1 dX10_ring_41 (lv_at hl 0 rfl) ?_
    refine z_if_le (tgt := 51) X.1.1 dX10_ring_43 (by decide) (fun c_ => ?_) (fun c_ => ?_)
    · have hf := (if_pos c_).symm.trans hf
      refine z_iconst (v := -1) X.1.1 dX10_ring_51 (by decide) ?_
      exact a_iret X Z ha hn0 hk0 hf rfl dX10_ring_52
    · have hf := (if_neg c_).symm.trans hf
      refine z_iload X.1.1 dX10_ring_46 (lv_at hl 0 rfl) ?_
      refine z_goto (tgt := 52) X.1.1 dX10_ring_48 (by decide) ?_
      exact a_iret X Z ha hn0 hk0 hf rfl dX10_ring_52

set_option maxHeartbeats 4000000 in
set_option maxRecDepth 100000 in
theorem w_X10_ring_17 {M : zM} {D : va_G} {cy : Nat → ClassId} {ad0 K0 : Nat → Nat} {n0 : Nat} {r' : Int32 × zS} (Z : RZAi M D cy ad0 n0 K0 .int r'.1 r'.2) (hC : M.2.2.2.1.cells = r'.2.2.1 ∧ M.2.2.2.1.slots = r'.2.2.2.1) (y0 : Nat) (t0 : Nat) (x1 : Int32) (x2 : Int32) (n c q : Nat) (K N : Nat → Nat) (G : zG) (V : zI) (L : zL) (ad : Nat → Nat) (ls : Array Slot) (X : RXA M D cy ad n c q K N G cX10_ring 5 RX10 4 102) (ha : ∀ w, w < n0 → ad w = ad0 w) (hn0 : n0 ≤ n) (hk0 : ∀ w, w < n0 → K w = K0 w) (hy0 : y0 < n ∧ K y0 = 8) (ht0 : t0 < n ∧ K t0 = 100) (hl : lv_has ls 5 [(0, .ref (ad y0)), (1, .int x1), (2, .int x2)]) (hf : f_X10_ring_17 y0 t0 x1 x2 n c q K N G V L = some r') : RG (zMb M c q) (zC D cy ad n K N G) V L 17 ls [.ref (ad t0)] := by
  unfold f_X10_ring_17 at hf
  refine c_astore_n (lv' := [(3, .ref (ad t0)), (0, .ref (ad y0)), (1, .int x1), (2, .int x2)]) X.1 dX10_ring_17 rfl hl (by decide) rfl (fun ls hl => ?_)
  refine z_aload_n X.1.1 dX10_ring_18 rfl (lv_at hl 1 rfl) ?_
  obtain ⟨v1, hG1, hf⟩ := z_bind hf
  have hv1 := X.1.2.2.get hy0 (k := 2) (c := 7) rfl hG1
  refine c_geta X.1 hy0 cf_X10_20 hG1 dX10_ring_19 ?_
  refine z_aload_n X.1.1 dX10_ring_22 rfl (lv_at hl 1 rfl) ?_
  obtain ⟨v2, hG2, hf⟩ := z_bind hf
  have hv2 := X.1.2.2.get hy0 (k := 5) (c := 5) rfl hG2
  refine c_geta X.1 hy0 cf_X10_33 hG2 dX10_ring_23 ?_
  obtain ⟨r3, hc3, hf⟩ := z_bind hf
  refine c_callSl [.ref (ad v1), .ref (ad v2)] X.1 hl.1 (c_X6_open D cy ad X.1.2.2 hv1 hv2 hc3) cm_X10_207 cw_X6_open rfl cq_X6_open ⟨by decide, by decide⟩ (Nat.le_of_ble_eq_true rfl) rfl dX10_ring_26 ?_
  refine z_iload_n X.1.1 dX10_ring_29 rfl (lv_at hl 2 rfl) ?_
  refine z_aload_n X.1.1 dX10_ring_30 rfl (lv_at hl 0 rfl) ?_
  obtain ⟨r4, hc4, hf⟩ := z_bind hf
  have hm := m_X10_ring_34 t0 x2 r4.1 r4.2.1 (c + r4.2.2.1) (q + r4.2.2.2.1) r4.2.2.2.2.1 r4.2.2.2.2.2.1 r4.2.2.2.2.2.2.1 r4.2.2.2.2.2.2.2.1 r4.2.2.2.2.2.2.2.2 hf
  refine a_callSi [.long r3, .int x1, .ref (ad t0)] X hl.1 (c_X6_shortestRing D cy ad X.1.2.2 ht0 hc4) cm_X10_231 cw_X6_shortestRing rfl cq_X6_shortestRing ⟨by decide, by decide⟩ (Nat.le_of_ble_eq_true rfl) rfl ⟨by rw [hC.1]; exact hm.1, by rw [hC.2]; exact hm.2⟩ dX10_ring_31 (fun ad' hag hnn hKg X => ?_)
  rw [← hag t0 ht0.1] at hl
  rw [← hag y0 hy0.1] at hl
  exact w_X10_ring_34 Z hC t0 x2 r4.1 r4.2.1 (c + r4.2.2.1) (q + r4.2.2.2.1) r4.2.2.2.2.1 r4.2.2.2.2.2.1 r4.2.2.2.2.2.2.1 r4.2.2.2.2.2.2.2.1 r4.2.2.2.2.2.2.2.2 ad' ls X (zag_up ha hn0 hag) (by omega) (zag_up hk0 hn0 hKg) (zh_ext ht0 hnn hKg) (lv_sub hl [3, 0] rfl) hf

set_option maxHeartbeats 4000000 in
set_option maxRecDepth 100000 in
theorem w_X10_ring {M : zM} {D : va_G} {cy : Nat → ClassId} {ad0 K0 : Nat → Nat} {n0 : Nat} {r' : Int32 × zS} (Z : RZAi M D cy ad0 n0 K0 .int r'.1 r'.2) (hC : M.2.2.2.1.cells = r'.2.2.1 ∧ M.2.2.2.1.slots = r'.2.2.2.1) (y0 : Nat) (x1 : Int32) (x2 : Int32) (n c q : Nat) (K N : Nat → Nat) (G : zG) (V : zI) (L : zL) (ad : Nat → Nat) (ls : Array Slot) (X : RXA M D cy ad n c q K N G cX10_ring 5 RX10 4 102) (ha : ∀ w, w < n0 → ad w = ad0 w) (hn0 : n0 ≤ n) (hk0 : ∀ w, w < n0 → K w = K0 w) (hy0 : y0 < n ∧ K y0 = 8) (hl : lv_has ls 5 [(0, .ref (ad y0)), (1, .int x1), (2, .int x2)]) (hf : g_X10_ring y0 x1 x2 n c q K N G V L = some r') : RG (zMb M c q) (zC D cy ad n K N G) V L 0 ls [] := by
  unfold g_X10_ring at hf
  refine z_aload_n X.1.1 dX10_ring_0 rfl (lv_at hl 0 rfl) ?_
  obtain ⟨v1, hG1, hf⟩ := z_bind hf
  have hv1 := X.1.2.2.get hy0 (k := 2) (c := 7) rfl hG1
  refine c_geta X.1 hy0 cf_X10_20 hG1 dX10_ring_1 ?_
  refine z_iload_n X.1.1 dX10_ring_4 rfl (lv_at hl 1 rfl) ?_
  obtain ⟨r2, hc2, hf⟩ := z_bind hf
  refine c_callVi [.int x1] X.1 hl.1 (c_X9_isTown D cy ad X.1.2.2 hv1 hc2) hv1 ⟨by decide, rfl⟩ cm_X10_149 cw_X9_isTown rfl cq_X9_isTown ⟨by decide, by decide⟩ (Nat.le_of_ble_eq_true rfl) rfl dX10_ring_5 ?_
  refine z_if_ne (tgt := 13) X.1.1 dX10_ring_8 (by decide) (fun c_ => ?_) (fun c_ => ?_)
  · have hf := (if_neg c_).symm.trans hf
    refine z_bipush (v := 6) X.1.1 dX10_ring_13 (by decide) ?_
    obtain ⟨hb3, hf⟩ := z_ite hf
    have hm := m_X10_ring_17 y0 n x1 x2 (n + 1) (c + 1) (q + (6 : Int32).toNatClampNeg) (kU K n 100) (kU N n (6 : Int32).toNatClampNeg) (kU G n zn0) (kU V n (fun _ => 0)) (kU L n (fun _ => 0)) hf
    refine a_newi X hb3 ca_100 ⟨by rw [hC.1]; exact hm.1, by rw [hC.2]; exact hm.2⟩ dX10_ring_15 (fun ad' hag X => ?_)
    rw [← hag y0 hy0.1] at hl
    exact w_X10_ring_17 Z hC y0 n x1 x2 (n + 1) (c + 1) (q + (6 : Int32).toNatClampNeg) (kU K n 100) (kU N n (6 : Int32).toNatClampNeg) (kU G n zn0) (kU V n (fun _ => 0)) (kU L n (fun _ => 0)) ad' ls X (zag_up ha hn0 hag) (by omega) (zag_up hk0 hn0 (fun w h => kU_ne (by omega))) (zh_up hy0) zh_new (lv_sub hl [0, 1, 2] rfl) hf
  · have hf := (if_pos c_).symm.trans hf
    refine z_iconst (v := -1) X.1.1 dX10_ring_11 (by decide) ?_
    exact a_iret X Z ha hn0 hk0 hf rfl dX10_ring_12

theorem c_X10_ring (D : va_G) (cy : Nat → ClassId) (ad : Nat → Nat) {n : Nat} {K N : Nat → Nat} {G : zG} (hWF : zWF n K G) {y0 : Nat} {x1 : Int32} {x2 : Int32} {V : zI} {L : zL} (hy0 : y0 < n ∧ K y0 = 8) {r' : Int32 × zS} (hf : f_X10_ring y0 x1 x2 n K N G V L = some r') : RAi D cy ad n K N G yX10_ring cX10_ring 5 .int 4 102 [.ref (ad y0), .int x1, .int x2] V L r'.1 r'.2 :=
  RAi.of (by decide) hWF (Nat.le_of_ble_eq_true rfl) (fun M X Z hC hnm ls hl => w_X10_ring Z hC y0 x1 x2 n 0 0 K N G V L ad ls X (fun _ _ => rfl) (Nat.le_refl _) (fun _ _ => rfl) hy0 hl hf)
def f_X10_undo_31 (y0 : Nat) (t0 : Nat) (n c q : Nat) (K N : Nat → Nat) (G : zG) (V : zI) (L : zL) : Option (Int32 × zS) :=
  (G y0 5).bind fun v1 => (f_X7_copyFrom N G v1 t0 V L).bind fun r2 => some (1, n, c, q, K, N, G, z_uI r2.1 y0 10 ((r2.1 y0 10) - 1), r2.2)
def f_X10_undo_102400031 (y0 : Nat) (n c q : Nat) (K N : Nat → Nat) (G : zG) (V : zI) (L : zL) : Option (Int32 × zS) :=
  (f_X10_refuse N G y0 4 V L).bind fun r1 => some (0, n, c, q, K, N, G, r1.2.1, r1.2.2)
def f_X10_undo_30 (y0 : Nat) (n c q : Nat) (K N : Nat → Nat) (G : zG) (V : zI) (L : zL) : Option (Int32 × zS) :=
  f_X10_undo_102400031 y0 n c q K N G V L
def g_X10_undo (y0 : Nat) (n c q : Nat) (K N : Nat → Nat) (G : zG) (V : zI) (L : zL) : Option (Int32 × zS) :=
  (if (V y0 10) ≤ 0 then f_X10_undo_30 y0 n c q K N G V L else (if 20 < (V y0 10) then f_X10_undo_30 y0 n c q K N G V L else (G y0 9).bind fun v1 => if inB ((V y0 10) - 1) (N v1) then (zopt (G v1 ((V y0 10) - 1).toNatClampNeg) (f_X10_undo_102400031 y0 n c q K N G V L) (fun v3 => f_X10_undo_31 y0 v3 n c q K N G V L)) else none))
def f_X10_undo (y0 : Nat) (n : Nat) (K N : Nat → Nat) (G : zG) (V : zI) (L : zL) : Option (Int32 × zS) := g_X10_undo y0 n 0 0 K N G V L
set_option maxHeartbeats 4000000 in
set_option maxRecDepth 100000 in
theorem m_X10_undo_31 (y0 : Nat) (t0 : Nat) (n c q : Nat) (K N : Nat → Nat) (G : zG) (V : zI) (L : zL) {r' : Int32 × zS} (hf : f_X10_undo_31 y0 t0 n c q K N G V L = some r') : c ≤ r'.2.2.1 ∧ q ≤ r'.2.2.2.1 := by
  unfold f_X10_undo_31 at hf
  obtain ⟨v1, hG1, hf⟩ := z_bind hf
  obtain ⟨r2, hc2, hf⟩ := z_bind hf
  cases hf
  exact ⟨Nat.le_refl _, Nat.le_refl _⟩

set_option maxHeartbeats 4000000 in
set_option maxRecDepth 100000 in
theorem m_X10_undo_102400031 (y0 : Nat) (n c q : Nat) (K N : Nat → Nat) (G : zG) (V : zI) (L : zL) {r' : Int32 × zS} (hf : f_X10_undo_102400031 y0 n c q K N G V L = some r') : c ≤ r'.2.2.1 ∧ q ≤ r'.2.2.2.1 := by
  unfold f_X10_undo_102400031 at hf
  obtain ⟨r1, hc1, hf⟩ := z_bind hf
  cases hf
  exact ⟨Nat.le_refl _, Nat.le_refl _⟩

set_option maxHeartbeats 4000000 in
set_option maxRecDepth 100000 in
theorem m_X10_undo_30 (y0 : Nat) (n c q : Nat) (K N : Nat → Nat) (G : zG) (V : zI) (L : zL) {r' : Int32 × zS} (hf : f_X10_undo_30 y0 n c q K N G V L = some r') : c ≤ r'.2.2.1 ∧ q ≤ r'.2.2.2.1 := by
  unfold f_X10_undo_30 at hf
  exact m_X10_undo_102400031 y0 n c q K N G V L hf

set_option maxHeartbeats 4000000 in
set_option maxRecDepth 100000 in
theorem w_X10_undo_31 {M : zM} {D : va_G} {cy : Nat → ClassId} {ad0 K0 : Nat → Nat} {n0 : Nat} {r' : Int32 × zS} (Z : RZAi M D cy ad0 n0 K0 .boolean r'.1 r'.2) (hC : M.2.2.2.1.cells = r'.2.2.1 ∧ M.2.2.2.1.slots = r'.2.2.2.1) (y0 : Nat) (t0 : Nat) (n c q : Nat) (K N : Nat → Nat) (G : zG) (V : zI) (L : zL) (ad : Nat → Nat) (ls : Array Slot) (X : RXA M D cy ad n c q K N G cX10_undo 2 RX10 2 81) (ha : ∀ w, w < n0 → ad w = ad0 w) (hn0 : n0 ≤ n) (hk0 : ∀ w, w < n0 → K w = K0 w) (hy0 : y0 < n ∧ K y0 = 8) (ht0 : t0 < n ∧ K t0 = 5) (hl : lv_has ls 2 [(0, .ref (ad y0))]) (hf : f_X10_undo_31 y0 t0 n c q K N G V L = some r') : RG (zMb M c q) (zC D cy ad n K N G) V L 31 ls [.ref (ad t0)] := by
  unfold f_X10_undo_31 at hf
  refine c_astore_n (lv' := [(1, .ref (ad t0)), (0, .ref (ad y0))]) X.1 dX10_undo_31 rfl hl (by decide) rfl (fun ls hl => ?_)
  refine z_aload_n X.1.1 dX10_undo_32 rfl (lv_at hl 0 rfl) ?_
  refine c_ifnonnull (tgt := 44) X.1 dX10_undo_33 (by decide) ?_
  refine z_aload_n X.1.1 dX10_undo_44 rfl (lv_at hl 1 rfl) ?_
  obtain ⟨v1, hG1, hf⟩ := z_bind hf
  have hv1 := X.1.2.2.get hy0 (k := 5) (c := 5) rfl hG1
  refine c_geta X.1 hy0 cf_X10_33 hG1 dX10_undo_45 ?_
  refine z_aload_n X.1.1 dX10_undo_48 rfl (lv_at hl 0 rfl) ?_
  obtain ⟨r2, hc2, hf⟩ := z_bind hf
  refine c_callVv [.ref (ad t0)] X.1 hl.1 (c_X7_copyFrom D cy ad X.1.2.2 hv1 ht0 hc2) hv1 ⟨by decide, rfl⟩ cm_X10_186 cw_X7_copyFrom rfl cq_X7_copyFrom ⟨by decide, by decide⟩ (Nat.le_of_ble_eq_true rfl) rfl dX10_undo_49 ?_
  refine z_aload_n X.1.1 dX10_undo_52 rfl (lv_at hl 1 rfl) ?_
  refine z_dup X.1.1 dX10_undo_53 rfl ?_
  refine c_geti X.1 hy0 cf_X10_58 dX10_undo_54 ?_
  refine z_iconst (v := 1) X.1.1 dX10_undo_57 (by decide) ?_
  refine z_isub X.1.1 dX10_undo_58 ?_
  refine c_puti X.1 hy0 cf_X10_58 cg_X10 cp_X10_10 rfl rfl dX10_undo_59 ?_
  refine z_iconst (v := 1) X.1.1 dX10_undo_62 (by decide) ?_
  exact a_iret X Z ha hn0 hk0 hf (by decide) dX10_undo_63

set_option maxHeartbeats 4000000 in
set_option maxRecDepth 100000 in
theorem w_X10_undo_102400031 {M : zM} {D : va_G} {cy : Nat → ClassId} {ad0 K0 : Nat → Nat} {n0 : Nat} {r' : Int32 × zS} (Z : RZAi M D cy ad0 n0 K0 .boolean r'.1 r'.2) (hC : M.2.2.2.1.cells = r'.2.2.1 ∧ M.2.2.2.1.slots = r'.2.2.2.1) (y0 : Nat) (n c q : Nat) (K N : Nat → Nat) (G : zG) (V : zI) (L : zL) (ad : Nat → Nat) (ls : Array Slot) (X : RXA M D cy ad n c q K N G cX10_undo 2 RX10 2 81) (ha : ∀ w, w < n0 → ad w = ad0 w) (hn0 : n0 ≤ n) (hk0 : ∀ w, w < n0 → K w = K0 w) (hy0 : y0 < n ∧ K y0 = 8) (hl : lv_has ls 2 [(0, .ref (ad y0))]) (hf : f_X10_undo_102400031 y0 n c q K N G V L = some r') : RG (zMb M c q) (zC D cy ad n K N G) V L 31 ls [.null] := by
  unfold f_X10_undo_102400031 at hf
  refine c_astore_nN (lv' := [(1, .null), (0, .ref (ad y0))]) X dX10_undo_31 rfl hl (by decide) rfl (fun ls hl => ?_)
  refine c_aload_nN X.1 dX10_undo_32 rfl (lv_at hl 0 rfl) ?_
  refine c_ifnonnullN X.1 dX10_undo_33 ?_
  refine z_aload_n X.1.1 dX10_undo_36 rfl (lv_at hl 1 rfl) ?_
  refine z_iconst (v := 4) X.1.1 dX10_undo_37 (by decide) ?_
  obtain ⟨r1, hc1, hf⟩ := z_bind hf
  refine c_callVi [.int 4] X.1 hl.1 (c_X10_refuse D cy ad X.1.2.2 hy0 hc1) hy0 ⟨by decide, rfl⟩ cm_X10_80 cw_X10_refuse rfl cq_X10_refuse ⟨by decide, by decide⟩ (Nat.le_of_ble_eq_true rfl) rfl dX10_undo_38 ?_
  refine z_pop X.1.1 dX10_undo_41 rfl ?_
  refine z_iconst (v := 0) X.1.1 dX10_undo_42 (by decide) ?_
  exact a_iret X Z ha hn0 hk0 hf (by decide) dX10_undo_43

set_option maxHeartbeats 4000000 in
set_option maxRecDepth 100000 in
theorem w_X10_undo_30 {M : zM} {D : va_G} {cy : Nat → ClassId} {ad0 K0 : Nat → Nat} {n0 : Nat} {r' : Int32 × zS} (Z : RZAi M D cy ad0 n0 K0 .boolean r'.1 r'.2) (hC : M.2.2.2.1.cells = r'.2.2.1 ∧ M.2.2.2.1.slots = r'.2.2.2.1) (y0 : Nat) (n c q : Nat) (K N : Nat → Nat) (G : zG) (V : zI) (L : zL) (ad : Nat → Nat) (ls : Array Slot) (X : RXA M D cy ad n c q K N G cX10_undo 2 RX10 2 81) (ha : ∀ w, w < n0 → ad w = ad0 w) (hn0 : n0 ≤ n) (hk0 : ∀ w, w < n0 → K w = K0 w) (hy0 : y0 < n ∧ K y0 = 8) (hl : lv_has ls 2 [(0, .ref (ad y0))]) (hf : f_X10_undo_30 y0 n c q K N G V L = some r') : RG (zMb M c q) (zC D cy ad n K N G) V L 30 ls [] := by
  unfold f_X10_undo_30 at hf
  refine c_null X.1 dX10_undo_30 ?_
  exact w_X10_undo_102400031 Z hC y0 n c q K N G V L ad ls X ha hn0 hk0 hy0 (lv_sub hl [0] rfl) hf

set_option maxHeartbeats 4000000 in
set_option maxRecDepth 100000 in
theorem w_X10_undo {M : zM} {D : va_G} {cy : Nat → ClassId} {ad0 K0 : Nat → Nat} {n0 : Nat} {r' : Int32 × zS} (Z : RZAi M D cy ad0 n0 K0 .boolean r'.1 r'.2) (hC : M.2.2.2.1.cells = r'.2.2.1 ∧ M.2.2.2.1.slots = r'.2.2.2.1) (y0 : Nat) (n c q : Nat) (K N : Nat → Nat) (G : zG) (V : zI) (L : zL) (ad : Nat → Nat) (ls : Array Slot) (X : RXA M D cy ad n c q K N G cX10_undo 2 RX10 2 81) (ha : ∀ w, w < n0 → ad w = ad0 w) (hn0 : n0 ≤ n) (hk0 : ∀ w, w < n0 → K w = K0 w) (hy0 : y0 < n ∧ K y0 = 8) (hl : lv_has ls 2 [(0, .ref (ad y0))]) (hf : g_X10_undo y0 n c q K N G V L = some r') : RG (zMb M c q) (zC D cy ad n K N G) V L 0 ls [] := by
  unfold g_X10_undo at hf
  refine z_aload_n X.1.1 dX10_undo_0 rfl (lv_at hl 0 rfl) ?_
  refine c_geti X.1 hy0 cf_X10_58 dX10_undo_1 ?_
  refine z_if_le (tgt := 30) X.1.1 dX10_undo_4 (by decide) (fun c_ => ?_) (fun c_ => ?_)
  · have hf := (if_pos c_).symm.trans hf
    exact w_X10_undo_30 Z hC y0 n c q K N G V L ad ls X ha hn0 hk0 hy0 (lv_sub hl [0] rfl) hf
  · have hf := (if_neg c_).symm.trans hf
    refine z_aload_n X.1.1 dX10_undo_7 rfl (lv_at hl 0 rfl) ?_
    refine c_geti X.1 hy0 cf_X10_58 dX10_undo_8 ?_
    refine z_bipush (v := 20) X.1.1 dX10_undo_11 (by decide) ?_
    refine z_icmp_gt (tgt := 30) X.1.1 dX10_undo_13 (by decide) (fun c_ => ?_) (fun c_ => ?_)
    · have hf := (if_pos c_).symm.trans hf
      exact w_X10_undo_30 Z hC y0 n c q K N G V L ad ls X ha hn0 hk0 hy0 (lv_sub hl [0] rfl) hf
    · have hf := (if_neg c_).symm.trans hf
      refine z_aload_n X.1.1 dX10_undo_16 rfl (lv_at hl 0 rfl) ?_
      obtain ⟨v1, hG1, hf⟩ := z_bind hf
      have hv1 := X.1.2.2.get hy0 (k := 9) (c := 104) rfl hG1
      refine c_geta X.1 hy0 cf_X10_54 hG1 dX10_undo_17 ?_
      refine z_aload_n X.1.1 dX10_undo_20 rfl (lv_at hl 0 rfl) ?_
      refine c_geti X.1 hy0 cf_X10_58 dX10_undo_21 ?_
      refine z_iconst (v := 1) X.1.1 dX10_undo_24 (by decide) ?_
      refine z_isub X.1.1 dX10_undo_25 ?_
      obtain ⟨hb2, hf⟩ := z_ite hf
      rcases z_optE hf with ⟨hG3, hf⟩ | ⟨v3, hG3, hf⟩
      · refine a_aaldN X hv1 hb2 hG3 dX10_undo_26 ?_
        refine z_goto (tgt := 31) X.1.1 dX10_undo_27 (by decide) ?_
        exact w_X10_undo_102400031 Z hC y0 n c q K N G V L ad ls X ha hn0 hk0 hy0 (lv_sub hl [0] rfl) hf
      · have hv3 := X.1.2.2.get104 hv1 hG3
        refine a_aaldS X hv1 hb2 hG3 dX10_undo_26 ?_
        refine z_goto (tgt := 31) X.1.1 dX10_undo_27 (by decide) ?_
        exact w_X10_undo_31 Z hC y0 v3 n c q K N G V L ad ls X ha hn0 hk0 hy0 hv3 (lv_sub hl [0] rfl) hf

theorem c_X10_undo (D : va_G) (cy : Nat → ClassId) (ad : Nat → Nat) {n : Nat} {K N : Nat → Nat} {G : zG} (hWF : zWF n K G) {y0 : Nat} {V : zI} {L : zL} (hy0 : y0 < n ∧ K y0 = 8) {r' : Int32 × zS} (hf : f_X10_undo y0 n K N G V L = some r') : RAi D cy ad n K N G yX10_undo cX10_undo 2 .boolean 2 81 [.ref (ad y0)] V L r'.1 r'.2 :=
  RAi.of (by decide) hWF (Nat.le_of_ble_eq_true rfl) (fun M X Z hC hnm ls hl => w_X10_undo Z hC y0 n 0 0 K N G V L ad ls X (fun _ _ => rfl) (Nat.le_refl _) (fun _ _ => rfl) hy0 hl hf)
def f_X10_remember_73 (y0 : Nat) (y2 : Nat) (x1 : Int32) (n c q : Nat) (K N : Nat → Nat) (G : zG) (V : zI) (L : zL) : Option (zS) :=
  (G y0 5).bind fun v1 => (f_X7_copyFrom N G y2 v1 V L).bind fun r2 => (G y0 9).bind fun v3 => if inB x1 (N v3) then some (n, c, q, K, N, gS G v3 x1.toNatClampNeg (some y2), z_uI r2.1 y0 10 (x1 + 1), r2.2) else none
def f_X10_remember_72 (y0 : Nat) (t0 : Nat) (x1 : Int32) (n c q : Nat) (K N : Nat → Nat) (G : zG) (V : zI) (L : zL) : Option (zS) :=
  f_X10_remember_73 y0 t0 x1 n c q K N G V L
def f_X10_remember_68 (y0 : Nat) (t0 : Nat) (x1 : Int32) (n c q : Nat) (K N : Nat → Nat) (G : zG) (V : zI) (L : zL) : Option (zS) :=
  (f_X7_init t0 n K N G V L).bind fun r1 => f_X10_remember_72 y0 t0 x1 r1.1 (c + r1.2.1) (q + r1.2.2.1) r1.2.2.2.1 r1.2.2.2.2.1 r1.2.2.2.2.2.1 r1.2.2.2.2.2.2.1 r1.2.2.2.2.2.2.2
def f_X10_remember_61 (y0 : Nat) (y2 : Nat) (x1 : Int32) (n c q : Nat) (K N : Nat → Nat) (G : zG) (V : zI) (L : zL) : Option (zS) :=
  f_X10_remember_73 y0 y2 x1 n c q K N G V L
def f_X10_remember_400061 (y0 : Nat) (x1 : Int32) (n c q : Nat) (K N : Nat → Nat) (G : zG) (V : zI) (L : zL) : Option (zS) :=
  f_X10_remember_68 y0 n x1 (n + 1) (c + 1) (q + 12) (kU K n 5) N (kU G n zn0) (kU V n (fun _ => 0)) (kU L n (fun _ => 0))
def b_X10_remember_35 (k35 : Nat × Nat × Int32 × Int32 × zS → Option (zS)) : Nat × Nat × Int32 × Int32 × zS → Option (zS) := fun ⟨y0, y2, x1, x3, n, c, q, K, N, G, V, L⟩ =>
  (if 20 ≤ x3 then f_X10_remember_61 y0 y2 x1 n c q K N G V L else (G y0 9).bind fun v1 => (G y0 9).bind fun v2 => if inB x3 (N v2) then (zopt (G v2 x3.toNatClampNeg) (none) (fun v4 => if inB (x3 - 1) (N v1) then k35 (y0, y2, x1, (x3 + 1), n, c, q, K, N, gS G v1 (x3 - 1).toNatClampNeg (some v4), V, L) else none)) else none)
def g_X10_remember (y0 : Nat) (n c q : Nat) (K N : Nat → Nat) (G : zG) (V : zI) (L : zL) : Option (zS) :=
  (G y0 9).bind fun v1 => if inB (if (19 : Int32) < (V y0 10) then 19 else (V y0 10)) (N v1) then (zopt (G v1 (if (19 : Int32) < (V y0 10) then 19 else (V y0 10)).toNatClampNeg) ((if (V y0 10) = 20 then (G y0 9).bind fun v4 => if inB (0 : Int32) (N v4) then (zopt (G v4 (0 : Int32).toNatClampNeg) (none) (fun v6 => zfix (b_X10_remember_35) FU (y0, v6, (if (19 : Int32) < (V y0 10) then 19 else (V y0 10)), 1, n, c, q, K, N, G, V, L))) else none else f_X10_remember_400061 y0 (if (19 : Int32) < (V y0 10) then 19 else (V y0 10)) n c q K N G V L)) (fun v3 => (if (V y0 10) = 20 then (G y0 9).bind fun v7 => if inB (0 : Int32) (N v7) then (zopt (G v7 (0 : Int32).toNatClampNeg) (none) (fun v9 => zfix (b_X10_remember_35) FU (y0, v9, (if (19 : Int32) < (V y0 10) then 19 else (V y0 10)), 1, n, c, q, K, N, G, V, L))) else none else f_X10_remember_61 y0 v3 (if (19 : Int32) < (V y0 10) then 19 else (V y0 10)) n c q K N G V L))) else none
def f_X10_remember (y0 : Nat) (n : Nat) (K N : Nat → Nat) (G : zG) (V : zI) (L : zL) : Option (zS) := g_X10_remember y0 n 0 0 K N G V L
set_option maxHeartbeats 4000000 in
set_option maxRecDepth 100000 in
theorem m_X10_remember_73 (y0 : Nat) (y2 : Nat) (x1 : Int32) (n c q : Nat) (K N : Nat → Nat) (G : zG) (V : zI) (L : zL) {r' : zS} (hf : f_X10_remember_73 y0 y2 x1 n c q K N G V L = some r') : c ≤ r'.2.1 ∧ q ≤ r'.2.2.1 := by
  unfold f_X10_remember_73 at hf
  obtain ⟨v1, hG1, hf⟩ := z_bind hf
  obtain ⟨r2, hc2, hf⟩ := z_bind hf
  obtain ⟨v3, hG3, hf⟩ := z_bind hf
  obtain ⟨hb4, hf⟩ := z_ite hf
  cases hf
  exact ⟨Nat.le_refl _, Nat.le_refl _⟩

set_option maxHeartbeats 4000000 in
set_option maxRecDepth 100000 in
theorem m_X10_remember_72 (y0 : Nat) (t0 : Nat) (x1 : Int32) (n c q : Nat) (K N : Nat → Nat) (G : zG) (V : zI) (L : zL) {r' : zS} (hf : f_X10_remember_72 y0 t0 x1 n c q K N G V L = some r') : c ≤ r'.2.1 ∧ q ≤ r'.2.2.1 := by
  unfold f_X10_remember_72 at hf
  exact m_X10_remember_73 y0 t0 x1 n c q K N G V L hf

set_option maxHeartbeats 4000000 in
set_option maxRecDepth 100000 in
theorem m_X10_remember_68 (y0 : Nat) (t0 : Nat) (x1 : Int32) (n c q : Nat) (K N : Nat → Nat) (G : zG) (V : zI) (L : zL) {r' : zS} (hf : f_X10_remember_68 y0 t0 x1 n c q K N G V L = some r') : c ≤ r'.2.1 ∧ q ≤ r'.2.2.1 := by
  unfold f_X10_remember_68 at hf
  obtain ⟨r1, hc1, hf⟩ := z_bind hf
  have hm := m_X10_remember_72 y0 t0 x1 r1.1 (c + r1.2.1) (q + r1.2.2.1) r1.2.2.2.1 r1.2.2.2.2.1 r1.2.2.2.2.2.1 r1.2.2.2.2.2.2.1 r1.2.2.2.2.2.2.2 hf
  exact ⟨by omega, by omega⟩

set_option maxHeartbeats 4000000 in
set_option maxRecDepth 100000 in
theorem m_X10_remember_61 (y0 : Nat) (y2 : Nat) (x1 : Int32) (n c q : Nat) (K N : Nat → Nat) (G : zG) (V : zI) (L : zL) {r' : zS} (hf : f_X10_remember_61 y0 y2 x1 n c q K N G V L = some r') : c ≤ r'.2.1 ∧ q ≤ r'.2.2.1 := by
  unfold f_X10_remember_61 at hf
  exact m_X10_remember_73 y0 y2 x1 n c q K N G V L hf

set_option maxHeartbeats 4000000 in
set_option maxRecDepth 100000 in
theorem m_X10_remember_400061 (y0 : Nat) (x1 : Int32) (n c q : Nat) (K N : Nat → Nat) (G : zG) (V : zI) (L : zL) {r' : zS} (hf : f_X10_remember_400061 y0 x1 n c q K N G V L = some r') : c ≤ r'.2.1 ∧ q ≤ r'.2.2.1 := by
  unfold f_X10_remember_400061 at hf
  have hm := m_X10_remember_68 y0 n x1 (n + 1) (c + 1) (q + 12) (kU K n 5) N (kU G n zn0) (kU V n (fun _ => 0)) (kU L n (fun _ => 0)) hf
  exact ⟨by omega, by omega⟩

set_option maxHeartbeats 4000000 in
set_option maxRecDepth 100000 in
theorem m_X10_remember_35 (nn : Nat) : ∀ (y0 : Nat) (y2 : Nat) (x1 : Int32) (x3 : Int32) (n c q : Nat) (K N : Nat → Nat) (G : zG) (V : zI) (L : zL) {r' : zS}, zfix (b_X10_remember_35) nn (y0, y2, x1, x3, n, c, q, K, N, G, V, L) = some r' → c ≤ r'.2.1 ∧ q ≤ r'.2.2.1 := by
  induction nn with
  | zero => intro y0 y2 x1 x3 n c q K N G V L r' hf; cases hf
  | succ nn ih =>
  intro y0 y2 x1 x3 n c q K N G V L r' hf
  have hm35 : ∀ (y0 : Nat) (y2 : Nat) (x1 : Int32) (x3 : Int32) (n c q : Nat) (K N : Nat → Nat) (G : zG) (V : zI) (L : zL) {r' : zS}, zfix (b_X10_remember_35) nn (y0, y2, x1, x3, n, c, q, K, N, G, V, L) = some r' → c ≤ r'.2.1 ∧ q ≤ r'.2.2.1 := ih
  have hf : b_X10_remember_35 (zfix (b_X10_remember_35) nn) (y0, y2, x1, x3, n, c, q, K, N, G, V, L) = some r' := hf
  generalize zfix (b_X10_remember_35) nn = k35 at hm35 hf
  clear ih
  unfold b_X10_remember_35 at hf
  rcases z_iteE hf with hf | hf
  ·
    exact m_X10_remember_61 y0 y2 x1 n c q K N G V L hf
  ·
    obtain ⟨v1, hG1, hf⟩ := z_bind hf
    obtain ⟨v2, hG2, hf⟩ := z_bind hf
    obtain ⟨hb3, hf⟩ := z_ite hf
    rcases z_optE hf with ⟨hG4, hf⟩ | ⟨v4, hG4, hf⟩
    ·
      cases hf
    ·
      obtain ⟨hb5, hf⟩ := z_ite hf
      exact hm35 y0 y2 x1 (x3 + 1) n c q K N (gS G v1 (x3 - 1).toNatClampNeg (some v4)) V L hf

set_option maxHeartbeats 4000000 in
set_option maxRecDepth 100000 in
theorem w_X10_remember_73 {M : zM} {D : va_G} {cy : Nat → ClassId} {ad0 K0 : Nat → Nat} {n0 : Nat} {r' : zS} (Z : RZAv M D cy ad0 n0 K0 r') (hC : M.2.2.2.1.cells = r'.2.1 ∧ M.2.2.2.1.slots = r'.2.2.1) (y0 : Nat) (y2 : Nat) (x1 : Int32) (n c q : Nat) (K N : Nat → Nat) (G : zG) (V : zI) (L : zL) (ad : Nat → Nat) (ls : Array Slot) (X : RXA M D cy ad n c q K N G cX10_remember 4 RX10 2 81) (ha : ∀ w, w < n0 → ad w = ad0 w) (hn0 : n0 ≤ n) (hk0 : ∀ w, w < n0 → K w = K0 w) (hy0 : y0 < n ∧ K y0 = 8) (hy2 : y2 < n ∧ K y2 = 5) (hl : lv_has ls 4 [(0, .ref (ad y0)), (1, .int x1), (2, .ref (ad y2))]) (hf : f_X10_remember_73 y0 y2 x1 n c q K N G V L = some r') : RG (zMb M c q) (zC D cy ad n K N G) V L 73 ls [] := by
  unfold f_X10_remember_73 at hf
  refine z_aload_n X.1.1 dX10_remember_73 rfl (lv_at hl 2 rfl) ?_
  refine z_aload_n X.1.1 dX10_remember_74 rfl (lv_at hl 0 rfl) ?_
  obtain ⟨v1, hG1, hf⟩ := z_bind hf
  have hv1 := X.1.2.2.get hy0 (k := 5) (c := 5) rfl hG1
  refine c_geta X.1 hy0 cf_X10_33 hG1 dX10_remember_75 ?_
  obtain ⟨r2, hc2, hf⟩ := z_bind hf
  refine c_callVv [.ref (ad v1)] X.1 hl.1 (c_X7_copyFrom D cy ad X.1.2.2 hy2 hv1 hc2) hy2 ⟨by decide, rfl⟩ cm_X10_186 cw_X7_copyFrom rfl cq_X7_copyFrom ⟨by decide, by decide⟩ (Nat.le_of_ble_eq_true rfl) rfl dX10_remember_78 ?_
  refine z_aload_n X.1.1 dX10_remember_81 rfl (lv_at hl 0 rfl) ?_
  obtain ⟨v3, hG3, hf⟩ := z_bind hf
  have hv3 := X.1.2.2.get hy0 (k := 9) (c := 104) rfl hG3
  refine c_geta X.1 hy0 cf_X10_54 hG3 dX10_remember_82 ?_
  refine z_iload_n X.1.1 dX10_remember_85 rfl (lv_at hl 1 rfl) ?_
  refine z_aload_n X.1.1 dX10_remember_86 rfl (lv_at hl 2 rfl) ?_
  obtain ⟨hb4, hf⟩ := z_ite hf
  refine a_aast X hv3 hy2 hb4 dX10_remember_87 (fun X => ?_)
  refine z_aload_n X.1.1 dX10_remember_88 rfl (lv_at hl 0 rfl) ?_
  refine z_iload_n X.1.1 dX10_remember_89 rfl (lv_at hl 1 rfl) ?_
  refine z_iconst (v := 1) X.1.1 dX10_remember_90 (by decide) ?_
  refine z_iadd X.1.1 dX10_remember_91 ?_
  refine c_puti X.1 hy0 cf_X10_58 cg_X10 cp_X10_10 rfl rfl dX10_remember_92 ?_
  exact a_vret X Z ha hn0 hk0 hf dX10_remember_95

set_option maxHeartbeats 4000000 in
set_option maxRecDepth 100000 in
theorem w_X10_remember_72 {M : zM} {D : va_G} {cy : Nat → ClassId} {ad0 K0 : Nat → Nat} {n0 : Nat} {r' : zS} (Z : RZAv M D cy ad0 n0 K0 r') (hC : M.2.2.2.1.cells = r'.2.1 ∧ M.2.2.2.1.slots = r'.2.2.1) (y0 : Nat) (t0 : Nat) (x1 : Int32) (n c q : Nat) (K N : Nat → Nat) (G : zG) (V : zI) (L : zL) (ad : Nat → Nat) (ls : Array Slot) (X : RXA M D cy ad n c q K N G cX10_remember 4 RX10 2 81) (ha : ∀ w, w < n0 → ad w = ad0 w) (hn0 : n0 ≤ n) (hk0 : ∀ w, w < n0 → K w = K0 w) (hy0 : y0 < n ∧ K y0 = 8) (ht0 : t0 < n ∧ K t0 = 5) (hl : lv_has ls 4 [(0, .ref (ad y0)), (1, .int x1)]) (hf : f_X10_remember_72 y0 t0 x1 n c q K N G V L = some r') : RG (zMb M c q) (zC D cy ad n K N G) V L 72 ls [.ref (ad t0)] := by
  unfold f_X10_remember_72 at hf
  refine c_astore_n (lv' := [(2, .ref (ad t0)), (0, .ref (ad y0)), (1, .int x1)]) X.1 dX10_remember_72 rfl hl (by decide) rfl (fun ls hl => ?_)
  exact w_X10_remember_73 Z hC y0 t0 x1 n c q K N G V L ad ls X ha hn0 hk0 hy0 ht0 (lv_sub hl [1, 2, 0] rfl) hf

set_option maxHeartbeats 4000000 in
set_option maxRecDepth 100000 in
theorem w_X10_remember_68 {M : zM} {D : va_G} {cy : Nat → ClassId} {ad0 K0 : Nat → Nat} {n0 : Nat} {r' : zS} (Z : RZAv M D cy ad0 n0 K0 r') (hC : M.2.2.2.1.cells = r'.2.1 ∧ M.2.2.2.1.slots = r'.2.2.1) (y0 : Nat) (t0 : Nat) (x1 : Int32) (n c q : Nat) (K N : Nat → Nat) (G : zG) (V : zI) (L : zL) (ad : Nat → Nat) (ls : Array Slot) (X : RXA M D cy ad n c q K N G cX10_remember 4 RX10 2 81) (ha : ∀ w, w < n0 → ad w = ad0 w) (hn0 : n0 ≤ n) (hk0 : ∀ w, w < n0 → K w = K0 w) (hy0 : y0 < n ∧ K y0 = 8) (ht0 : t0 < n ∧ K t0 = 5) (hl : lv_has ls 4 [(0, .ref (ad y0)), (1, .int x1)]) (hf : f_X10_remember_68 y0 t0 x1 n c q K N G V L = some r') : RG (zMb M c q) (zC D cy ad n K N G) V L 68 ls [.ref (ad t0)] := by
  unfold f_X10_remember_68 at hf
  refine z_dup X.1.1 dX10_remember_68 rfl ?_
  obtain ⟨r1, hc1, hf⟩ := z_bind hf
  have hm := m_X10_remember_72 y0 t0 x1 r1.1 (c + r1.2.1) (q + r1.2.2.1) r1.2.2.2.1 r1.2.2.2.2.1 r1.2.2.2.2.2.1 r1.2.2.2.2.2.2.1 r1.2.2.2.2.2.2.2 hf
  refine a_callIv [] X hl.1 (c_X7_init D cy ad X.1.2.2 ht0 hc1) ht0 ⟨by decide, rfl⟩ cm_X10_32 cx_X7_init rfl cq_X7_init ⟨by decide, by decide⟩ (Nat.le_of_ble_eq_true rfl) rfl ⟨by rw [hC.1]; exact hm.1, by rw [hC.2]; exact hm.2⟩ dX10_remember_69 (fun ad' hag hnn hKg X => ?_)
  rw [← hag y0 hy0.1] at hl
  rw [← hag t0 ht0.1]
  exact w_X10_remember_72 Z hC y0 t0 x1 r1.1 (c + r1.2.1) (q + r1.2.2.1) r1.2.2.2.1 r1.2.2.2.2.1 r1.2.2.2.2.2.1 r1.2.2.2.2.2.2.1 r1.2.2.2.2.2.2.2 ad' ls X (zag_up ha hn0 hag) (by omega) (zag_up hk0 hn0 hKg) (zh_ext hy0 hnn hKg) (zh_ext ht0 hnn hKg) (lv_sub hl [0, 1] rfl) hf

set_option maxHeartbeats 4000000 in
set_option maxRecDepth 100000 in
theorem w_X10_remember_61 {M : zM} {D : va_G} {cy : Nat → ClassId} {ad0 K0 : Nat → Nat} {n0 : Nat} {r' : zS} (Z : RZAv M D cy ad0 n0 K0 r') (hC : M.2.2.2.1.cells = r'.2.1 ∧ M.2.2.2.1.slots = r'.2.2.1) (y0 : Nat) (y2 : Nat) (x1 : Int32) (n c q : Nat) (K N : Nat → Nat) (G : zG) (V : zI) (L : zL) (ad : Nat → Nat) (ls : Array Slot) (X : RXA M D cy ad n c q K N G cX10_remember 4 RX10 2 81) (ha : ∀ w, w < n0 → ad w = ad0 w) (hn0 : n0 ≤ n) (hk0 : ∀ w, w < n0 → K w = K0 w) (hy0 : y0 < n ∧ K y0 = 8) (hy2 : y2 < n ∧ K y2 = 5) (hl : lv_has ls 4 [(0, .ref (ad y0)), (1, .int x1), (2, .ref (ad y2))]) (hf : f_X10_remember_61 y0 y2 x1 n c q K N G V L = some r') : RG (zMb M c q) (zC D cy ad n K N G) V L 61 ls [] := by
  unfold f_X10_remember_61 at hf
  refine z_aload_n X.1.1 dX10_remember_61 rfl (lv_at hl 2 rfl) ?_
  refine c_ifnonnull (tgt := 73) X.1 dX10_remember_62 (by decide) ?_
  exact w_X10_remember_73 Z hC y0 y2 x1 n c q K N G V L ad ls X ha hn0 hk0 hy0 hy2 (lv_sub hl [0, 1, 2] rfl) hf

set_option maxHeartbeats 4000000 in
set_option maxRecDepth 100000 in
theorem w_X10_remember_400061 {M : zM} {D : va_G} {cy : Nat → ClassId} {ad0 K0 : Nat → Nat} {n0 : Nat} {r' : zS} (Z : RZAv M D cy ad0 n0 K0 r') (hC : M.2.2.2.1.cells = r'.2.1 ∧ M.2.2.2.1.slots = r'.2.2.1) (y0 : Nat) (x1 : Int32) (n c q : Nat) (K N : Nat → Nat) (G : zG) (V : zI) (L : zL) (ad : Nat → Nat) (ls : Array Slot) (X : RXA M D cy ad n c q K N G cX10_remember 4 RX10 2 81) (ha : ∀ w, w < n0 → ad w = ad0 w) (hn0 : n0 ≤ n) (hk0 : ∀ w, w < n0 → K w = K0 w) (hy0 : y0 < n ∧ K y0 = 8) (hl : lv_has ls 4 [(0, .ref (ad y0)), (1, .int x1), (2, .null)]) (hf : f_X10_remember_400061 y0 x1 n c q K N G V L = some r') : RG (zMb M c q) (zC D cy ad n K N G) V L 61 ls [] := by
  unfold f_X10_remember_400061 at hf
  refine c_aload_nN X.1 dX10_remember_61 rfl (lv_at hl 2 rfl) ?_
  refine c_ifnonnullN X.1 dX10_remember_62 ?_
  have hm := m_X10_remember_68 y0 n x1 (n + 1) (c + 1) (q + 12) (kU K n 5) N (kU G n zn0) (kU V n (fun _ => 0)) (kU L n (fun _ => 0)) hf
  refine a_new (ci := 5) X ci_X7 cg_X7.1 dv_X7 cn_X10_30 ⟨by rw [hC.1]; exact hm.1, by rw [hC.2]; exact hm.2⟩ dX10_remember_65 (fun ad' hag X => ?_)
  rw [← hag y0 hy0.1] at hl
  exact w_X10_remember_68 Z hC y0 n x1 (n + 1) (c + 1) (q + 12) (kU K n 5) N (kU G n zn0) (kU V n (fun _ => 0)) (kU L n (fun _ => 0)) ad' ls X (zag_up ha hn0 hag) (by omega) (zag_up hk0 hn0 (fun w h => kU_ne (by omega))) (zh_up hy0) zh_new (lv_sub hl [0, 1] rfl) hf

set_option maxHeartbeats 4000000 in
set_option maxRecDepth 100000 in
theorem w_X10_remember_35 {M : zM} {D : va_G} {cy : Nat → ClassId} {ad0 K0 : Nat → Nat} {n0 : Nat} {r' : zS} (Z : RZAv M D cy ad0 n0 K0 r') (hC : M.2.2.2.1.cells = r'.2.1 ∧ M.2.2.2.1.slots = r'.2.2.1) (nn : Nat) : ∀ (y0 : Nat) (y2 : Nat) (x1 : Int32) (x3 : Int32) (n c q : Nat) (K N : Nat → Nat) (G : zG) (V : zI) (L : zL) (ad : Nat → Nat) (ls : Array Slot) (X : RXA M D cy ad n c q K N G cX10_remember 4 RX10 2 81) (ha : ∀ w, w < n0 → ad w = ad0 w) (hn0 : n0 ≤ n) (hk0 : ∀ w, w < n0 → K w = K0 w) (hy0 : y0 < n ∧ K y0 = 8) (hy2 : y2 < n ∧ K y2 = 5) (hl : lv_has ls 4 [(0, .ref (ad y0)), (1, .int x1), (2, .ref (ad y2)), (3, .int x3)]) (hf : zfix (b_X10_remember_35) nn (y0, y2, x1, x3, n, c, q, K, N, G, V, L) = some r'), RG (zMb M c q) (zC D cy ad n K N G) V L 35 ls [] := by
  induction nn with
  | zero => intro y0 y2 x1 x3 n c q K N G V L ad ls X ha hn0 hk0 hy0 hy2 hl hf; cases hf
  | succ nn ih =>
  intro y0 y2 x1 x3 n c q K N G V L ad ls X ha hn0 hk0 hy0 hy2 hl hf
  have hk35 : ∀ (y0 : Nat) (y2 : Nat) (x1 : Int32) (x3 : Int32) (n c q : Nat) (K N : Nat → Nat) (G : zG) (V : zI) (L : zL) (ad : Nat → Nat) (ls : Array Slot) (X : RXA M D cy ad n c q K N G cX10_remember 4 RX10 2 81) (ha : ∀ w, w < n0 → ad w = ad0 w) (hn0 : n0 ≤ n) (hk0 : ∀ w, w < n0 → K w = K0 w) (hy0 : y0 < n ∧ K y0 = 8) (hy2 : y2 < n ∧ K y2 = 5) (hl : lv_has ls 4 [(0, .ref (ad y0)), (1, .int x1), (2, .ref (ad y2)), (3, .int x3)]) (hf : zfix (b_X10_remember_35) nn (y0, y2, x1, x3, n, c, q, K, N, G, V, L) = some r'), RG (zMb M c q) (zC D cy ad n K N G) V L 35 ls [] := ih
  have hm35 : ∀ (y0 : Nat) (y2 : Nat) (x1 : Int32) (x3 : Int32) (n c q : Nat) (K N : Nat → Nat) (G : zG) (V : zI) (L : zL) {r' : zS}, zfix (b_X10_remember_35) nn (y0, y2, x1, x3, n, c, q, K, N, G, V, L) = some r' → c ≤ r'.2.1 ∧ q ≤ r'.2.2.1 := m_X10_remember_35 nn
  have hf : b_X10_remember_35 (zfix (b_X10_remember_35) nn) (y0, y2, x1, x3, n, c, q, K, N, G, V, L) = some r' := hf
  generalize zfix (b_X10_remember_35) nn = k35 at hk35 hm35 hf
  clear ih
  unfold b_X10_remember_35 at hf
  refine z_iload_n X.1.1 dX10_remember_35 rfl (lv_at hl 3 rfl) ?_
  refine z_bipush (v := 20) X.1.1 dX10_remember_36 (by decide) ?_
  refine z_icmp_ge (tgt := 61) X.1.1 dX10_remember_38 (by decide) (fun c_ => ?_) (fun c_ => ?_)
  · have hf := (if_pos c_).symm.trans hf
    exact w_X10_remember_61 Z hC y0 y2 x1 n c q K N G V L ad ls X ha hn0 hk0 hy0 hy2 (lv_sub hl [0, 1, 2] rfl) hf
  · have hf := (if_neg c_).symm.trans hf
    refine z_aload_n X.1.1 dX10_remember_41 rfl (lv_at hl 0 rfl) ?_
    obtain ⟨v1, hG1, hf⟩ := z_bind hf
    have hv1 := X.1.2.2.get hy0 (k := 9) (c := 104) rfl hG1
    refine c_geta X.1 hy0 cf_X10_54 hG1 dX10_remember_42 ?_
    refine z_iload_n X.1.1 dX10_remember_45 rfl (lv_at hl 3 rfl) ?_
    refine z_iconst (v := 1) X.1.1 dX10_remember_46 (by decide) ?_
    refine z_isub X.1.1 dX10_remember_47 ?_
    refine z_aload_n X.1.1 dX10_remember_48 rfl (lv_at hl 0 rfl) ?_
    obtain ⟨v2, hG2, hf⟩ := z_bind hf
    have hv2 := X.1.2.2.get hy0 (k := 9) (c := 104) rfl hG2
    refine c_geta X.1 hy0 cf_X10_54 hG2 dX10_remember_49 ?_
    refine z_iload_n X.1.1 dX10_remember_52 rfl (lv_at hl 3 rfl) ?_
    obtain ⟨hb3, hf⟩ := z_ite hf
    rcases z_optE hf with ⟨hG4, hf⟩ | ⟨v4, hG4, hf⟩
    · refine a_aaldN X hv2 hb3 hG4 dX10_remember_53 ?_
      cases hf
    · have hv4 := X.1.2.2.get104 hv2 hG4
      refine a_aaldS X hv2 hb3 hG4 dX10_remember_53 ?_
      obtain ⟨hb5, hf⟩ := z_ite hf
      refine a_aast X hv1 hv4 hb5 dX10_remember_54 (fun X => ?_)
      refine z_iinc (v := x3 + 1) (k0 := 3) (lv' := [(3, .int (x3 + 1)), (0, .ref (ad y0)), (1, .int x1), (2, .ref (ad y2))]) X.1.1 dX10_remember_55 hl rfl rfl (by decide) rfl (fun ls hl => ?_)
      refine z_goto (tgt := 35) X.1.1 dX10_remember_58 (by decide) ?_
      exact hk35 y0 y2 x1 (x3 + 1) n c q K N (gS G v1 (x3 - 1).toNatClampNeg (some v4)) V L ad ls X ha hn0 hk0 hy0 hy2 (lv_sub hl [1, 2, 3, 0] rfl) hf

set_option maxHeartbeats 4000000 in
set_option maxRecDepth 100000 in
theorem w_X10_remember {M : zM} {D : va_G} {cy : Nat → ClassId} {ad0 K0 : Nat → Nat} {n0 : Nat} {r' : zS} (Z : RZAv M D cy ad0 n0 K0 r') (hC : M.2.2.2.1.cells = r'.2.1 ∧ M.2.2.2.1.slots = r'.2.2.1) (y0 : Nat) (n c q : Nat) (K N : Nat → Nat) (G : zG) (V : zI) (L : zL) (ad : Nat → Nat) (ls : Array Slot) (X : RXA M D cy ad n c q K N G cX10_remember 4 RX10 2 81) (ha : ∀ w, w < n0 → ad w = ad0 w) (hn0 : n0 ≤ n) (hk0 : ∀ w, w < n0 → K w = K0 w) (hy0 : y0 < n ∧ K y0 = 8) (hl : lv_has ls 4 [(0, .ref (ad y0))]) (hf : g_X10_remember y0 n c q K N G V L = some r') : RG (zMb M c q) (zC D cy ad n K N G) V L 0 ls [] := by
  unfold g_X10_remember at hf
  refine z_aload_n X.1.1 dX10_remember_0 rfl (lv_at hl 0 rfl) ?_
  refine c_geti X.1 hy0 cf_X10_58 dX10_remember_1 ?_
  refine z_bipush (v := 19) X.1.1 dX10_remember_4 (by decide) ?_
  refine c_min X.1 hl.1 cj_X10_202 ⟨by decide, Nat.le_of_ble_eq_true rfl⟩ dX10_remember_6 ?_
  refine z_istore_n (lv' := [(1, .int (if (19 : Int32) < (V y0 10) then 19 else (V y0 10))), (0, .ref (ad y0))]) X.1.1 dX10_remember_9 rfl hl (by decide) rfl (fun ls hl => ?_)
  refine z_aload_n X.1.1 dX10_remember_10 rfl (lv_at hl 1 rfl) ?_
  obtain ⟨v1, hG1, hf⟩ := z_bind hf
  have hv1 := X.1.2.2.get hy0 (k := 9) (c := 104) rfl hG1
  refine c_geta X.1 hy0 cf_X10_54 hG1 dX10_remember_11 ?_
  refine z_iload_n X.1.1 dX10_remember_14 rfl (lv_at hl 0 rfl) ?_
  obtain ⟨hb2, hf⟩ := z_ite hf
  rcases z_optE hf with ⟨hG3, hf⟩ | ⟨v3, hG3, hf⟩
  · refine a_aaldN X hv1 hb2 hG3 dX10_remember_15 ?_
    refine c_astore_nN (lv' := [(2, .null), (1, .int (if (19 : Int32) < (V y0 10) then 19 else (V y0 10))), (0, .ref (ad y0))]) X dX10_remember_16 rfl hl (by decide) rfl (fun ls hl => ?_)
    refine z_aload_n X.1.1 dX10_remember_17 rfl (lv_at hl 2 rfl) ?_
    refine c_geti X.1 hy0 cf_X10_58 dX10_remember_18 ?_
    refine z_bipush (v := 20) X.1.1 dX10_remember_21 (by decide) ?_
    refine z_icmp_ne (tgt := 61) X.1.1 dX10_remember_23 (by decide) (fun c_ => ?_) (fun c_ => ?_)
    · have hf := (if_neg c_).symm.trans hf
      exact w_X10_remember_400061 Z hC y0 (if (19 : Int32) < (V y0 10) then 19 else (V y0 10)) n c q K N G V L ad ls X ha hn0 hk0 hy0 (lv_sub hl [2, 1, 0] rfl) hf
    · have hf := (if_pos c_).symm.trans hf
      refine z_aload_n X.1.1 dX10_remember_26 rfl (lv_at hl 2 rfl) ?_
      obtain ⟨v4, hG4, hf⟩ := z_bind hf
      have hv4 := X.1.2.2.get hy0 (k := 9) (c := 104) rfl hG4
      refine c_geta X.1 hy0 cf_X10_54 hG4 dX10_remember_27 ?_
      refine z_iconst (v := 0) X.1.1 dX10_remember_30 (by decide) ?_
      obtain ⟨hb5, hf⟩ := z_ite hf
      rcases z_optE hf with ⟨hG6, hf⟩ | ⟨v6, hG6, hf⟩
      ·
        cases hf
      · have hv6 := X.1.2.2.get104 hv4 hG6
        refine a_aaldS X hv4 hb5 hG6 dX10_remember_31 ?_
        refine c_astore_n (lv' := [(2, .ref (ad v6)), (1, .int (if (19 : Int32) < (V y0 10) then 19 else (V y0 10))), (0, .ref (ad y0))]) X.1 dX10_remember_32 rfl hl (by decide) rfl (fun ls hl => ?_)
        refine z_iconst (v := 1) X.1.1 dX10_remember_33 (by decide) ?_
        refine z_istore_n (lv' := [(3, .int 1), (2, .ref (ad v6)), (1, .int (if (19 : Int32) < (V y0 10) then 19 else (V y0 10))), (0, .ref (ad y0))]) X.1.1 dX10_remember_34 rfl hl (by decide) rfl (fun ls hl => ?_)
        exact w_X10_remember_35 Z hC FU y0 v6 (if (19 : Int32) < (V y0 10) then 19 else (V y0 10)) 1 n c q K N G V L ad ls X ha hn0 hk0 hy0 hv6 (lv_sub hl [3, 2, 1, 0] rfl) hf
  · have hv3 := X.1.2.2.get104 hv1 hG3
    refine a_aaldS X hv1 hb2 hG3 dX10_remember_15 ?_
    refine c_astore_n (lv' := [(2, .ref (ad v3)), (1, .int (if (19 : Int32) < (V y0 10) then 19 else (V y0 10))), (0, .ref (ad y0))]) X.1 dX10_remember_16 rfl hl (by decide) rfl (fun ls hl => ?_)
    refine z_aload_n X.1.1 dX10_remember_17 rfl (lv_at hl 2 rfl) ?_
    refine c_geti X.1 hy0 cf_X10_58 dX10_remember_18 ?_
    refine z_bipush (v := 20) X.1.1 dX10_remember_21 (by decide) ?_
    refine z_icmp_ne (tgt := 61) X.1.1 dX10_remember_23 (by decide) (fun c_ => ?_) (fun c_ => ?_)
    · have hf := (if_neg c_).symm.trans hf
      exact w_X10_remember_61 Z hC y0 v3 (if (19 : Int32) < (V y0 10) then 19 else (V y0 10)) n c q K N G V L ad ls X ha hn0 hk0 hy0 hv3 (lv_sub hl [2, 1, 0] rfl) hf
    · have hf := (if_pos c_).symm.trans hf
      refine z_aload_n X.1.1 dX10_remember_26 rfl (lv_at hl 2 rfl) ?_
      obtain ⟨v7, hG7, hf⟩ := z_bind hf
      have hv7 := X.1.2.2.get hy0 (k := 9) (c := 104) rfl hG7
      refine c_geta X.1 hy0 cf_X10_54 hG7 dX10_remember_27 ?_
      refine z_iconst (v := 0) X.1.1 dX10_remember_30 (by decide) ?_
      obtain ⟨hb8, hf⟩ := z_ite hf
      rcases z_optE hf with ⟨hG9, hf⟩ | ⟨v9, hG9, hf⟩
      ·
        cases hf
      · have hv9 := X.1.2.2.get104 hv7 hG9
        refine a_aaldS X hv7 hb8 hG9 dX10_remember_31 ?_
        refine c_astore_n (lv' := [(2, .ref (ad v9)), (1, .int (if (19 : Int32) < (V y0 10) then 19 else (V y0 10))), (0, .ref (ad y0))]) X.1 dX10_remember_32 rfl hl (by decide) rfl (fun ls hl => ?_)
        refine z_iconst (v := 1) X.1.1 dX10_remember_33 (by decide) ?_
        refine z_istore_n (lv' := [(3, .int 1), (2, .ref (ad v9)), (1, .int (if (19 : Int32) < (V y0 10) then 19 else (V y0 10))), (0, .ref (ad y0))]) X.1.1 dX10_remember_34 rfl hl (by decide) rfl (fun ls hl => ?_)
        exact w_X10_remember_35 Z hC FU y0 v9 (if (19 : Int32) < (V y0 10) then 19 else (V y0 10)) 1 n c q K N G V L ad ls X ha hn0 hk0 hy0 hv9 (lv_sub hl [3, 2, 1, 0] rfl) hf

theorem c_X10_remember (D : va_G) (cy : Nat → ClassId) (ad : Nat → Nat) {n : Nat} {K N : Nat → Nat} {G : zG} (hWF : zWF n K G) {y0 : Nat} {V : zI} {L : zL} (hy0 : y0 < n ∧ K y0 = 8) {r' : zS} (hf : f_X10_remember y0 n K N G V L = some r') : RAv D cy ad n K N G yX10_remember cX10_remember 4 2 81 [.ref (ad y0)] V L r' :=
  RAv.of (by decide) hWF (Nat.le_of_ble_eq_true rfl) (fun M X Z hC hnm ls hl => w_X10_remember Z hC y0 n 0 0 K N G V L ad ls X (fun _ _ => rfl) (Nat.le_refl _) (fun _ _ => rfl) hy0 hl hf)
def f_X10_burn_24 (y0 : Nat) (n c q : Nat) (K N : Nat → Nat) (G : zG) (V : zI) (L : zL) : Option (Int32 × zS) :=
  (f_X10_refuse N G y0 3 V L).bind fun r1 => some (r1.1, n, c, q, K, N, G, r1.2.1, r1.2.2)
def f_X10_burn_34 (y0 : Nat) (x1 : Int32) (x2 : Int32) (n c q : Nat) (K N : Nat → Nat) (G : zG) (V : zI) (L : zL) : Option (Int32 × zS) :=
  (G y0 5).bind fun v1 => (f_X7_heldBy N G v1 x1 x2 V L).bind fun r2 => (G y0 5).bind fun v3 => (G v3 1).bind fun v4 => if inB ((x1 * 6) + x2) (N v4) then some (r2, n, c, q, K, N, G, z_uI V v4 ((x1 * 6) + x2).toNatClampNeg 0, L) else none
def g_X10_burn (y0 : Nat) (x1 : Int32) (x2 : Int32) (n c q : Nat) (K N : Nat → Nat) (G : zG) (V : zI) (L : zL) : Option (Int32 × zS) :=
  (G y0 2).bind fun v1 => (f_X9_isPair N G v1 x1 x2 V L).bind fun r2 => (if r2 = 0 then f_X10_burn_24 y0 n c q K N G V L else (G y0 5).bind fun v3 => (f_X7_heldBy N G v3 x1 x2 V L).bind fun r4 => (if r4 = 0 then f_X10_burn_24 y0 n c q K N G V L else (f_X10_remember y0 n K N G V L).bind fun r5 => f_X10_burn_34 y0 x1 x2 r5.1 (c + r5.2.1) (q + r5.2.2.1) r5.2.2.2.1 r5.2.2.2.2.1 r5.2.2.2.2.2.1 r5.2.2.2.2.2.2.1 r5.2.2.2.2.2.2.2))
def f_X10_burn (y0 : Nat) (x1 : Int32) (x2 : Int32) (n : Nat) (K N : Nat → Nat) (G : zG) (V : zI) (L : zL) : Option (Int32 × zS) := g_X10_burn y0 x1 x2 n 0 0 K N G V L
set_option maxHeartbeats 4000000 in
set_option maxRecDepth 100000 in
theorem m_X10_burn_24 (y0 : Nat) (n c q : Nat) (K N : Nat → Nat) (G : zG) (V : zI) (L : zL) {r' : Int32 × zS} (hf : f_X10_burn_24 y0 n c q K N G V L = some r') : c ≤ r'.2.2.1 ∧ q ≤ r'.2.2.2.1 := by
  unfold f_X10_burn_24 at hf
  obtain ⟨r1, hc1, hf⟩ := z_bind hf
  cases hf
  exact ⟨Nat.le_refl _, Nat.le_refl _⟩

set_option maxHeartbeats 4000000 in
set_option maxRecDepth 100000 in
theorem m_X10_burn_34 (y0 : Nat) (x1 : Int32) (x2 : Int32) (n c q : Nat) (K N : Nat → Nat) (G : zG) (V : zI) (L : zL) {r' : Int32 × zS} (hf : f_X10_burn_34 y0 x1 x2 n c q K N G V L = some r') : c ≤ r'.2.2.1 ∧ q ≤ r'.2.2.2.1 := by
  unfold f_X10_burn_34 at hf
  obtain ⟨v1, hG1, hf⟩ := z_bind hf
  obtain ⟨r2, hc2, hf⟩ := z_bind hf
  obtain ⟨v3, hG3, hf⟩ := z_bind hf
  obtain ⟨v4, hG4, hf⟩ := z_bind hf
  obtain ⟨hb5, hf⟩ := z_ite hf
  cases hf
  exact ⟨Nat.le_refl _, Nat.le_refl _⟩

set_option maxHeartbeats 4000000 in
set_option maxRecDepth 100000 in
theorem w_X10_burn_24 {M : zM} {D : va_G} {cy : Nat → ClassId} {ad0 K0 : Nat → Nat} {n0 : Nat} {r' : Int32 × zS} (Z : RZAi M D cy ad0 n0 K0 .int r'.1 r'.2) (hC : M.2.2.2.1.cells = r'.2.2.1 ∧ M.2.2.2.1.slots = r'.2.2.2.1) (y0 : Nat) (n c q : Nat) (K N : Nat → Nat) (G : zG) (V : zI) (L : zL) (ad : Nat → Nat) (ls : Array Slot) (X : RXA M D cy ad n c q K N G cX10_burn 4 RX10 3 104) (ha : ∀ w, w < n0 → ad w = ad0 w) (hn0 : n0 ≤ n) (hk0 : ∀ w, w < n0 → K w = K0 w) (hy0 : y0 < n ∧ K y0 = 8) (hl : lv_has ls 4 [(0, .ref (ad y0))]) (hf : f_X10_burn_24 y0 n c q K N G V L = some r') : RG (zMb M c q) (zC D cy ad n K N G) V L 24 ls [] := by
  unfold f_X10_burn_24 at hf
  refine z_aload_n X.1.1 dX10_burn_24 rfl (lv_at hl 0 rfl) ?_
  refine z_iconst (v := 3) X.1.1 dX10_burn_25 (by decide) ?_
  obtain ⟨r1, hc1, hf⟩ := z_bind hf
  refine c_callVi [.int 3] X.1 hl.1 (c_X10_refuse D cy ad X.1.2.2 hy0 hc1) hy0 ⟨by decide, rfl⟩ cm_X10_80 cw_X10_refuse rfl cq_X10_refuse ⟨by decide, by decide⟩ (Nat.le_of_ble_eq_true rfl) rfl dX10_burn_26 ?_
  exact a_iret X Z ha hn0 hk0 hf rfl dX10_burn_29

set_option maxHeartbeats 4000000 in
set_option maxRecDepth 100000 in
theorem w_X10_burn_34 {M : zM} {D : va_G} {cy : Nat → ClassId} {ad0 K0 : Nat → Nat} {n0 : Nat} {r' : Int32 × zS} (Z : RZAi M D cy ad0 n0 K0 .int r'.1 r'.2) (hC : M.2.2.2.1.cells = r'.2.2.1 ∧ M.2.2.2.1.slots = r'.2.2.2.1) (y0 : Nat) (x1 : Int32) (x2 : Int32) (n c q : Nat) (K N : Nat → Nat) (G : zG) (V : zI) (L : zL) (ad : Nat → Nat) (ls : Array Slot) (X : RXA M D cy ad n c q K N G cX10_burn 4 RX10 3 104) (ha : ∀ w, w < n0 → ad w = ad0 w) (hn0 : n0 ≤ n) (hk0 : ∀ w, w < n0 → K w = K0 w) (hy0 : y0 < n ∧ K y0 = 8) (hl : lv_has ls 4 [(0, .ref (ad y0)), (1, .int x1), (2, .int x2)]) (hf : f_X10_burn_34 y0 x1 x2 n c q K N G V L = some r') : RG (zMb M c q) (zC D cy ad n K N G) V L 34 ls [] := by
  unfold f_X10_burn_34 at hf
  refine z_aload_n X.1.1 dX10_burn_34 rfl (lv_at hl 0 rfl) ?_
  obtain ⟨v1, hG1, hf⟩ := z_bind hf
  have hv1 := X.1.2.2.get hy0 (k := 5) (c := 5) rfl hG1
  refine c_geta X.1 hy0 cf_X10_33 hG1 dX10_burn_35 ?_
  refine z_iload_n X.1.1 dX10_burn_38 rfl (lv_at hl 1 rfl) ?_
  refine z_iload_n X.1.1 dX10_burn_39 rfl (lv_at hl 2 rfl) ?_
  obtain ⟨r2, hc2, hf⟩ := z_bind hf
  refine c_callVi [.int x1, .int x2] X.1 hl.1 (c_X7_heldBy D cy ad X.1.2.2 hv1 hc2) hv1 ⟨by decide, rfl⟩ cm_X10_257 cw_X7_heldBy rfl cq_X7_heldBy ⟨by decide, by decide⟩ (Nat.le_of_ble_eq_true rfl) rfl dX10_burn_40 ?_
  refine z_istore_n (lv' := [(3, .int r2), (0, .ref (ad y0)), (1, .int x1), (2, .int x2)]) X.1.1 dX10_burn_43 rfl hl (by decide) rfl (fun ls hl => ?_)
  refine z_aload_n X.1.1 dX10_burn_44 rfl (lv_at hl 1 rfl) ?_
  obtain ⟨v3, hG3, hf⟩ := z_bind hf
  have hv3 := X.1.2.2.get hy0 (k := 5) (c := 5) rfl hG3
  refine c_geta X.1 hy0 cf_X10_33 hG3 dX10_burn_45 ?_
  obtain ⟨v4, hG4, hf⟩ := z_bind hf
  have hv4 := X.1.2.2.get hv3 (k := 1) (c := 100) rfl hG4
  refine c_geta X.1 hv3 cf_X10_127 hG4 dX10_burn_48 ?_
  refine z_iload_n X.1.1 dX10_burn_51 rfl (lv_at hl 2 rfl) ?_
  refine z_bipush (v := 6) X.1.1 dX10_burn_52 (by decide) ?_
  refine z_imul X.1.1 dX10_burn_54 ?_
  refine z_iload_n X.1.1 dX10_burn_55 rfl (lv_at hl 3 rfl) ?_
  refine z_iadd X.1.1 dX10_burn_56 ?_
  refine z_iconst (v := 0) X.1.1 dX10_burn_57 (by decide) ?_
  obtain ⟨hb5, hf⟩ := z_ite hf
  refine c_iast X.1 hv4 hb5 dX10_burn_58 ?_
  refine z_iload_n X.1.1 dX10_burn_59 rfl (lv_at hl 0 rfl) ?_
  exact a_iret X Z ha hn0 hk0 hf rfl dX10_burn_60

set_option maxHeartbeats 4000000 in
set_option maxRecDepth 100000 in
theorem w_X10_burn {M : zM} {D : va_G} {cy : Nat → ClassId} {ad0 K0 : Nat → Nat} {n0 : Nat} {r' : Int32 × zS} (Z : RZAi M D cy ad0 n0 K0 .int r'.1 r'.2) (hC : M.2.2.2.1.cells = r'.2.2.1 ∧ M.2.2.2.1.slots = r'.2.2.2.1) (y0 : Nat) (x1 : Int32) (x2 : Int32) (n c q : Nat) (K N : Nat → Nat) (G : zG) (V : zI) (L : zL) (ad : Nat → Nat) (ls : Array Slot) (X : RXA M D cy ad n c q K N G cX10_burn 4 RX10 3 104) (ha : ∀ w, w < n0 → ad w = ad0 w) (hn0 : n0 ≤ n) (hk0 : ∀ w, w < n0 → K w = K0 w) (hy0 : y0 < n ∧ K y0 = 8) (hl : lv_has ls 4 [(0, .ref (ad y0)), (1, .int x1), (2, .int x2)]) (hf : g_X10_burn y0 x1 x2 n c q K N G V L = some r') : RG (zMb M c q) (zC D cy ad n K N G) V L 0 ls [] := by
  unfold g_X10_burn at hf
  refine z_aload_n X.1.1 dX10_burn_0 rfl (lv_at hl 0 rfl) ?_
  obtain ⟨v1, hG1, hf⟩ := z_bind hf
  have hv1 := X.1.2.2.get hy0 (k := 2) (c := 7) rfl hG1
  refine c_geta X.1 hy0 cf_X10_20 hG1 dX10_burn_1 ?_
  refine z_iload_n X.1.1 dX10_burn_4 rfl (lv_at hl 1 rfl) ?_
  refine z_iload_n X.1.1 dX10_burn_5 rfl (lv_at hl 2 rfl) ?_
  obtain ⟨r2, hc2, hf⟩ := z_bind hf
  refine c_callVi [.int x1, .int x2] X.1 hl.1 (c_X9_isPair D cy ad X.1.2.2 hv1 hc2) hv1 ⟨by decide, rfl⟩ cm_X10_162 cw_X9_isPair rfl cq_X9_isPair ⟨by decide, by decide⟩ (Nat.le_of_ble_eq_true rfl) rfl dX10_burn_6 ?_
  refine z_if_eq (tgt := 24) X.1.1 dX10_burn_9 (by decide) (fun c_ => ?_) (fun c_ => ?_)
  · have hf := (if_pos c_).symm.trans hf
    exact w_X10_burn_24 Z hC y0 n c q K N G V L ad ls X ha hn0 hk0 hy0 (lv_sub hl [0] rfl) hf
  · have hf := (if_neg c_).symm.trans hf
    refine z_aload_n X.1.1 dX10_burn_12 rfl (lv_at hl 0 rfl) ?_
    obtain ⟨v3, hG3, hf⟩ := z_bind hf
    have hv3 := X.1.2.2.get hy0 (k := 5) (c := 5) rfl hG3
    refine c_geta X.1 hy0 cf_X10_33 hG3 dX10_burn_13 ?_
    refine z_iload_n X.1.1 dX10_burn_16 rfl (lv_at hl 1 rfl) ?_
    refine z_iload_n X.1.1 dX10_burn_17 rfl (lv_at hl 2 rfl) ?_
    obtain ⟨r4, hc4, hf⟩ := z_bind hf
    refine c_callVi [.int x1, .int x2] X.1 hl.1 (c_X7_heldBy D cy ad X.1.2.2 hv3 hc4) hv3 ⟨by decide, rfl⟩ cm_X10_257 cw_X7_heldBy rfl cq_X7_heldBy ⟨by decide, by decide⟩ (Nat.le_of_ble_eq_true rfl) rfl dX10_burn_18 ?_
    refine z_if_ne (tgt := 30) X.1.1 dX10_burn_21 (by decide) (fun c_ => ?_) (fun c_ => ?_)
    · have hf := (if_neg c_).symm.trans hf
      refine z_aload_n X.1.1 dX10_burn_30 rfl (lv_at hl 0 rfl) ?_
      obtain ⟨r5, hc5, hf⟩ := z_bind hf
      have hm := m_X10_burn_34 y0 x1 x2 r5.1 (c + r5.2.1) (q + r5.2.2.1) r5.2.2.2.1 r5.2.2.2.2.1 r5.2.2.2.2.2.1 r5.2.2.2.2.2.2.1 r5.2.2.2.2.2.2.2 hf
      refine a_callVv [] X hl.1 (c_X10_remember D cy ad X.1.2.2 hy0 hc5) hy0 ⟨by decide, rfl⟩ cm_X10_266 cw_X10_remember rfl cq_X10_remember ⟨by decide, by decide⟩ (Nat.le_of_ble_eq_true rfl) rfl ⟨by rw [hC.1]; exact hm.1, by rw [hC.2]; exact hm.2⟩ dX10_burn_31 (fun ad' hag hnn hKg X => ?_)
      rw [← hag y0 hy0.1] at hl
      exact w_X10_burn_34 Z hC y0 x1 x2 r5.1 (c + r5.2.1) (q + r5.2.2.1) r5.2.2.2.1 r5.2.2.2.2.1 r5.2.2.2.2.2.1 r5.2.2.2.2.2.2.1 r5.2.2.2.2.2.2.2 ad' ls X (zag_up ha hn0 hag) (by omega) (zag_up hk0 hn0 hKg) (zh_ext hy0 hnn hKg) (lv_sub hl [0, 1, 2] rfl) hf
    · have hf := (if_pos c_).symm.trans hf
      exact w_X10_burn_24 Z hC y0 n c q K N G V L ad ls X ha hn0 hk0 hy0 (lv_sub hl [0] rfl) hf

theorem c_X10_burn (D : va_G) (cy : Nat → ClassId) (ad : Nat → Nat) {n : Nat} {K N : Nat → Nat} {G : zG} (hWF : zWF n K G) {y0 : Nat} {x1 : Int32} {x2 : Int32} {V : zI} {L : zL} (hy0 : y0 < n ∧ K y0 = 8) {r' : Int32 × zS} (hf : f_X10_burn y0 x1 x2 n K N G V L = some r') : RAi D cy ad n K N G yX10_burn cX10_burn 4 .int 3 104 [.ref (ad y0), .int x1, .int x2] V L r'.1 r'.2 :=
  RAi.of (by decide) hWF (Nat.le_of_ble_eq_true rfl) (fun M X Z hC hnm ls hl => w_X10_burn Z hC y0 x1 x2 n 0 0 K N G V L ad ls X (fun _ _ => rfl) (Nat.le_refl _) (fun _ _ => rfl) hy0 hl hf)
