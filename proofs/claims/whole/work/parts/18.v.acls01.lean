def f_X10_wide_7 (y0 : Nat) (t0 : Nat) (x1 : Int32) (n c q : Nat) (K N : Nat → Nat) (G : zG) (V : zI) (L : zL) : Option (Int32 × zS) :=
  (G y0 2).bind fun v1 => (G y0 2).bind fun v2 => (G y0 5).bind fun v3 => (f_X6_open N G v2 v3 V L).bind fun r4 => (f_X2_seekWide N G t0 v1 r4 V L).bind fun r5 => (f_X2_tell N G t0 x1 r5.1 r5.2).bind fun r6 => some (r6, n, c, q, K, N, G, r5.1, r5.2)
def f_X10_wide_3 (y0 : Nat) (t0 : Nat) (x1 : Int32) (n c q : Nat) (K N : Nat → Nat) (G : zG) (V : zI) (L : zL) : Option (Int32 × zS) :=
  (f_X2_init t0 n K N G V L).bind fun r1 => f_X10_wide_7 y0 t0 x1 r1.1 (c + r1.2.1) (q + r1.2.2.1) r1.2.2.2.1 r1.2.2.2.2.1 r1.2.2.2.2.2.1 r1.2.2.2.2.2.2.1 r1.2.2.2.2.2.2.2
def g_X10_wide (y0 : Nat) (x1 : Int32) (n c q : Nat) (K N : Nat → Nat) (G : zG) (V : zI) (L : zL) : Option (Int32 × zS) :=
  f_X10_wide_3 y0 n x1 (n + 1) (c + 1) (q + 8) (kU K n 2) N (kU G n zn0) (kU V n (fun _ => 0)) (kU L n (fun _ => 0))
def f_X10_wide (y0 : Nat) (x1 : Int32) (n : Nat) (K N : Nat → Nat) (G : zG) (V : zI) (L : zL) : Option (Int32 × zS) := g_X10_wide y0 x1 n 0 0 K N G V L
set_option maxHeartbeats 4000000 in
set_option maxRecDepth 100000 in
theorem m_X10_wide_7 (y0 : Nat) (t0 : Nat) (x1 : Int32) (n c q : Nat) (K N : Nat → Nat) (G : zG) (V : zI) (L : zL) {r' : Int32 × zS} (hf : f_X10_wide_7 y0 t0 x1 n c q K N G V L = some r') : c ≤ r'.2.2.1 ∧ q ≤ r'.2.2.2.1 := by
  unfold f_X10_wide_7 at hf
  obtain ⟨v1, hG1, hf⟩ := z_bind hf
  obtain ⟨v2, hG2, hf⟩ := z_bind hf
  obtain ⟨v3, hG3, hf⟩ := z_bind hf
  obtain ⟨r4, hc4, hf⟩ := z_bind hf
  obtain ⟨r5, hc5, hf⟩ := z_bind hf
  obtain ⟨r6, hc6, hf⟩ := z_bind hf
  cases hf
  exact ⟨Nat.le_refl _, Nat.le_refl _⟩

set_option maxHeartbeats 4000000 in
set_option maxRecDepth 100000 in
theorem m_X10_wide_3 (y0 : Nat) (t0 : Nat) (x1 : Int32) (n c q : Nat) (K N : Nat → Nat) (G : zG) (V : zI) (L : zL) {r' : Int32 × zS} (hf : f_X10_wide_3 y0 t0 x1 n c q K N G V L = some r') : c ≤ r'.2.2.1 ∧ q ≤ r'.2.2.2.1 := by
  unfold f_X10_wide_3 at hf
  obtain ⟨r1, hc1, hf⟩ := z_bind hf
  have hm := m_X10_wide_7 y0 t0 x1 r1.1 (c + r1.2.1) (q + r1.2.2.1) r1.2.2.2.1 r1.2.2.2.2.1 r1.2.2.2.2.2.1 r1.2.2.2.2.2.2.1 r1.2.2.2.2.2.2.2 hf
  exact ⟨by omega, by omega⟩

set_option maxHeartbeats 4000000 in
set_option maxRecDepth 100000 in
theorem w_X10_wide_7 {M : zM} {D : va_G} {cy : Nat → ClassId} {ad0 K0 : Nat → Nat} {n0 : Nat} {r' : Int32 × zS} (Z : RZAi M D cy ad0 n0 K0 .int r'.1 r'.2) (hC : M.2.2.2.1.cells = r'.2.2.1 ∧ M.2.2.2.1.slots = r'.2.2.2.1) (y0 : Nat) (t0 : Nat) (x1 : Int32) (n c q : Nat) (K N : Nat → Nat) (G : zG) (V : zI) (L : zL) (ad : Nat → Nat) (ls : Array Slot) (X : RXA M D cy ad n c q K N G cX10_wide 3 RX10 15 375) (ha : ∀ w, w < n0 → ad w = ad0 w) (hn0 : n0 ≤ n) (hk0 : ∀ w, w < n0 → K w = K0 w) (hy0 : y0 < n ∧ K y0 = 8) (ht0 : t0 < n ∧ K t0 = 2) (hl : lv_has ls 3 [(0, .ref (ad y0)), (1, .int x1)]) (hf : f_X10_wide_7 y0 t0 x1 n c q K N G V L = some r') : RG (zMb M c q) (zC D cy ad n K N G) V L 7 ls [.ref (ad t0)] := by
  unfold f_X10_wide_7 at hf
  refine c_astore_n (lv' := [(2, .ref (ad t0)), (0, .ref (ad y0)), (1, .int x1)]) X.1 dX10_wide_7 rfl hl (by decide) rfl (fun ls hl => ?_)
  refine z_aload_n X.1.1 dX10_wide_8 rfl (lv_at hl 0 rfl) ?_
  refine z_aload_n X.1.1 dX10_wide_9 rfl (lv_at hl 1 rfl) ?_
  obtain ⟨v1, hG1, hf⟩ := z_bind hf
  have hv1 := X.1.2.2.get hy0 (k := 2) (c := 7) rfl hG1
  refine c_geta X.1 hy0 cf_X10_20 hG1 dX10_wide_10 ?_
  refine z_aload_n X.1.1 dX10_wide_13 rfl (lv_at hl 1 rfl) ?_
  obtain ⟨v2, hG2, hf⟩ := z_bind hf
  have hv2 := X.1.2.2.get hy0 (k := 2) (c := 7) rfl hG2
  refine c_geta X.1 hy0 cf_X10_20 hG2 dX10_wide_14 ?_
  refine z_aload_n X.1.1 dX10_wide_17 rfl (lv_at hl 1 rfl) ?_
  obtain ⟨v3, hG3, hf⟩ := z_bind hf
  have hv3 := X.1.2.2.get hy0 (k := 5) (c := 5) rfl hG3
  refine c_geta X.1 hy0 cf_X10_33 hG3 dX10_wide_18 ?_
  obtain ⟨r4, hc4, hf⟩ := z_bind hf
  refine c_callSl [.ref (ad v2), .ref (ad v3)] X.1 hl.1 (c_X6_open D cy ad X.1.2.2 hv2 hv3 hc4) cm_X10_207 cw_X6_open rfl cq_X6_open ⟨by decide, by decide⟩ (Nat.le_of_ble_eq_true rfl) rfl dX10_wide_21 ?_
  obtain ⟨r5, hc5, hf⟩ := z_bind hf
  refine c_callVv [.ref (ad v1), .long r4] X.1 hl.1 (c_X2_seekWide D cy ad X.1.2.2 ht0 hv1 hc5) ht0 ⟨by decide, rfl⟩ cm_X10_220 cw_X2_seekWide rfl cq_X2_seekWide ⟨by decide, by decide⟩ (Nat.le_of_ble_eq_true rfl) rfl dX10_wide_24 ?_
  refine z_aload_n X.1.1 dX10_wide_27 rfl (lv_at hl 0 rfl) ?_
  refine z_iload_n X.1.1 dX10_wide_28 rfl (lv_at hl 2 rfl) ?_
  obtain ⟨r6, hc6, hf⟩ := z_bind hf
  refine c_callVi [.int x1] X.1 hl.1 (c_X2_tell D cy ad X.1.2.2 ht0 hc6) ht0 ⟨by decide, rfl⟩ cm_X10_224 cw_X2_tell rfl cq_X2_tell ⟨by decide, by decide⟩ (Nat.le_of_ble_eq_true rfl) rfl dX10_wide_29 ?_
  exact a_iret X Z ha hn0 hk0 hf rfl dX10_wide_32

set_option maxHeartbeats 4000000 in
set_option maxRecDepth 100000 in
theorem w_X10_wide_3 {M : zM} {D : va_G} {cy : Nat → ClassId} {ad0 K0 : Nat → Nat} {n0 : Nat} {r' : Int32 × zS} (Z : RZAi M D cy ad0 n0 K0 .int r'.1 r'.2) (hC : M.2.2.2.1.cells = r'.2.2.1 ∧ M.2.2.2.1.slots = r'.2.2.2.1) (y0 : Nat) (t0 : Nat) (x1 : Int32) (n c q : Nat) (K N : Nat → Nat) (G : zG) (V : zI) (L : zL) (ad : Nat → Nat) (ls : Array Slot) (X : RXA M D cy ad n c q K N G cX10_wide 3 RX10 15 375) (ha : ∀ w, w < n0 → ad w = ad0 w) (hn0 : n0 ≤ n) (hk0 : ∀ w, w < n0 → K w = K0 w) (hy0 : y0 < n ∧ K y0 = 8) (ht0 : t0 < n ∧ K t0 = 2) (hl : lv_has ls 3 [(0, .ref (ad y0)), (1, .int x1)]) (hf : f_X10_wide_3 y0 t0 x1 n c q K N G V L = some r') : RG (zMb M c q) (zC D cy ad n K N G) V L 3 ls [.ref (ad t0)] := by
  unfold f_X10_wide_3 at hf
  refine z_dup X.1.1 dX10_wide_3 rfl ?_
  obtain ⟨r1, hc1, hf⟩ := z_bind hf
  have hm := m_X10_wide_7 y0 t0 x1 r1.1 (c + r1.2.1) (q + r1.2.2.1) r1.2.2.2.1 r1.2.2.2.2.1 r1.2.2.2.2.2.1 r1.2.2.2.2.2.2.1 r1.2.2.2.2.2.2.2 hf
  refine a_callIv [] X hl.1 (c_X2_init D cy ad X.1.2.2 ht0 hc1) ht0 ⟨by decide, rfl⟩ cm_X10_219 cx_X2_init rfl cq_X2_init ⟨by decide, by decide⟩ (Nat.le_of_ble_eq_true rfl) rfl ⟨by rw [hC.1]; exact hm.1, by rw [hC.2]; exact hm.2⟩ dX10_wide_4 (fun ad' hag hnn hKg X => ?_)
  rw [← hag y0 hy0.1] at hl
  rw [← hag t0 ht0.1]
  exact w_X10_wide_7 Z hC y0 t0 x1 r1.1 (c + r1.2.1) (q + r1.2.2.1) r1.2.2.2.1 r1.2.2.2.2.1 r1.2.2.2.2.2.1 r1.2.2.2.2.2.2.1 r1.2.2.2.2.2.2.2 ad' ls X (zag_up ha hn0 hag) (by omega) (zag_up hk0 hn0 hKg) (zh_ext hy0 hnn hKg) (zh_ext ht0 hnn hKg) (lv_sub hl [0, 1] rfl) hf

set_option maxHeartbeats 4000000 in
set_option maxRecDepth 100000 in
theorem w_X10_wide {M : zM} {D : va_G} {cy : Nat → ClassId} {ad0 K0 : Nat → Nat} {n0 : Nat} {r' : Int32 × zS} (Z : RZAi M D cy ad0 n0 K0 .int r'.1 r'.2) (hC : M.2.2.2.1.cells = r'.2.2.1 ∧ M.2.2.2.1.slots = r'.2.2.2.1) (y0 : Nat) (x1 : Int32) (n c q : Nat) (K N : Nat → Nat) (G : zG) (V : zI) (L : zL) (ad : Nat → Nat) (ls : Array Slot) (X : RXA M D cy ad n c q K N G cX10_wide 3 RX10 15 375) (ha : ∀ w, w < n0 → ad w = ad0 w) (hn0 : n0 ≤ n) (hk0 : ∀ w, w < n0 → K w = K0 w) (hy0 : y0 < n ∧ K y0 = 8) (hl : lv_has ls 3 [(0, .ref (ad y0)), (1, .int x1)]) (hf : g_X10_wide y0 x1 n c q K N G V L = some r') : RG (zMb M c q) (zC D cy ad n K N G) V L 0 ls [] := by
  unfold g_X10_wide at hf
  have hm := m_X10_wide_3 y0 n x1 (n + 1) (c + 1) (q + 8) (kU K n 2) N (kU G n zn0) (kU V n (fun _ => 0)) (kU L n (fun _ => 0)) hf
  refine a_new (ci := 2) X ci_X2 cg_X2.1 dv_X2 cn_X10_217 ⟨by rw [hC.1]; exact hm.1, by rw [hC.2]; exact hm.2⟩ dX10_wide_0 (fun ad' hag X => ?_)
  rw [← hag y0 hy0.1] at hl
  exact w_X10_wide_3 Z hC y0 n x1 (n + 1) (c + 1) (q + 8) (kU K n 2) N (kU G n zn0) (kU V n (fun _ => 0)) (kU L n (fun _ => 0)) ad' ls X (zag_up ha hn0 hag) (by omega) (zag_up hk0 hn0 (fun w h => kU_ne (by omega))) (zh_up hy0) zh_new (lv_sub hl [0, 1] rfl) hf

theorem c_X10_wide (D : va_G) (cy : Nat → ClassId) (ad : Nat → Nat) {n : Nat} {K N : Nat → Nat} {G : zG} (hWF : zWF n K G) {y0 : Nat} {x1 : Int32} {V : zI} {L : zL} (hy0 : y0 < n ∧ K y0 = 8) {r' : Int32 × zS} (hf : f_X10_wide y0 x1 n K N G V L = some r') : RAi D cy ad n K N G yX10_wide cX10_wide 3 .int 15 375 [.ref (ad y0), .int x1] V L r'.1 r'.2 :=
  RAi.of (by decide) hWF (Nat.le_of_ble_eq_true rfl) (fun M X Z hC hnm ls hl => w_X10_wide Z hC y0 x1 n 0 0 K N G V L ad ls X (fun _ _ => rfl) (Nat.le_refl _) (fun _ _ => rfl) hy0 hl hf)
def f_X10_cut_21 (y0 : Nat) (t0 : Nat) (x1 : Int32) (x2 : Int32) (x3 : Int32) (n c q : Nat) (K N : Nat → Nat) (G : zG) (V : zI) (L : zL) : Option (Int32 × zS) :=
  (G y0 2).bind fun v1 => (G y0 5).bind fun v2 => (f_X6_open N G v1 v2 V L).bind fun r3 => (f_X2_seekCut N G t0 x1 x2 r3 V L).bind fun r4 => (f_X2_tell N G t0 x3 r4.1 r4.2).bind fun r5 => some (r5, n, c, q, K, N, G, r4.1, r4.2)
def f_X10_cut_17 (y0 : Nat) (t0 : Nat) (x1 : Int32) (x2 : Int32) (x3 : Int32) (n c q : Nat) (K N : Nat → Nat) (G : zG) (V : zI) (L : zL) : Option (Int32 × zS) :=
  (f_X2_init t0 n K N G V L).bind fun r1 => f_X10_cut_21 y0 t0 x1 x2 x3 r1.1 (c + r1.2.1) (q + r1.2.2.1) r1.2.2.2.1 r1.2.2.2.2.1 r1.2.2.2.2.2.1 r1.2.2.2.2.2.2.1 r1.2.2.2.2.2.2.2
def g_X10_cut (y0 : Nat) (x1 : Int32) (x2 : Int32) (x3 : Int32) (n c q : Nat) (K N : Nat → Nat) (G : zG) (V : zI) (L : zL) : Option (Int32 × zS) :=
  (G y0 2).bind fun v1 => (f_X9_isPair N G v1 x1 x2 V L).bind fun r2 => (if r2 = 0 then some ((-1), n, c, q, K, N, G, V, L) else f_X10_cut_17 y0 n x1 x2 x3 (n + 1) (c + 1) (q + 8) (kU K n 2) N (kU G n zn0) (kU V n (fun _ => 0)) (kU L n (fun _ => 0)))
def f_X10_cut (y0 : Nat) (x1 : Int32) (x2 : Int32) (x3 : Int32) (n : Nat) (K N : Nat → Nat) (G : zG) (V : zI) (L : zL) : Option (Int32 × zS) := g_X10_cut y0 x1 x2 x3 n 0 0 K N G V L
set_option maxHeartbeats 4000000 in
set_option maxRecDepth 100000 in
theorem m_X10_cut_21 (y0 : Nat) (t0 : Nat) (x1 : Int32) (x2 : Int32) (x3 : Int32) (n c q : Nat) (K N : Nat → Nat) (G : zG) (V : zI) (L : zL) {r' : Int32 × zS} (hf : f_X10_cut_21 y0 t0 x1 x2 x3 n c q K N G V L = some r') : c ≤ r'.2.2.1 ∧ q ≤ r'.2.2.2.1 := by
  unfold f_X10_cut_21 at hf
  obtain ⟨v1, hG1, hf⟩ := z_bind hf
  obtain ⟨v2, hG2, hf⟩ := z_bind hf
  obtain ⟨r3, hc3, hf⟩ := z_bind hf
  obtain ⟨r4, hc4, hf⟩ := z_bind hf
  obtain ⟨r5, hc5, hf⟩ := z_bind hf
  cases hf
  exact ⟨Nat.le_refl _, Nat.le_refl _⟩

set_option maxHeartbeats 4000000 in
set_option maxRecDepth 100000 in
theorem m_X10_cut_17 (y0 : Nat) (t0 : Nat) (x1 : Int32) (x2 : Int32) (x3 : Int32) (n c q : Nat) (K N : Nat → Nat) (G : zG) (V : zI) (L : zL) {r' : Int32 × zS} (hf : f_X10_cut_17 y0 t0 x1 x2 x3 n c q K N G V L = some r') : c ≤ r'.2.2.1 ∧ q ≤ r'.2.2.2.1 := by
  unfold f_X10_cut_17 at hf
  obtain ⟨r1, hc1, hf⟩ := z_bind hf
  have hm := m_X10_cut_21 y0 t0 x1 x2 x3 r1.1 (c + r1.2.1) (q + r1.2.2.1) r1.2.2.2.1 r1.2.2.2.2.1 r1.2.2.2.2.2.1 r1.2.2.2.2.2.2.1 r1.2.2.2.2.2.2.2 hf
  exact ⟨by omega, by omega⟩

set_option maxHeartbeats 4000000 in
set_option maxRecDepth 100000 in
theorem w_X10_cut_21 {M : zM} {D : va_G} {cy : Nat → ClassId} {ad0 K0 : Nat → Nat} {n0 : Nat} {r' : Int32 × zS} (Z : RZAi M D cy ad0 n0 K0 .int r'.1 r'.2) (hC : M.2.2.2.1.cells = r'.2.2.1 ∧ M.2.2.2.1.slots = r'.2.2.2.1) (y0 : Nat) (t0 : Nat) (x1 : Int32) (x2 : Int32) (x3 : Int32) (n c q : Nat) (K N : Nat → Nat) (G : zG) (V : zI) (L : zL) (ad : Nat → Nat) (ls : Array Slot) (X : RXA M D cy ad n c q K N G cX10_cut 5 RX10 15 376) (ha : ∀ w, w < n0 → ad w = ad0 w) (hn0 : n0 ≤ n) (hk0 : ∀ w, w < n0 → K w = K0 w) (hy0 : y0 < n ∧ K y0 = 8) (ht0 : t0 < n ∧ K t0 = 2) (hl : lv_has ls 5 [(0, .ref (ad y0)), (1, .int x1), (2, .int x2), (3, .int x3)]) (hf : f_X10_cut_21 y0 t0 x1 x2 x3 n c q K N G V L = some r') : RG (zMb M c q) (zC D cy ad n K N G) V L 21 ls [.ref (ad t0)] := by
  unfold f_X10_cut_21 at hf
  refine c_astore (lv' := [(4, .ref (ad t0)), (0, .ref (ad y0)), (1, .int x1), (2, .int x2), (3, .int x3)]) X.1 dX10_cut_21 hl (by decide) rfl (fun ls hl => ?_)
  refine z_aload X.1.1 dX10_cut_23 (lv_at hl 0 rfl) ?_
  refine z_iload_n X.1.1 dX10_cut_25 rfl (lv_at hl 2 rfl) ?_
  refine z_iload_n X.1.1 dX10_cut_26 rfl (lv_at hl 3 rfl) ?_
  refine z_aload_n X.1.1 dX10_cut_27 rfl (lv_at hl 1 rfl) ?_
  obtain ⟨v1, hG1, hf⟩ := z_bind hf
  have hv1 := X.1.2.2.get hy0 (k := 2) (c := 7) rfl hG1
  refine c_geta X.1 hy0 cf_X10_20 hG1 dX10_cut_28 ?_
  refine z_aload_n X.1.1 dX10_cut_31 rfl (lv_at hl 1 rfl) ?_
  obtain ⟨v2, hG2, hf⟩ := z_bind hf
  have hv2 := X.1.2.2.get hy0 (k := 5) (c := 5) rfl hG2
  refine c_geta X.1 hy0 cf_X10_33 hG2 dX10_cut_32 ?_
  obtain ⟨r3, hc3, hf⟩ := z_bind hf
  refine c_callSl [.ref (ad v1), .ref (ad v2)] X.1 hl.1 (c_X6_open D cy ad X.1.2.2 hv1 hv2 hc3) cm_X10_207 cw_X6_open rfl cq_X6_open ⟨by decide, by decide⟩ (Nat.le_of_ble_eq_true rfl) rfl dX10_cut_35 ?_
  obtain ⟨r4, hc4, hf⟩ := z_bind hf
  refine c_callVv [.int x1, .int x2, .long r3] X.1 hl.1 (c_X2_seekCut D cy ad X.1.2.2 ht0 hc4) ht0 ⟨by decide, rfl⟩ cm_X10_227 cw_X2_seekCut rfl cq_X2_seekCut ⟨by decide, by decide⟩ (Nat.le_of_ble_eq_true rfl) rfl dX10_cut_38 ?_
  refine z_aload X.1.1 dX10_cut_41 (lv_at hl 0 rfl) ?_
  refine z_iload_n X.1.1 dX10_cut_43 rfl (lv_at hl 4 rfl) ?_
  obtain ⟨r5, hc5, hf⟩ := z_bind hf
  refine c_callVi [.int x3] X.1 hl.1 (c_X2_tell D cy ad X.1.2.2 ht0 hc5) ht0 ⟨by decide, rfl⟩ cm_X10_224 cw_X2_tell rfl cq_X2_tell ⟨by decide, by decide⟩ (Nat.le_of_ble_eq_true rfl) rfl dX10_cut_44 ?_
  exact a_iret X Z ha hn0 hk0 hf rfl dX10_cut_47

set_option maxHeartbeats 4000000 in
set_option maxRecDepth 100000 in
theorem w_X10_cut_17 {M : zM} {D : va_G} {cy : Nat → ClassId} {ad0 K0 : Nat → Nat} {n0 : Nat} {r' : Int32 × zS} (Z : RZAi M D cy ad0 n0 K0 .int r'.1 r'.2) (hC : M.2.2.2.1.cells = r'.2.2.1 ∧ M.2.2.2.1.slots = r'.2.2.2.1) (y0 : Nat) (t0 : Nat) (x1 : Int32) (x2 : Int32) (x3 : Int32) (n c q : Nat) (K N : Nat → Nat) (G : zG) (V : zI) (L : zL) (ad : Nat → Nat) (ls : Array Slot) (X : RXA M D cy ad n c q K N G cX10_cut 5 RX10 15 376) (ha : ∀ w, w < n0 → ad w = ad0 w) (hn0 : n0 ≤ n) (hk0 : ∀ w, w < n0 → K w = K0 w) (hy0 : y0 < n ∧ K y0 = 8) (ht0 : t0 < n ∧ K t0 = 2) (hl : lv_has ls 5 [(0, .ref (ad y0)), (1, .int x1), (2, .int x2), (3, .int x3)]) (hf : f_X10_cut_17 y0 t0 x1 x2 x3 n c q K N G V L = some r') : RG (zMb M c q) (zC D cy ad n K N G) V L 17 ls [.ref (ad t0)] := by
  unfold f_X10_cut_17 at hf
  refine z_dup X.1.1 dX10_cut_17 rfl ?_
  obtain ⟨r1, hc1, hf⟩ := z_bind hf
  have hm := m_X10_cut_21 y0 t0 x1 x2 x3 r1.1 (c + r1.2.1) (q + r1.2.2.1) r1.2.2.2.1 r1.2.2.2.2.1 r1.2.2.2.2.2.1 r1.2.2.2.2.2.2.1 r1.2.2.2.2.2.2.2 hf
  refine a_callIv [] X hl.1 (c_X2_init D cy ad X.1.2.2 ht0 hc1) ht0 ⟨by decide, rfl⟩ cm_X10_219 cx_X2_init rfl cq_X2_init ⟨by decide, by decide⟩ (Nat.le_of_ble_eq_true rfl) rfl ⟨by rw [hC.1]; exact hm.1, by rw [hC.2]; exact hm.2⟩ dX10_cut_18 (fun ad' hag hnn hKg X => ?_)
  rw [← hag y0 hy0.1] at hl
  rw [← hag t0 ht0.1]
  exact w_X10_cut_21 Z hC y0 t0 x1 x2 x3 r1.1 (c + r1.2.1) (q + r1.2.2.1) r1.2.2.2.1 r1.2.2.2.2.1 r1.2.2.2.2.2.1 r1.2.2.2.2.2.2.1 r1.2.2.2.2.2.2.2 ad' ls X (zag_up ha hn0 hag) (by omega) (zag_up hk0 hn0 hKg) (zh_ext hy0 hnn hKg) (zh_ext ht0 hnn hKg) (lv_sub hl [0, 1, 2, 3] rfl) hf

set_option maxHeartbeats 4000000 in
set_option maxRecDepth 100000 in
theorem w_X10_cut {M : zM} {D : va_G} {cy : Nat → ClassId} {ad0 K0 : Nat → Nat} {n0 : Nat} {r' : Int32 × zS} (Z : RZAi M D cy ad0 n0 K0 .int r'.1 r'.2) (hC : M.2.2.2.1.cells = r'.2.2.1 ∧ M.2.2.2.1.slots = r'.2.2.2.1) (y0 : Nat) (x1 : Int32) (x2 : Int32) (x3 : Int32) (n c q : Nat) (K N : Nat → Nat) (G : zG) (V : zI) (L : zL) (ad : Nat → Nat) (ls : Array Slot) (X : RXA M D cy ad n c q K N G cX10_cut 5 RX10 15 376) (ha : ∀ w, w < n0 → ad w = ad0 w) (hn0 : n0 ≤ n) (hk0 : ∀ w, w < n0 → K w = K0 w) (hy0 : y0 < n ∧ K y0 = 8) (hl : lv_has ls 5 [(0, .ref (ad y0)), (1, .int x1), (2, .int x2), (3, .int x3)]) (hf : g_X10_cut y0 x1 x2 x3 n c q K N G V L = some r') : RG (zMb M c q) (zC D cy ad n K N G) V L 0 ls [] := by
  unfold g_X10_cut at hf
  refine z_aload_n X.1.1 dX10_cut_0 rfl (lv_at hl 0 rfl) ?_
  obtain ⟨v1, hG1, hf⟩ := z_bind hf
  have hv1 := X.1.2.2.get hy0 (k := 2) (c := 7) rfl hG1
  refine c_geta X.1 hy0 cf_X10_20 hG1 dX10_cut_1 ?_
  refine z_iload_n X.1.1 dX10_cut_4 rfl (lv_at hl 1 rfl) ?_
  refine z_iload_n X.1.1 dX10_cut_5 rfl (lv_at hl 2 rfl) ?_
  obtain ⟨r2, hc2, hf⟩ := z_bind hf
  refine c_callVi [.int x1, .int x2] X.1 hl.1 (c_X9_isPair D cy ad X.1.2.2 hv1 hc2) hv1 ⟨by decide, rfl⟩ cm_X10_162 cw_X9_isPair rfl cq_X9_isPair ⟨by decide, by decide⟩ (Nat.le_of_ble_eq_true rfl) rfl dX10_cut_6 ?_
  refine z_if_ne (tgt := 14) X.1.1 dX10_cut_9 (by decide) (fun c_ => ?_) (fun c_ => ?_)
  · have hf := (if_neg c_).symm.trans hf
    have hm := m_X10_cut_17 y0 n x1 x2 x3 (n + 1) (c + 1) (q + 8) (kU K n 2) N (kU G n zn0) (kU V n (fun _ => 0)) (kU L n (fun _ => 0)) hf
    refine a_new (ci := 2) X ci_X2 cg_X2.1 dv_X2 cn_X10_217 ⟨by rw [hC.1]; exact hm.1, by rw [hC.2]; exact hm.2⟩ dX10_cut_14 (fun ad' hag X => ?_)
    rw [← hag y0 hy0.1] at hl
    exact w_X10_cut_17 Z hC y0 n x1 x2 x3 (n + 1) (c + 1) (q + 8) (kU K n 2) N (kU G n zn0) (kU V n (fun _ => 0)) (kU L n (fun _ => 0)) ad' ls X (zag_up ha hn0 hag) (by omega) (zag_up hk0 hn0 (fun w h => kU_ne (by omega))) (zh_up hy0) zh_new (lv_sub hl [0, 1, 2, 3] rfl) hf
  · have hf := (if_pos c_).symm.trans hf
    refine z_iconst (v := -1) X.1.1 dX10_cut_12 (by decide) ?_
    exact a_iret X Z ha hn0 hk0 hf rfl dX10_cut_13

theorem c_X10_cut (D : va_G) (cy : Nat → ClassId) (ad : Nat → Nat) {n : Nat} {K N : Nat → Nat} {G : zG} (hWF : zWF n K G) {y0 : Nat} {x1 : Int32} {x2 : Int32} {x3 : Int32} {V : zI} {L : zL} (hy0 : y0 < n ∧ K y0 = 8) {r' : Int32 × zS} (hf : f_X10_cut y0 x1 x2 x3 n K N G V L = some r') : RAi D cy ad n K N G yX10_cut cX10_cut 5 .int 15 376 [.ref (ad y0), .int x1, .int x2, .int x3] V L r'.1 r'.2 :=
  RAi.of (by decide) hWF (Nat.le_of_ble_eq_true rfl) (fun M X Z hC hnm ls hl => w_X10_cut Z hC y0 x1 x2 x3 n 0 0 K N G V L ad ls X (fun _ _ => rfl) (Nat.le_refl _) (fun _ _ => rfl) hy0 hl hf)
def f_X10_swap_18 (y0 : Nat) (t0 : Nat) (x1 : Int32) (n c q : Nat) (K N : Nat → Nat) (G : zG) (V : zI) (L : zL) : Option (Int32 × zS) :=
  (G y0 2).bind fun v1 => (G y0 5).bind fun v2 => (G y0 7).bind fun v3 => (f_X0_weigh N G t0 v1 v2 v3 V L).bind fun r4 => (G y0 2).bind fun v5 => (f_X0_seekBest N G t0 (r4.1 v5 0) r4.1 r4.2).bind fun r6 => (G t0 4).bind fun v7 => if inB (4 : Int32) (N v7) then (if (r6.1 v7 (4 : Int32).toNatClampNeg) ≤ 0 then some ((-1), n, c, q, K, N, G, r6.1, r6.2) else (G t0 4).bind fun v9 => if inB x1 (N v9) then some (r6.1 v9 x1.toNatClampNeg, n, c, q, K, N, G, r6.1, r6.2) else none) else none
def f_X10_swap_14 (y0 : Nat) (t0 : Nat) (x1 : Int32) (n c q : Nat) (K N : Nat → Nat) (G : zG) (V : zI) (L : zL) : Option (Int32 × zS) :=
  (f_X0_init t0 n K N G V L).bind fun r1 => f_X10_swap_18 y0 t0 x1 r1.1 (c + r1.2.1) (q + r1.2.2.1) r1.2.2.2.1 r1.2.2.2.2.1 r1.2.2.2.2.2.1 r1.2.2.2.2.2.2.1 r1.2.2.2.2.2.2.2
def g_X10_swap (y0 : Nat) (x1 : Int32) (n c q : Nat) (K N : Nat → Nat) (G : zG) (V : zI) (L : zL) : Option (Int32 × zS) :=
  (if x1 < 0 then some ((-1), n, c, q, K, N, G, V, L) else (if x1 < 5 then f_X10_swap_14 y0 n x1 (n + 1) (c + 1) (q + 6) (kU K n 0) N (kU G n zn0) (kU V n (fun _ => 0)) (kU L n (fun _ => 0)) else some ((-1), n, c, q, K, N, G, V, L)))
def f_X10_swap (y0 : Nat) (x1 : Int32) (n : Nat) (K N : Nat → Nat) (G : zG) (V : zI) (L : zL) : Option (Int32 × zS) := g_X10_swap y0 x1 n 0 0 K N G V L
set_option maxHeartbeats 4000000 in
set_option maxRecDepth 100000 in
theorem m_X10_swap_18 (y0 : Nat) (t0 : Nat) (x1 : Int32) (n c q : Nat) (K N : Nat → Nat) (G : zG) (V : zI) (L : zL) {r' : Int32 × zS} (hf : f_X10_swap_18 y0 t0 x1 n c q K N G V L = some r') : c ≤ r'.2.2.1 ∧ q ≤ r'.2.2.2.1 := by
  unfold f_X10_swap_18 at hf
  obtain ⟨v1, hG1, hf⟩ := z_bind hf
  obtain ⟨v2, hG2, hf⟩ := z_bind hf
  obtain ⟨v3, hG3, hf⟩ := z_bind hf
  obtain ⟨r4, hc4, hf⟩ := z_bind hf
  obtain ⟨v5, hG5, hf⟩ := z_bind hf
  obtain ⟨r6, hc6, hf⟩ := z_bind hf
  obtain ⟨v7, hG7, hf⟩ := z_bind hf
  obtain ⟨hb8, hf⟩ := z_ite hf
  rcases z_iteE hf with hf | hf
  ·
    cases hf
    exact ⟨Nat.le_refl _, Nat.le_refl _⟩
  ·
    obtain ⟨v9, hG9, hf⟩ := z_bind hf
    obtain ⟨hb10, hf⟩ := z_ite hf
    cases hf
    exact ⟨Nat.le_refl _, Nat.le_refl _⟩

set_option maxHeartbeats 4000000 in
set_option maxRecDepth 100000 in
theorem m_X10_swap_14 (y0 : Nat) (t0 : Nat) (x1 : Int32) (n c q : Nat) (K N : Nat → Nat) (G : zG) (V : zI) (L : zL) {r' : Int32 × zS} (hf : f_X10_swap_14 y0 t0 x1 n c q K N G V L = some r') : c ≤ r'.2.2.1 ∧ q ≤ r'.2.2.2.1 := by
  unfold f_X10_swap_14 at hf
  obtain ⟨r1, hc1, hf⟩ := z_bind hf
  have hm := m_X10_swap_18 y0 t0 x1 r1.1 (c + r1.2.1) (q + r1.2.2.1) r1.2.2.2.1 r1.2.2.2.2.1 r1.2.2.2.2.2.1 r1.2.2.2.2.2.2.1 r1.2.2.2.2.2.2.2 hf
  exact ⟨by omega, by omega⟩

set_option maxHeartbeats 4000000 in
set_option maxRecDepth 100000 in
theorem w_X10_swap_18 {M : zM} {D : va_G} {cy : Nat → ClassId} {ad0 K0 : Nat → Nat} {n0 : Nat} {r' : Int32 × zS} (Z : RZAi M D cy ad0 n0 K0 .int r'.1 r'.2) (hC : M.2.2.2.1.cells = r'.2.2.1 ∧ M.2.2.2.1.slots = r'.2.2.2.1) (y0 : Nat) (t0 : Nat) (x1 : Int32) (n c q : Nat) (K N : Nat → Nat) (G : zG) (V : zI) (L : zL) (ad : Nat → Nat) (ls : Array Slot) (X : RXA M D cy ad n c q K N G cX10_swap 3 RX10 6 148) (ha : ∀ w, w < n0 → ad w = ad0 w) (hn0 : n0 ≤ n) (hk0 : ∀ w, w < n0 → K w = K0 w) (hy0 : y0 < n ∧ K y0 = 8) (ht0 : t0 < n ∧ K t0 = 0) (hl : lv_has ls 3 [(0, .ref (ad y0)), (1, .int x1)]) (hf : f_X10_swap_18 y0 t0 x1 n c q K N G V L = some r') : RG (zMb M c q) (zC D cy ad n K N G) V L 18 ls [.ref (ad t0)] := by
  unfold f_X10_swap_18 at hf
  refine c_astore_n (lv' := [(2, .ref (ad t0)), (0, .ref (ad y0)), (1, .int x1)]) X.1 dX10_swap_18 rfl hl (by decide) rfl (fun ls hl => ?_)
  refine z_aload_n X.1.1 dX10_swap_19 rfl (lv_at hl 0 rfl) ?_
  refine z_aload_n X.1.1 dX10_swap_20 rfl (lv_at hl 1 rfl) ?_
  obtain ⟨v1, hG1, hf⟩ := z_bind hf
  have hv1 := X.1.2.2.get hy0 (k := 2) (c := 7) rfl hG1
  refine c_geta X.1 hy0 cf_X10_20 hG1 dX10_swap_21 ?_
  refine z_aload_n X.1.1 dX10_swap_24 rfl (lv_at hl 1 rfl) ?_
  obtain ⟨v2, hG2, hf⟩ := z_bind hf
  have hv2 := X.1.2.2.get hy0 (k := 5) (c := 5) rfl hG2
  refine c_geta X.1 hy0 cf_X10_33 hG2 dX10_swap_25 ?_
  refine z_aload_n X.1.1 dX10_swap_28 rfl (lv_at hl 1 rfl) ?_
  obtain ⟨v3, hG3, hf⟩ := z_bind hf
  have hv3 := X.1.2.2.get hy0 (k := 7) (c := 3) rfl hG3
  refine c_geta X.1 hy0 cf_X10_43 hG3 dX10_swap_29 ?_
  obtain ⟨r4, hc4, hf⟩ := z_bind hf
  refine c_callVv [.ref (ad v1), .ref (ad v2), .ref (ad v3)] X.1 hl.1 (c_X0_weigh D cy ad X.1.2.2 ht0 hv1 hv2 hv3 hc4) ht0 ⟨by decide, rfl⟩ cm_X10_238 cw_X0_weigh rfl cq_X0_weigh ⟨by decide, by decide⟩ (Nat.le_of_ble_eq_true rfl) rfl dX10_swap_32 ?_
  refine z_aload_n X.1.1 dX10_swap_35 rfl (lv_at hl 0 rfl) ?_
  refine z_aload_n X.1.1 dX10_swap_36 rfl (lv_at hl 1 rfl) ?_
  obtain ⟨v5, hG5, hf⟩ := z_bind hf
  have hv5 := X.1.2.2.get hy0 (k := 2) (c := 7) rfl hG5
  refine c_geta X.1 hy0 cf_X10_20 hG5 dX10_swap_37 ?_
  refine c_geti X.1 hv5 cf_X10_118 dX10_swap_40 ?_
  obtain ⟨r6, hc6, hf⟩ := z_bind hf
  refine c_callVv [.int (r4.1 v5 0)] X.1 hl.1 (c_X0_seekBest D cy ad X.1.2.2 ht0 hc6) ht0 ⟨by decide, rfl⟩ cm_X10_242 cw_X0_seekBest rfl cq_X0_seekBest ⟨by decide, by decide⟩ (Nat.le_of_ble_eq_true rfl) rfl dX10_swap_43 ?_
  refine z_aload_n X.1.1 dX10_swap_46 rfl (lv_at hl 0 rfl) ?_
  obtain ⟨v7, hG7, hf⟩ := z_bind hf
  have hv7 := X.1.2.2.get ht0 (k := 4) (c := 100) rfl hG7
  refine c_geta X.1 ht0 cf_X10_245 hG7 dX10_swap_47 ?_
  refine z_iconst (v := 4) X.1.1 dX10_swap_50 (by decide) ?_
  obtain ⟨hb8, hf⟩ := z_ite hf
  refine c_iald X.1 hv7 hb8 dX10_swap_51 ?_
  refine z_if_le (tgt := 64) X.1.1 dX10_swap_52 (by decide) (fun c_ => ?_) (fun c_ => ?_)
  · have hf := (if_pos c_).symm.trans hf
    refine z_iconst (v := -1) X.1.1 dX10_swap_64 (by decide) ?_
    exact a_iret X Z ha hn0 hk0 hf rfl dX10_swap_65
  · have hf := (if_neg c_).symm.trans hf
    refine z_aload_n X.1.1 dX10_swap_55 rfl (lv_at hl 0 rfl) ?_
    obtain ⟨v9, hG9, hf⟩ := z_bind hf
    have hv9 := X.1.2.2.get ht0 (k := 4) (c := 100) rfl hG9
    refine c_geta X.1 ht0 cf_X10_245 hG9 dX10_swap_56 ?_
    refine z_iload_n X.1.1 dX10_swap_59 rfl (lv_at hl 2 rfl) ?_
    obtain ⟨hb10, hf⟩ := z_ite hf
    refine c_iald X.1 hv9 hb10 dX10_swap_60 ?_
    refine z_goto (tgt := 65) X.1.1 dX10_swap_61 (by decide) ?_
    exact a_iret X Z ha hn0 hk0 hf rfl dX10_swap_65

set_option maxHeartbeats 4000000 in
set_option maxRecDepth 100000 in
theorem w_X10_swap_14 {M : zM} {D : va_G} {cy : Nat → ClassId} {ad0 K0 : Nat → Nat} {n0 : Nat} {r' : Int32 × zS} (Z : RZAi M D cy ad0 n0 K0 .int r'.1 r'.2) (hC : M.2.2.2.1.cells = r'.2.2.1 ∧ M.2.2.2.1.slots = r'.2.2.2.1) (y0 : Nat) (t0 : Nat) (x1 : Int32) (n c q : Nat) (K N : Nat → Nat) (G : zG) (V : zI) (L : zL) (ad : Nat → Nat) (ls : Array Slot) (X : RXA M D cy ad n c q K N G cX10_swap 3 RX10 6 148) (ha : ∀ w, w < n0 → ad w = ad0 w) (hn0 : n0 ≤ n) (hk0 : ∀ w, w < n0 → K w = K0 w) (hy0 : y0 < n ∧ K y0 = 8) (ht0 : t0 < n ∧ K t0 = 0) (hl : lv_has ls 3 [(0, .ref (ad y0)), (1, .int x1)]) (hf : f_X10_swap_14 y0 t0 x1 n c q K N G V L = some r') : RG (zMb M c q) (zC D cy ad n K N G) V L 14 ls [.ref (ad t0)] := by
  unfold f_X10_swap_14 at hf
  refine z_dup X.1.1 dX10_swap_14 rfl ?_
  obtain ⟨r1, hc1, hf⟩ := z_bind hf
  have hm := m_X10_swap_18 y0 t0 x1 r1.1 (c + r1.2.1) (q + r1.2.2.1) r1.2.2.2.1 r1.2.2.2.2.1 r1.2.2.2.2.2.1 r1.2.2.2.2.2.2.1 r1.2.2.2.2.2.2.2 hf
  refine a_callIv [] X hl.1 (c_X0_init D cy ad X.1.2.2 ht0 hc1) ht0 ⟨by decide, rfl⟩ cm_X10_237 cx_X0_init rfl cq_X0_init ⟨by decide, by decide⟩ (Nat.le_of_ble_eq_true rfl) rfl ⟨by rw [hC.1]; exact hm.1, by rw [hC.2]; exact hm.2⟩ dX10_swap_15 (fun ad' hag hnn hKg X => ?_)
  rw [← hag y0 hy0.1] at hl
  rw [← hag t0 ht0.1]
  exact w_X10_swap_18 Z hC y0 t0 x1 r1.1 (c + r1.2.1) (q + r1.2.2.1) r1.2.2.2.1 r1.2.2.2.2.1 r1.2.2.2.2.2.1 r1.2.2.2.2.2.2.1 r1.2.2.2.2.2.2.2 ad' ls X (zag_up ha hn0 hag) (by omega) (zag_up hk0 hn0 hKg) (zh_ext hy0 hnn hKg) (zh_ext ht0 hnn hKg) (lv_sub hl [0, 1] rfl) hf

set_option maxHeartbeats 4000000 in
set_option maxRecDepth 100000 in
theorem w_X10_swap {M : zM} {D : va_G} {cy : Nat → ClassId} {ad0 K0 : Nat → Nat} {n0 : Nat} {r' : Int32 × zS} (Z : RZAi M D cy ad0 n0 K0 .int r'.1 r'.2) (hC : M.2.2.2.1.cells = r'.2.2.1 ∧ M.2.2.2.1.slots = r'.2.2.2.1) (y0 : Nat) (x1 : Int32) (n c q : Nat) (K N : Nat → Nat) (G : zG) (V : zI) (L : zL) (ad : Nat → Nat) (ls : Array Slot) (X : RXA M D cy ad n c q K N G cX10_swap 3 RX10 6 148) (ha : ∀ w, w < n0 → ad w = ad0 w) (hn0 : n0 ≤ n) (hk0 : ∀ w, w < n0 → K w = K0 w) (hy0 : y0 < n ∧ K y0 = 8) (hl : lv_has ls 3 [(0, .ref (ad y0)), (1, .int x1)]) (hf : g_X10_swap y0 x1 n c q K N G V L = some r') : RG (zMb M c q) (zC D cy ad n K N G) V L 0 ls [] := by
  unfold g_X10_swap at hf
  refine z_iload_n X.1.1 dX10_swap_0 rfl (lv_at hl 1 rfl) ?_
  refine z_if_lt (tgt := 9) X.1.1 dX10_swap_1 (by decide) (fun c_ => ?_) (fun c_ => ?_)
  · have hf := (if_pos c_).symm.trans hf
    refine z_iconst (v := -1) X.1.1 dX10_swap_9 (by decide) ?_
    exact a_iret X Z ha hn0 hk0 hf rfl dX10_swap_10
  · have hf := (if_neg c_).symm.trans hf
    refine z_iload_n X.1.1 dX10_swap_4 rfl (lv_at hl 1 rfl) ?_
    refine z_iconst (v := 5) X.1.1 dX10_swap_5 (by decide) ?_
    refine z_icmp_lt (tgt := 11) X.1.1 dX10_swap_6 (by decide) (fun c_ => ?_) (fun c_ => ?_)
    · have hf := (if_pos c_).symm.trans hf
      have hm := m_X10_swap_14 y0 n x1 (n + 1) (c + 1) (q + 6) (kU K n 0) N (kU G n zn0) (kU V n (fun _ => 0)) (kU L n (fun _ => 0)) hf
      refine a_new (ci := 0) X ci_X0 cg_X0.1 dv_X0 cn_X10_235 ⟨by rw [hC.1]; exact hm.1, by rw [hC.2]; exact hm.2⟩ dX10_swap_11 (fun ad' hag X => ?_)
      rw [← hag y0 hy0.1] at hl
      exact w_X10_swap_14 Z hC y0 n x1 (n + 1) (c + 1) (q + 6) (kU K n 0) N (kU G n zn0) (kU V n (fun _ => 0)) (kU L n (fun _ => 0)) ad' ls X (zag_up ha hn0 hag) (by omega) (zag_up hk0 hn0 (fun w h => kU_ne (by omega))) (zh_up hy0) zh_new (lv_sub hl [0, 1] rfl) hf
    · have hf := (if_neg c_).symm.trans hf
      refine z_iconst (v := -1) X.1.1 dX10_swap_9 (by decide) ?_
      exact a_iret X Z ha hn0 hk0 hf rfl dX10_swap_10

theorem c_X10_swap (D : va_G) (cy : Nat → ClassId) (ad : Nat → Nat) {n : Nat} {K N : Nat → Nat} {G : zG} (hWF : zWF n K G) {y0 : Nat} {x1 : Int32} {V : zI} {L : zL} (hy0 : y0 < n ∧ K y0 = 8) {r' : Int32 × zS} (hf : f_X10_swap y0 x1 n K N G V L = some r') : RAi D cy ad n K N G yX10_swap cX10_swap 3 .int 6 148 [.ref (ad y0), .int x1] V L r'.1 r'.2 :=
  RAi.of (by decide) hWF (Nat.le_of_ble_eq_true rfl) (fun M X Z hC hnm ls hl => w_X10_swap Z hC y0 x1 n 0 0 K N G V L ad ls X (fun _ _ => rfl) (Nat.le_refl _) (fun _ _ => rfl) hy0 hl hf)
def f_X10_ring_34 (y3 : Nat) (x2 : Int32) (s0 : Int32) (n c q : Nat) (K N : Nat → Nat) (G : zG) (V : zI) (L : zL) : Option (Int32 × zS) :=
  (if x2 = (-1) then (if s0 ≤ 0 then some ((-1), n, c, q, K, N, G, V, L) else some (s0, n, c, q, K, N, G, V, L)) else (if x2 < 0 then some ((-1), n, c, q, K, N, G, V, L) else (if s0 ≤ x2 then some ((-1), n, c, q, K, N, G, V, L) else (if (Int32.ofNat (N y3)) ≤ x2 then some ((-1), n, c, q, K, N, G, V, L) else if inB x2 (N y3) then some (V y3 x2.toNatClampNeg, n, c, q, K, N, G, V, L) else none))))
def f_X10_ring_17 (y0 : Nat) (t0 : Nat) (x1 : Int32) (x2 : Int32) (n c q : Nat) (K N : Nat → Nat) (G : zG) (V : zI) (L : zL) : Option (Int32 × zS) :=
  (G y0 2).bind fun v1 => (G y0 5).bind fun v2 => (f_X6_open N G v1 v2 V L).bind fun r3 => (f_X6_shortestRing t0 r3 x1 n K N G V L).bind fun r4 => f_X10_ring_34 t0 x2 r4.1 r4.2.1 (c + r4.2.2.1) (q + r4.2.2.2.1) r4.2.2.2.2.1 r4.2.2.2.2.2.1 r4.2.2.2.2.2.2.1 r4.2.2.2.2.2.2.2.1 r4.2.2.2.2.2.2.2.2
def g_X10_ring (y0 : Nat) (x1 : Int32) (x2 : Int32) (n c q : Nat) (K N : Nat → Nat) (G : zG) (V : zI) (L : zL) : Option (Int32 × zS) :=
  (G y0 2).bind fun v1 => (f_X9_isTown N G v1 x1 V L).bind fun r2 => (if r2 = 0 then some ((-1), n, c, q, K, N, G, V, L) else if (¬ (6 : Int32) < 0 ∧ (6 : Int32).toNatClampNeg ≤ 100000) then f_X10_ring_17 y0 n x1 x2 (n + 1) (c + 1) (q + (6 : Int32).toNatClampNeg) (kU K n 100) (kU N n (6 : Int32).toNatClampNeg) (kU G n zn0) (kU V n (fun _ => 0)) (kU L n (fun _ => 0)) else none)
def f_X10_ring (y0 : Nat) (x1 : Int32) (x2 : Int32) (n : Nat) (K N : Nat → Nat) (G : zG) (V : zI) (L : zL) : Option (Int32 × zS) := g_X10_ring y0 x1 x2 n 0 0 K N G V L
set_option maxHeartbeats 4000000 in
set_option maxRecDepth 100000 in
theorem m_X10_ring_34 (y3 : Nat) (x2 : Int32) (s0 : Int32) (n c q : Nat) (K N : Nat → Nat) (G : zG) (V : zI) (L : zL) {r' : Int32 × zS} (hf : f_X10_ring_34 y3 x2 s0 n c q K N G V L = some r') : c ≤ r'.2.2.1 ∧ q ≤ r'.2.2.2.1 := by
  unfold f_X10_ring_34 at hf
  rcases z_iteE hf with hf | hf
  ·
    rcases z_iteE hf with hf | hf
    ·
      cases hf
      exact ⟨Nat.le_refl _, Nat.le_refl _⟩
    ·
      cases hf
      exact ⟨Nat.le_refl _, Nat.le_refl _⟩
  ·
    rcases z_iteE hf with hf | hf
    ·
      cases hf
      exact ⟨Nat.le_refl _, Nat.le_refl _⟩
    ·
      rcases z_iteE hf with hf | hf
      ·
        cases hf
        exact ⟨Nat.le_refl _, Nat.le_refl _⟩
      ·
        rcases z_iteE hf with hf | hf
        ·
          cases hf
          exact ⟨Nat.le_refl _, Nat.le_refl _⟩
        ·
          obtain ⟨hb1, hf⟩ := z_ite hf
          cases hf
          exact ⟨Nat.le_refl _, Nat.le_refl _⟩

set_option maxHeartbeats 4000000 in
set_option maxRecDepth 100000 in
theorem m_X10_ring_17 (y0 : Nat) (t0 : Nat) (x1 : Int32) (x2 : Int32) (n c q : Nat) (K N : Nat → Nat) (G : zG) (V : zI) (L : zL) {r' : Int32 × zS} (hf : f_X10_ring_17 y0 t0 x1 x2 n c q K N G V L = some r') : c ≤ r'.2.2.1 ∧ q ≤ r'.2.2.2.1 := by
  unfold f_X10_ring_17 at hf
  obtain ⟨v1, hG1, hf⟩ := z_bind hf
  obtain ⟨v2, hG2, hf⟩ := z_bind hf
  obtain ⟨r3, hc3, hf⟩ := z_bind hf
  obtain ⟨r4, hc4, hf⟩ := z_bind hf
  have hm := m_X10_ring_34 t0 x2 r4.1 r4.2.1 (c + r4.2.2.1) (q + r4.2.2.2.1) r4.2.2.2.2.1 r4.2.2.2.2.2.1 r4.2.2.2.2.2.2.1 r4.2.2.2.2.2.2.2.1 r4.2.2.2.2.2.2.2.2 hf
  exact ⟨by omega, by omega⟩

set_option maxHeartbeats 4000000 in
set_option maxRecDepth 100000 in
theorem w_X10_ring_34 {M : zM} {D : va_G} {cy : Nat → ClassId} {ad0 K0 : Nat → Nat} {n0 : Nat} {r' : Int32 × zS} (Z : RZAi M D cy ad0 n0 K0 .int r'.1 r'.2) (hC : M.2.2.2.1.cells = r'.2.2.1 ∧ M.2.2.2.1.slots = r'.2.2.2.1) (y3 : Nat) (x2 : Int32) (s0 : Int32) (n c q : Nat) (K N : Nat → Nat) (G : zG) (V : zI) (L : zL) (ad : Nat → Nat) (ls : Array Slot) (X : RXA M D cy ad n c q K N G cX10_ring 5 RX10 4 102) (ha : ∀ w, w < n0 → ad w = ad0 w) (hn0 : n0 ≤ n) (hk0 : ∀ w, w < n0 → K w = K0 w) (hy3 : y3 < n ∧ K y3 = 100) (hl : lv_has ls 5 [(2, .int x2), (3, .ref (ad y3))]) (hf : f_X10_ring_34 y3 x2 s0 n c q K N G V L = some r') : RG (zMb M c q) (zC D cy ad n K N G) V L 34 ls [.int s0] := by
  unfold f_X10_ring_34 at hf
  refine z_istore (lv' := [(4, .int s0), (2, .int x2), (3, .ref (ad y3))]) X.1.1 dX10_ring_34 hl (by decide) rfl (fun ls hl => ?_)
  refine z_iload_n X.1.1 dX10_ring_36 rfl (lv_at hl 1 rfl) ?_
  refine z_iconst (v := -1) X.1.1 dX10_ring_37 (by decide) ?_
  refine z_icmp_ne (tgt := 53) X.1.1 dX10_ring_38 (by decide) (fun c_ => ?_) (fun c_ => ?_)
  · have hf := (if_neg c_).symm.trans hf
    refine z_iload_n X.1.1 dX10_ring_53 rfl (lv_at hl 1 rfl) ?_
    refine z_if_lt (tgt := 75) X.1.1 dX10_ring_54 (by decide) (fun c_ => ?_) (fun c_ => ?_)
    · have hf := (if_pos c_).symm.trans hf
      refine z_iconst (v := -1) X.1.1 dX10_ring_75 (by decide) ?_
      exact a_iret X Z ha hn0 hk0 hf rfl dX10_ring_76
    · have hf := (if_neg c_).symm.trans hf
      refine z_iload_n X.1.1 dX10_ring_57 rfl (lv_at hl 1 rfl) ?_
      refine z_iload X.1.1 dX10_ring_58 (lv_at hl 0 rfl) ?_
      refine z_icmp_ge (tgt := 75) X.1.1 dX10_ring_60 (by decide) (fun c_ => ?_) (fun c_ => ?_)
      · have hf := (if_pos c_).symm.trans hf
        refine z_iconst (v := -1) X.1.1 dX10_ring_75 (by decide) ?_
        exact a_iret X Z ha hn0 hk0 hf rfl dX10_ring_76
      · have hf := (if_neg c_).symm.trans hf
        refine z_iload_n X.1.1 dX10_ring_63 rfl (lv_at hl 1 rfl) ?_
        refine z_aload_n X.1.1 dX10_ring_64 rfl (lv_at hl 2 rfl) ?_
        refine c_alen100 X.1 hy3 dX10_ring_65 ?_
        refine z_icmp_ge (tgt := 75) X.1.1 dX10_ring_66 (by decide) (fun c_ => ?_) (fun c_ => ?_)
        · have hf := (if_pos c_).symm.trans hf
          refine z_iconst (v := -1) X.1.1 dX10_ring_75 (by decide) ?_
          exact a_iret X Z ha hn0 hk0 hf rfl dX10_ring_76
        · have hf := (if_neg c_).symm.trans hf
          refine z_aload_n X.1.1 dX10_ring_69 rfl (lv_at hl 2 rfl) ?_
          refine z_iload_n X.1.1 dX10_ring_70 rfl (lv_at hl 1 rfl) ?_
          obtain ⟨hb1, hf⟩ := z_ite hf
          refine c_iald X.1 hy3 hb1 dX10_ring_71 ?_
          refine z_goto (tgt := 76) X.1.1 dX10_ring_72 (by decide) ?_
          exact a_iret X Z ha hn0 hk0 hf rfl dX10_ring_76
  · have hf := (if_pos c_).symm.trans hf
    refine z_iload X.1.1 dX10_ring_41 (lv_at hl 0 rfl) ?_
    refine z_if_le (tgt := 51) X.1.1 dX10_ring_43 (by decide) (fun c_ => ?_) (fun c_ => ?_)
    · have hf := (if_pos c_).symm.trans hf
      refine z_iconst (v := -1) X.1.1 dX10_ring_51 (by decide) ?_
      exact a_iret X Z ha hn0 hk0 hf rfl dX10_ring_52
    · have hf := (if_neg c_).symm.trans hf
      refine z_iload X.1.1 dX10_ring_46 (lv_at hl 0 rfl) ?_
      refine z_goto (tgt := 52) X.1.1 dX10_ring_48 (by decide) ?_
      exact a_iret X Z ha hn0 hk0 hf rfl dX10_ring_52

set_option maxHeartbeats 4000000 in
set_option maxRecDepth 100000 in
theorem w_X10_ring_17 {M : zM} {D : va_G} {cy : Nat → ClassId} {ad0 K0 : Nat → Nat} {n0 : Nat} {r' : Int32 × zS} (Z : RZAi M D cy ad0 n0 K0 .int r'.1 r'.2) (hC : M.2.2.2.1.cells = r'.2.2.1 ∧ M.2.2.2.1.slots = r'.2.2.2.1) (y0 : Nat) (t0 : Nat) (x1 : Int32) (x2 : Int32) (n c q : Nat) (K N : Nat → Nat) (G : zG) (V : zI) (L : zL) (ad : Nat → Nat) (ls : Array Slot) (X : RXA M D cy ad n c q K N G cX10_ring 5 RX10 4 102) (ha : ∀ w, w < n0 → ad w = ad0 w) (hn0 : n0 ≤ n) (hk0 : ∀ w, w < n0 → K w = K0 w) (hy0 : y0 < n ∧ K y0 = 8) (ht0 : t0 < n ∧ K t0 = 100) (hl : lv_has ls 5 [(0, .ref (ad y0)), (1, .int x1), (2, .int x2)]) (hf : f_X10_ring_17 y0 t0 x1 x2 n c q K N G V L = some r') : RG (zMb M c q) (zC D cy ad n K N G) V L 17 ls [.ref (ad t0)] := by
  unfold f_X10_ring_17 at hf
  refine c_astore_n (lv' := [(3, .ref (ad t0)), (0, .ref (ad y0)), (1, .int x1), (2, .int x2)]) X.1 dX10_ring_17 rfl hl (by decide) rfl (fun ls hl => ?_)
  refine z_aload_n X.1.1 dX10_ring_18 rfl (lv_at hl 1 rfl) ?_
  obtain ⟨v1, hG1, hf⟩ := z_bind hf
  have hv1 := X.1.2.2.get hy0 (k := 2) (c := 7) rfl hG1
  refine c_geta X.1 hy0 cf_X10_20 hG1 dX10_ring_19 ?_
  refine z_aload_n X.1.1 dX10_ring_22 rfl (lv_at hl 1 rfl) ?_
  obtain ⟨v2, hG2, hf⟩ := z_bind hf
  have hv2 := X.1.2.2.get hy0 (k := 5) (c := 5) rfl hG2
  refine c_geta X.1 hy0 cf_X10_33 hG2 dX10_ring_23 ?_
  obtain ⟨r3, hc3, hf⟩ := z_bind hf
  refine c_callSl [.ref (ad v1), .ref (ad v2)] X.1 hl.1 (c_X6_open D cy ad X.1.2.2 hv1 hv2 hc3) cm_X10_207 cw_X6_open rfl cq_X6_open ⟨by decide, by decide⟩ (Nat.le_of_ble_eq_true rfl) rfl dX10_ring_26 ?_
  refine z_iload_n X.1.1 dX10_ring_29 rfl (lv_at hl 2 rfl) ?_
  refine z_aload_n X.1.1 dX10_ring_30 rfl (lv_at hl 0 rfl) ?_
  obtain ⟨r4, hc4, hf⟩ := z_bind hf
  have hm := m_X10_ring_34 t0 x2 r4.1 r4.2.1 (c + r4.2.2.1) (q + r4.2.2.2.1) r4.2.2.2.2.1 r4.2.2.2.2.2.1 r4.2.2.2.2.2.2.1 r4.2.2.2.2.2.2.2.1 r4.2.2.2.2.2.2.2.2 hf
  refine a_callSi [.long r3, .int x1, .ref (ad t0)] X hl.1 (c_X6_shortestRing D cy ad X.1.2.2 ht0 hc4) cm_X10_231 cw_X6_shortestRing rfl cq_X6_shortestRing ⟨by decide, by decide⟩ (Nat.le_of_ble_eq_true rfl) rfl ⟨by rw [hC.1]; exact hm.1, by rw [hC.2]; exact hm.2⟩ dX10_ring_31 (fun ad' hag hnn hKg X => ?_)
  rw [← hag t0 ht0.1] at hl
  rw [← hag y0 hy0.1] at hl
  exact w_X10_ring_34 Z hC t0 x2 r4.1 r4.2.1 (c + r4.2.2.1) (q + r4.2.2.2.1) r4.2.2.2.2.1 r4.2.2.2.2.2.1 r4.2.2.2.2.2.2.1 r4.2.2.2.2.2.2.2.1 r4.2.2.2.2.2.2.2.2 ad' ls X (zag_up ha hn0 hag) (by omega) (zag_up hk0 hn0 hKg) (zh_ext ht0 hnn hKg) (lv_sub hl [3, 0] rfl) hf

set_option maxHeartbeats 4000000 in
set_option maxRecDepth 100000 in
theorem w_X10_ring {M : zM} {D : va_G} {cy : Nat → ClassId} {ad0 K0 : Nat → Nat} {n0 : Nat} {r' : Int32 × zS} (Z : RZAi M D cy ad0 n0 K0 .int r'.1 r'.2) (hC : M.2.2.2.1.cells = r'.2.2.1 ∧ M.2.2.2.1.slots = r'.2.2.2.1) (y0 : Nat) (x1 : Int32) (x2 : Int32) (n c q : Nat) (K N : Nat → Nat) (G : zG) (V : zI) (L : zL) (ad : Nat → Nat) (ls : Array Slot) (X : RXA M D cy ad n c q K N G cX10_ring 5 RX10 4 102) (ha : ∀ w, w < n0 → ad w = ad0 w) (hn0 : n0 ≤ n) (hk0 : ∀ w, w < n0 → K w = K0 w) (hy0 : y0 < n ∧ K y0 = 8) (hl : lv_has ls 5 [(0, .ref (ad y0)), (1, .int x1), (2, .int x2)]) (hf : g_X10_ring y0 x1 x2 n c q K N G V L = some r') : RG (zMb M c q) (zC D cy ad n K N G) V L 0 ls [] := by
  unfold g_X10_ring at hf
  refine z_aload_n X.1.1 dX10_ring_0 rfl (lv_at hl 0 rfl) ?_
  obtain ⟨v1, hG1, hf⟩ := z_bind hf
  have hv1 := X.1.2.2.get hy0 (k := 2) (c := 7) rfl hG1
  refine c_geta X.1 hy0 cf_X10_20 hG1 dX10_ring_1 ?_
  refine z_iload_n X.1.1 dX10_ring_4 rfl (lv_at hl 1 rfl) ?_
  obtain ⟨r2, hc2, hf⟩ := z_bind hf
  refine c_callVi [.int x1] X.1 hl.1 (c_X9_isTown D cy ad X.1.2.2 hv1 hc2) hv1 ⟨by decide, rfl⟩ cm_X10_149 cw_X9_isTown rfl cq_X9_isTown ⟨by decide, by decide⟩ (Nat.le_of_ble_eq_true rfl) rfl dX10_ring_5 ?_
  refine z_if_ne (tgt := 13) X.1.1 dX10_ring_8 (by decide) (fun c_ => ?_) (fun c_ => ?_)
  · have hf := (if_neg c_).symm.trans hf
    refine z_bipush (v := 6) X.1.1 dX10_ring_13 (by decide) ?_
    obtain ⟨hb3, hf⟩ := z_ite hf
    have hm := m_X10_ring_17 y0 n x1 x2 (n + 1) (c + 1) (q + (6 : Int32).toNatClampNeg) (kU K n 100) (kU N n (6 : Int32).toNatClampNeg) (kU G n zn0) (kU V n (fun _ => 0)) (kU L n (fun _ => 0)) hf
    refine a_newi X hb3 ca_100 ⟨by rw [hC.1]; exact hm.1, by rw [hC.2]; exact hm.2⟩ dX10_ring_15 (fun ad' hag X => ?_)
    rw [← hag y0 hy0.1] at hl
    exact w_X10_ring_17 Z hC y0 n x1 x2 (n + 1) (c + 1) (q + (6 : Int32).toNatClampNeg) (kU K n 100) (kU N n (6 : Int32).toNatClampNeg) (kU G n zn0) (kU V n (fun _ => 0)) (kU L n (fun _ => 0)) ad' ls X (zag_up ha hn0 hag) (by omega) (zag_up hk0 hn0 (fun w h => kU_ne (by omega))) (zh_up hy0) zh_new (lv_sub hl [0, 1, 2] rfl) hf
  · have hf := (if_pos c_).symm.trans hf
    refine z_iconst (v := -1) X.1.1 dX10_ring_11 (by decide) ?_
    exact a_iret X Z ha hn0 hk0 hf rfl dX10_ring_12

theorem c_X10_ring (D : va_G) (cy : Nat → ClassId) (ad : Nat → Nat) {n : Nat} {K N : Nat → Nat} {G : zG} (hWF : zWF n K G) {y0 : Nat} {x1 : Int32} {x2 : Int32} {V : zI} {L : zL} (hy0 : y0 < n ∧ K y0 = 8) {r' : Int32 × zS} (hf : f_X10_ring y0 x1 x2 n K N G V L = some r') : RAi D cy ad n K N G yX10_ring cX10_ring 5 .int 4 102 [.ref (ad y0), .int x1, .int x2] V L r'.1 r'.2 :=
  RAi.of (by decide) hWF (Nat.le_of_ble_eq_true rfl) (fun M X Z hC hnm ls hl => w_X10_ring Z hC y0 x1 x2 n 0 0 K N G V L ad ls X (fun _ _ => rfl) (Nat.le_refl _) (fun _ _ => rfl) hy0 hl hf)
